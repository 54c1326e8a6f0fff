/-! rules at branches; the shape behind the two constructors -/
abbrev kI (n : Int) : Int32 := Int32.ofInt n
def b2i (p : Prop) [Decidable p] : Int32 := if p then 1 else 0
section BR
variable {X : Scr} {d k pc len : Nat} {Q : Option Value → Sh → Wd → Prop} {ls : PLs} {r : List Value} {sh : Sh} {w : Wd} {cl : List (Option (Instr × Nat))} {t : Int} {x y : Int32}
theorem EV.i_eq (hl : RCT[k]? = some cl) (hc : cdI cl pc = some (.if_icmp .eq t, len)) (kt : x = y → EV X d k (t.toNat, ls, r, sh, w) Q) (kf : ¬ x = y → EV X d k (pc + len, ls, r, sh, w) Q) : EV X d k (pc, ls, .int y :: .int x :: r, sh, w) Q := by
  by_cases h : pcmp .eq x y = true
  · refine EV.stp1 hl (q2 := (t.toNat, ls, r, sh, w)) ?_ (kt (of_decide_eq_true h))
    unfold stp
    rw [hc]
    simp only [pstep, pkind, pjump, if_pos h]
  · refine EV.stp1 hl (q2 := (pc + len, ls, r, sh, w)) ?_ (kf ?_)
    · unfold stp
      rw [hc]
      simp only [pstep, pkind, pjump, if_neg h]
    · exact fun h2 => h (decide_eq_true h2)
theorem EV.z_eq (hl : RCT[k]? = some cl) (hc : cdI cl pc = some (.ifCond .eq t, len)) (kt : x = 0 → EV X d k (t.toNat, ls, r, sh, w) Q) (kf : ¬ x = 0 → EV X d k (pc + len, ls, r, sh, w) Q) : EV X d k (pc, ls, .int x :: r, sh, w) Q := by
  by_cases h : pcmp .eq x 0 = true
  · refine EV.stp1 hl (q2 := (t.toNat, ls, r, sh, w)) ?_ (kt (of_decide_eq_true h))
    unfold stp
    rw [hc]
    simp only [pstep, pkind, pjump, if_pos h]
  · refine EV.stp1 hl (q2 := (pc + len, ls, r, sh, w)) ?_ (kf ?_)
    · unfold stp
      rw [hc]
      simp only [pstep, pkind, pjump, if_neg h]
    · exact fun h2 => h (decide_eq_true h2)
theorem EV.i_ne (hl : RCT[k]? = some cl) (hc : cdI cl pc = some (.if_icmp .ne t, len)) (kt : ¬ x = y → EV X d k (t.toNat, ls, r, sh, w) Q) (kf : x = y → EV X d k (pc + len, ls, r, sh, w) Q) : EV X d k (pc, ls, .int y :: .int x :: r, sh, w) Q := by
  by_cases h : pcmp .ne x y = true
  · refine EV.stp1 hl (q2 := (t.toNat, ls, r, sh, w)) ?_ (kt (of_decide_eq_true h))
    unfold stp
    rw [hc]
    simp only [pstep, pkind, pjump, if_pos h]
  · refine EV.stp1 hl (q2 := (pc + len, ls, r, sh, w)) ?_ (kf ?_)
    · unfold stp
      rw [hc]
      simp only [pstep, pkind, pjump, if_neg h]
    · exact Decidable.byContradiction fun h2 => h (decide_eq_true h2)
theorem EV.z_ne (hl : RCT[k]? = some cl) (hc : cdI cl pc = some (.ifCond .ne t, len)) (kt : ¬ x = 0 → EV X d k (t.toNat, ls, r, sh, w) Q) (kf : x = 0 → EV X d k (pc + len, ls, r, sh, w) Q) : EV X d k (pc, ls, .int x :: r, sh, w) Q := by
  by_cases h : pcmp .ne x 0 = true
  · refine EV.stp1 hl (q2 := (t.toNat, ls, r, sh, w)) ?_ (kt (of_decide_eq_true h))
    unfold stp
    rw [hc]
    simp only [pstep, pkind, pjump, if_pos h]
  · refine EV.stp1 hl (q2 := (pc + len, ls, r, sh, w)) ?_ (kf ?_)
    · unfold stp
      rw [hc]
      simp only [pstep, pkind, pjump, if_neg h]
    · exact Decidable.byContradiction fun h2 => h (decide_eq_true h2)
theorem EV.i_lt (hl : RCT[k]? = some cl) (hc : cdI cl pc = some (.if_icmp .lt t, len)) (kt : x < y → EV X d k (t.toNat, ls, r, sh, w) Q) (kf : ¬ x < y → EV X d k (pc + len, ls, r, sh, w) Q) : EV X d k (pc, ls, .int y :: .int x :: r, sh, w) Q := by
  by_cases h : pcmp .lt x y = true
  · refine EV.stp1 hl (q2 := (t.toNat, ls, r, sh, w)) ?_ (kt (of_decide_eq_true h))
    unfold stp
    rw [hc]
    simp only [pstep, pkind, pjump, if_pos h]
  · refine EV.stp1 hl (q2 := (pc + len, ls, r, sh, w)) ?_ (kf ?_)
    · unfold stp
      rw [hc]
      simp only [pstep, pkind, pjump, if_neg h]
    · exact fun h2 => h (decide_eq_true h2)
theorem EV.z_lt (hl : RCT[k]? = some cl) (hc : cdI cl pc = some (.ifCond .lt t, len)) (kt : x < 0 → EV X d k (t.toNat, ls, r, sh, w) Q) (kf : ¬ x < 0 → EV X d k (pc + len, ls, r, sh, w) Q) : EV X d k (pc, ls, .int x :: r, sh, w) Q := by
  by_cases h : pcmp .lt x 0 = true
  · refine EV.stp1 hl (q2 := (t.toNat, ls, r, sh, w)) ?_ (kt (of_decide_eq_true h))
    unfold stp
    rw [hc]
    simp only [pstep, pkind, pjump, if_pos h]
  · refine EV.stp1 hl (q2 := (pc + len, ls, r, sh, w)) ?_ (kf ?_)
    · unfold stp
      rw [hc]
      simp only [pstep, pkind, pjump, if_neg h]
    · exact fun h2 => h (decide_eq_true h2)
theorem EV.i_ge (hl : RCT[k]? = some cl) (hc : cdI cl pc = some (.if_icmp .ge t, len)) (kt : y ≤ x → EV X d k (t.toNat, ls, r, sh, w) Q) (kf : ¬ y ≤ x → EV X d k (pc + len, ls, r, sh, w) Q) : EV X d k (pc, ls, .int y :: .int x :: r, sh, w) Q := by
  by_cases h : pcmp .ge x y = true
  · refine EV.stp1 hl (q2 := (t.toNat, ls, r, sh, w)) ?_ (kt (of_decide_eq_true h))
    unfold stp
    rw [hc]
    simp only [pstep, pkind, pjump, if_pos h]
  · refine EV.stp1 hl (q2 := (pc + len, ls, r, sh, w)) ?_ (kf ?_)
    · unfold stp
      rw [hc]
      simp only [pstep, pkind, pjump, if_neg h]
    · exact fun h2 => h (decide_eq_true h2)
theorem EV.z_ge (hl : RCT[k]? = some cl) (hc : cdI cl pc = some (.ifCond .ge t, len)) (kt : 0 ≤ x → EV X d k (t.toNat, ls, r, sh, w) Q) (kf : ¬ 0 ≤ x → EV X d k (pc + len, ls, r, sh, w) Q) : EV X d k (pc, ls, .int x :: r, sh, w) Q := by
  by_cases h : pcmp .ge x 0 = true
  · refine EV.stp1 hl (q2 := (t.toNat, ls, r, sh, w)) ?_ (kt (of_decide_eq_true h))
    unfold stp
    rw [hc]
    simp only [pstep, pkind, pjump, if_pos h]
  · refine EV.stp1 hl (q2 := (pc + len, ls, r, sh, w)) ?_ (kf ?_)
    · unfold stp
      rw [hc]
      simp only [pstep, pkind, pjump, if_neg h]
    · exact fun h2 => h (decide_eq_true h2)
theorem EV.i_gt (hl : RCT[k]? = some cl) (hc : cdI cl pc = some (.if_icmp .gt t, len)) (kt : y < x → EV X d k (t.toNat, ls, r, sh, w) Q) (kf : ¬ y < x → EV X d k (pc + len, ls, r, sh, w) Q) : EV X d k (pc, ls, .int y :: .int x :: r, sh, w) Q := by
  by_cases h : pcmp .gt x y = true
  · refine EV.stp1 hl (q2 := (t.toNat, ls, r, sh, w)) ?_ (kt (of_decide_eq_true h))
    unfold stp
    rw [hc]
    simp only [pstep, pkind, pjump, if_pos h]
  · refine EV.stp1 hl (q2 := (pc + len, ls, r, sh, w)) ?_ (kf ?_)
    · unfold stp
      rw [hc]
      simp only [pstep, pkind, pjump, if_neg h]
    · exact fun h2 => h (decide_eq_true h2)
theorem EV.z_gt (hl : RCT[k]? = some cl) (hc : cdI cl pc = some (.ifCond .gt t, len)) (kt : 0 < x → EV X d k (t.toNat, ls, r, sh, w) Q) (kf : ¬ 0 < x → EV X d k (pc + len, ls, r, sh, w) Q) : EV X d k (pc, ls, .int x :: r, sh, w) Q := by
  by_cases h : pcmp .gt x 0 = true
  · refine EV.stp1 hl (q2 := (t.toNat, ls, r, sh, w)) ?_ (kt (of_decide_eq_true h))
    unfold stp
    rw [hc]
    simp only [pstep, pkind, pjump, if_pos h]
  · refine EV.stp1 hl (q2 := (pc + len, ls, r, sh, w)) ?_ (kf ?_)
    · unfold stp
      rw [hc]
      simp only [pstep, pkind, pjump, if_neg h]
    · exact fun h2 => h (decide_eq_true h2)
theorem EV.i_le (hl : RCT[k]? = some cl) (hc : cdI cl pc = some (.if_icmp .le t, len)) (kt : x ≤ y → EV X d k (t.toNat, ls, r, sh, w) Q) (kf : ¬ x ≤ y → EV X d k (pc + len, ls, r, sh, w) Q) : EV X d k (pc, ls, .int y :: .int x :: r, sh, w) Q := by
  by_cases h : pcmp .le x y = true
  · refine EV.stp1 hl (q2 := (t.toNat, ls, r, sh, w)) ?_ (kt (of_decide_eq_true h))
    unfold stp
    rw [hc]
    simp only [pstep, pkind, pjump, if_pos h]
  · refine EV.stp1 hl (q2 := (pc + len, ls, r, sh, w)) ?_ (kf ?_)
    · unfold stp
      rw [hc]
      simp only [pstep, pkind, pjump, if_neg h]
    · exact fun h2 => h (decide_eq_true h2)
theorem EV.z_le (hl : RCT[k]? = some cl) (hc : cdI cl pc = some (.ifCond .le t, len)) (kt : x ≤ 0 → EV X d k (t.toNat, ls, r, sh, w) Q) (kf : ¬ x ≤ 0 → EV X d k (pc + len, ls, r, sh, w) Q) : EV X d k (pc, ls, .int x :: r, sh, w) Q := by
  by_cases h : pcmp .le x 0 = true
  · refine EV.stp1 hl (q2 := (t.toNat, ls, r, sh, w)) ?_ (kt (of_decide_eq_true h))
    unfold stp
    rw [hc]
    simp only [pstep, pkind, pjump, if_pos h]
  · refine EV.stp1 hl (q2 := (pc + len, ls, r, sh, w)) ?_ (kf ?_)
    · unfold stp
      rw [hc]
      simp only [pstep, pkind, pjump, if_neg h]
    · exact fun h2 => h (decide_eq_true h2)
theorem EV.callF {i : Instr} {kc : Nat} {av st : List Value} {rv : Option Value} {w2 : Wd} (hl : RCT[k]? = some cl) (hc : cdI cl pc = some (i, len)) (hk : pkind i = 5) (hp : pcall i st sh = some (kc, av, r)) (h1 : CV X d kc av sh w (fun a s1 w1 => a = rv ∧ s1 = sh ∧ w1 = w2)) (h2 : EV X d k (pc + len, ls, rv.toList ++ r, sh, w2) Q) : EV X d k (pc, ls, st, sh, w) Q := by
  refine EV.call hl hc hk hp h1 ?_
  intro v s1 w1 e
  rw [e.1, e.2.1, e.2.2]
  exact h2
theorem EV.retB {v : Int32} (hl : RCT[k]? = some cl) (hc : cdI cl pc = some (.ireturn, 1)) (hm : MRT k = 2) (h01 : v = 0 ∨ v = 1) (hQ : Q (some (.int v)) sh w) : EV X d k (pc, ls, [.int v], sh, w) Q := by
  refine EV.ret hl hc rfl ?_ hQ
  have h1 : ¬ MRT k = 1 := by rw [hm]; decide
  simp only [pret, if_neg h1, if_pos hm, if_pos h01]
end BR
def SH : Sh := [.inr (11, [some 1, some 3, some 7, some 12, some 17, some 22, some 29, some 36, some 79, some 80, some 84, some 87, some 89, some 95, some 102, some 109, none, none]), .inr (10, [some 2, none, none, none, none]), .inl (0, 260), .inr (5, [some 4, some 5, some 6, none, none, none]), .inl (0, 6), .inl (0, 6), .inl (0, 6), .inr (1, [some 8, some 9, some 10, some 11, none, none, none, none, none]), .inl (0, 36), .inl (0, 6), .inl (0, 72), .inl (0, 48), .inr (1, [some 13, some 14, some 15, some 16, none, none, none, none, none]), .inl (0, 36), .inl (0, 6), .inl (0, 72), .inl (0, 48), .inr (1, [some 18, some 19, some 20, some 21, none, none, none, none, none]), .inl (0, 36), .inl (0, 6), .inl (0, 72), .inl (0, 48), .inr (7, [some 23, some 24, some 25, some 26, some 27, some 28, none, none]), .inl (0, 240), .inl (0, 240), .inl (0, 16), .inl (0, 16), .inl (0, 16), .inl (0, 16), .inr (7, [some 30, some 31, some 32, some 33, some 34, some 35, none, none]), .inl (0, 240), .inl (0, 240), .inl (0, 16), .inl (0, 16), .inl (0, 16), .inl (0, 16), .inr (100, [some 37, some 44, some 51, some 58, some 65, some 72]), .inr (7, [some 38, some 39, some 40, some 41, some 42, some 43, none, none]), .inl (0, 80), .inl (0, 80), .inl (0, 1), .inl (0, 1), .inl (0, 1), .inl (0, 1), .inr (7, [some 45, some 46, some 47, some 48, some 49, some 50, none, none]), .inl (0, 80), .inl (0, 80), .inl (0, 1), .inl (0, 1), .inl (0, 1), .inl (0, 1), .inr (7, [some 52, some 53, some 54, some 55, some 56, some 57, none, none]), .inl (0, 80), .inl (0, 80), .inl (0, 1), .inl (0, 1), .inl (0, 1), .inl (0, 1), .inr (7, [some 59, some 60, some 61, some 62, some 63, some 64, none, none]), .inl (0, 80), .inl (0, 80), .inl (0, 1), .inl (0, 1), .inl (0, 1), .inl (0, 1), .inr (7, [some 66, some 67, some 68, some 69, some 70, some 71, none, none]), .inl (0, 80), .inl (0, 80), .inl (0, 1), .inl (0, 1), .inl (0, 1), .inl (0, 1), .inr (7, [some 73, some 74, some 75, some 76, some 77, some 78, none, none]), .inl (0, 80), .inl (0, 80), .inl (0, 1), .inl (0, 1), .inl (0, 1), .inl (0, 1), .inr (6, [some 1, some 29]), .inr (8, [some 1, some 3, some 81, some 82, some 83, none]), .inl (0, 20), .inl (0, 20), .inl (0, 20), .inr (4, [some 85, some 86]), .inl (0, 12), .inl (0, 64), .inr (2, [some 3, some 22, some 84, some 88, none, none, none, none, none, none]), .inl (0, 6), .inr (9, [some 3, some 90, some 91, some 92, some 93, some 94, none, none]), .inl (0, 6), .inl (0, 6), .inl (0, 6), .inl (0, 6), .inl (0, 6), .inr (3, [some 96, some 97, some 98, some 99, some 100, some 101, none, none, none, none, none]), .inl (0, 12), .inl (0, 6), .inl (0, 12), .inl (0, 12), .inl (0, 156), .inl (0, 12), .inr (0, [some 103, some 104, some 105, some 106, some 107, some 108, none, none, none, none, none]), .inl (0, 20), .inl (0, 20), .inl (0, 20), .inl (0, 20), .inl (0, 100), .inl (0, 20), .inl (0, 6), .inr (12, [some 111, some 112, some 113, some 114, some 115, some 116, none, none, none, some 117, none, none, none, none, none, none, none, none, none, none, some 118, some 119, some 120, some 121, some 122, some 123, some 124, some 125, some 126, some 127, some 128, some 129, some 130, some 131, some 132, none, none, none, none, none, none, some 133, some 134, some 135, some 136, some 137, none, none, some 138, some 139, some 140, some 141, some 142, some 143, some 144, some 145, none, none, some 146, some 147, some 148, some 149, some 150, some 151, none]), .inl (0, 162), .inl (0, 162), .inl (0, 162), .inl (0, 6), .inl (0, 6), .inl (0, 6), .inl (1, 260), .inl (0, 260), .inl (0, 260), .inl (0, 16), .inl (0, 16), .inl (0, 16), .inl (0, 16), .inl (0, 260), .inl (0, 16), .inl (0, 16), .inl (0, 16), .inl (0, 16), .inl (0, 260), .inl (0, 12), .inl (0, 20), .inl (0, 20), .inl (0, 6), .inl (0, 6), .inl (0, 12), .inl (0, 4), .inl (0, 3), .inl (0, 6), .inl (0, 6), .inl (0, 20), .inl (0, 20), .inl (0, 20), .inl (0, 20), .inl (0, 1560), .inl (0, 6), .inl (0, 260), .inl (0, 6), .inl (0, 20), .inl (0, 20), .inl (0, 12), .inl (0, 144)]
section ARR
variable {X : Scr} {d k pc len n a : Nat} {Q : Option Value → Sh → Wd → Prop} {ls : PLs} {r : List Value} {sh : Sh} {w : Wd} {cl : List (Option (Instr × Nat))} {x j : Int32}
theorem EV.iaload (hl : RCT[k]? = some cl) (hc : cdI cl pc = some (.iaload, 1)) (hs : sh[a]? = some (.inl (0, n))) (ha : ¬ a = 100000) (hj : inB j n = true) (kk : EV X d k (pc + 1, ls, .int (w a j.toNatClampNeg) :: r, sh, w) Q) : EV X d k (pc, ls, .int j :: .ref a :: r, sh, w) Q := by
  refine EV.stp1 hl (q2 := (pc + 1, ls, .int (w a j.toNatClampNeg) :: r, sh, w)) ?_ kk
  unfold stp
  rw [hc]
  simp only [pstep, pkind, pread, if_neg ha, hs, if_pos hj]
theorem EV.baload (hl : RCT[k]? = some cl) (hc : cdI cl pc = some (.baload, 1)) (hs : sh[a]? = some (.inl (1, n))) (ha : ¬ a = 100000) (hj : inB j n = true) (kk : EV X d k (pc + 1, ls, .int (w a j.toNatClampNeg) :: r, sh, w) Q) : EV X d k (pc, ls, .int j :: .ref a :: r, sh, w) Q := by
  refine EV.stp1 hl (q2 := (pc + 1, ls, .int (w a j.toNatClampNeg) :: r, sh, w)) ?_ kk
  unfold stp
  rw [hc]
  simp only [pstep, pkind, pread, hs, if_pos hj]
theorem EV.iastore (hl : RCT[k]? = some cl) (hc : cdI cl pc = some (.iastore, 1)) (hs : sh[a]? = some (.inl (0, n))) (ha : ¬ a = 100000) (hj : inB j n = true) (kk : EV X d k (pc + 1, ls, r, sh, up2 w a j.toNatClampNeg x) Q) : EV X d k (pc, ls, .int x :: .int j :: .ref a :: r, sh, w) Q := by
  refine EV.stp1 hl (q2 := (pc + 1, ls, r, sh, up2 w a j.toNatClampNeg x)) ?_ kk
  unfold stp
  rw [hc]
  simp only [pstep, pkind, pwrite, hs, if_pos hj]
theorem EV.bastore (hl : RCT[k]? = some cl) (hc : cdI cl pc = some (.bastore, 1)) (hs : sh[a]? = some (.inl (1, n))) (ha : ¬ a = 100000) (hj : inB j n = true) (kk : EV X d k (pc + 1, ls, r, sh, up2 w a j.toNatClampNeg (vp_nar .byte x)) Q) : EV X d k (pc, ls, .int x :: .int j :: .ref a :: r, sh, w) Q := by
  refine EV.stp1 hl (q2 := (pc + 1, ls, r, sh, up2 w a j.toNatClampNeg (vp_nar .byte x))) ?_ kk
  unfold stp
  rw [hc]
  simp only [pstep, pkind, pwrite, hs, if_pos hj]
end ARR
theorem inB_of {j : Int32} {n : Nat} (h1 : 0 ≤ j.toInt) (h2 : j.toInt < n) : inB j n = true := by
  have h3 : ¬ j < 0 := fun h => by
    have h4 := Int32.lt_iff_toInt_lt.mp h
    simp at h4
    omega
  have h5 : j.toNatClampNeg = j.toInt.toNat := rfl
  simp only [inB, Bool.not_eq_true', Bool.or_eq_false_iff, decide_eq_false_iff_not]
  exact ⟨h3, by rw [h5]; omega⟩
section DIV
variable {X : Scr} {d k pc len a0 a1 k0 k1 c : Nat} {Q : Option Value → Sh → Wd → Prop} {ls : PLs} {r : List Value} {sh : Sh} {w : Wd} {cl : List (Option (Instr × Nat))} {x y n dp sp : Int32}
theorem EV.idiv (hl : RCT[k]? = some cl) (hc : cdI cl pc = some (.idiv, 1)) (hne : ¬ y = 0) (kk : EV X d k (pc + 1, ls, .int (x / y) :: r, sh, w) Q) : EV X d k (pc, ls, .int y :: .int x :: r, sh, w) Q := by
  refine EV.stp1 hl (q2 := (pc + 1, ls, .int (x / y) :: r, sh, w)) ?_ kk
  unfold stp
  rw [hc]
  simp only [pstep, pkind, pstack, parith, if_neg hne]
theorem EV.irem (hl : RCT[k]? = some cl) (hc : cdI cl pc = some (.irem, 1)) (hne : ¬ y = 0) (kk : EV X d k (pc + 1, ls, .int (x - x / y * y) :: r, sh, w) Q) : EV X d k (pc, ls, .int y :: .int x :: r, sh, w) Q := by
  refine EV.stp1 hl (q2 := (pc + 1, ls, .int (x - x / y * y) :: r, sh, w)) ?_ kk
  unfold stp
  rw [hc]
  simp only [pstep, pkind, pstack, parith, if_neg hne]
theorem EV.acopy (hl : RCT[k]? = some cl) (hc : cdI cl pc = some (.invokestatic 99999, 3)) (h0 : sh[a0]? = some (.inl (0, k0))) (h1 : sh[a1]? = some (.inl (0, k1))) (hcon : ¬ (n < 0 ∨ sp < 0 ∨ dp < 0 ∨ k0 < sp.toNatClampNeg + n.toNatClampNeg ∨ k1 < dp.toNatClampNeg + n.toNatClampNeg)) (hs : ¬ 8 < (r.map fun v => v.category).sum) (kk : EV X (d + 1) k (pc + 3, ls, r, sh, cp2 w a0 a1 sp.toNatClampNeg dp.toNatClampNeg n.toNatClampNeg) Q) : EV X (d + 1) k (pc, ls, .int n :: .int dp :: .ref a1 :: .int sp :: .ref a0 :: r, sh, w) Q := by
  refine EV.stp1 hl (q2 := (pc + 3, ls, r, sh, cp2 w a0 a1 sp.toNatClampNeg dp.toNatClampNeg n.toNatClampNeg)) ?_ kk
  have h2 : ¬ (n < 0 ∨ sp < 0 ∨ dp < 0 ∨ k0 < sp.toNatClampNeg + n.toNatClampNeg ∨ k1 < dp.toNatClampNeg + n.toNatClampNeg ∨ 8 < (r.map fun v => v.category).sum) := by
    intro h
    rcases h with h | h | h | h | h | h
    · exact hcon (Or.inl h)
    · exact hcon (Or.inr (Or.inl h))
    · exact hcon (Or.inr (Or.inr (Or.inl h)))
    · exact hcon (Or.inr (Or.inr (Or.inr (Or.inl h))))
    · exact hcon (Or.inr (Or.inr (Or.inr (Or.inr h))))
    · exact hs h
  unfold stp
  rw [hc]
  have h3 : pkind (.invokestatic 99999) = 3 := rfl
  simp only [pstep, h3, pwrite, h0, h1, if_neg h2]
theorem EV.swEq {i : Instr} {t : Nat} {e : Int32} (hl : RCT[k]? = some cl) (hc : cdI cl pc = some (i, len)) (hk : pkind i = 1) (hx : x = e) (hp : pjump i pc len (.int e :: r) = some (t, r)) (kk : EV X d k (t, ls, r, sh, w) Q) : EV X d k (pc, ls, .int x :: r, sh, w) Q := by
  subst hx
  refine EV.stp1 hl (q2 := (t, ls, r, sh, w)) ?_ kk
  unfold stp
  rw [hc]
  simp only [pstep, hk, hp]
theorem EV.swT {df lo hi : Int} {offs : Array Int} (hl : RCT[k]? = some cl) (hc : cdI cl pc = some (.tableswitch df lo hi offs, len)) (hx : x.toInt < lo ∨ hi < x.toInt) (kk : EV X d k (((pc : Int) + df).toNat, ls, r, sh, w) Q) : EV X d k (pc, ls, .int x :: r, sh, w) Q := by
  refine EV.stp1 hl (q2 := (((pc : Int) + df).toNat, ls, r, sh, w)) ?_ kk
  unfold stp
  rw [hc]
  simp only [pstep, pkind, pjump, if_pos hx]
theorem lsw_out {v df : Int} : ∀ {ps : List (Int × Int)}, (∀ q ∈ ps, q.1 ≠ v) → Op.lookupswitch.offset ps df v = df
  | [], _ => rfl
  | (a, o) :: l, h => by
    rw [Op.lookupswitch.offset_cons, if_neg (h (a, o) List.mem_cons_self)]
    exact lsw_out fun q hq => h q (List.mem_cons_of_mem _ hq)
theorem EV.swL {df : Int} {ps : Array (Int × Int)} (hl : RCT[k]? = some cl) (hc : cdI cl pc = some (.lookupswitch df ps, len)) (hx : ∀ q ∈ ps.toList, q.1 ≠ x.toInt) (kk : EV X d k (((pc : Int) + df).toNat, ls, r, sh, w) Q) : EV X d k (pc, ls, .int x :: r, sh, w) Q := by
  refine EV.stp1 hl (q2 := (((pc : Int) + df).toNat, ls, r, sh, w)) ?_ kk
  unfold stp
  rw [hc]
  simp only [pstep, pkind, pjump, lsw_out hx]
end DIV
theorem kI_toInt {a : Int} (h1 : -1000000 ≤ a) (h2 : a ≤ 1000000) : (kI a).toInt = a := by
  show (Int32.ofInt a).toInt = a
  have hs : Int32.size = 2 ^ 32 := rfl
  rw [Int32.toInt_ofInt, hs]
  exact Int.bmod_eq_of_le (by omega) (by omega)
theorem sw_ne {x : Int32} {c : Int} (h : ¬ x = kI c) (h1 : -1000000 ≤ c ∧ c ≤ 1000000) : x.toInt ≠ c := fun e => h (Int32.toInt_inj.mp (by rw [kI_toInt h1.1 h1.2]; exact e))
theorem le_kI {p : Int32} {a : Int} (h1 : -1000000 ≤ a) (h2 : a ≤ 1000000) : (kI a ≤ p ↔ a ≤ p.toInt) ∧ (p ≤ kI a ↔ p.toInt ≤ a) := by
  refine ⟨?_, ?_⟩
  · rw [Int32.le_iff_toInt_le, kI_toInt h1 h2]
  · rw [Int32.le_iff_toInt_le, kI_toInt h1 h2]
theorem toInt_lin {p q : Int32} {c : Int} (hp : 0 ≤ p.toInt ∧ p.toInt ≤ 1000) (hq : 0 ≤ q.toInt ∧ q.toInt ≤ 1000) (hc : 0 ≤ c ∧ c ≤ 1000) : (p * kI c + q).toInt = p.toInt * c + q.toInt := by
  have h1 : p.toInt * c ≤ 1000 * 1000 := Int.mul_le_mul hp.2 hc.2 hc.1 (by omega)
  have h2 : 0 ≤ p.toInt * c := Int.mul_nonneg hp.1 hc.1
  rw [Int32.toInt_add, Int32.toInt_mul, kI_toInt (by omega) (by omega)]
  have h3 : (p.toInt * c).bmod (2 ^ 32) = p.toInt * c := Int.bmod_eq_of_le (by omega) (by omega)
  rw [h3]
  exact Int.bmod_eq_of_le (by omega) (by omega)
