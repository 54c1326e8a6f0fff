def G_77_58  (w : Wd) : Wd := (up2 (up2 w 58 6 (kI 0)) 58 7 (kI 0))
theorem m_77_58 {X : Scr} {d : Nat} (w : Wd)  : CV X (d + 1) 77 [.ref 58] SH w (fun r s1 w1 => r = none ∧ s1 = SH ∧ w1 = G_77_58 w) := by
  refine CV.of rfl ?_
  refine EV.steps cl_77 6 (q2 := (10, [some (.ref 58)], [], SH, (up2 (up2 w 58 6 (kI 0)) 58 7 (kI 0)))) rfl ?_
  refine EV.ret cl_77 rfl rfl rfl ?_
  exact ⟨rfl, rfl, rfl⟩
def G_77_65  (w : Wd) : Wd := (up2 (up2 w 65 6 (kI 0)) 65 7 (kI 0))
theorem m_77_65 {X : Scr} {d : Nat} (w : Wd)  : CV X (d + 1) 77 [.ref 65] SH w (fun r s1 w1 => r = none ∧ s1 = SH ∧ w1 = G_77_65 w) := by
  refine CV.of rfl ?_
  refine EV.steps cl_77 6 (q2 := (10, [some (.ref 65)], [], SH, (up2 (up2 w 65 6 (kI 0)) 65 7 (kI 0)))) rfl ?_
  refine EV.ret cl_77 rfl rfl rfl ?_
  exact ⟨rfl, rfl, rfl⟩
def G_77_72  (w : Wd) : Wd := (up2 (up2 w 72 6 (kI 0)) 72 7 (kI 0))
theorem m_77_72 {X : Scr} {d : Nat} (w : Wd)  : CV X (d + 1) 77 [.ref 72] SH w (fun r s1 w1 => r = none ∧ s1 = SH ∧ w1 = G_77_72 w) := by
  refine CV.of rfl ?_
  refine EV.steps cl_77 6 (q2 := (10, [some (.ref 72)], [], SH, (up2 (up2 w 72 6 (kI 0)) 72 7 (kI 0)))) rfl ?_
  refine EV.ret cl_77 rfl rfl rfl ?_
  exact ⟨rfl, rfl, rfl⟩
set_option maxRecDepth 20000 in
theorem cl_78 : RCT[78]? = some rc_78 := rfl
def F_78_22 (p1 : Int32) (p2 : Int32) (w : Wd) : Int32 := (if (w 22 6) < (Int32.ofNat 240) then (((w 22 6) + (kI 1)) - (kI 1)) else (w 22 6))
def G_78_22 (p1 : Int32) (p2 : Int32) (w : Wd) : Wd := (if (w 22 6) < (Int32.ofNat 240) then (up2 (up2 (up2 w 23 (w 22 6).toNatClampNeg p1) 24 (w 22 6).toNatClampNeg p2) 22 6 ((w 22 6) + (kI 1))) else w)
theorem m_78_22 {X : Scr} {d : Nat} (w : Wd) (p1 : Int32) (p2 : Int32) (i1 : (w 22 6) < (Int32.ofNat 240) → (inB (w 22 6) 240 = true)) : CV X (d + 1) 78 [.ref 22, .int p1, .int p2] SH w (fun r s1 w1 => r = some (.int (F_78_22 p1 p2 w)) ∧ s1 = SH ∧ w1 = G_78_22 p1 p2 w) := by
  refine CV.of rfl ?_
  refine EV.steps cl_78 5 (q2 := (9, [some (.ref 22), some (.int p1), some (.int p2)], [.int (Int32.ofNat 240), .int (w 22 6)], SH, w)) rfl ?_
  refine EV.i_lt cl_78 rfl (fun h1 => ?_) (fun h1 => ?_)
  · skip
    refine EV.steps cl_78 5 (q2 := (26, [some (.ref 22), some (.int p1), some (.int p2)], [.int p1, .int (w 22 6), .ref 23], SH, w)) rfl ?_
    refine EV.iastore cl_78 rfl rfl (by decide) (i1 h1) ?_
    refine EV.steps cl_78 5 (q2 := (36, [some (.ref 22), some (.int p1), some (.int p2)], [.int p2, .int (w 22 6), .ref 24], SH, (up2 w 23 (w 22 6).toNatClampNeg p1))) rfl ?_
    refine EV.iastore cl_78 rfl rfl (by decide) (i1 h1) ?_
    refine EV.steps cl_78 10 (q2 := (53, [some (.ref 22), some (.int p1), some (.int p2)], [.int (((w 22 6) + (kI 1)) - (kI 1))], SH, (up2 (up2 (up2 w 23 (w 22 6).toNatClampNeg p1) 24 (w 22 6).toNatClampNeg p2) 22 6 ((w 22 6) + (kI 1))))) rfl ?_
    refine EV.ret cl_78 rfl rfl rfl ?_
    exact ⟨(by simp only [F_78_22, if_pos h1]), rfl, (by simp only [G_78_22, if_pos h1])⟩
  · skip
    refine EV.steps cl_78 2 (q2 := (16, [some (.ref 22), some (.int p1), some (.int p2)], [.int (w 22 6)], SH, w)) rfl ?_
    refine EV.ret cl_78 rfl rfl rfl ?_
    exact ⟨(by simp only [F_78_22, if_neg h1]), rfl, (by simp only [G_78_22, if_neg h1])⟩
def F_78_29 (p1 : Int32) (p2 : Int32) (w : Wd) : Int32 := (if (w 29 6) < (Int32.ofNat 240) then (((w 29 6) + (kI 1)) - (kI 1)) else (w 29 6))
def G_78_29 (p1 : Int32) (p2 : Int32) (w : Wd) : Wd := (if (w 29 6) < (Int32.ofNat 240) then (up2 (up2 (up2 w 30 (w 29 6).toNatClampNeg p1) 31 (w 29 6).toNatClampNeg p2) 29 6 ((w 29 6) + (kI 1))) else w)
theorem m_78_29 {X : Scr} {d : Nat} (w : Wd) (p1 : Int32) (p2 : Int32) (i1 : (w 29 6) < (Int32.ofNat 240) → (inB (w 29 6) 240 = true)) : CV X (d + 1) 78 [.ref 29, .int p1, .int p2] SH w (fun r s1 w1 => r = some (.int (F_78_29 p1 p2 w)) ∧ s1 = SH ∧ w1 = G_78_29 p1 p2 w) := by
  refine CV.of rfl ?_
  refine EV.steps cl_78 5 (q2 := (9, [some (.ref 29), some (.int p1), some (.int p2)], [.int (Int32.ofNat 240), .int (w 29 6)], SH, w)) rfl ?_
  refine EV.i_lt cl_78 rfl (fun h1 => ?_) (fun h1 => ?_)
  · skip
    refine EV.steps cl_78 5 (q2 := (26, [some (.ref 29), some (.int p1), some (.int p2)], [.int p1, .int (w 29 6), .ref 30], SH, w)) rfl ?_
    refine EV.iastore cl_78 rfl rfl (by decide) (i1 h1) ?_
    refine EV.steps cl_78 5 (q2 := (36, [some (.ref 29), some (.int p1), some (.int p2)], [.int p2, .int (w 29 6), .ref 31], SH, (up2 w 30 (w 29 6).toNatClampNeg p1))) rfl ?_
    refine EV.iastore cl_78 rfl rfl (by decide) (i1 h1) ?_
    refine EV.steps cl_78 10 (q2 := (53, [some (.ref 29), some (.int p1), some (.int p2)], [.int (((w 29 6) + (kI 1)) - (kI 1))], SH, (up2 (up2 (up2 w 30 (w 29 6).toNatClampNeg p1) 31 (w 29 6).toNatClampNeg p2) 29 6 ((w 29 6) + (kI 1))))) rfl ?_
    refine EV.ret cl_78 rfl rfl rfl ?_
    exact ⟨(by simp only [F_78_29, if_pos h1]), rfl, (by simp only [G_78_29, if_pos h1])⟩
  · skip
    refine EV.steps cl_78 2 (q2 := (16, [some (.ref 29), some (.int p1), some (.int p2)], [.int (w 29 6)], SH, w)) rfl ?_
    refine EV.ret cl_78 rfl rfl rfl ?_
    exact ⟨(by simp only [F_78_29, if_neg h1]), rfl, (by simp only [G_78_29, if_neg h1])⟩
def F_78_37 (p1 : Int32) (p2 : Int32) (w : Wd) : Int32 := (if (w 37 6) < (Int32.ofNat 80) then (((w 37 6) + (kI 1)) - (kI 1)) else (w 37 6))
def G_78_37 (p1 : Int32) (p2 : Int32) (w : Wd) : Wd := (if (w 37 6) < (Int32.ofNat 80) then (up2 (up2 (up2 w 38 (w 37 6).toNatClampNeg p1) 39 (w 37 6).toNatClampNeg p2) 37 6 ((w 37 6) + (kI 1))) else w)
theorem m_78_37 {X : Scr} {d : Nat} (w : Wd) (p1 : Int32) (p2 : Int32) (i1 : (w 37 6) < (Int32.ofNat 80) → (inB (w 37 6) 80 = true)) : CV X (d + 1) 78 [.ref 37, .int p1, .int p2] SH w (fun r s1 w1 => r = some (.int (F_78_37 p1 p2 w)) ∧ s1 = SH ∧ w1 = G_78_37 p1 p2 w) := by
  refine CV.of rfl ?_
  refine EV.steps cl_78 5 (q2 := (9, [some (.ref 37), some (.int p1), some (.int p2)], [.int (Int32.ofNat 80), .int (w 37 6)], SH, w)) rfl ?_
  refine EV.i_lt cl_78 rfl (fun h1 => ?_) (fun h1 => ?_)
  · skip
    refine EV.steps cl_78 5 (q2 := (26, [some (.ref 37), some (.int p1), some (.int p2)], [.int p1, .int (w 37 6), .ref 38], SH, w)) rfl ?_
    refine EV.iastore cl_78 rfl rfl (by decide) (i1 h1) ?_
    refine EV.steps cl_78 5 (q2 := (36, [some (.ref 37), some (.int p1), some (.int p2)], [.int p2, .int (w 37 6), .ref 39], SH, (up2 w 38 (w 37 6).toNatClampNeg p1))) rfl ?_
    refine EV.iastore cl_78 rfl rfl (by decide) (i1 h1) ?_
    refine EV.steps cl_78 10 (q2 := (53, [some (.ref 37), some (.int p1), some (.int p2)], [.int (((w 37 6) + (kI 1)) - (kI 1))], SH, (up2 (up2 (up2 w 38 (w 37 6).toNatClampNeg p1) 39 (w 37 6).toNatClampNeg p2) 37 6 ((w 37 6) + (kI 1))))) rfl ?_
    refine EV.ret cl_78 rfl rfl rfl ?_
    exact ⟨(by simp only [F_78_37, if_pos h1]), rfl, (by simp only [G_78_37, if_pos h1])⟩
  · skip
    refine EV.steps cl_78 2 (q2 := (16, [some (.ref 37), some (.int p1), some (.int p2)], [.int (w 37 6)], SH, w)) rfl ?_
    refine EV.ret cl_78 rfl rfl rfl ?_
    exact ⟨(by simp only [F_78_37, if_neg h1]), rfl, (by simp only [G_78_37, if_neg h1])⟩
def F_78_44 (p1 : Int32) (p2 : Int32) (w : Wd) : Int32 := (if (w 44 6) < (Int32.ofNat 80) then (((w 44 6) + (kI 1)) - (kI 1)) else (w 44 6))
def G_78_44 (p1 : Int32) (p2 : Int32) (w : Wd) : Wd := (if (w 44 6) < (Int32.ofNat 80) then (up2 (up2 (up2 w 45 (w 44 6).toNatClampNeg p1) 46 (w 44 6).toNatClampNeg p2) 44 6 ((w 44 6) + (kI 1))) else w)
theorem m_78_44 {X : Scr} {d : Nat} (w : Wd) (p1 : Int32) (p2 : Int32) (i1 : (w 44 6) < (Int32.ofNat 80) → (inB (w 44 6) 80 = true)) : CV X (d + 1) 78 [.ref 44, .int p1, .int p2] SH w (fun r s1 w1 => r = some (.int (F_78_44 p1 p2 w)) ∧ s1 = SH ∧ w1 = G_78_44 p1 p2 w) := by
  refine CV.of rfl ?_
  refine EV.steps cl_78 5 (q2 := (9, [some (.ref 44), some (.int p1), some (.int p2)], [.int (Int32.ofNat 80), .int (w 44 6)], SH, w)) rfl ?_
  refine EV.i_lt cl_78 rfl (fun h1 => ?_) (fun h1 => ?_)
  · skip
    refine EV.steps cl_78 5 (q2 := (26, [some (.ref 44), some (.int p1), some (.int p2)], [.int p1, .int (w 44 6), .ref 45], SH, w)) rfl ?_
    refine EV.iastore cl_78 rfl rfl (by decide) (i1 h1) ?_
    refine EV.steps cl_78 5 (q2 := (36, [some (.ref 44), some (.int p1), some (.int p2)], [.int p2, .int (w 44 6), .ref 46], SH, (up2 w 45 (w 44 6).toNatClampNeg p1))) rfl ?_
    refine EV.iastore cl_78 rfl rfl (by decide) (i1 h1) ?_
    refine EV.steps cl_78 10 (q2 := (53, [some (.ref 44), some (.int p1), some (.int p2)], [.int (((w 44 6) + (kI 1)) - (kI 1))], SH, (up2 (up2 (up2 w 45 (w 44 6).toNatClampNeg p1) 46 (w 44 6).toNatClampNeg p2) 44 6 ((w 44 6) + (kI 1))))) rfl ?_
    refine EV.ret cl_78 rfl rfl rfl ?_
    exact ⟨(by simp only [F_78_44, if_pos h1]), rfl, (by simp only [G_78_44, if_pos h1])⟩
  · skip
    refine EV.steps cl_78 2 (q2 := (16, [some (.ref 44), some (.int p1), some (.int p2)], [.int (w 44 6)], SH, w)) rfl ?_
    refine EV.ret cl_78 rfl rfl rfl ?_
    exact ⟨(by simp only [F_78_44, if_neg h1]), rfl, (by simp only [G_78_44, if_neg h1])⟩
def F_78_51 (p1 : Int32) (p2 : Int32) (w : Wd) : Int32 := (if (w 51 6) < (Int32.ofNat 80) then (((w 51 6) + (kI 1)) - (kI 1)) else (w 51 6))
def G_78_51 (p1 : Int32) (p2 : Int32) (w : Wd) : Wd := (if (w 51 6) < (Int32.ofNat 80) then (up2 (up2 (up2 w 52 (w 51 6).toNatClampNeg p1) 53 (w 51 6).toNatClampNeg p2) 51 6 ((w 51 6) + (kI 1))) else w)
theorem m_78_51 {X : Scr} {d : Nat} (w : Wd) (p1 : Int32) (p2 : Int32) (i1 : (w 51 6) < (Int32.ofNat 80) → (inB (w 51 6) 80 = true)) : CV X (d + 1) 78 [.ref 51, .int p1, .int p2] SH w (fun r s1 w1 => r = some (.int (F_78_51 p1 p2 w)) ∧ s1 = SH ∧ w1 = G_78_51 p1 p2 w) := by
  refine CV.of rfl ?_
  refine EV.steps cl_78 5 (q2 := (9, [some (.ref 51), some (.int p1), some (.int p2)], [.int (Int32.ofNat 80), .int (w 51 6)], SH, w)) rfl ?_
  refine EV.i_lt cl_78 rfl (fun h1 => ?_) (fun h1 => ?_)
  · skip
    refine EV.steps cl_78 5 (q2 := (26, [some (.ref 51), some (.int p1), some (.int p2)], [.int p1, .int (w 51 6), .ref 52], SH, w)) rfl ?_
    refine EV.iastore cl_78 rfl rfl (by decide) (i1 h1) ?_
    refine EV.steps cl_78 5 (q2 := (36, [some (.ref 51), some (.int p1), some (.int p2)], [.int p2, .int (w 51 6), .ref 53], SH, (up2 w 52 (w 51 6).toNatClampNeg p1))) rfl ?_
    refine EV.iastore cl_78 rfl rfl (by decide) (i1 h1) ?_
    refine EV.steps cl_78 10 (q2 := (53, [some (.ref 51), some (.int p1), some (.int p2)], [.int (((w 51 6) + (kI 1)) - (kI 1))], SH, (up2 (up2 (up2 w 52 (w 51 6).toNatClampNeg p1) 53 (w 51 6).toNatClampNeg p2) 51 6 ((w 51 6) + (kI 1))))) rfl ?_
    refine EV.ret cl_78 rfl rfl rfl ?_
    exact ⟨(by simp only [F_78_51, if_pos h1]), rfl, (by simp only [G_78_51, if_pos h1])⟩
  · skip
    refine EV.steps cl_78 2 (q2 := (16, [some (.ref 51), some (.int p1), some (.int p2)], [.int (w 51 6)], SH, w)) rfl ?_
    refine EV.ret cl_78 rfl rfl rfl ?_
    exact ⟨(by simp only [F_78_51, if_neg h1]), rfl, (by simp only [G_78_51, if_neg h1])⟩
def F_78_58 (p1 : Int32) (p2 : Int32) (w : Wd) : Int32 := (if (w 58 6) < (Int32.ofNat 80) then (((w 58 6) + (kI 1)) - (kI 1)) else (w 58 6))
def G_78_58 (p1 : Int32) (p2 : Int32) (w : Wd) : Wd := (if (w 58 6) < (Int32.ofNat 80) then (up2 (up2 (up2 w 59 (w 58 6).toNatClampNeg p1) 60 (w 58 6).toNatClampNeg p2) 58 6 ((w 58 6) + (kI 1))) else w)
theorem m_78_58 {X : Scr} {d : Nat} (w : Wd) (p1 : Int32) (p2 : Int32) (i1 : (w 58 6) < (Int32.ofNat 80) → (inB (w 58 6) 80 = true)) : CV X (d + 1) 78 [.ref 58, .int p1, .int p2] SH w (fun r s1 w1 => r = some (.int (F_78_58 p1 p2 w)) ∧ s1 = SH ∧ w1 = G_78_58 p1 p2 w) := by
  refine CV.of rfl ?_
  refine EV.steps cl_78 5 (q2 := (9, [some (.ref 58), some (.int p1), some (.int p2)], [.int (Int32.ofNat 80), .int (w 58 6)], SH, w)) rfl ?_
  refine EV.i_lt cl_78 rfl (fun h1 => ?_) (fun h1 => ?_)
  · skip
    refine EV.steps cl_78 5 (q2 := (26, [some (.ref 58), some (.int p1), some (.int p2)], [.int p1, .int (w 58 6), .ref 59], SH, w)) rfl ?_
    refine EV.iastore cl_78 rfl rfl (by decide) (i1 h1) ?_
    refine EV.steps cl_78 5 (q2 := (36, [some (.ref 58), some (.int p1), some (.int p2)], [.int p2, .int (w 58 6), .ref 60], SH, (up2 w 59 (w 58 6).toNatClampNeg p1))) rfl ?_
    refine EV.iastore cl_78 rfl rfl (by decide) (i1 h1) ?_
    refine EV.steps cl_78 10 (q2 := (53, [some (.ref 58), some (.int p1), some (.int p2)], [.int (((w 58 6) + (kI 1)) - (kI 1))], SH, (up2 (up2 (up2 w 59 (w 58 6).toNatClampNeg p1) 60 (w 58 6).toNatClampNeg p2) 58 6 ((w 58 6) + (kI 1))))) rfl ?_
    refine EV.ret cl_78 rfl rfl rfl ?_
    exact ⟨(by simp only [F_78_58, if_pos h1]), rfl, (by simp only [G_78_58, if_pos h1])⟩
  · skip
    refine EV.steps cl_78 2 (q2 := (16, [some (.ref 58), some (.int p1), some (.int p2)], [.int (w 58 6)], SH, w)) rfl ?_
    refine EV.ret cl_78 rfl rfl rfl ?_
    exact ⟨(by simp only [F_78_58, if_neg h1]), rfl, (by simp only [G_78_58, if_neg h1])⟩
def F_78_65 (p1 : Int32) (p2 : Int32) (w : Wd) : Int32 := (if (w 65 6) < (Int32.ofNat 80) then (((w 65 6) + (kI 1)) - (kI 1)) else (w 65 6))
def G_78_65 (p1 : Int32) (p2 : Int32) (w : Wd) : Wd := (if (w 65 6) < (Int32.ofNat 80) then (up2 (up2 (up2 w 66 (w 65 6).toNatClampNeg p1) 67 (w 65 6).toNatClampNeg p2) 65 6 ((w 65 6) + (kI 1))) else w)
theorem m_78_65 {X : Scr} {d : Nat} (w : Wd) (p1 : Int32) (p2 : Int32) (i1 : (w 65 6) < (Int32.ofNat 80) → (inB (w 65 6) 80 = true)) : CV X (d + 1) 78 [.ref 65, .int p1, .int p2] SH w (fun r s1 w1 => r = some (.int (F_78_65 p1 p2 w)) ∧ s1 = SH ∧ w1 = G_78_65 p1 p2 w) := by
  refine CV.of rfl ?_
  refine EV.steps cl_78 5 (q2 := (9, [some (.ref 65), some (.int p1), some (.int p2)], [.int (Int32.ofNat 80), .int (w 65 6)], SH, w)) rfl ?_
  refine EV.i_lt cl_78 rfl (fun h1 => ?_) (fun h1 => ?_)
  · skip
    refine EV.steps cl_78 5 (q2 := (26, [some (.ref 65), some (.int p1), some (.int p2)], [.int p1, .int (w 65 6), .ref 66], SH, w)) rfl ?_
    refine EV.iastore cl_78 rfl rfl (by decide) (i1 h1) ?_
    refine EV.steps cl_78 5 (q2 := (36, [some (.ref 65), some (.int p1), some (.int p2)], [.int p2, .int (w 65 6), .ref 67], SH, (up2 w 66 (w 65 6).toNatClampNeg p1))) rfl ?_
    refine EV.iastore cl_78 rfl rfl (by decide) (i1 h1) ?_
    refine EV.steps cl_78 10 (q2 := (53, [some (.ref 65), some (.int p1), some (.int p2)], [.int (((w 65 6) + (kI 1)) - (kI 1))], SH, (up2 (up2 (up2 w 66 (w 65 6).toNatClampNeg p1) 67 (w 65 6).toNatClampNeg p2) 65 6 ((w 65 6) + (kI 1))))) rfl ?_
    refine EV.ret cl_78 rfl rfl rfl ?_
    exact ⟨(by simp only [F_78_65, if_pos h1]), rfl, (by simp only [G_78_65, if_pos h1])⟩
  · skip
    refine EV.steps cl_78 2 (q2 := (16, [some (.ref 65), some (.int p1), some (.int p2)], [.int (w 65 6)], SH, w)) rfl ?_
    refine EV.ret cl_78 rfl rfl rfl ?_
    exact ⟨(by simp only [F_78_65, if_neg h1]), rfl, (by simp only [G_78_65, if_neg h1])⟩
def F_78_72 (p1 : Int32) (p2 : Int32) (w : Wd) : Int32 := (if (w 72 6) < (Int32.ofNat 80) then (((w 72 6) + (kI 1)) - (kI 1)) else (w 72 6))
def G_78_72 (p1 : Int32) (p2 : Int32) (w : Wd) : Wd := (if (w 72 6) < (Int32.ofNat 80) then (up2 (up2 (up2 w 73 (w 72 6).toNatClampNeg p1) 74 (w 72 6).toNatClampNeg p2) 72 6 ((w 72 6) + (kI 1))) else w)
theorem m_78_72 {X : Scr} {d : Nat} (w : Wd) (p1 : Int32) (p2 : Int32) (i1 : (w 72 6) < (Int32.ofNat 80) → (inB (w 72 6) 80 = true)) : CV X (d + 1) 78 [.ref 72, .int p1, .int p2] SH w (fun r s1 w1 => r = some (.int (F_78_72 p1 p2 w)) ∧ s1 = SH ∧ w1 = G_78_72 p1 p2 w) := by
  refine CV.of rfl ?_
  refine EV.steps cl_78 5 (q2 := (9, [some (.ref 72), some (.int p1), some (.int p2)], [.int (Int32.ofNat 80), .int (w 72 6)], SH, w)) rfl ?_
  refine EV.i_lt cl_78 rfl (fun h1 => ?_) (fun h1 => ?_)
  · skip
    refine EV.steps cl_78 5 (q2 := (26, [some (.ref 72), some (.int p1), some (.int p2)], [.int p1, .int (w 72 6), .ref 73], SH, w)) rfl ?_
    refine EV.iastore cl_78 rfl rfl (by decide) (i1 h1) ?_
    refine EV.steps cl_78 5 (q2 := (36, [some (.ref 72), some (.int p1), some (.int p2)], [.int p2, .int (w 72 6), .ref 74], SH, (up2 w 73 (w 72 6).toNatClampNeg p1))) rfl ?_
    refine EV.iastore cl_78 rfl rfl (by decide) (i1 h1) ?_
    refine EV.steps cl_78 10 (q2 := (53, [some (.ref 72), some (.int p1), some (.int p2)], [.int (((w 72 6) + (kI 1)) - (kI 1))], SH, (up2 (up2 (up2 w 73 (w 72 6).toNatClampNeg p1) 74 (w 72 6).toNatClampNeg p2) 72 6 ((w 72 6) + (kI 1))))) rfl ?_
    refine EV.ret cl_78 rfl rfl rfl ?_
    exact ⟨(by simp only [F_78_72, if_pos h1]), rfl, (by simp only [G_78_72, if_pos h1])⟩
  · skip
    refine EV.steps cl_78 2 (q2 := (16, [some (.ref 72), some (.int p1), some (.int p2)], [.int (w 72 6)], SH, w)) rfl ?_
    refine EV.ret cl_78 rfl rfl rfl ?_
    exact ⟨(by simp only [F_78_72, if_neg h1]), rfl, (by simp only [G_78_72, if_neg h1])⟩
set_option maxRecDepth 20000 in
theorem cl_79 : RCT[79]? = some rc_79 := rfl
def G_79_22 (p1 : Int32) (w : Wd) : Wd := (if (F_153 p1 (kI 0) ((w 22 6) - (kI 1)) w) = 0 then w else (up2 w 24 p1.toNatClampNeg (w 22 6)))
theorem m_79_22 {X : Scr} {d : Nat} (w : Wd) (p1 : Int32) (i1 : ¬ (F_153 p1 (kI 0) ((w 22 6) - (kI 1)) w) = 0 → (inB p1 240 = true)) : CV X (d + 2) 79 [.ref 22, .int p1] SH w (fun r s1 w1 => r = none ∧ s1 = SH ∧ w1 = G_79_22 p1 w) := by
  refine CV.of rfl ?_
  refine EV.steps cl_79 6 (q2 := (8, [some (.ref 22), some (.int p1)], [.int ((w 22 6) - (kI 1)), .int (kI 0), .int p1], SH, w)) rfl ?_
  refine EV.callF (kc := 153) (av := [.int p1, .int (kI 0), .int ((w 22 6) - (kI 1))]) (r := []) (rv := some (.int (F_153 p1 (kI 0) ((w 22 6) - (kI 1)) w))) (w2 := w) cl_79 rfl rfl rfl (m_153 w p1 (kI 0) ((w 22 6) - (kI 1))) ?_
  refine EV.z_eq cl_79 rfl (fun h1 => ?_) (fun h1 => ?_)
  · skip
    refine EV.ret cl_79 rfl rfl rfl ?_
    exact ⟨rfl, rfl, (by simp only [G_79_22, if_pos h1])⟩
  · skip
    refine EV.steps cl_79 5 (q2 := (23, [some (.ref 22), some (.int p1)], [.int (w 22 6), .int p1, .ref 24], SH, w)) rfl ?_
    refine EV.iastore cl_79 rfl rfl (by decide) (i1 h1) ?_
    refine EV.ret cl_79 rfl rfl rfl ?_
    exact ⟨rfl, rfl, (by simp only [G_79_22, if_neg h1])⟩
def G_79_29 (p1 : Int32) (w : Wd) : Wd := (if (F_153 p1 (kI 0) ((w 29 6) - (kI 1)) w) = 0 then w else (up2 w 31 p1.toNatClampNeg (w 29 6)))
theorem m_79_29 {X : Scr} {d : Nat} (w : Wd) (p1 : Int32) (i1 : ¬ (F_153 p1 (kI 0) ((w 29 6) - (kI 1)) w) = 0 → (inB p1 240 = true)) : CV X (d + 2) 79 [.ref 29, .int p1] SH w (fun r s1 w1 => r = none ∧ s1 = SH ∧ w1 = G_79_29 p1 w) := by
  refine CV.of rfl ?_
  refine EV.steps cl_79 6 (q2 := (8, [some (.ref 29), some (.int p1)], [.int ((w 29 6) - (kI 1)), .int (kI 0), .int p1], SH, w)) rfl ?_
  refine EV.callF (kc := 153) (av := [.int p1, .int (kI 0), .int ((w 29 6) - (kI 1))]) (r := []) (rv := some (.int (F_153 p1 (kI 0) ((w 29 6) - (kI 1)) w))) (w2 := w) cl_79 rfl rfl rfl (m_153 w p1 (kI 0) ((w 29 6) - (kI 1))) ?_
  refine EV.z_eq cl_79 rfl (fun h1 => ?_) (fun h1 => ?_)
  · skip
    refine EV.ret cl_79 rfl rfl rfl ?_
    exact ⟨rfl, rfl, (by simp only [G_79_29, if_pos h1])⟩
  · skip
    refine EV.steps cl_79 5 (q2 := (23, [some (.ref 29), some (.int p1)], [.int (w 29 6), .int p1, .ref 31], SH, w)) rfl ?_
    refine EV.iastore cl_79 rfl rfl (by decide) (i1 h1) ?_
    refine EV.ret cl_79 rfl rfl rfl ?_
    exact ⟨rfl, rfl, (by simp only [G_79_29, if_neg h1])⟩
def G_79_37 (p1 : Int32) (w : Wd) : Wd := (if (F_153 p1 (kI 0) ((w 37 6) - (kI 1)) w) = 0 then w else (up2 w 39 p1.toNatClampNeg (w 37 6)))
theorem m_79_37 {X : Scr} {d : Nat} (w : Wd) (p1 : Int32) (i1 : ¬ (F_153 p1 (kI 0) ((w 37 6) - (kI 1)) w) = 0 → (inB p1 80 = true)) : CV X (d + 2) 79 [.ref 37, .int p1] SH w (fun r s1 w1 => r = none ∧ s1 = SH ∧ w1 = G_79_37 p1 w) := by
  refine CV.of rfl ?_
  refine EV.steps cl_79 6 (q2 := (8, [some (.ref 37), some (.int p1)], [.int ((w 37 6) - (kI 1)), .int (kI 0), .int p1], SH, w)) rfl ?_
  refine EV.callF (kc := 153) (av := [.int p1, .int (kI 0), .int ((w 37 6) - (kI 1))]) (r := []) (rv := some (.int (F_153 p1 (kI 0) ((w 37 6) - (kI 1)) w))) (w2 := w) cl_79 rfl rfl rfl (m_153 w p1 (kI 0) ((w 37 6) - (kI 1))) ?_
  refine EV.z_eq cl_79 rfl (fun h1 => ?_) (fun h1 => ?_)
  · skip
    refine EV.ret cl_79 rfl rfl rfl ?_
    exact ⟨rfl, rfl, (by simp only [G_79_37, if_pos h1])⟩
  · skip
    refine EV.steps cl_79 5 (q2 := (23, [some (.ref 37), some (.int p1)], [.int (w 37 6), .int p1, .ref 39], SH, w)) rfl ?_
    refine EV.iastore cl_79 rfl rfl (by decide) (i1 h1) ?_
    refine EV.ret cl_79 rfl rfl rfl ?_
    exact ⟨rfl, rfl, (by simp only [G_79_37, if_neg h1])⟩
def G_79_44 (p1 : Int32) (w : Wd) : Wd := (if (F_153 p1 (kI 0) ((w 44 6) - (kI 1)) w) = 0 then w else (up2 w 46 p1.toNatClampNeg (w 44 6)))
theorem m_79_44 {X : Scr} {d : Nat} (w : Wd) (p1 : Int32) (i1 : ¬ (F_153 p1 (kI 0) ((w 44 6) - (kI 1)) w) = 0 → (inB p1 80 = true)) : CV X (d + 2) 79 [.ref 44, .int p1] SH w (fun r s1 w1 => r = none ∧ s1 = SH ∧ w1 = G_79_44 p1 w) := by
  refine CV.of rfl ?_
  refine EV.steps cl_79 6 (q2 := (8, [some (.ref 44), some (.int p1)], [.int ((w 44 6) - (kI 1)), .int (kI 0), .int p1], SH, w)) rfl ?_
  refine EV.callF (kc := 153) (av := [.int p1, .int (kI 0), .int ((w 44 6) - (kI 1))]) (r := []) (rv := some (.int (F_153 p1 (kI 0) ((w 44 6) - (kI 1)) w))) (w2 := w) cl_79 rfl rfl rfl (m_153 w p1 (kI 0) ((w 44 6) - (kI 1))) ?_
  refine EV.z_eq cl_79 rfl (fun h1 => ?_) (fun h1 => ?_)
  · skip
    refine EV.ret cl_79 rfl rfl rfl ?_
    exact ⟨rfl, rfl, (by simp only [G_79_44, if_pos h1])⟩
  · skip
    refine EV.steps cl_79 5 (q2 := (23, [some (.ref 44), some (.int p1)], [.int (w 44 6), .int p1, .ref 46], SH, w)) rfl ?_
    refine EV.iastore cl_79 rfl rfl (by decide) (i1 h1) ?_
    refine EV.ret cl_79 rfl rfl rfl ?_
    exact ⟨rfl, rfl, (by simp only [G_79_44, if_neg h1])⟩
def G_79_51 (p1 : Int32) (w : Wd) : Wd := (if (F_153 p1 (kI 0) ((w 51 6) - (kI 1)) w) = 0 then w else (up2 w 53 p1.toNatClampNeg (w 51 6)))
theorem m_79_51 {X : Scr} {d : Nat} (w : Wd) (p1 : Int32) (i1 : ¬ (F_153 p1 (kI 0) ((w 51 6) - (kI 1)) w) = 0 → (inB p1 80 = true)) : CV X (d + 2) 79 [.ref 51, .int p1] SH w (fun r s1 w1 => r = none ∧ s1 = SH ∧ w1 = G_79_51 p1 w) := by
  refine CV.of rfl ?_
  refine EV.steps cl_79 6 (q2 := (8, [some (.ref 51), some (.int p1)], [.int ((w 51 6) - (kI 1)), .int (kI 0), .int p1], SH, w)) rfl ?_
  refine EV.callF (kc := 153) (av := [.int p1, .int (kI 0), .int ((w 51 6) - (kI 1))]) (r := []) (rv := some (.int (F_153 p1 (kI 0) ((w 51 6) - (kI 1)) w))) (w2 := w) cl_79 rfl rfl rfl (m_153 w p1 (kI 0) ((w 51 6) - (kI 1))) ?_
  refine EV.z_eq cl_79 rfl (fun h1 => ?_) (fun h1 => ?_)
  · skip
    refine EV.ret cl_79 rfl rfl rfl ?_
    exact ⟨rfl, rfl, (by simp only [G_79_51, if_pos h1])⟩
  · skip
    refine EV.steps cl_79 5 (q2 := (23, [some (.ref 51), some (.int p1)], [.int (w 51 6), .int p1, .ref 53], SH, w)) rfl ?_
    refine EV.iastore cl_79 rfl rfl (by decide) (i1 h1) ?_
    refine EV.ret cl_79 rfl rfl rfl ?_
    exact ⟨rfl, rfl, (by simp only [G_79_51, if_neg h1])⟩
def G_79_58 (p1 : Int32) (w : Wd) : Wd := (if (F_153 p1 (kI 0) ((w 58 6) - (kI 1)) w) = 0 then w else (up2 w 60 p1.toNatClampNeg (w 58 6)))
theorem m_79_58 {X : Scr} {d : Nat} (w : Wd) (p1 : Int32) (i1 : ¬ (F_153 p1 (kI 0) ((w 58 6) - (kI 1)) w) = 0 → (inB p1 80 = true)) : CV X (d + 2) 79 [.ref 58, .int p1] SH w (fun r s1 w1 => r = none ∧ s1 = SH ∧ w1 = G_79_58 p1 w) := by
  refine CV.of rfl ?_
  refine EV.steps cl_79 6 (q2 := (8, [some (.ref 58), some (.int p1)], [.int ((w 58 6) - (kI 1)), .int (kI 0), .int p1], SH, w)) rfl ?_
  refine EV.callF (kc := 153) (av := [.int p1, .int (kI 0), .int ((w 58 6) - (kI 1))]) (r := []) (rv := some (.int (F_153 p1 (kI 0) ((w 58 6) - (kI 1)) w))) (w2 := w) cl_79 rfl rfl rfl (m_153 w p1 (kI 0) ((w 58 6) - (kI 1))) ?_
  refine EV.z_eq cl_79 rfl (fun h1 => ?_) (fun h1 => ?_)
  · skip
    refine EV.ret cl_79 rfl rfl rfl ?_
    exact ⟨rfl, rfl, (by simp only [G_79_58, if_pos h1])⟩
  · skip
    refine EV.steps cl_79 5 (q2 := (23, [some (.ref 58), some (.int p1)], [.int (w 58 6), .int p1, .ref 60], SH, w)) rfl ?_
    refine EV.iastore cl_79 rfl rfl (by decide) (i1 h1) ?_
    refine EV.ret cl_79 rfl rfl rfl ?_
    exact ⟨rfl, rfl, (by simp only [G_79_58, if_neg h1])⟩
def G_79_65 (p1 : Int32) (w : Wd) : Wd := (if (F_153 p1 (kI 0) ((w 65 6) - (kI 1)) w) = 0 then w else (up2 w 67 p1.toNatClampNeg (w 65 6)))
theorem m_79_65 {X : Scr} {d : Nat} (w : Wd) (p1 : Int32) (i1 : ¬ (F_153 p1 (kI 0) ((w 65 6) - (kI 1)) w) = 0 → (inB p1 80 = true)) : CV X (d + 2) 79 [.ref 65, .int p1] SH w (fun r s1 w1 => r = none ∧ s1 = SH ∧ w1 = G_79_65 p1 w) := by
  refine CV.of rfl ?_
  refine EV.steps cl_79 6 (q2 := (8, [some (.ref 65), some (.int p1)], [.int ((w 65 6) - (kI 1)), .int (kI 0), .int p1], SH, w)) rfl ?_
  refine EV.callF (kc := 153) (av := [.int p1, .int (kI 0), .int ((w 65 6) - (kI 1))]) (r := []) (rv := some (.int (F_153 p1 (kI 0) ((w 65 6) - (kI 1)) w))) (w2 := w) cl_79 rfl rfl rfl (m_153 w p1 (kI 0) ((w 65 6) - (kI 1))) ?_
  refine EV.z_eq cl_79 rfl (fun h1 => ?_) (fun h1 => ?_)
  · skip
    refine EV.ret cl_79 rfl rfl rfl ?_
    exact ⟨rfl, rfl, (by simp only [G_79_65, if_pos h1])⟩
  · skip
    refine EV.steps cl_79 5 (q2 := (23, [some (.ref 65), some (.int p1)], [.int (w 65 6), .int p1, .ref 67], SH, w)) rfl ?_
    refine EV.iastore cl_79 rfl rfl (by decide) (i1 h1) ?_
    refine EV.ret cl_79 rfl rfl rfl ?_
    exact ⟨rfl, rfl, (by simp only [G_79_65, if_neg h1])⟩
def G_79_72 (p1 : Int32) (w : Wd) : Wd := (if (F_153 p1 (kI 0) ((w 72 6) - (kI 1)) w) = 0 then w else (up2 w 74 p1.toNatClampNeg (w 72 6)))
theorem m_79_72 {X : Scr} {d : Nat} (w : Wd) (p1 : Int32) (i1 : ¬ (F_153 p1 (kI 0) ((w 72 6) - (kI 1)) w) = 0 → (inB p1 80 = true)) : CV X (d + 2) 79 [.ref 72, .int p1] SH w (fun r s1 w1 => r = none ∧ s1 = SH ∧ w1 = G_79_72 p1 w) := by
  refine CV.of rfl ?_
  refine EV.steps cl_79 6 (q2 := (8, [some (.ref 72), some (.int p1)], [.int ((w 72 6) - (kI 1)), .int (kI 0), .int p1], SH, w)) rfl ?_
  refine EV.callF (kc := 153) (av := [.int p1, .int (kI 0), .int ((w 72 6) - (kI 1))]) (r := []) (rv := some (.int (F_153 p1 (kI 0) ((w 72 6) - (kI 1)) w))) (w2 := w) cl_79 rfl rfl rfl (m_153 w p1 (kI 0) ((w 72 6) - (kI 1))) ?_
  refine EV.z_eq cl_79 rfl (fun h1 => ?_) (fun h1 => ?_)
  · skip
    refine EV.ret cl_79 rfl rfl rfl ?_
    exact ⟨rfl, rfl, (by simp only [G_79_72, if_pos h1])⟩
  · skip
    refine EV.steps cl_79 5 (q2 := (23, [some (.ref 72), some (.int p1)], [.int (w 72 6), .int p1, .ref 74], SH, w)) rfl ?_
    refine EV.iastore cl_79 rfl rfl (by decide) (i1 h1) ?_
    refine EV.ret cl_79 rfl rfl rfl ?_
    exact ⟨rfl, rfl, (by simp only [G_79_72, if_neg h1])⟩
def G_80_22 (p1 : Int32) (w : Wd) : Wd := (if (Int32.ofNat 16) ≤ (w 22 7) then w else (up2 (up2 (up2 w 25 (w 22 7).toNatClampNeg p1) 26 (w 22 7).toNatClampNeg (w 22 6)) 27 (w 22 7).toNatClampNeg (w 22 6)))
theorem m_80_22 {X : Scr} {d : Nat} (w : Wd) (p1 : Int32) (i1 : ¬ (Int32.ofNat 16) ≤ (w 22 7) → (inB (w 22 7) 16 = true)) : CV X (d + 1) 80 [.ref 22, .int p1] SH w (fun r s1 w1 => r = none ∧ s1 = SH ∧ w1 = G_80_22 p1 w) := by
  refine CV.of rfl ?_
  refine EV.steps cl_80 5 (q2 := (9, [some (.ref 22), some (.int p1)], [.int (Int32.ofNat 16), .int (w 22 7)], SH, w)) rfl ?_
  refine EV.i_ge cl_80 rfl (fun h1 => ?_) (fun h1 => ?_)
  · skip
    refine EV.ret cl_80 rfl rfl rfl ?_
    exact ⟨rfl, rfl, (by simp only [G_80_22, if_pos h1])⟩
  · skip
    refine EV.steps cl_80 5 (q2 := (21, [some (.ref 22), some (.int p1)], [.int p1, .int (w 22 7), .ref 25], SH, w)) rfl ?_
    refine EV.iastore cl_80 rfl rfl (by decide) (i1 h1) ?_
    refine EV.steps cl_80 6 (q2 := (34, [some (.ref 22), some (.int p1)], [.int (w 22 6), .int (w 22 7), .ref 26], SH, (up2 w 25 (w 22 7).toNatClampNeg p1))) rfl ?_
    refine EV.iastore cl_80 rfl rfl (by decide) (i1 h1) ?_
    refine EV.steps cl_80 6 (q2 := (47, [some (.ref 22), some (.int p1)], [.int (w 22 6), .int (w 22 7), .ref 27], SH, (up2 (up2 w 25 (w 22 7).toNatClampNeg p1) 26 (w 22 7).toNatClampNeg (w 22 6)))) rfl ?_
    refine EV.iastore cl_80 rfl rfl (by decide) (i1 h1) ?_
    refine EV.ret cl_80 rfl rfl rfl ?_
    exact ⟨rfl, rfl, (by simp only [G_80_22, if_neg h1])⟩
def G_80_37 (p1 : Int32) (w : Wd) : Wd := (if (Int32.ofNat 1) ≤ (w 37 7) then w else (up2 (up2 (up2 w 40 (w 37 7).toNatClampNeg p1) 41 (w 37 7).toNatClampNeg (w 37 6)) 42 (w 37 7).toNatClampNeg (w 37 6)))
theorem m_80_37 {X : Scr} {d : Nat} (w : Wd) (p1 : Int32) (i1 : ¬ (Int32.ofNat 1) ≤ (w 37 7) → (inB (w 37 7) 1 = true)) : CV X (d + 1) 80 [.ref 37, .int p1] SH w (fun r s1 w1 => r = none ∧ s1 = SH ∧ w1 = G_80_37 p1 w) := by
  refine CV.of rfl ?_
  refine EV.steps cl_80 5 (q2 := (9, [some (.ref 37), some (.int p1)], [.int (Int32.ofNat 1), .int (w 37 7)], SH, w)) rfl ?_
  refine EV.i_ge cl_80 rfl (fun h1 => ?_) (fun h1 => ?_)
  · skip
    refine EV.ret cl_80 rfl rfl rfl ?_
    exact ⟨rfl, rfl, (by simp only [G_80_37, if_pos h1])⟩
  · skip
    refine EV.steps cl_80 5 (q2 := (21, [some (.ref 37), some (.int p1)], [.int p1, .int (w 37 7), .ref 40], SH, w)) rfl ?_
    refine EV.iastore cl_80 rfl rfl (by decide) (i1 h1) ?_
    refine EV.steps cl_80 6 (q2 := (34, [some (.ref 37), some (.int p1)], [.int (w 37 6), .int (w 37 7), .ref 41], SH, (up2 w 40 (w 37 7).toNatClampNeg p1))) rfl ?_
    refine EV.iastore cl_80 rfl rfl (by decide) (i1 h1) ?_
    refine EV.steps cl_80 6 (q2 := (47, [some (.ref 37), some (.int p1)], [.int (w 37 6), .int (w 37 7), .ref 42], SH, (up2 (up2 w 40 (w 37 7).toNatClampNeg p1) 41 (w 37 7).toNatClampNeg (w 37 6)))) rfl ?_
    refine EV.iastore cl_80 rfl rfl (by decide) (i1 h1) ?_
    refine EV.ret cl_80 rfl rfl rfl ?_
    exact ⟨rfl, rfl, (by simp only [G_80_37, if_neg h1])⟩
def G_80_44 (p1 : Int32) (w : Wd) : Wd := (if (Int32.ofNat 1) ≤ (w 44 7) then w else (up2 (up2 (up2 w 47 (w 44 7).toNatClampNeg p1) 48 (w 44 7).toNatClampNeg (w 44 6)) 49 (w 44 7).toNatClampNeg (w 44 6)))
theorem m_80_44 {X : Scr} {d : Nat} (w : Wd) (p1 : Int32) (i1 : ¬ (Int32.ofNat 1) ≤ (w 44 7) → (inB (w 44 7) 1 = true)) : CV X (d + 1) 80 [.ref 44, .int p1] SH w (fun r s1 w1 => r = none ∧ s1 = SH ∧ w1 = G_80_44 p1 w) := by
  refine CV.of rfl ?_
  refine EV.steps cl_80 5 (q2 := (9, [some (.ref 44), some (.int p1)], [.int (Int32.ofNat 1), .int (w 44 7)], SH, w)) rfl ?_
  refine EV.i_ge cl_80 rfl (fun h1 => ?_) (fun h1 => ?_)
  · skip
    refine EV.ret cl_80 rfl rfl rfl ?_
    exact ⟨rfl, rfl, (by simp only [G_80_44, if_pos h1])⟩
  · skip
    refine EV.steps cl_80 5 (q2 := (21, [some (.ref 44), some (.int p1)], [.int p1, .int (w 44 7), .ref 47], SH, w)) rfl ?_
    refine EV.iastore cl_80 rfl rfl (by decide) (i1 h1) ?_
    refine EV.steps cl_80 6 (q2 := (34, [some (.ref 44), some (.int p1)], [.int (w 44 6), .int (w 44 7), .ref 48], SH, (up2 w 47 (w 44 7).toNatClampNeg p1))) rfl ?_
    refine EV.iastore cl_80 rfl rfl (by decide) (i1 h1) ?_
    refine EV.steps cl_80 6 (q2 := (47, [some (.ref 44), some (.int p1)], [.int (w 44 6), .int (w 44 7), .ref 49], SH, (up2 (up2 w 47 (w 44 7).toNatClampNeg p1) 48 (w 44 7).toNatClampNeg (w 44 6)))) rfl ?_
    refine EV.iastore cl_80 rfl rfl (by decide) (i1 h1) ?_
    refine EV.ret cl_80 rfl rfl rfl ?_
    exact ⟨rfl, rfl, (by simp only [G_80_44, if_neg h1])⟩
def G_80_51 (p1 : Int32) (w : Wd) : Wd := (if (Int32.ofNat 1) ≤ (w 51 7) then w else (up2 (up2 (up2 w 54 (w 51 7).toNatClampNeg p1) 55 (w 51 7).toNatClampNeg (w 51 6)) 56 (w 51 7).toNatClampNeg (w 51 6)))
theorem m_80_51 {X : Scr} {d : Nat} (w : Wd) (p1 : Int32) (i1 : ¬ (Int32.ofNat 1) ≤ (w 51 7) → (inB (w 51 7) 1 = true)) : CV X (d + 1) 80 [.ref 51, .int p1] SH w (fun r s1 w1 => r = none ∧ s1 = SH ∧ w1 = G_80_51 p1 w) := by
  refine CV.of rfl ?_
  refine EV.steps cl_80 5 (q2 := (9, [some (.ref 51), some (.int p1)], [.int (Int32.ofNat 1), .int (w 51 7)], SH, w)) rfl ?_
  refine EV.i_ge cl_80 rfl (fun h1 => ?_) (fun h1 => ?_)
  · skip
    refine EV.ret cl_80 rfl rfl rfl ?_
    exact ⟨rfl, rfl, (by simp only [G_80_51, if_pos h1])⟩
  · skip
    refine EV.steps cl_80 5 (q2 := (21, [some (.ref 51), some (.int p1)], [.int p1, .int (w 51 7), .ref 54], SH, w)) rfl ?_
    refine EV.iastore cl_80 rfl rfl (by decide) (i1 h1) ?_
    refine EV.steps cl_80 6 (q2 := (34, [some (.ref 51), some (.int p1)], [.int (w 51 6), .int (w 51 7), .ref 55], SH, (up2 w 54 (w 51 7).toNatClampNeg p1))) rfl ?_
    refine EV.iastore cl_80 rfl rfl (by decide) (i1 h1) ?_
    refine EV.steps cl_80 6 (q2 := (47, [some (.ref 51), some (.int p1)], [.int (w 51 6), .int (w 51 7), .ref 56], SH, (up2 (up2 w 54 (w 51 7).toNatClampNeg p1) 55 (w 51 7).toNatClampNeg (w 51 6)))) rfl ?_
    refine EV.iastore cl_80 rfl rfl (by decide) (i1 h1) ?_
    refine EV.ret cl_80 rfl rfl rfl ?_
    exact ⟨rfl, rfl, (by simp only [G_80_51, if_neg h1])⟩
def G_80_58 (p1 : Int32) (w : Wd) : Wd := (if (Int32.ofNat 1) ≤ (w 58 7) then w else (up2 (up2 (up2 w 61 (w 58 7).toNatClampNeg p1) 62 (w 58 7).toNatClampNeg (w 58 6)) 63 (w 58 7).toNatClampNeg (w 58 6)))
theorem m_80_58 {X : Scr} {d : Nat} (w : Wd) (p1 : Int32) (i1 : ¬ (Int32.ofNat 1) ≤ (w 58 7) → (inB (w 58 7) 1 = true)) : CV X (d + 1) 80 [.ref 58, .int p1] SH w (fun r s1 w1 => r = none ∧ s1 = SH ∧ w1 = G_80_58 p1 w) := by
  refine CV.of rfl ?_
  refine EV.steps cl_80 5 (q2 := (9, [some (.ref 58), some (.int p1)], [.int (Int32.ofNat 1), .int (w 58 7)], SH, w)) rfl ?_
  refine EV.i_ge cl_80 rfl (fun h1 => ?_) (fun h1 => ?_)
  · skip
    refine EV.ret cl_80 rfl rfl rfl ?_
    exact ⟨rfl, rfl, (by simp only [G_80_58, if_pos h1])⟩
  · skip
    refine EV.steps cl_80 5 (q2 := (21, [some (.ref 58), some (.int p1)], [.int p1, .int (w 58 7), .ref 61], SH, w)) rfl ?_
    refine EV.iastore cl_80 rfl rfl (by decide) (i1 h1) ?_
    refine EV.steps cl_80 6 (q2 := (34, [some (.ref 58), some (.int p1)], [.int (w 58 6), .int (w 58 7), .ref 62], SH, (up2 w 61 (w 58 7).toNatClampNeg p1))) rfl ?_
    refine EV.iastore cl_80 rfl rfl (by decide) (i1 h1) ?_
    refine EV.steps cl_80 6 (q2 := (47, [some (.ref 58), some (.int p1)], [.int (w 58 6), .int (w 58 7), .ref 63], SH, (up2 (up2 w 61 (w 58 7).toNatClampNeg p1) 62 (w 58 7).toNatClampNeg (w 58 6)))) rfl ?_
    refine EV.iastore cl_80 rfl rfl (by decide) (i1 h1) ?_
    refine EV.ret cl_80 rfl rfl rfl ?_
    exact ⟨rfl, rfl, (by simp only [G_80_58, if_neg h1])⟩
def G_80_65 (p1 : Int32) (w : Wd) : Wd := (if (Int32.ofNat 1) ≤ (w 65 7) then w else (up2 (up2 (up2 w 68 (w 65 7).toNatClampNeg p1) 69 (w 65 7).toNatClampNeg (w 65 6)) 70 (w 65 7).toNatClampNeg (w 65 6)))
theorem m_80_65 {X : Scr} {d : Nat} (w : Wd) (p1 : Int32) (i1 : ¬ (Int32.ofNat 1) ≤ (w 65 7) → (inB (w 65 7) 1 = true)) : CV X (d + 1) 80 [.ref 65, .int p1] SH w (fun r s1 w1 => r = none ∧ s1 = SH ∧ w1 = G_80_65 p1 w) := by
  refine CV.of rfl ?_
  refine EV.steps cl_80 5 (q2 := (9, [some (.ref 65), some (.int p1)], [.int (Int32.ofNat 1), .int (w 65 7)], SH, w)) rfl ?_
  refine EV.i_ge cl_80 rfl (fun h1 => ?_) (fun h1 => ?_)
  · skip
    refine EV.ret cl_80 rfl rfl rfl ?_
    exact ⟨rfl, rfl, (by simp only [G_80_65, if_pos h1])⟩
  · skip
    refine EV.steps cl_80 5 (q2 := (21, [some (.ref 65), some (.int p1)], [.int p1, .int (w 65 7), .ref 68], SH, w)) rfl ?_
    refine EV.iastore cl_80 rfl rfl (by decide) (i1 h1) ?_
    refine EV.steps cl_80 6 (q2 := (34, [some (.ref 65), some (.int p1)], [.int (w 65 6), .int (w 65 7), .ref 69], SH, (up2 w 68 (w 65 7).toNatClampNeg p1))) rfl ?_
    refine EV.iastore cl_80 rfl rfl (by decide) (i1 h1) ?_
    refine EV.steps cl_80 6 (q2 := (47, [some (.ref 65), some (.int p1)], [.int (w 65 6), .int (w 65 7), .ref 70], SH, (up2 (up2 w 68 (w 65 7).toNatClampNeg p1) 69 (w 65 7).toNatClampNeg (w 65 6)))) rfl ?_
    refine EV.iastore cl_80 rfl rfl (by decide) (i1 h1) ?_
    refine EV.ret cl_80 rfl rfl rfl ?_
    exact ⟨rfl, rfl, (by simp only [G_80_65, if_neg h1])⟩
def G_80_72 (p1 : Int32) (w : Wd) : Wd := (if (Int32.ofNat 1) ≤ (w 72 7) then w else (up2 (up2 (up2 w 75 (w 72 7).toNatClampNeg p1) 76 (w 72 7).toNatClampNeg (w 72 6)) 77 (w 72 7).toNatClampNeg (w 72 6)))
theorem m_80_72 {X : Scr} {d : Nat} (w : Wd) (p1 : Int32) (i1 : ¬ (Int32.ofNat 1) ≤ (w 72 7) → (inB (w 72 7) 1 = true)) : CV X (d + 1) 80 [.ref 72, .int p1] SH w (fun r s1 w1 => r = none ∧ s1 = SH ∧ w1 = G_80_72 p1 w) := by
  refine CV.of rfl ?_
  refine EV.steps cl_80 5 (q2 := (9, [some (.ref 72), some (.int p1)], [.int (Int32.ofNat 1), .int (w 72 7)], SH, w)) rfl ?_
  refine EV.i_ge cl_80 rfl (fun h1 => ?_) (fun h1 => ?_)
  · skip
    refine EV.ret cl_80 rfl rfl rfl ?_
    exact ⟨rfl, rfl, (by simp only [G_80_72, if_pos h1])⟩
  · skip
    refine EV.steps cl_80 5 (q2 := (21, [some (.ref 72), some (.int p1)], [.int p1, .int (w 72 7), .ref 75], SH, w)) rfl ?_
    refine EV.iastore cl_80 rfl rfl (by decide) (i1 h1) ?_
    refine EV.steps cl_80 6 (q2 := (34, [some (.ref 72), some (.int p1)], [.int (w 72 6), .int (w 72 7), .ref 76], SH, (up2 w 75 (w 72 7).toNatClampNeg p1))) rfl ?_
    refine EV.iastore cl_80 rfl rfl (by decide) (i1 h1) ?_
    refine EV.steps cl_80 6 (q2 := (47, [some (.ref 72), some (.int p1)], [.int (w 72 6), .int (w 72 7), .ref 77], SH, (up2 (up2 w 75 (w 72 7).toNatClampNeg p1) 76 (w 72 7).toNatClampNeg (w 72 6)))) rfl ?_
    refine EV.iastore cl_80 rfl rfl (by decide) (i1 h1) ?_
    refine EV.ret cl_80 rfl rfl rfl ?_
    exact ⟨rfl, rfl, (by simp only [G_80_72, if_neg h1])⟩
def G_81_22  (w : Wd) : Wd := (if (Int32.ofNat 16) ≤ (w 22 7) then w else (up2 w 27 (w 22 7).toNatClampNeg (w 22 6)))
theorem m_81_22 {X : Scr} {d : Nat} (w : Wd)  (i1 : ¬ (Int32.ofNat 16) ≤ (w 22 7) → (inB (w 22 7) 16 = true)) : CV X (d + 1) 81 [.ref 22] SH w (fun r s1 w1 => r = none ∧ s1 = SH ∧ w1 = G_81_22 w) := by
  refine CV.of rfl ?_
  refine EV.steps cl_81 5 (q2 := (9, [some (.ref 22)], [.int (Int32.ofNat 16), .int (w 22 7)], SH, w)) rfl ?_
  refine EV.i_ge cl_81 rfl (fun h1 => ?_) (fun h1 => ?_)
  · skip
    refine EV.ret cl_81 rfl rfl rfl ?_
    exact ⟨rfl, rfl, (by simp only [G_81_22, if_pos h1])⟩
  · skip
    refine EV.steps cl_81 6 (q2 := (24, [some (.ref 22)], [.int (w 22 6), .int (w 22 7), .ref 27], SH, w)) rfl ?_
    refine EV.iastore cl_81 rfl rfl (by decide) (i1 h1) ?_
    refine EV.ret cl_81 rfl rfl rfl ?_
    exact ⟨rfl, rfl, (by simp only [G_81_22, if_neg h1])⟩
def G_81_37  (w : Wd) : Wd := (if (Int32.ofNat 1) ≤ (w 37 7) then w else (up2 w 42 (w 37 7).toNatClampNeg (w 37 6)))
theorem m_81_37 {X : Scr} {d : Nat} (w : Wd)  (i1 : ¬ (Int32.ofNat 1) ≤ (w 37 7) → (inB (w 37 7) 1 = true)) : CV X (d + 1) 81 [.ref 37] SH w (fun r s1 w1 => r = none ∧ s1 = SH ∧ w1 = G_81_37 w) := by
  refine CV.of rfl ?_
  refine EV.steps cl_81 5 (q2 := (9, [some (.ref 37)], [.int (Int32.ofNat 1), .int (w 37 7)], SH, w)) rfl ?_
  refine EV.i_ge cl_81 rfl (fun h1 => ?_) (fun h1 => ?_)
  · skip
    refine EV.ret cl_81 rfl rfl rfl ?_
    exact ⟨rfl, rfl, (by simp only [G_81_37, if_pos h1])⟩
  · skip
    refine EV.steps cl_81 6 (q2 := (24, [some (.ref 37)], [.int (w 37 6), .int (w 37 7), .ref 42], SH, w)) rfl ?_
    refine EV.iastore cl_81 rfl rfl (by decide) (i1 h1) ?_
    refine EV.ret cl_81 rfl rfl rfl ?_
    exact ⟨rfl, rfl, (by simp only [G_81_37, if_neg h1])⟩
def G_81_44  (w : Wd) : Wd := (if (Int32.ofNat 1) ≤ (w 44 7) then w else (up2 w 49 (w 44 7).toNatClampNeg (w 44 6)))
theorem m_81_44 {X : Scr} {d : Nat} (w : Wd)  (i1 : ¬ (Int32.ofNat 1) ≤ (w 44 7) → (inB (w 44 7) 1 = true)) : CV X (d + 1) 81 [.ref 44] SH w (fun r s1 w1 => r = none ∧ s1 = SH ∧ w1 = G_81_44 w) := by
  refine CV.of rfl ?_
  refine EV.steps cl_81 5 (q2 := (9, [some (.ref 44)], [.int (Int32.ofNat 1), .int (w 44 7)], SH, w)) rfl ?_
  refine EV.i_ge cl_81 rfl (fun h1 => ?_) (fun h1 => ?_)
  · skip
    refine EV.ret cl_81 rfl rfl rfl ?_
    exact ⟨rfl, rfl, (by simp only [G_81_44, if_pos h1])⟩
  · skip
    refine EV.steps cl_81 6 (q2 := (24, [some (.ref 44)], [.int (w 44 6), .int (w 44 7), .ref 49], SH, w)) rfl ?_
    refine EV.iastore cl_81 rfl rfl (by decide) (i1 h1) ?_
    refine EV.ret cl_81 rfl rfl rfl ?_
    exact ⟨rfl, rfl, (by simp only [G_81_44, if_neg h1])⟩
def G_81_51  (w : Wd) : Wd := (if (Int32.ofNat 1) ≤ (w 51 7) then w else (up2 w 56 (w 51 7).toNatClampNeg (w 51 6)))
theorem m_81_51 {X : Scr} {d : Nat} (w : Wd)  (i1 : ¬ (Int32.ofNat 1) ≤ (w 51 7) → (inB (w 51 7) 1 = true)) : CV X (d + 1) 81 [.ref 51] SH w (fun r s1 w1 => r = none ∧ s1 = SH ∧ w1 = G_81_51 w) := by
  refine CV.of rfl ?_
  refine EV.steps cl_81 5 (q2 := (9, [some (.ref 51)], [.int (Int32.ofNat 1), .int (w 51 7)], SH, w)) rfl ?_
  refine EV.i_ge cl_81 rfl (fun h1 => ?_) (fun h1 => ?_)
  · skip
    refine EV.ret cl_81 rfl rfl rfl ?_
    exact ⟨rfl, rfl, (by simp only [G_81_51, if_pos h1])⟩
  · skip
    refine EV.steps cl_81 6 (q2 := (24, [some (.ref 51)], [.int (w 51 6), .int (w 51 7), .ref 56], SH, w)) rfl ?_
    refine EV.iastore cl_81 rfl rfl (by decide) (i1 h1) ?_
    refine EV.ret cl_81 rfl rfl rfl ?_
    exact ⟨rfl, rfl, (by simp only [G_81_51, if_neg h1])⟩
def G_81_58  (w : Wd) : Wd := (if (Int32.ofNat 1) ≤ (w 58 7) then w else (up2 w 63 (w 58 7).toNatClampNeg (w 58 6)))
theorem m_81_58 {X : Scr} {d : Nat} (w : Wd)  (i1 : ¬ (Int32.ofNat 1) ≤ (w 58 7) → (inB (w 58 7) 1 = true)) : CV X (d + 1) 81 [.ref 58] SH w (fun r s1 w1 => r = none ∧ s1 = SH ∧ w1 = G_81_58 w) := by
  refine CV.of rfl ?_
  refine EV.steps cl_81 5 (q2 := (9, [some (.ref 58)], [.int (Int32.ofNat 1), .int (w 58 7)], SH, w)) rfl ?_
  refine EV.i_ge cl_81 rfl (fun h1 => ?_) (fun h1 => ?_)
  · skip
    refine EV.ret cl_81 rfl rfl rfl ?_
    exact ⟨rfl, rfl, (by simp only [G_81_58, if_pos h1])⟩
  · skip
    refine EV.steps cl_81 6 (q2 := (24, [some (.ref 58)], [.int (w 58 6), .int (w 58 7), .ref 63], SH, w)) rfl ?_
    refine EV.iastore cl_81 rfl rfl (by decide) (i1 h1) ?_
    refine EV.ret cl_81 rfl rfl rfl ?_
    exact ⟨rfl, rfl, (by simp only [G_81_58, if_neg h1])⟩
def G_81_65  (w : Wd) : Wd := (if (Int32.ofNat 1) ≤ (w 65 7) then w else (up2 w 70 (w 65 7).toNatClampNeg (w 65 6)))
theorem m_81_65 {X : Scr} {d : Nat} (w : Wd)  (i1 : ¬ (Int32.ofNat 1) ≤ (w 65 7) → (inB (w 65 7) 1 = true)) : CV X (d + 1) 81 [.ref 65] SH w (fun r s1 w1 => r = none ∧ s1 = SH ∧ w1 = G_81_65 w) := by
  refine CV.of rfl ?_
  refine EV.steps cl_81 5 (q2 := (9, [some (.ref 65)], [.int (Int32.ofNat 1), .int (w 65 7)], SH, w)) rfl ?_
  refine EV.i_ge cl_81 rfl (fun h1 => ?_) (fun h1 => ?_)
  · skip
    refine EV.ret cl_81 rfl rfl rfl ?_
    exact ⟨rfl, rfl, (by simp only [G_81_65, if_pos h1])⟩
  · skip
    refine EV.steps cl_81 6 (q2 := (24, [some (.ref 65)], [.int (w 65 6), .int (w 65 7), .ref 70], SH, w)) rfl ?_
    refine EV.iastore cl_81 rfl rfl (by decide) (i1 h1) ?_
    refine EV.ret cl_81 rfl rfl rfl ?_
    exact ⟨rfl, rfl, (by simp only [G_81_65, if_neg h1])⟩
def G_81_72  (w : Wd) : Wd := (if (Int32.ofNat 1) ≤ (w 72 7) then w else (up2 w 77 (w 72 7).toNatClampNeg (w 72 6)))
theorem m_81_72 {X : Scr} {d : Nat} (w : Wd)  (i1 : ¬ (Int32.ofNat 1) ≤ (w 72 7) → (inB (w 72 7) 1 = true)) : CV X (d + 1) 81 [.ref 72] SH w (fun r s1 w1 => r = none ∧ s1 = SH ∧ w1 = G_81_72 w) := by
  refine CV.of rfl ?_
  refine EV.steps cl_81 5 (q2 := (9, [some (.ref 72)], [.int (Int32.ofNat 1), .int (w 72 7)], SH, w)) rfl ?_
  refine EV.i_ge cl_81 rfl (fun h1 => ?_) (fun h1 => ?_)
  · skip
    refine EV.ret cl_81 rfl rfl rfl ?_
    exact ⟨rfl, rfl, (by simp only [G_81_72, if_pos h1])⟩
  · skip
    refine EV.steps cl_81 6 (q2 := (24, [some (.ref 72)], [.int (w 72 6), .int (w 72 7), .ref 77], SH, w)) rfl ?_
    refine EV.iastore cl_81 rfl rfl (by decide) (i1 h1) ?_
    refine EV.ret cl_81 rfl rfl rfl ?_
    exact ⟨rfl, rfl, (by simp only [G_81_72, if_neg h1])⟩
set_option maxRecDepth 20000 in
theorem cl_82 : RCT[82]? = some rc_82 := rfl
def G_82_22  (w : Wd) : Wd := (if (Int32.ofNat 16) ≤ (w 22 7) then w else (up2 (up2 w 28 (w 22 7).toNatClampNeg (w 22 6)) 22 7 ((w 22 7) + (kI 1))))
theorem m_82_22 {X : Scr} {d : Nat} (w : Wd)  (i1 : ¬ (Int32.ofNat 16) ≤ (w 22 7) → (inB (w 22 7) 16 = true)) : CV X (d + 1) 82 [.ref 22] SH w (fun r s1 w1 => r = none ∧ s1 = SH ∧ w1 = G_82_22 w) := by
  refine CV.of rfl ?_
  refine EV.steps cl_82 5 (q2 := (9, [some (.ref 22)], [.int (Int32.ofNat 16), .int (w 22 7)], SH, w)) rfl ?_
  refine EV.i_ge cl_82 rfl (fun h1 => ?_) (fun h1 => ?_)
  · skip
    refine EV.ret cl_82 rfl rfl rfl ?_
    exact ⟨rfl, rfl, (by simp only [G_82_22, if_pos h1])⟩
  · skip
    refine EV.steps cl_82 6 (q2 := (24, [some (.ref 22)], [.int (w 22 6), .int (w 22 7), .ref 28], SH, w)) rfl ?_
    refine EV.iastore cl_82 rfl rfl (by decide) (i1 h1) ?_
    refine EV.steps cl_82 6 (q2 := (35, [some (.ref 22)], [], SH, (up2 (up2 w 28 (w 22 7).toNatClampNeg (w 22 6)) 22 7 ((w 22 7) + (kI 1))))) rfl ?_
    refine EV.ret cl_82 rfl rfl rfl ?_
    exact ⟨rfl, rfl, (by simp only [G_82_22, if_neg h1])⟩
def G_82_29  (w : Wd) : Wd := (if (Int32.ofNat 16) ≤ (w 29 7) then w else (up2 (up2 w 35 (w 29 7).toNatClampNeg (w 29 6)) 29 7 ((w 29 7) + (kI 1))))
theorem m_82_29 {X : Scr} {d : Nat} (w : Wd)  (i1 : ¬ (Int32.ofNat 16) ≤ (w 29 7) → (inB (w 29 7) 16 = true)) : CV X (d + 1) 82 [.ref 29] SH w (fun r s1 w1 => r = none ∧ s1 = SH ∧ w1 = G_82_29 w) := by
  refine CV.of rfl ?_
  refine EV.steps cl_82 5 (q2 := (9, [some (.ref 29)], [.int (Int32.ofNat 16), .int (w 29 7)], SH, w)) rfl ?_
  refine EV.i_ge cl_82 rfl (fun h1 => ?_) (fun h1 => ?_)
  · skip
    refine EV.ret cl_82 rfl rfl rfl ?_
    exact ⟨rfl, rfl, (by simp only [G_82_29, if_pos h1])⟩
  · skip
    refine EV.steps cl_82 6 (q2 := (24, [some (.ref 29)], [.int (w 29 6), .int (w 29 7), .ref 35], SH, w)) rfl ?_
    refine EV.iastore cl_82 rfl rfl (by decide) (i1 h1) ?_
    refine EV.steps cl_82 6 (q2 := (35, [some (.ref 29)], [], SH, (up2 (up2 w 35 (w 29 7).toNatClampNeg (w 29 6)) 29 7 ((w 29 7) + (kI 1))))) rfl ?_
    refine EV.ret cl_82 rfl rfl rfl ?_
    exact ⟨rfl, rfl, (by simp only [G_82_29, if_neg h1])⟩
def G_82_37  (w : Wd) : Wd := (if (Int32.ofNat 1) ≤ (w 37 7) then w else (up2 (up2 w 43 (w 37 7).toNatClampNeg (w 37 6)) 37 7 ((w 37 7) + (kI 1))))
theorem m_82_37 {X : Scr} {d : Nat} (w : Wd)  (i1 : ¬ (Int32.ofNat 1) ≤ (w 37 7) → (inB (w 37 7) 1 = true)) : CV X (d + 1) 82 [.ref 37] SH w (fun r s1 w1 => r = none ∧ s1 = SH ∧ w1 = G_82_37 w) := by
  refine CV.of rfl ?_
  refine EV.steps cl_82 5 (q2 := (9, [some (.ref 37)], [.int (Int32.ofNat 1), .int (w 37 7)], SH, w)) rfl ?_
  refine EV.i_ge cl_82 rfl (fun h1 => ?_) (fun h1 => ?_)
  · skip
    refine EV.ret cl_82 rfl rfl rfl ?_
    exact ⟨rfl, rfl, (by simp only [G_82_37, if_pos h1])⟩
  · skip
    refine EV.steps cl_82 6 (q2 := (24, [some (.ref 37)], [.int (w 37 6), .int (w 37 7), .ref 43], SH, w)) rfl ?_
    refine EV.iastore cl_82 rfl rfl (by decide) (i1 h1) ?_
    refine EV.steps cl_82 6 (q2 := (35, [some (.ref 37)], [], SH, (up2 (up2 w 43 (w 37 7).toNatClampNeg (w 37 6)) 37 7 ((w 37 7) + (kI 1))))) rfl ?_
    refine EV.ret cl_82 rfl rfl rfl ?_
    exact ⟨rfl, rfl, (by simp only [G_82_37, if_neg h1])⟩
def G_82_44  (w : Wd) : Wd := (if (Int32.ofNat 1) ≤ (w 44 7) then w else (up2 (up2 w 50 (w 44 7).toNatClampNeg (w 44 6)) 44 7 ((w 44 7) + (kI 1))))
theorem m_82_44 {X : Scr} {d : Nat} (w : Wd)  (i1 : ¬ (Int32.ofNat 1) ≤ (w 44 7) → (inB (w 44 7) 1 = true)) : CV X (d + 1) 82 [.ref 44] SH w (fun r s1 w1 => r = none ∧ s1 = SH ∧ w1 = G_82_44 w) := by
  refine CV.of rfl ?_
  refine EV.steps cl_82 5 (q2 := (9, [some (.ref 44)], [.int (Int32.ofNat 1), .int (w 44 7)], SH, w)) rfl ?_
  refine EV.i_ge cl_82 rfl (fun h1 => ?_) (fun h1 => ?_)
  · skip
    refine EV.ret cl_82 rfl rfl rfl ?_
    exact ⟨rfl, rfl, (by simp only [G_82_44, if_pos h1])⟩
  · skip
    refine EV.steps cl_82 6 (q2 := (24, [some (.ref 44)], [.int (w 44 6), .int (w 44 7), .ref 50], SH, w)) rfl ?_
    refine EV.iastore cl_82 rfl rfl (by decide) (i1 h1) ?_
    refine EV.steps cl_82 6 (q2 := (35, [some (.ref 44)], [], SH, (up2 (up2 w 50 (w 44 7).toNatClampNeg (w 44 6)) 44 7 ((w 44 7) + (kI 1))))) rfl ?_
    refine EV.ret cl_82 rfl rfl rfl ?_
    exact ⟨rfl, rfl, (by simp only [G_82_44, if_neg h1])⟩
def G_82_51  (w : Wd) : Wd := (if (Int32.ofNat 1) ≤ (w 51 7) then w else (up2 (up2 w 57 (w 51 7).toNatClampNeg (w 51 6)) 51 7 ((w 51 7) + (kI 1))))
theorem m_82_51 {X : Scr} {d : Nat} (w : Wd)  (i1 : ¬ (Int32.ofNat 1) ≤ (w 51 7) → (inB (w 51 7) 1 = true)) : CV X (d + 1) 82 [.ref 51] SH w (fun r s1 w1 => r = none ∧ s1 = SH ∧ w1 = G_82_51 w) := by
  refine CV.of rfl ?_
  refine EV.steps cl_82 5 (q2 := (9, [some (.ref 51)], [.int (Int32.ofNat 1), .int (w 51 7)], SH, w)) rfl ?_
  refine EV.i_ge cl_82 rfl (fun h1 => ?_) (fun h1 => ?_)
  · skip
    refine EV.ret cl_82 rfl rfl rfl ?_
    exact ⟨rfl, rfl, (by simp only [G_82_51, if_pos h1])⟩
  · skip
    refine EV.steps cl_82 6 (q2 := (24, [some (.ref 51)], [.int (w 51 6), .int (w 51 7), .ref 57], SH, w)) rfl ?_
    refine EV.iastore cl_82 rfl rfl (by decide) (i1 h1) ?_
    refine EV.steps cl_82 6 (q2 := (35, [some (.ref 51)], [], SH, (up2 (up2 w 57 (w 51 7).toNatClampNeg (w 51 6)) 51 7 ((w 51 7) + (kI 1))))) rfl ?_
    refine EV.ret cl_82 rfl rfl rfl ?_
    exact ⟨rfl, rfl, (by simp only [G_82_51, if_neg h1])⟩
def G_82_58  (w : Wd) : Wd := (if (Int32.ofNat 1) ≤ (w 58 7) then w else (up2 (up2 w 64 (w 58 7).toNatClampNeg (w 58 6)) 58 7 ((w 58 7) + (kI 1))))
theorem m_82_58 {X : Scr} {d : Nat} (w : Wd)  (i1 : ¬ (Int32.ofNat 1) ≤ (w 58 7) → (inB (w 58 7) 1 = true)) : CV X (d + 1) 82 [.ref 58] SH w (fun r s1 w1 => r = none ∧ s1 = SH ∧ w1 = G_82_58 w) := by
  refine CV.of rfl ?_
  refine EV.steps cl_82 5 (q2 := (9, [some (.ref 58)], [.int (Int32.ofNat 1), .int (w 58 7)], SH, w)) rfl ?_
  refine EV.i_ge cl_82 rfl (fun h1 => ?_) (fun h1 => ?_)
  · skip
    refine EV.ret cl_82 rfl rfl rfl ?_
    exact ⟨rfl, rfl, (by simp only [G_82_58, if_pos h1])⟩
  · skip
    refine EV.steps cl_82 6 (q2 := (24, [some (.ref 58)], [.int (w 58 6), .int (w 58 7), .ref 64], SH, w)) rfl ?_
    refine EV.iastore cl_82 rfl rfl (by decide) (i1 h1) ?_
    refine EV.steps cl_82 6 (q2 := (35, [some (.ref 58)], [], SH, (up2 (up2 w 64 (w 58 7).toNatClampNeg (w 58 6)) 58 7 ((w 58 7) + (kI 1))))) rfl ?_
    refine EV.ret cl_82 rfl rfl rfl ?_
    exact ⟨rfl, rfl, (by simp only [G_82_58, if_neg h1])⟩
def G_82_65  (w : Wd) : Wd := (if (Int32.ofNat 1) ≤ (w 65 7) then w else (up2 (up2 w 71 (w 65 7).toNatClampNeg (w 65 6)) 65 7 ((w 65 7) + (kI 1))))
theorem m_82_65 {X : Scr} {d : Nat} (w : Wd)  (i1 : ¬ (Int32.ofNat 1) ≤ (w 65 7) → (inB (w 65 7) 1 = true)) : CV X (d + 1) 82 [.ref 65] SH w (fun r s1 w1 => r = none ∧ s1 = SH ∧ w1 = G_82_65 w) := by
  refine CV.of rfl ?_
  refine EV.steps cl_82 5 (q2 := (9, [some (.ref 65)], [.int (Int32.ofNat 1), .int (w 65 7)], SH, w)) rfl ?_
  refine EV.i_ge cl_82 rfl (fun h1 => ?_) (fun h1 => ?_)
  · skip
    refine EV.ret cl_82 rfl rfl rfl ?_
    exact ⟨rfl, rfl, (by simp only [G_82_65, if_pos h1])⟩
  · skip
    refine EV.steps cl_82 6 (q2 := (24, [some (.ref 65)], [.int (w 65 6), .int (w 65 7), .ref 71], SH, w)) rfl ?_
    refine EV.iastore cl_82 rfl rfl (by decide) (i1 h1) ?_
    refine EV.steps cl_82 6 (q2 := (35, [some (.ref 65)], [], SH, (up2 (up2 w 71 (w 65 7).toNatClampNeg (w 65 6)) 65 7 ((w 65 7) + (kI 1))))) rfl ?_
    refine EV.ret cl_82 rfl rfl rfl ?_
    exact ⟨rfl, rfl, (by simp only [G_82_65, if_neg h1])⟩
def G_82_72  (w : Wd) : Wd := (if (Int32.ofNat 1) ≤ (w 72 7) then w else (up2 (up2 w 78 (w 72 7).toNatClampNeg (w 72 6)) 72 7 ((w 72 7) + (kI 1))))
theorem m_82_72 {X : Scr} {d : Nat} (w : Wd)  (i1 : ¬ (Int32.ofNat 1) ≤ (w 72 7) → (inB (w 72 7) 1 = true)) : CV X (d + 1) 82 [.ref 72] SH w (fun r s1 w1 => r = none ∧ s1 = SH ∧ w1 = G_82_72 w) := by
  refine CV.of rfl ?_
  refine EV.steps cl_82 5 (q2 := (9, [some (.ref 72)], [.int (Int32.ofNat 1), .int (w 72 7)], SH, w)) rfl ?_
  refine EV.i_ge cl_82 rfl (fun h1 => ?_) (fun h1 => ?_)
  · skip
    refine EV.ret cl_82 rfl rfl rfl ?_
    exact ⟨rfl, rfl, (by simp only [G_82_72, if_pos h1])⟩
  · skip
    refine EV.steps cl_82 6 (q2 := (24, [some (.ref 72)], [.int (w 72 6), .int (w 72 7), .ref 78], SH, w)) rfl ?_
    refine EV.iastore cl_82 rfl rfl (by decide) (i1 h1) ?_
    refine EV.steps cl_82 6 (q2 := (35, [some (.ref 72)], [], SH, (up2 (up2 w 78 (w 72 7).toNatClampNeg (w 72 6)) 72 7 ((w 72 7) + (kI 1))))) rfl ?_
    refine EV.ret cl_82 rfl rfl rfl ?_
    exact ⟨rfl, rfl, (by simp only [G_82_72, if_neg h1])⟩
set_option maxRecDepth 20000 in
theorem cl_83 : RCT[83]? = some rc_83 := rfl
def F_83_22 (p1 : Int32) (w : Wd) : Int32 := (if (F_153 p1 (kI 0) ((w 22 7) - (kI 1)) w) = 0 then (kI (-1)) else (w 25 p1.toNatClampNeg))
theorem m_83_22 {X : Scr} {d : Nat} (w : Wd) (p1 : Int32) (i1 : ¬ (F_153 p1 (kI 0) ((w 22 7) - (kI 1)) w) = 0 → (inB p1 16 = true)) : CV X (d + 2) 83 [.ref 22, .int p1] SH w (fun r s1 w1 => r = some (.int (F_83_22 p1 w)) ∧ s1 = SH ∧ w1 = w) := by
  refine CV.of rfl ?_
  refine EV.steps cl_83 6 (q2 := (8, [some (.ref 22), some (.int p1)], [.int ((w 22 7) - (kI 1)), .int (kI 0), .int p1], SH, w)) rfl ?_
  refine EV.callF (kc := 153) (av := [.int p1, .int (kI 0), .int ((w 22 7) - (kI 1))]) (r := []) (rv := some (.int (F_153 p1 (kI 0) ((w 22 7) - (kI 1)) w))) (w2 := w) cl_83 rfl rfl rfl (m_153 w p1 (kI 0) ((w 22 7) - (kI 1))) ?_
  refine EV.z_eq cl_83 rfl (fun h1 => ?_) (fun h1 => ?_)
  · skip
    refine EV.steps cl_83 1 (q2 := (24, [some (.ref 22), some (.int p1)], [.int (kI (-1))], SH, w)) rfl ?_
    refine EV.ret cl_83 rfl rfl rfl ?_
    exact ⟨(by simp only [F_83_22, if_pos h1]), rfl, rfl⟩
  · skip
    refine EV.steps cl_83 3 (q2 := (19, [some (.ref 22), some (.int p1)], [.int p1, .ref 25], SH, w)) rfl ?_
    refine EV.iaload cl_83 rfl rfl (by decide) (i1 h1) ?_
    refine EV.steps cl_83 1 (q2 := (24, [some (.ref 22), some (.int p1)], [.int (w 25 p1.toNatClampNeg)], SH, w)) rfl ?_
    refine EV.ret cl_83 rfl rfl rfl ?_
    exact ⟨(by simp only [F_83_22, if_neg h1]), rfl, rfl⟩
def F_83_29 (p1 : Int32) (w : Wd) : Int32 := (if (F_153 p1 (kI 0) ((w 29 7) - (kI 1)) w) = 0 then (kI (-1)) else (w 32 p1.toNatClampNeg))
theorem m_83_29 {X : Scr} {d : Nat} (w : Wd) (p1 : Int32) (i1 : ¬ (F_153 p1 (kI 0) ((w 29 7) - (kI 1)) w) = 0 → (inB p1 16 = true)) : CV X (d + 2) 83 [.ref 29, .int p1] SH w (fun r s1 w1 => r = some (.int (F_83_29 p1 w)) ∧ s1 = SH ∧ w1 = w) := by
  refine CV.of rfl ?_
  refine EV.steps cl_83 6 (q2 := (8, [some (.ref 29), some (.int p1)], [.int ((w 29 7) - (kI 1)), .int (kI 0), .int p1], SH, w)) rfl ?_
  refine EV.callF (kc := 153) (av := [.int p1, .int (kI 0), .int ((w 29 7) - (kI 1))]) (r := []) (rv := some (.int (F_153 p1 (kI 0) ((w 29 7) - (kI 1)) w))) (w2 := w) cl_83 rfl rfl rfl (m_153 w p1 (kI 0) ((w 29 7) - (kI 1))) ?_
  refine EV.z_eq cl_83 rfl (fun h1 => ?_) (fun h1 => ?_)
  · skip
    refine EV.steps cl_83 1 (q2 := (24, [some (.ref 29), some (.int p1)], [.int (kI (-1))], SH, w)) rfl ?_
    refine EV.ret cl_83 rfl rfl rfl ?_
    exact ⟨(by simp only [F_83_29, if_pos h1]), rfl, rfl⟩
  · skip
    refine EV.steps cl_83 3 (q2 := (19, [some (.ref 29), some (.int p1)], [.int p1, .ref 32], SH, w)) rfl ?_
    refine EV.iaload cl_83 rfl rfl (by decide) (i1 h1) ?_
    refine EV.steps cl_83 1 (q2 := (24, [some (.ref 29), some (.int p1)], [.int (w 32 p1.toNatClampNeg)], SH, w)) rfl ?_
    refine EV.ret cl_83 rfl rfl rfl ?_
    exact ⟨(by simp only [F_83_29, if_neg h1]), rfl, rfl⟩
def F_83_37 (p1 : Int32) (w : Wd) : Int32 := (if (F_153 p1 (kI 0) ((w 37 7) - (kI 1)) w) = 0 then (kI (-1)) else (w 40 p1.toNatClampNeg))
theorem m_83_37 {X : Scr} {d : Nat} (w : Wd) (p1 : Int32) (i1 : ¬ (F_153 p1 (kI 0) ((w 37 7) - (kI 1)) w) = 0 → (inB p1 1 = true)) : CV X (d + 2) 83 [.ref 37, .int p1] SH w (fun r s1 w1 => r = some (.int (F_83_37 p1 w)) ∧ s1 = SH ∧ w1 = w) := by
  refine CV.of rfl ?_
  refine EV.steps cl_83 6 (q2 := (8, [some (.ref 37), some (.int p1)], [.int ((w 37 7) - (kI 1)), .int (kI 0), .int p1], SH, w)) rfl ?_
  refine EV.callF (kc := 153) (av := [.int p1, .int (kI 0), .int ((w 37 7) - (kI 1))]) (r := []) (rv := some (.int (F_153 p1 (kI 0) ((w 37 7) - (kI 1)) w))) (w2 := w) cl_83 rfl rfl rfl (m_153 w p1 (kI 0) ((w 37 7) - (kI 1))) ?_
  refine EV.z_eq cl_83 rfl (fun h1 => ?_) (fun h1 => ?_)
  · skip
    refine EV.steps cl_83 1 (q2 := (24, [some (.ref 37), some (.int p1)], [.int (kI (-1))], SH, w)) rfl ?_
    refine EV.ret cl_83 rfl rfl rfl ?_
    exact ⟨(by simp only [F_83_37, if_pos h1]), rfl, rfl⟩
  · skip
    refine EV.steps cl_83 3 (q2 := (19, [some (.ref 37), some (.int p1)], [.int p1, .ref 40], SH, w)) rfl ?_
    refine EV.iaload cl_83 rfl rfl (by decide) (i1 h1) ?_
    refine EV.steps cl_83 1 (q2 := (24, [some (.ref 37), some (.int p1)], [.int (w 40 p1.toNatClampNeg)], SH, w)) rfl ?_
    refine EV.ret cl_83 rfl rfl rfl ?_
    exact ⟨(by simp only [F_83_37, if_neg h1]), rfl, rfl⟩
def F_83_44 (p1 : Int32) (w : Wd) : Int32 := (if (F_153 p1 (kI 0) ((w 44 7) - (kI 1)) w) = 0 then (kI (-1)) else (w 47 p1.toNatClampNeg))
theorem m_83_44 {X : Scr} {d : Nat} (w : Wd) (p1 : Int32) (i1 : ¬ (F_153 p1 (kI 0) ((w 44 7) - (kI 1)) w) = 0 → (inB p1 1 = true)) : CV X (d + 2) 83 [.ref 44, .int p1] SH w (fun r s1 w1 => r = some (.int (F_83_44 p1 w)) ∧ s1 = SH ∧ w1 = w) := by
  refine CV.of rfl ?_
  refine EV.steps cl_83 6 (q2 := (8, [some (.ref 44), some (.int p1)], [.int ((w 44 7) - (kI 1)), .int (kI 0), .int p1], SH, w)) rfl ?_
  refine EV.callF (kc := 153) (av := [.int p1, .int (kI 0), .int ((w 44 7) - (kI 1))]) (r := []) (rv := some (.int (F_153 p1 (kI 0) ((w 44 7) - (kI 1)) w))) (w2 := w) cl_83 rfl rfl rfl (m_153 w p1 (kI 0) ((w 44 7) - (kI 1))) ?_
  refine EV.z_eq cl_83 rfl (fun h1 => ?_) (fun h1 => ?_)
  · skip
    refine EV.steps cl_83 1 (q2 := (24, [some (.ref 44), some (.int p1)], [.int (kI (-1))], SH, w)) rfl ?_
    refine EV.ret cl_83 rfl rfl rfl ?_
    exact ⟨(by simp only [F_83_44, if_pos h1]), rfl, rfl⟩
  · skip
    refine EV.steps cl_83 3 (q2 := (19, [some (.ref 44), some (.int p1)], [.int p1, .ref 47], SH, w)) rfl ?_
    refine EV.iaload cl_83 rfl rfl (by decide) (i1 h1) ?_
    refine EV.steps cl_83 1 (q2 := (24, [some (.ref 44), some (.int p1)], [.int (w 47 p1.toNatClampNeg)], SH, w)) rfl ?_
    refine EV.ret cl_83 rfl rfl rfl ?_
    exact ⟨(by simp only [F_83_44, if_neg h1]), rfl, rfl⟩
def F_83_51 (p1 : Int32) (w : Wd) : Int32 := (if (F_153 p1 (kI 0) ((w 51 7) - (kI 1)) w) = 0 then (kI (-1)) else (w 54 p1.toNatClampNeg))
theorem m_83_51 {X : Scr} {d : Nat} (w : Wd) (p1 : Int32) (i1 : ¬ (F_153 p1 (kI 0) ((w 51 7) - (kI 1)) w) = 0 → (inB p1 1 = true)) : CV X (d + 2) 83 [.ref 51, .int p1] SH w (fun r s1 w1 => r = some (.int (F_83_51 p1 w)) ∧ s1 = SH ∧ w1 = w) := by
  refine CV.of rfl ?_
  refine EV.steps cl_83 6 (q2 := (8, [some (.ref 51), some (.int p1)], [.int ((w 51 7) - (kI 1)), .int (kI 0), .int p1], SH, w)) rfl ?_
  refine EV.callF (kc := 153) (av := [.int p1, .int (kI 0), .int ((w 51 7) - (kI 1))]) (r := []) (rv := some (.int (F_153 p1 (kI 0) ((w 51 7) - (kI 1)) w))) (w2 := w) cl_83 rfl rfl rfl (m_153 w p1 (kI 0) ((w 51 7) - (kI 1))) ?_
  refine EV.z_eq cl_83 rfl (fun h1 => ?_) (fun h1 => ?_)
  · skip
    refine EV.steps cl_83 1 (q2 := (24, [some (.ref 51), some (.int p1)], [.int (kI (-1))], SH, w)) rfl ?_
    refine EV.ret cl_83 rfl rfl rfl ?_
    exact ⟨(by simp only [F_83_51, if_pos h1]), rfl, rfl⟩
  · skip
    refine EV.steps cl_83 3 (q2 := (19, [some (.ref 51), some (.int p1)], [.int p1, .ref 54], SH, w)) rfl ?_
    refine EV.iaload cl_83 rfl rfl (by decide) (i1 h1) ?_
    refine EV.steps cl_83 1 (q2 := (24, [some (.ref 51), some (.int p1)], [.int (w 54 p1.toNatClampNeg)], SH, w)) rfl ?_
    refine EV.ret cl_83 rfl rfl rfl ?_
    exact ⟨(by simp only [F_83_51, if_neg h1]), rfl, rfl⟩
def F_83_58 (p1 : Int32) (w : Wd) : Int32 := (if (F_153 p1 (kI 0) ((w 58 7) - (kI 1)) w) = 0 then (kI (-1)) else (w 61 p1.toNatClampNeg))
theorem m_83_58 {X : Scr} {d : Nat} (w : Wd) (p1 : Int32) (i1 : ¬ (F_153 p1 (kI 0) ((w 58 7) - (kI 1)) w) = 0 → (inB p1 1 = true)) : CV X (d + 2) 83 [.ref 58, .int p1] SH w (fun r s1 w1 => r = some (.int (F_83_58 p1 w)) ∧ s1 = SH ∧ w1 = w) := by
  refine CV.of rfl ?_
  refine EV.steps cl_83 6 (q2 := (8, [some (.ref 58), some (.int p1)], [.int ((w 58 7) - (kI 1)), .int (kI 0), .int p1], SH, w)) rfl ?_
  refine EV.callF (kc := 153) (av := [.int p1, .int (kI 0), .int ((w 58 7) - (kI 1))]) (r := []) (rv := some (.int (F_153 p1 (kI 0) ((w 58 7) - (kI 1)) w))) (w2 := w) cl_83 rfl rfl rfl (m_153 w p1 (kI 0) ((w 58 7) - (kI 1))) ?_
  refine EV.z_eq cl_83 rfl (fun h1 => ?_) (fun h1 => ?_)
  · skip
    refine EV.steps cl_83 1 (q2 := (24, [some (.ref 58), some (.int p1)], [.int (kI (-1))], SH, w)) rfl ?_
    refine EV.ret cl_83 rfl rfl rfl ?_
    exact ⟨(by simp only [F_83_58, if_pos h1]), rfl, rfl⟩
  · skip
    refine EV.steps cl_83 3 (q2 := (19, [some (.ref 58), some (.int p1)], [.int p1, .ref 61], SH, w)) rfl ?_
    refine EV.iaload cl_83 rfl rfl (by decide) (i1 h1) ?_
    refine EV.steps cl_83 1 (q2 := (24, [some (.ref 58), some (.int p1)], [.int (w 61 p1.toNatClampNeg)], SH, w)) rfl ?_
    refine EV.ret cl_83 rfl rfl rfl ?_
    exact ⟨(by simp only [F_83_58, if_neg h1]), rfl, rfl⟩
