def G_10_12_7  (w : Wd) : Wd := (up2 (up2 (up2 (up2 (up2 (cp2 (cp2 (cp2 (cp2 w 8 13 (kI 0).toNatClampNeg (kI 0).toNatClampNeg (Int32.ofNat 36).toNatClampNeg) 9 14 (kI 0).toNatClampNeg (kI 0).toNatClampNeg (Int32.ofNat 6).toNatClampNeg) 10 15 (kI 0).toNatClampNeg (kI 0).toNatClampNeg (Int32.ofNat 72).toNatClampNeg) 11 16 (kI 0).toNatClampNeg (kI 0).toNatClampNeg (Int32.ofNat 48).toNatClampNeg) 12 4 ((cp2 (cp2 (cp2 (cp2 w 8 13 (kI 0).toNatClampNeg (kI 0).toNatClampNeg (Int32.ofNat 36).toNatClampNeg) 9 14 (kI 0).toNatClampNeg (kI 0).toNatClampNeg (Int32.ofNat 6).toNatClampNeg) 10 15 (kI 0).toNatClampNeg (kI 0).toNatClampNeg (Int32.ofNat 72).toNatClampNeg) 11 16 (kI 0).toNatClampNeg (kI 0).toNatClampNeg (Int32.ofNat 48).toNatClampNeg) 7 4)) 12 5 ((cp2 (cp2 (cp2 (cp2 w 8 13 (kI 0).toNatClampNeg (kI 0).toNatClampNeg (Int32.ofNat 36).toNatClampNeg) 9 14 (kI 0).toNatClampNeg (kI 0).toNatClampNeg (Int32.ofNat 6).toNatClampNeg) 10 15 (kI 0).toNatClampNeg (kI 0).toNatClampNeg (Int32.ofNat 72).toNatClampNeg) 11 16 (kI 0).toNatClampNeg (kI 0).toNatClampNeg (Int32.ofNat 48).toNatClampNeg) 7 5)) 12 6 ((cp2 (cp2 (cp2 (cp2 w 8 13 (kI 0).toNatClampNeg (kI 0).toNatClampNeg (Int32.ofNat 36).toNatClampNeg) 9 14 (kI 0).toNatClampNeg (kI 0).toNatClampNeg (Int32.ofNat 6).toNatClampNeg) 10 15 (kI 0).toNatClampNeg (kI 0).toNatClampNeg (Int32.ofNat 72).toNatClampNeg) 11 16 (kI 0).toNatClampNeg (kI 0).toNatClampNeg (Int32.ofNat 48).toNatClampNeg) 7 6)) 12 7 ((cp2 (cp2 (cp2 (cp2 w 8 13 (kI 0).toNatClampNeg (kI 0).toNatClampNeg (Int32.ofNat 36).toNatClampNeg) 9 14 (kI 0).toNatClampNeg (kI 0).toNatClampNeg (Int32.ofNat 6).toNatClampNeg) 10 15 (kI 0).toNatClampNeg (kI 0).toNatClampNeg (Int32.ofNat 72).toNatClampNeg) 11 16 (kI 0).toNatClampNeg (kI 0).toNatClampNeg (Int32.ofNat 48).toNatClampNeg) 7 7)) 12 8 ((cp2 (cp2 (cp2 (cp2 w 8 13 (kI 0).toNatClampNeg (kI 0).toNatClampNeg (Int32.ofNat 36).toNatClampNeg) 9 14 (kI 0).toNatClampNeg (kI 0).toNatClampNeg (Int32.ofNat 6).toNatClampNeg) 10 15 (kI 0).toNatClampNeg (kI 0).toNatClampNeg (Int32.ofNat 72).toNatClampNeg) 11 16 (kI 0).toNatClampNeg (kI 0).toNatClampNeg (Int32.ofNat 48).toNatClampNeg) 7 8))
theorem m_10_12_7 {X : Scr} {d : Nat} (w : Wd)  : CV X (d + 2) 10 [.ref 12, .ref 7] SH w (fun r s1 w1 => r = none ∧ s1 = SH ∧ w1 = G_10_12_7 w) := by
  refine CV.of rfl ?_
  refine EV.steps cl_10 9 (q2 := (15, [some (.ref 12), some (.ref 7)], [.int (Int32.ofNat 36), .int (kI 0), .ref 13, .int (kI 0), .ref 8], SH, w)) rfl ?_
  refine EV.acopy cl_10 rfl rfl rfl (by decide) (by decide) ?_
  refine EV.steps cl_10 9 (q2 := (33, [some (.ref 12), some (.ref 7)], [.int (Int32.ofNat 6), .int (kI 0), .ref 14, .int (kI 0), .ref 9], SH, (cp2 w 8 13 (kI 0).toNatClampNeg (kI 0).toNatClampNeg (Int32.ofNat 36).toNatClampNeg))) rfl ?_
  refine EV.acopy cl_10 rfl rfl rfl (by decide) (by decide) ?_
  refine EV.steps cl_10 9 (q2 := (51, [some (.ref 12), some (.ref 7)], [.int (Int32.ofNat 72), .int (kI 0), .ref 15, .int (kI 0), .ref 10], SH, (cp2 (cp2 w 8 13 (kI 0).toNatClampNeg (kI 0).toNatClampNeg (Int32.ofNat 36).toNatClampNeg) 9 14 (kI 0).toNatClampNeg (kI 0).toNatClampNeg (Int32.ofNat 6).toNatClampNeg))) rfl ?_
  refine EV.acopy cl_10 rfl rfl rfl (by decide) (by decide) ?_
  refine EV.steps cl_10 9 (q2 := (69, [some (.ref 12), some (.ref 7)], [.int (Int32.ofNat 48), .int (kI 0), .ref 16, .int (kI 0), .ref 11], SH, (cp2 (cp2 (cp2 w 8 13 (kI 0).toNatClampNeg (kI 0).toNatClampNeg (Int32.ofNat 36).toNatClampNeg) 9 14 (kI 0).toNatClampNeg (kI 0).toNatClampNeg (Int32.ofNat 6).toNatClampNeg) 10 15 (kI 0).toNatClampNeg (kI 0).toNatClampNeg (Int32.ofNat 72).toNatClampNeg))) rfl ?_
  refine EV.acopy cl_10 rfl rfl rfl (by decide) (by decide) ?_
  refine EV.steps cl_10 20 (q2 := (112, [some (.ref 12), some (.ref 7)], [], SH, (up2 (up2 (up2 (up2 (up2 (cp2 (cp2 (cp2 (cp2 w 8 13 (kI 0).toNatClampNeg (kI 0).toNatClampNeg (Int32.ofNat 36).toNatClampNeg) 9 14 (kI 0).toNatClampNeg (kI 0).toNatClampNeg (Int32.ofNat 6).toNatClampNeg) 10 15 (kI 0).toNatClampNeg (kI 0).toNatClampNeg (Int32.ofNat 72).toNatClampNeg) 11 16 (kI 0).toNatClampNeg (kI 0).toNatClampNeg (Int32.ofNat 48).toNatClampNeg) 12 4 ((cp2 (cp2 (cp2 (cp2 w 8 13 (kI 0).toNatClampNeg (kI 0).toNatClampNeg (Int32.ofNat 36).toNatClampNeg) 9 14 (kI 0).toNatClampNeg (kI 0).toNatClampNeg (Int32.ofNat 6).toNatClampNeg) 10 15 (kI 0).toNatClampNeg (kI 0).toNatClampNeg (Int32.ofNat 72).toNatClampNeg) 11 16 (kI 0).toNatClampNeg (kI 0).toNatClampNeg (Int32.ofNat 48).toNatClampNeg) 7 4)) 12 5 ((cp2 (cp2 (cp2 (cp2 w 8 13 (kI 0).toNatClampNeg (kI 0).toNatClampNeg (Int32.ofNat 36).toNatClampNeg) 9 14 (kI 0).toNatClampNeg (kI 0).toNatClampNeg (Int32.ofNat 6).toNatClampNeg) 10 15 (kI 0).toNatClampNeg (kI 0).toNatClampNeg (Int32.ofNat 72).toNatClampNeg) 11 16 (kI 0).toNatClampNeg (kI 0).toNatClampNeg (Int32.ofNat 48).toNatClampNeg) 7 5)) 12 6 ((cp2 (cp2 (cp2 (cp2 w 8 13 (kI 0).toNatClampNeg (kI 0).toNatClampNeg (Int32.ofNat 36).toNatClampNeg) 9 14 (kI 0).toNatClampNeg (kI 0).toNatClampNeg (Int32.ofNat 6).toNatClampNeg) 10 15 (kI 0).toNatClampNeg (kI 0).toNatClampNeg (Int32.ofNat 72).toNatClampNeg) 11 16 (kI 0).toNatClampNeg (kI 0).toNatClampNeg (Int32.ofNat 48).toNatClampNeg) 7 6)) 12 7 ((cp2 (cp2 (cp2 (cp2 w 8 13 (kI 0).toNatClampNeg (kI 0).toNatClampNeg (Int32.ofNat 36).toNatClampNeg) 9 14 (kI 0).toNatClampNeg (kI 0).toNatClampNeg (Int32.ofNat 6).toNatClampNeg) 10 15 (kI 0).toNatClampNeg (kI 0).toNatClampNeg (Int32.ofNat 72).toNatClampNeg) 11 16 (kI 0).toNatClampNeg (kI 0).toNatClampNeg (Int32.ofNat 48).toNatClampNeg) 7 7)) 12 8 ((cp2 (cp2 (cp2 (cp2 w 8 13 (kI 0).toNatClampNeg (kI 0).toNatClampNeg (Int32.ofNat 36).toNatClampNeg) 9 14 (kI 0).toNatClampNeg (kI 0).toNatClampNeg (Int32.ofNat 6).toNatClampNeg) 10 15 (kI 0).toNatClampNeg (kI 0).toNatClampNeg (Int32.ofNat 72).toNatClampNeg) 11 16 (kI 0).toNatClampNeg (kI 0).toNatClampNeg (Int32.ofNat 48).toNatClampNeg) 7 8)))) rfl ?_
  refine EV.ret cl_10 rfl rfl rfl ?_
  exact ⟨rfl, rfl, rfl⟩
set_option maxRecDepth 20000 in
theorem cl_147 : RCT[147]? = some rc_147 := rfl
def F_147_0  (w : Wd) : Int32 := ((G_10_12_7 w) 7 5)
def G_147_0  (w : Wd) : Wd := (up2 (G_10_12_7 w) 0 17 (kI 1))
theorem m_147_0 {X : Scr} {d : Nat} (w : Wd)  : CV X (d + 3) 147 [.ref 0] SH w (fun r s1 w1 => r = some (.int (F_147_0 w)) ∧ s1 = SH ∧ w1 = G_147_0 w) := by
  refine CV.of rfl ?_
  refine EV.steps cl_147 4 (q2 := (8, [some (.ref 0)], [.ref 7, .ref 12], SH, w)) rfl ?_
  refine EV.callF (kc := 10) (av := [.ref 12, .ref 7]) (r := []) (rv := none) (w2 := (G_10_12_7 w)) cl_147 rfl rfl rfl (m_10_12_7 w ) ?_
  refine EV.steps cl_147 6 (q2 := (23, [some (.ref 0)], [.int ((G_10_12_7 w) 7 5)], SH, (up2 (G_10_12_7 w) 0 17 (kI 1)))) rfl ?_
  refine EV.ret cl_147 rfl rfl rfl ?_
  exact ⟨rfl, rfl, rfl⟩
def G_10_7_12  (w : Wd) : Wd := (up2 (up2 (up2 (up2 (up2 (cp2 (cp2 (cp2 (cp2 w 13 8 (kI 0).toNatClampNeg (kI 0).toNatClampNeg (Int32.ofNat 36).toNatClampNeg) 14 9 (kI 0).toNatClampNeg (kI 0).toNatClampNeg (Int32.ofNat 6).toNatClampNeg) 15 10 (kI 0).toNatClampNeg (kI 0).toNatClampNeg (Int32.ofNat 72).toNatClampNeg) 16 11 (kI 0).toNatClampNeg (kI 0).toNatClampNeg (Int32.ofNat 48).toNatClampNeg) 7 4 ((cp2 (cp2 (cp2 (cp2 w 13 8 (kI 0).toNatClampNeg (kI 0).toNatClampNeg (Int32.ofNat 36).toNatClampNeg) 14 9 (kI 0).toNatClampNeg (kI 0).toNatClampNeg (Int32.ofNat 6).toNatClampNeg) 15 10 (kI 0).toNatClampNeg (kI 0).toNatClampNeg (Int32.ofNat 72).toNatClampNeg) 16 11 (kI 0).toNatClampNeg (kI 0).toNatClampNeg (Int32.ofNat 48).toNatClampNeg) 12 4)) 7 5 ((cp2 (cp2 (cp2 (cp2 w 13 8 (kI 0).toNatClampNeg (kI 0).toNatClampNeg (Int32.ofNat 36).toNatClampNeg) 14 9 (kI 0).toNatClampNeg (kI 0).toNatClampNeg (Int32.ofNat 6).toNatClampNeg) 15 10 (kI 0).toNatClampNeg (kI 0).toNatClampNeg (Int32.ofNat 72).toNatClampNeg) 16 11 (kI 0).toNatClampNeg (kI 0).toNatClampNeg (Int32.ofNat 48).toNatClampNeg) 12 5)) 7 6 ((cp2 (cp2 (cp2 (cp2 w 13 8 (kI 0).toNatClampNeg (kI 0).toNatClampNeg (Int32.ofNat 36).toNatClampNeg) 14 9 (kI 0).toNatClampNeg (kI 0).toNatClampNeg (Int32.ofNat 6).toNatClampNeg) 15 10 (kI 0).toNatClampNeg (kI 0).toNatClampNeg (Int32.ofNat 72).toNatClampNeg) 16 11 (kI 0).toNatClampNeg (kI 0).toNatClampNeg (Int32.ofNat 48).toNatClampNeg) 12 6)) 7 7 ((cp2 (cp2 (cp2 (cp2 w 13 8 (kI 0).toNatClampNeg (kI 0).toNatClampNeg (Int32.ofNat 36).toNatClampNeg) 14 9 (kI 0).toNatClampNeg (kI 0).toNatClampNeg (Int32.ofNat 6).toNatClampNeg) 15 10 (kI 0).toNatClampNeg (kI 0).toNatClampNeg (Int32.ofNat 72).toNatClampNeg) 16 11 (kI 0).toNatClampNeg (kI 0).toNatClampNeg (Int32.ofNat 48).toNatClampNeg) 12 7)) 7 8 ((cp2 (cp2 (cp2 (cp2 w 13 8 (kI 0).toNatClampNeg (kI 0).toNatClampNeg (Int32.ofNat 36).toNatClampNeg) 14 9 (kI 0).toNatClampNeg (kI 0).toNatClampNeg (Int32.ofNat 6).toNatClampNeg) 15 10 (kI 0).toNatClampNeg (kI 0).toNatClampNeg (Int32.ofNat 72).toNatClampNeg) 16 11 (kI 0).toNatClampNeg (kI 0).toNatClampNeg (Int32.ofNat 48).toNatClampNeg) 12 8))
theorem m_10_7_12 {X : Scr} {d : Nat} (w : Wd)  : CV X (d + 2) 10 [.ref 7, .ref 12] SH w (fun r s1 w1 => r = none ∧ s1 = SH ∧ w1 = G_10_7_12 w) := by
  refine CV.of rfl ?_
  refine EV.steps cl_10 9 (q2 := (15, [some (.ref 7), some (.ref 12)], [.int (Int32.ofNat 36), .int (kI 0), .ref 8, .int (kI 0), .ref 13], SH, w)) rfl ?_
  refine EV.acopy cl_10 rfl rfl rfl (by decide) (by decide) ?_
  refine EV.steps cl_10 9 (q2 := (33, [some (.ref 7), some (.ref 12)], [.int (Int32.ofNat 6), .int (kI 0), .ref 9, .int (kI 0), .ref 14], SH, (cp2 w 13 8 (kI 0).toNatClampNeg (kI 0).toNatClampNeg (Int32.ofNat 36).toNatClampNeg))) rfl ?_
  refine EV.acopy cl_10 rfl rfl rfl (by decide) (by decide) ?_
  refine EV.steps cl_10 9 (q2 := (51, [some (.ref 7), some (.ref 12)], [.int (Int32.ofNat 72), .int (kI 0), .ref 10, .int (kI 0), .ref 15], SH, (cp2 (cp2 w 13 8 (kI 0).toNatClampNeg (kI 0).toNatClampNeg (Int32.ofNat 36).toNatClampNeg) 14 9 (kI 0).toNatClampNeg (kI 0).toNatClampNeg (Int32.ofNat 6).toNatClampNeg))) rfl ?_
  refine EV.acopy cl_10 rfl rfl rfl (by decide) (by decide) ?_
  refine EV.steps cl_10 9 (q2 := (69, [some (.ref 7), some (.ref 12)], [.int (Int32.ofNat 48), .int (kI 0), .ref 11, .int (kI 0), .ref 16], SH, (cp2 (cp2 (cp2 w 13 8 (kI 0).toNatClampNeg (kI 0).toNatClampNeg (Int32.ofNat 36).toNatClampNeg) 14 9 (kI 0).toNatClampNeg (kI 0).toNatClampNeg (Int32.ofNat 6).toNatClampNeg) 15 10 (kI 0).toNatClampNeg (kI 0).toNatClampNeg (Int32.ofNat 72).toNatClampNeg))) rfl ?_
  refine EV.acopy cl_10 rfl rfl rfl (by decide) (by decide) ?_
  refine EV.steps cl_10 20 (q2 := (112, [some (.ref 7), some (.ref 12)], [], SH, (up2 (up2 (up2 (up2 (up2 (cp2 (cp2 (cp2 (cp2 w 13 8 (kI 0).toNatClampNeg (kI 0).toNatClampNeg (Int32.ofNat 36).toNatClampNeg) 14 9 (kI 0).toNatClampNeg (kI 0).toNatClampNeg (Int32.ofNat 6).toNatClampNeg) 15 10 (kI 0).toNatClampNeg (kI 0).toNatClampNeg (Int32.ofNat 72).toNatClampNeg) 16 11 (kI 0).toNatClampNeg (kI 0).toNatClampNeg (Int32.ofNat 48).toNatClampNeg) 7 4 ((cp2 (cp2 (cp2 (cp2 w 13 8 (kI 0).toNatClampNeg (kI 0).toNatClampNeg (Int32.ofNat 36).toNatClampNeg) 14 9 (kI 0).toNatClampNeg (kI 0).toNatClampNeg (Int32.ofNat 6).toNatClampNeg) 15 10 (kI 0).toNatClampNeg (kI 0).toNatClampNeg (Int32.ofNat 72).toNatClampNeg) 16 11 (kI 0).toNatClampNeg (kI 0).toNatClampNeg (Int32.ofNat 48).toNatClampNeg) 12 4)) 7 5 ((cp2 (cp2 (cp2 (cp2 w 13 8 (kI 0).toNatClampNeg (kI 0).toNatClampNeg (Int32.ofNat 36).toNatClampNeg) 14 9 (kI 0).toNatClampNeg (kI 0).toNatClampNeg (Int32.ofNat 6).toNatClampNeg) 15 10 (kI 0).toNatClampNeg (kI 0).toNatClampNeg (Int32.ofNat 72).toNatClampNeg) 16 11 (kI 0).toNatClampNeg (kI 0).toNatClampNeg (Int32.ofNat 48).toNatClampNeg) 12 5)) 7 6 ((cp2 (cp2 (cp2 (cp2 w 13 8 (kI 0).toNatClampNeg (kI 0).toNatClampNeg (Int32.ofNat 36).toNatClampNeg) 14 9 (kI 0).toNatClampNeg (kI 0).toNatClampNeg (Int32.ofNat 6).toNatClampNeg) 15 10 (kI 0).toNatClampNeg (kI 0).toNatClampNeg (Int32.ofNat 72).toNatClampNeg) 16 11 (kI 0).toNatClampNeg (kI 0).toNatClampNeg (Int32.ofNat 48).toNatClampNeg) 12 6)) 7 7 ((cp2 (cp2 (cp2 (cp2 w 13 8 (kI 0).toNatClampNeg (kI 0).toNatClampNeg (Int32.ofNat 36).toNatClampNeg) 14 9 (kI 0).toNatClampNeg (kI 0).toNatClampNeg (Int32.ofNat 6).toNatClampNeg) 15 10 (kI 0).toNatClampNeg (kI 0).toNatClampNeg (Int32.ofNat 72).toNatClampNeg) 16 11 (kI 0).toNatClampNeg (kI 0).toNatClampNeg (Int32.ofNat 48).toNatClampNeg) 12 7)) 7 8 ((cp2 (cp2 (cp2 (cp2 w 13 8 (kI 0).toNatClampNeg (kI 0).toNatClampNeg (Int32.ofNat 36).toNatClampNeg) 14 9 (kI 0).toNatClampNeg (kI 0).toNatClampNeg (Int32.ofNat 6).toNatClampNeg) 15 10 (kI 0).toNatClampNeg (kI 0).toNatClampNeg (Int32.ofNat 72).toNatClampNeg) 16 11 (kI 0).toNatClampNeg (kI 0).toNatClampNeg (Int32.ofNat 48).toNatClampNeg) 12 8)))) rfl ?_
  refine EV.ret cl_10 rfl rfl rfl ?_
  exact ⟨rfl, rfl, rfl⟩
set_option maxRecDepth 20000 in
theorem cl_148 : RCT[148]? = some rc_148 := rfl
def F_148_0  (w : Wd) : Int32 := (if (w 0 17) = 0 then (kI 0) else (kI 1))
def G_148_0  (w : Wd) : Wd := (if (w 0 17) = 0 then w else (G_10_7_12 w))
theorem z1_148_0  (w : Wd) : F_148_0 w = 0 ∨ F_148_0 w = 1 := by
  unfold F_148_0
  (repeat' split) <;> first | exact Or.inl rfl | exact Or.inr rfl
theorem m_148_0 {X : Scr} {d : Nat} (w : Wd)  : CV X (d + 3) 148 [.ref 0] SH w (fun r s1 w1 => r = some (.int (F_148_0 w)) ∧ s1 = SH ∧ w1 = G_148_0 w) := by
  refine CV.of rfl ?_
  refine EV.steps cl_148 2 (q2 := (4, [some (.ref 0)], [.int (w 0 17)], SH, w)) rfl ?_
  refine EV.z_ne cl_148 rfl (fun h1 => ?_) (fun h1 => ?_)
  · skip
    refine EV.steps cl_148 4 (q2 := (17, [some (.ref 0)], [.ref 12, .ref 7], SH, w)) rfl ?_
    refine EV.callF (kc := 10) (av := [.ref 7, .ref 12]) (r := []) (rv := none) (w2 := (G_10_7_12 w)) cl_148 rfl rfl rfl (m_10_7_12 w ) ?_
    refine EV.steps cl_148 1 (q2 := (21, [some (.ref 0)], [.int (kI 1)], SH, (G_10_7_12 w))) rfl ?_
    refine EV.ret cl_148 rfl rfl rfl ?_
    exact ⟨(by simp only [F_148_0, if_neg h1]), rfl, (by simp only [G_148_0, if_neg h1])⟩
  · skip
    refine EV.steps cl_148 1 (q2 := (8, [some (.ref 0)], [.int (kI 0)], SH, w)) rfl ?_
    refine EV.ret cl_148 rfl rfl rfl ?_
    exact ⟨(by simp only [F_148_0, if_pos h1]), rfl, (by simp only [G_148_0, if_pos h1])⟩
set_option maxRecDepth 20000 in
theorem cl_157 : RCT[157]? = some rc_157 := rfl
def F_157 (p1 : Int32) (p2 : Int32) (p3 : Int32) (w : Wd) : Int32 := (if p1 < p2 then (kI 0) else (if p3 < p1 then (kI 0) else (kI 1)))
theorem z1_157 (p1 : Int32) (p2 : Int32) (p3 : Int32) (w : Wd) : F_157 p1 p2 p3 w = 0 ∨ F_157 p1 p2 p3 w = 1 := by
  unfold F_157
  (repeat' split) <;> first | exact Or.inl rfl | exact Or.inr rfl
theorem m_157 {X : Scr} {d : Nat} (w : Wd) (p1 : Int32) (p2 : Int32) (p3 : Int32) : CV X (d + 1) 157 [.int p1, .int p2, .int p3] SH w (fun r s1 w1 => r = some (.int (F_157 p1 p2 p3 w)) ∧ s1 = SH ∧ w1 = w) := by
  refine CV.of rfl ?_
  refine EV.steps cl_157 2 (q2 := (2, [some (.int p1), some (.int p2), some (.int p3)], [.int p2, .int p1], SH, w)) rfl ?_
  refine EV.i_lt cl_157 rfl (fun h1 => ?_) (fun h1 => ?_)
  · skip
    refine EV.steps cl_157 1 (q2 := (15, [some (.int p1), some (.int p2), some (.int p3)], [.int (kI 0)], SH, w)) rfl ?_
    refine EV.ret cl_157 rfl rfl rfl ?_
    exact ⟨(by simp only [F_157, if_pos h1]), rfl, rfl⟩
  · skip
    refine EV.steps cl_157 2 (q2 := (7, [some (.int p1), some (.int p2), some (.int p3)], [.int p3, .int p1], SH, w)) rfl ?_
    refine EV.i_gt cl_157 rfl (fun h2 => ?_) (fun h2 => ?_)
    · skip
      refine EV.steps cl_157 1 (q2 := (15, [some (.int p1), some (.int p2), some (.int p3)], [.int (kI 0)], SH, w)) rfl ?_
      refine EV.ret cl_157 rfl rfl rfl ?_
      exact ⟨(by simp only [F_157, if_neg h1, if_pos h2]), rfl, rfl⟩
    · skip
      refine EV.steps cl_157 2 (q2 := (15, [some (.int p1), some (.int p2), some (.int p3)], [.int (kI 1)], SH, w)) rfl ?_
      refine EV.ret cl_157 rfl rfl rfl ?_
      exact ⟨(by simp only [F_157, if_neg h1, if_neg h2]), rfl, rfl⟩
theorem wi_157 {p : Int32} {a b : Int} {w : Wd} (h : ¬ F_157 p (kI a) (kI b) w = 0) (ha : -1000000 ≤ a ∧ a ≤ 1000000) (hb : -1000000 ≤ b ∧ b ≤ 1000000) : a ≤ p.toInt ∧ p.toInt ≤ b := by
  unfold F_157 at h
  by_cases h1 : p < kI a
  · rw [if_pos h1] at h; exact absurd rfl h
  · rw [if_neg h1] at h
    by_cases h2 : kI b < p
    · rw [if_pos h2] at h; exact absurd rfl h
    · exact ⟨(le_kI ha.1 ha.2).1.mp (Int32.not_lt.mp h1), (le_kI hb.1 hb.2).2.mp (Int32.not_lt.mp h2)⟩
theorem ix_157 {p : Int32} {b : Int} {w : Wd} {n : Nat} (h : ¬ F_157 p (kI 0) (kI b) w = 0) (hb : 0 ≤ b ∧ b ≤ 1000000 ∧ b < n) : inB p n = true := by
  have h1 := wi_157 h (by omega) (by omega)
  exact inB_of h1.1 (by omega)
theorem ix2_157 {p q : Int32} {a b c : Int} {w w2 : Wd} {n : Nat} (h : ¬ F_157 p (kI 0) (kI a) w = 0) (h2 : ¬ F_157 q (kI 0) (kI b) w2 = 0) (ha : 0 ≤ a ∧ a ≤ 1000) (hb : 0 ≤ b ∧ b ≤ 1000) (hc : 0 ≤ c ∧ c ≤ 1000) (hn : a * c + b < n) : inB (p * kI c + q) n = true := by
  have h3 := wi_157 h (by omega) (by omega)
  have h4 := wi_157 h2 (by omega) (by omega)
  have h5 := toInt_lin (p := p) (q := q) (c := c) (by omega) (by omega) hc
  have h6 : p.toInt * c ≤ a * c := Int.mul_le_mul_of_nonneg_right h3.2 hc.1
  have h7 : 0 ≤ p.toInt * c := Int.mul_nonneg h3.1 hc.1
  exact inB_of (by omega) (by omega)
set_option maxRecDepth 20000 in
theorem cl_158 : RCT[158]? = some rc_158 := rfl
def F_158 (p1 : Int32) (p2 : Int32) (w : Wd) : Int32 := (if p2 ≤ p1 then p2 else p1)
theorem m_158 {X : Scr} {d : Nat} (w : Wd) (p1 : Int32) (p2 : Int32) : CV X (d + 1) 158 [.int p1, .int p2] SH w (fun r s1 w1 => r = some (.int (F_158 p1 p2 w)) ∧ s1 = SH ∧ w1 = w) := by
  refine CV.of rfl ?_
  refine EV.steps cl_158 2 (q2 := (2, [some (.int p1), some (.int p2)], [.int p2, .int p1], SH, w)) rfl ?_
  refine EV.i_ge cl_158 rfl (fun h1 => ?_) (fun h1 => ?_)
  · skip
    refine EV.steps cl_158 1 (q2 := (10, [some (.int p1), some (.int p2)], [.int p2], SH, w)) rfl ?_
    refine EV.ret cl_158 rfl rfl rfl ?_
    exact ⟨(by simp only [F_158, if_pos h1]), rfl, rfl⟩
  · skip
    refine EV.steps cl_158 2 (q2 := (10, [some (.int p1), some (.int p2)], [.int p1], SH, w)) rfl ?_
    refine EV.ret cl_158 rfl rfl rfl ?_
    exact ⟨(by simp only [F_158, if_neg h1]), rfl, rfl⟩
set_option maxRecDepth 20000 in
theorem cl_159 : RCT[159]? = some rc_159 := rfl
def F_159 (p1 : Int32) (p2 : Int32) (w : Wd) : Int32 := (if p1 ≤ p2 then p2 else p1)
theorem m_159 {X : Scr} {d : Nat} (w : Wd) (p1 : Int32) (p2 : Int32) : CV X (d + 1) 159 [.int p1, .int p2] SH w (fun r s1 w1 => r = some (.int (F_159 p1 p2 w)) ∧ s1 = SH ∧ w1 = w) := by
  refine CV.of rfl ?_
  refine EV.steps cl_159 2 (q2 := (2, [some (.int p1), some (.int p2)], [.int p2, .int p1], SH, w)) rfl ?_
  refine EV.i_le cl_159 rfl (fun h1 => ?_) (fun h1 => ?_)
  · skip
    refine EV.steps cl_159 1 (q2 := (10, [some (.int p1), some (.int p2)], [.int p2], SH, w)) rfl ?_
    refine EV.ret cl_159 rfl rfl rfl ?_
    exact ⟨(by simp only [F_159, if_pos h1]), rfl, rfl⟩
  · skip
    refine EV.steps cl_159 2 (q2 := (10, [some (.int p1), some (.int p2)], [.int p1], SH, w)) rfl ?_
    refine EV.ret cl_159 rfl rfl rfl ?_
    exact ⟨(by simp only [F_159, if_neg h1]), rfl, rfl⟩
set_option maxRecDepth 20000 in
theorem cl_160 : RCT[160]? = some rc_160 := rfl
def F_160 (p1 : Int32) (w : Wd) : Int32 := (if 0 ≤ p1 then p1 else (-p1))
theorem m_160 {X : Scr} {d : Nat} (w : Wd) (p1 : Int32) : CV X (d + 1) 160 [.int p1] SH w (fun r s1 w1 => r = some (.int (F_160 p1 w)) ∧ s1 = SH ∧ w1 = w) := by
  refine CV.of rfl ?_
  refine EV.steps cl_160 1 (q2 := (1, [some (.int p1)], [.int p1], SH, w)) rfl ?_
  refine EV.z_ge cl_160 rfl (fun h1 => ?_) (fun h1 => ?_)
  · skip
    refine EV.steps cl_160 1 (q2 := (10, [some (.int p1)], [.int p1], SH, w)) rfl ?_
    refine EV.ret cl_160 rfl rfl rfl ?_
    exact ⟨(by simp only [F_160, if_pos h1]), rfl, rfl⟩
  · skip
    refine EV.steps cl_160 3 (q2 := (10, [some (.int p1)], [.int (-p1)], SH, w)) rfl ?_
    refine EV.ret cl_160 rfl rfl rfl ?_
    exact ⟨(by simp only [F_160, if_neg h1]), rfl, rfl⟩
set_option maxRecDepth 20000 in
theorem cl_161 : RCT[161]? = some rc_161 := rfl
def F_161 (p1 : Int32) (p2 : Int32) (w : Wd) : Int32 := (if ((p1 >>> (p2 &&& 31)) &&& (kI 1)) = (kI 1) then (kI 1) else (kI 0))
theorem z1_161 (p1 : Int32) (p2 : Int32) (w : Wd) : F_161 p1 p2 w = 0 ∨ F_161 p1 p2 w = 1 := by
  unfold F_161
  (repeat' split) <;> first | exact Or.inl rfl | exact Or.inr rfl
theorem m_161 {X : Scr} {d : Nat} (w : Wd) (p1 : Int32) (p2 : Int32) : CV X (d + 1) 161 [.int p1, .int p2] SH w (fun r s1 w1 => r = some (.int (F_161 p1 p2 w)) ∧ s1 = SH ∧ w1 = w) := by
  refine CV.of rfl ?_
  refine EV.steps cl_161 6 (q2 := (6, [some (.int p1), some (.int p2)], [.int (kI 1), .int ((p1 >>> (p2 &&& 31)) &&& (kI 1))], SH, w)) rfl ?_
  refine EV.i_ne cl_161 rfl (fun h1 => ?_) (fun h1 => ?_)
  · skip
    refine EV.steps cl_161 1 (q2 := (14, [some (.int p1), some (.int p2)], [.int (kI 0)], SH, w)) rfl ?_
    refine EV.ret cl_161 rfl rfl rfl ?_
    exact ⟨(by simp only [F_161, if_neg h1]), rfl, rfl⟩
  · skip
    refine EV.steps cl_161 2 (q2 := (14, [some (.int p1), some (.int p2)], [.int (kI 1)], SH, w)) rfl ?_
    refine EV.ret cl_161 rfl rfl rfl ?_
    exact ⟨(by simp only [F_161, if_pos h1]), rfl, rfl⟩
set_option maxRecDepth 20000 in
theorem cl_164 : RCT[164]? = some rc_164 := rfl
def F_164_110 (p1 : Int32) (w : Wd) : Int32 := (if (F_157 p1 (kI 0) (kI 5) w) = 0 then (kI 0) else (if (F_161 (w 110 6) p1 w) = 0 then (kI 0) else (kI 1)))
theorem z1_164_110 (p1 : Int32) (w : Wd) : F_164_110 p1 w = 0 ∨ F_164_110 p1 w = 1 := by
  unfold F_164_110
  (repeat' split) <;> first | exact Or.inl rfl | exact Or.inr rfl
theorem m_164_110 {X : Scr} {d : Nat} (w : Wd) (p1 : Int32) : CV X (d + 2) 164 [.ref 110, .int p1] SH w (fun r s1 w1 => r = some (.int (F_164_110 p1 w)) ∧ s1 = SH ∧ w1 = w) := by
  refine CV.of rfl ?_
  refine EV.steps cl_164 3 (q2 := (3, [some (.ref 110), some (.int p1)], [.int (kI 5), .int (kI 0), .int p1], SH, w)) rfl ?_
  refine EV.callF (kc := 157) (av := [.int p1, .int (kI 0), .int (kI 5)]) (r := []) (rv := some (.int (F_157 p1 (kI 0) (kI 5) w))) (w2 := w) cl_164 rfl rfl rfl (m_157 w p1 (kI 0) (kI 5)) ?_
  refine EV.z_eq cl_164 rfl (fun h1 => ?_) (fun h1 => ?_)
  · skip
    refine EV.steps cl_164 1 (q2 := (25, [some (.ref 110), some (.int p1)], [.int (kI 0)], SH, w)) rfl ?_
    refine EV.ret cl_164 rfl rfl rfl ?_
    exact ⟨(by simp only [F_164_110, if_pos h1]), rfl, rfl⟩
  · skip
    refine EV.steps cl_164 3 (q2 := (14, [some (.ref 110), some (.int p1)], [.int p1, .int (w 110 6)], SH, w)) rfl ?_
    refine EV.callF (kc := 161) (av := [.int (w 110 6), .int p1]) (r := []) (rv := some (.int (F_161 (w 110 6) p1 w))) (w2 := w) cl_164 rfl rfl rfl (m_161 w (w 110 6) p1) ?_
    refine EV.z_eq cl_164 rfl (fun h2 => ?_) (fun h2 => ?_)
    · skip
      refine EV.steps cl_164 1 (q2 := (25, [some (.ref 110), some (.int p1)], [.int (kI 0)], SH, w)) rfl ?_
      refine EV.ret cl_164 rfl rfl rfl ?_
      exact ⟨(by simp only [F_164_110, if_neg h1, if_pos h2]), rfl, rfl⟩
    · skip
      refine EV.steps cl_164 2 (q2 := (25, [some (.ref 110), some (.int p1)], [.int (kI 1)], SH, w)) rfl ?_
      refine EV.ret cl_164 rfl rfl rfl ?_
      exact ⟨(by simp only [F_164_110, if_neg h1, if_neg h2]), rfl, rfl⟩
set_option maxRecDepth 20000 in
theorem cl_165 : RCT[165]? = some rc_165 := rfl
def F_165_110 (p1 : Int32) (w : Wd) : Int32 := (if (F_157 p1 (kI 0) (kI 5) w) = 0 then (kI 0) else (if (F_161 (w 110 7) p1 w) = 0 then (kI 0) else (kI 1)))
theorem z1_165_110 (p1 : Int32) (w : Wd) : F_165_110 p1 w = 0 ∨ F_165_110 p1 w = 1 := by
  unfold F_165_110
  (repeat' split) <;> first | exact Or.inl rfl | exact Or.inr rfl
theorem m_165_110 {X : Scr} {d : Nat} (w : Wd) (p1 : Int32) : CV X (d + 2) 165 [.ref 110, .int p1] SH w (fun r s1 w1 => r = some (.int (F_165_110 p1 w)) ∧ s1 = SH ∧ w1 = w) := by
  refine CV.of rfl ?_
  refine EV.steps cl_165 3 (q2 := (3, [some (.ref 110), some (.int p1)], [.int (kI 5), .int (kI 0), .int p1], SH, w)) rfl ?_
  refine EV.callF (kc := 157) (av := [.int p1, .int (kI 0), .int (kI 5)]) (r := []) (rv := some (.int (F_157 p1 (kI 0) (kI 5) w))) (w2 := w) cl_165 rfl rfl rfl (m_157 w p1 (kI 0) (kI 5)) ?_
  refine EV.z_eq cl_165 rfl (fun h1 => ?_) (fun h1 => ?_)
  · skip
    refine EV.steps cl_165 1 (q2 := (25, [some (.ref 110), some (.int p1)], [.int (kI 0)], SH, w)) rfl ?_
    refine EV.ret cl_165 rfl rfl rfl ?_
    exact ⟨(by simp only [F_165_110, if_pos h1]), rfl, rfl⟩
  · skip
    refine EV.steps cl_165 3 (q2 := (14, [some (.ref 110), some (.int p1)], [.int p1, .int (w 110 7)], SH, w)) rfl ?_
    refine EV.callF (kc := 161) (av := [.int (w 110 7), .int p1]) (r := []) (rv := some (.int (F_161 (w 110 7) p1 w))) (w2 := w) cl_165 rfl rfl rfl (m_161 w (w 110 7) p1) ?_
    refine EV.z_eq cl_165 rfl (fun h2 => ?_) (fun h2 => ?_)
    · skip
      refine EV.steps cl_165 1 (q2 := (25, [some (.ref 110), some (.int p1)], [.int (kI 0)], SH, w)) rfl ?_
      refine EV.ret cl_165 rfl rfl rfl ?_
      exact ⟨(by simp only [F_165_110, if_neg h1, if_pos h2]), rfl, rfl⟩
    · skip
      refine EV.steps cl_165 2 (q2 := (25, [some (.ref 110), some (.int p1)], [.int (kI 1)], SH, w)) rfl ?_
      refine EV.ret cl_165 rfl rfl rfl ?_
      exact ⟨(by simp only [F_165_110, if_neg h1, if_neg h2]), rfl, rfl⟩
set_option maxRecDepth 20000 in
theorem cl_166 : RCT[166]? = some rc_166 := rfl
def F_166_110 (p1 : Int32) (p2 : Int32) (w : Wd) : Int32 := (w 111 (((kI 0) + ((kI 6) * p1)) + p2).toNatClampNeg)
theorem m_166_110 {X : Scr} {d : Nat} (w : Wd) (p1 : Int32) (p2 : Int32) (i1 : (inB (((kI 0) + ((kI 6) * p1)) + p2) 162 = true)) : CV X (d + 1) 166 [.ref 110, .int p1, .int p2] SH w (fun r s1 w1 => r = some (.int (F_166_110 p1 p2 w)) ∧ s1 = SH ∧ w1 = w) := by
  refine CV.of rfl ?_
  refine EV.steps cl_166 9 (q2 := (12, [some (.ref 110), some (.int p1), some (.int p2)], [.int (((kI 0) + ((kI 6) * p1)) + p2), .ref 111], SH, w)) rfl ?_
  refine EV.iaload cl_166 rfl rfl (by decide) (i1) ?_
  refine EV.ret cl_166 rfl rfl rfl ?_
  exact ⟨rfl, rfl, rfl⟩
set_option maxRecDepth 20000 in
theorem cl_169 : RCT[169]? = some rc_169 := rfl
def F_169_110 (p1 : Int32) (p2 : Int32) (w : Wd) : Int32 := (if (F_157 p1 (kI 0) (kI 5) w) = 0 then (kI 0) else (if (F_157 p2 (kI 0) (kI 9999) w) = 0 then (kI 0) else (kI 1)))
def G_169_110 (p1 : Int32) (p2 : Int32) (w : Wd) : Wd := (if (F_157 p1 (kI 0) (kI 5) w) = 0 then w else (if (F_157 p2 (kI 0) (kI 9999) w) = 0 then w else (up2 (up2 w 110 6 ((w 110 6) ||| ((kI 1) <<< (p1 &&& 31)))) 114 p1.toNatClampNeg p2)))
theorem z1_169_110 (p1 : Int32) (p2 : Int32) (w : Wd) : F_169_110 p1 p2 w = 0 ∨ F_169_110 p1 p2 w = 1 := by
  unfold F_169_110
  (repeat' split) <;> first | exact Or.inl rfl | exact Or.inr rfl
theorem m_169_110 {X : Scr} {d : Nat} (w : Wd) (p1 : Int32) (p2 : Int32) : CV X (d + 2) 169 [.ref 110, .int p1, .int p2] SH w (fun r s1 w1 => r = some (.int (F_169_110 p1 p2 w)) ∧ s1 = SH ∧ w1 = G_169_110 p1 p2 w) := by
  refine CV.of rfl ?_
  refine EV.steps cl_169 3 (q2 := (3, [some (.ref 110), some (.int p1), some (.int p2)], [.int (kI 5), .int (kI 0), .int p1], SH, w)) rfl ?_
  refine EV.callF (kc := 157) (av := [.int p1, .int (kI 0), .int (kI 5)]) (r := []) (rv := some (.int (F_157 p1 (kI 0) (kI 5) w))) (w2 := w) cl_169 rfl rfl rfl (m_157 w p1 (kI 0) (kI 5)) ?_
  refine EV.z_eq cl_169 rfl (fun h1 => ?_) (fun h1 => ?_)
  · skip
    refine EV.steps cl_169 1 (q2 := (21, [some (.ref 110), some (.int p1), some (.int p2)], [.int (kI 0)], SH, w)) rfl ?_
    refine EV.ret cl_169 rfl rfl rfl ?_
    exact ⟨(by simp only [F_169_110, if_pos h1]), rfl, (by simp only [G_169_110, if_pos h1])⟩
  · skip
    refine EV.steps cl_169 3 (q2 := (14, [some (.ref 110), some (.int p1), some (.int p2)], [.int (kI 9999), .int (kI 0), .int p2], SH, w)) rfl ?_
    refine EV.callF (kc := 157) (av := [.int p2, .int (kI 0), .int (kI 9999)]) (r := []) (rv := some (.int (F_157 p2 (kI 0) (kI 9999) w))) (w2 := w) cl_169 rfl rfl rfl (m_157 w p2 (kI 0) (kI 9999)) ?_
    refine EV.z_ne cl_169 rfl (fun h2 => ?_) (fun h2 => ?_)
    · skip
      refine EV.steps cl_169 12 (q2 := (40, [some (.ref 110), some (.int p1), some (.int p2)], [.int p2, .int p1, .ref 114], SH, (up2 w 110 6 ((w 110 6) ||| ((kI 1) <<< (p1 &&& 31)))))) rfl ?_
      refine EV.iastore cl_169 rfl rfl (by decide) (ix_157 h1 (by decide)) ?_
      refine EV.steps cl_169 1 (q2 := (42, [some (.ref 110), some (.int p1), some (.int p2)], [.int (kI 1)], SH, (up2 (up2 w 110 6 ((w 110 6) ||| ((kI 1) <<< (p1 &&& 31)))) 114 p1.toNatClampNeg p2))) rfl ?_
      refine EV.ret cl_169 rfl rfl rfl ?_
      exact ⟨(by simp only [F_169_110, if_neg h1, if_neg h2]), rfl, (by simp only [G_169_110, if_neg h1, if_neg h2])⟩
    · skip
      refine EV.steps cl_169 1 (q2 := (21, [some (.ref 110), some (.int p1), some (.int p2)], [.int (kI 0)], SH, w)) rfl ?_
      refine EV.ret cl_169 rfl rfl rfl ?_
      exact ⟨(by simp only [F_169_110, if_neg h1, if_pos h2]), rfl, (by simp only [G_169_110, if_neg h1, if_pos h2])⟩
set_option maxRecDepth 20000 in
theorem cl_170 : RCT[170]? = some rc_170 := rfl
def F_170_110 (p1 : Int32) (p2 : Int32) (p3 : Int32) (w : Wd) : Int32 := (if (F_164_110 p1 w) = 0 then (kI 0) else (if (F_164_110 p2 w) = 0 then (kI 0) else (if p1 = p2 then (kI 0) else (kI 1))))
def G_170_110 (p1 : Int32) (p2 : Int32) (p3 : Int32) (w : Wd) : Wd := (if (F_164_110 p1 w) = 0 then w else (if (F_164_110 p2 w) = 0 then w else (if p1 = p2 then w else (if p3 = 0 then (up2 (up2 w 115 p1.toNatClampNeg ((w 115 p1.toNatClampNeg) &&& (((kI 1) <<< (p2 &&& 31)) ^^^ (kI (-1))))) 115 p2.toNatClampNeg (((up2 w 115 p1.toNatClampNeg ((w 115 p1.toNatClampNeg) &&& (((kI 1) <<< (p2 &&& 31)) ^^^ (kI (-1))))) 115 p2.toNatClampNeg) &&& (((kI 1) <<< (p1 &&& 31)) ^^^ (kI (-1))))) else (up2 (up2 w 115 p1.toNatClampNeg ((w 115 p1.toNatClampNeg) ||| ((kI 1) <<< (p2 &&& 31)))) 115 p2.toNatClampNeg (((up2 w 115 p1.toNatClampNeg ((w 115 p1.toNatClampNeg) ||| ((kI 1) <<< (p2 &&& 31)))) 115 p2.toNatClampNeg) ||| ((kI 1) <<< (p1 &&& 31))))))))
theorem z1_170_110 (p1 : Int32) (p2 : Int32) (p3 : Int32) (w : Wd) : F_170_110 p1 p2 p3 w = 0 ∨ F_170_110 p1 p2 p3 w = 1 := by
  unfold F_170_110
  (repeat' split) <;> first | exact Or.inl rfl | exact Or.inr rfl
theorem m_170_110 {X : Scr} {d : Nat} (w : Wd) (p1 : Int32) (p2 : Int32) (p3 : Int32) (i1 : ¬ (F_164_110 p1 w) = 0 → ¬ (F_164_110 p2 w) = 0 → ¬ p1 = p2 → p3 = 0 → (inB p1 6 = true)) (i2 : ¬ (F_164_110 p1 w) = 0 → ¬ (F_164_110 p2 w) = 0 → ¬ p1 = p2 → p3 = 0 → (inB p2 6 = true)) (i3 : ¬ (F_164_110 p1 w) = 0 → ¬ (F_164_110 p2 w) = 0 → ¬ p1 = p2 → ¬ p3 = 0 → (inB p1 6 = true)) (i4 : ¬ (F_164_110 p1 w) = 0 → ¬ (F_164_110 p2 w) = 0 → ¬ p1 = p2 → ¬ p3 = 0 → (inB p2 6 = true)) : CV X (d + 3) 170 [.ref 110, .int p1, .int p2, .int p3] SH w (fun r s1 w1 => r = some (.int (F_170_110 p1 p2 p3 w)) ∧ s1 = SH ∧ w1 = G_170_110 p1 p2 p3 w) := by
  refine CV.of rfl ?_
  refine EV.steps cl_170 2 (q2 := (2, [some (.ref 110), some (.int p1), some (.int p2), some (.int p3)], [.int p1, .ref 110], SH, w)) rfl ?_
  refine EV.callF (kc := 164) (av := [.ref 110, .int p1]) (r := []) (rv := some (.int (F_164_110 p1 w))) (w2 := w) cl_170 rfl rfl rfl (m_164_110 w p1) ?_
  refine EV.z_eq cl_170 rfl (fun h1 => ?_) (fun h1 => ?_)
  · skip
    refine EV.steps cl_170 1 (q2 := (22, [some (.ref 110), some (.int p1), some (.int p2), some (.int p3)], [.int (kI 0)], SH, w)) rfl ?_
    refine EV.ret cl_170 rfl rfl rfl ?_
    exact ⟨(by simp only [F_170_110, if_pos h1]), rfl, (by simp only [G_170_110, if_pos h1])⟩
  · skip
    refine EV.steps cl_170 2 (q2 := (10, [some (.ref 110), some (.int p1), some (.int p2), some (.int p3)], [.int p2, .ref 110], SH, w)) rfl ?_
    refine EV.callF (kc := 164) (av := [.ref 110, .int p2]) (r := []) (rv := some (.int (F_164_110 p2 w))) (w2 := w) cl_170 rfl rfl rfl (m_164_110 w p2) ?_
    refine EV.z_eq cl_170 rfl (fun h2 => ?_) (fun h2 => ?_)
    · skip
      refine EV.steps cl_170 1 (q2 := (22, [some (.ref 110), some (.int p1), some (.int p2), some (.int p3)], [.int (kI 0)], SH, w)) rfl ?_
      refine EV.ret cl_170 rfl rfl rfl ?_
      exact ⟨(by simp only [F_170_110, if_neg h1, if_pos h2]), rfl, (by simp only [G_170_110, if_neg h1, if_pos h2])⟩
    · skip
      refine EV.steps cl_170 2 (q2 := (18, [some (.ref 110), some (.int p1), some (.int p2), some (.int p3)], [.int p2, .int p1], SH, w)) rfl ?_
      refine EV.i_ne cl_170 rfl (fun h3 => ?_) (fun h3 => ?_)
      · skip
        refine EV.steps cl_170 4 (q2 := (29, [some (.ref 110), some (.int p1), some (.int p2), some (.int p3)], [.int p3, .int p1, .ref 115], SH, w)) rfl ?_
        refine EV.z_eq cl_170 rfl (fun h4 => ?_) (fun h4 => ?_)
        · skip
          refine EV.steps cl_170 3 (q2 := (50, [some (.ref 110), some (.int p1), some (.int p2), some (.int p3)], [.int p1, .ref 115, .int p1, .ref 115], SH, w)) rfl ?_
          refine EV.iaload cl_170 rfl rfl (by decide) (i1 h1 h2 h3 h4) ?_
          refine EV.steps cl_170 6 (q2 := (57, [some (.ref 110), some (.int p1), some (.int p2), some (.int p3)], [.int ((w 115 p1.toNatClampNeg) &&& (((kI 1) <<< (p2 &&& 31)) ^^^ (kI (-1)))), .int p1, .ref 115], SH, w)) rfl ?_
          refine EV.iastore cl_170 rfl rfl (by decide) (i1 h1 h2 h3 h4) ?_
          refine EV.steps cl_170 4 (q2 := (64, [some (.ref 110), some (.int p1), some (.int p2), some (.int p3)], [.int p3, .int p2, .ref 115], SH, (up2 w 115 p1.toNatClampNeg ((w 115 p1.toNatClampNeg) &&& (((kI 1) <<< (p2 &&& 31)) ^^^ (kI (-1))))))) rfl ?_
          refine EV.z_eq cl_170 rfl (fun h5 => ?_) (fun h5 => ?_)
          · skip
            refine EV.steps cl_170 3 (q2 := (85, [some (.ref 110), some (.int p1), some (.int p2), some (.int p3)], [.int p2, .ref 115, .int p2, .ref 115], SH, (up2 w 115 p1.toNatClampNeg ((w 115 p1.toNatClampNeg) &&& (((kI 1) <<< (p2 &&& 31)) ^^^ (kI (-1))))))) rfl ?_
            refine EV.iaload cl_170 rfl rfl (by decide) (i2 h1 h2 h3 h4) ?_
            refine EV.steps cl_170 6 (q2 := (92, [some (.ref 110), some (.int p1), some (.int p2), some (.int p3)], [.int (((up2 w 115 p1.toNatClampNeg ((w 115 p1.toNatClampNeg) &&& (((kI 1) <<< (p2 &&& 31)) ^^^ (kI (-1))))) 115 p2.toNatClampNeg) &&& (((kI 1) <<< (p1 &&& 31)) ^^^ (kI (-1)))), .int p2, .ref 115], SH, (up2 w 115 p1.toNatClampNeg ((w 115 p1.toNatClampNeg) &&& (((kI 1) <<< (p2 &&& 31)) ^^^ (kI (-1))))))) rfl ?_
            refine EV.iastore cl_170 rfl rfl (by decide) (i2 h1 h2 h3 h4) ?_
            refine EV.steps cl_170 1 (q2 := (94, [some (.ref 110), some (.int p1), some (.int p2), some (.int p3)], [.int (kI 1)], SH, (up2 (up2 w 115 p1.toNatClampNeg ((w 115 p1.toNatClampNeg) &&& (((kI 1) <<< (p2 &&& 31)) ^^^ (kI (-1))))) 115 p2.toNatClampNeg (((up2 w 115 p1.toNatClampNeg ((w 115 p1.toNatClampNeg) &&& (((kI 1) <<< (p2 &&& 31)) ^^^ (kI (-1))))) 115 p2.toNatClampNeg) &&& (((kI 1) <<< (p1 &&& 31)) ^^^ (kI (-1))))))) rfl ?_
            refine EV.ret cl_170 rfl rfl rfl ?_
            exact ⟨(by simp only [F_170_110, if_neg h1, if_neg h2, if_neg h3, if_pos h4]), rfl, (by simp only [G_170_110, if_neg h1, if_neg h2, if_neg h3, if_pos h4])⟩
          · skip
            exact absurd h4 h5
        · skip
          refine EV.steps cl_170 3 (q2 := (37, [some (.ref 110), some (.int p1), some (.int p2), some (.int p3)], [.int p1, .ref 115, .int p1, .ref 115], SH, w)) rfl ?_
          refine EV.iaload cl_170 rfl rfl (by decide) (i3 h1 h2 h3 h4) ?_
          refine EV.steps cl_170 5 (q2 := (57, [some (.ref 110), some (.int p1), some (.int p2), some (.int p3)], [.int ((w 115 p1.toNatClampNeg) ||| ((kI 1) <<< (p2 &&& 31))), .int p1, .ref 115], SH, w)) rfl ?_
          refine EV.iastore cl_170 rfl rfl (by decide) (i3 h1 h2 h3 h4) ?_
          refine EV.steps cl_170 4 (q2 := (64, [some (.ref 110), some (.int p1), some (.int p2), some (.int p3)], [.int p3, .int p2, .ref 115], SH, (up2 w 115 p1.toNatClampNeg ((w 115 p1.toNatClampNeg) ||| ((kI 1) <<< (p2 &&& 31)))))) rfl ?_
          refine EV.z_eq cl_170 rfl (fun h6 => ?_) (fun h6 => ?_)
          · skip
            exact absurd h6 h4
          · skip
            refine EV.steps cl_170 3 (q2 := (72, [some (.ref 110), some (.int p1), some (.int p2), some (.int p3)], [.int p2, .ref 115, .int p2, .ref 115], SH, (up2 w 115 p1.toNatClampNeg ((w 115 p1.toNatClampNeg) ||| ((kI 1) <<< (p2 &&& 31)))))) rfl ?_
            refine EV.iaload cl_170 rfl rfl (by decide) (i4 h1 h2 h3 h4) ?_
            refine EV.steps cl_170 5 (q2 := (92, [some (.ref 110), some (.int p1), some (.int p2), some (.int p3)], [.int (((up2 w 115 p1.toNatClampNeg ((w 115 p1.toNatClampNeg) ||| ((kI 1) <<< (p2 &&& 31)))) 115 p2.toNatClampNeg) ||| ((kI 1) <<< (p1 &&& 31))), .int p2, .ref 115], SH, (up2 w 115 p1.toNatClampNeg ((w 115 p1.toNatClampNeg) ||| ((kI 1) <<< (p2 &&& 31)))))) rfl ?_
            refine EV.iastore cl_170 rfl rfl (by decide) (i4 h1 h2 h3 h4) ?_
            refine EV.steps cl_170 1 (q2 := (94, [some (.ref 110), some (.int p1), some (.int p2), some (.int p3)], [.int (kI 1)], SH, (up2 (up2 w 115 p1.toNatClampNeg ((w 115 p1.toNatClampNeg) ||| ((kI 1) <<< (p2 &&& 31)))) 115 p2.toNatClampNeg (((up2 w 115 p1.toNatClampNeg ((w 115 p1.toNatClampNeg) ||| ((kI 1) <<< (p2 &&& 31)))) 115 p2.toNatClampNeg) ||| ((kI 1) <<< (p1 &&& 31)))))) rfl ?_
            refine EV.ret cl_170 rfl rfl rfl ?_
            exact ⟨(by simp only [F_170_110, if_neg h1, if_neg h2, if_neg h3, if_neg h4]), rfl, (by simp only [G_170_110, if_neg h1, if_neg h2, if_neg h3, if_neg h4])⟩
      · skip
        refine EV.steps cl_170 1 (q2 := (22, [some (.ref 110), some (.int p1), some (.int p2), some (.int p3)], [.int (kI 0)], SH, w)) rfl ?_
        refine EV.ret cl_170 rfl rfl rfl ?_
        exact ⟨(by simp only [F_170_110, if_neg h1, if_neg h2, if_pos h3]), rfl, (by simp only [G_170_110, if_neg h1, if_neg h2, if_pos h3])⟩
set_option maxRecDepth 20000 in
theorem cl_171 : RCT[171]? = some rc_171 := rfl
def F_171_110 (p1 : Int32) (p2 : Int32) (w : Wd) : Int32 := (if (F_157 p1 (kI 0) (kI 5) w) = 0 then (kI 0) else (if (F_157 p2 (kI 0) (kI 9999) w) = 0 then (kI 0) else (kI 1)))
def G_171_110 (p1 : Int32) (p2 : Int32) (w : Wd) : Wd := (if (F_157 p1 (kI 0) (kI 5) w) = 0 then w else (if (F_157 p2 (kI 0) (kI 9999) w) = 0 then w else (up2 (up2 w 110 7 ((w 110 7) ||| ((kI 1) <<< (p1 &&& 31)))) 116 p1.toNatClampNeg p2)))
theorem z1_171_110 (p1 : Int32) (p2 : Int32) (w : Wd) : F_171_110 p1 p2 w = 0 ∨ F_171_110 p1 p2 w = 1 := by
  unfold F_171_110
  (repeat' split) <;> first | exact Or.inl rfl | exact Or.inr rfl
theorem m_171_110 {X : Scr} {d : Nat} (w : Wd) (p1 : Int32) (p2 : Int32) : CV X (d + 2) 171 [.ref 110, .int p1, .int p2] SH w (fun r s1 w1 => r = some (.int (F_171_110 p1 p2 w)) ∧ s1 = SH ∧ w1 = G_171_110 p1 p2 w) := by
  refine CV.of rfl ?_
  refine EV.steps cl_171 3 (q2 := (3, [some (.ref 110), some (.int p1), some (.int p2)], [.int (kI 5), .int (kI 0), .int p1], SH, w)) rfl ?_
  refine EV.callF (kc := 157) (av := [.int p1, .int (kI 0), .int (kI 5)]) (r := []) (rv := some (.int (F_157 p1 (kI 0) (kI 5) w))) (w2 := w) cl_171 rfl rfl rfl (m_157 w p1 (kI 0) (kI 5)) ?_
  refine EV.z_eq cl_171 rfl (fun h1 => ?_) (fun h1 => ?_)
  · skip
    refine EV.steps cl_171 1 (q2 := (21, [some (.ref 110), some (.int p1), some (.int p2)], [.int (kI 0)], SH, w)) rfl ?_
    refine EV.ret cl_171 rfl rfl rfl ?_
    exact ⟨(by simp only [F_171_110, if_pos h1]), rfl, (by simp only [G_171_110, if_pos h1])⟩
  · skip
    refine EV.steps cl_171 3 (q2 := (14, [some (.ref 110), some (.int p1), some (.int p2)], [.int (kI 9999), .int (kI 0), .int p2], SH, w)) rfl ?_
    refine EV.callF (kc := 157) (av := [.int p2, .int (kI 0), .int (kI 9999)]) (r := []) (rv := some (.int (F_157 p2 (kI 0) (kI 9999) w))) (w2 := w) cl_171 rfl rfl rfl (m_157 w p2 (kI 0) (kI 9999)) ?_
    refine EV.z_ne cl_171 rfl (fun h2 => ?_) (fun h2 => ?_)
    · skip
      refine EV.steps cl_171 12 (q2 := (40, [some (.ref 110), some (.int p1), some (.int p2)], [.int p2, .int p1, .ref 116], SH, (up2 w 110 7 ((w 110 7) ||| ((kI 1) <<< (p1 &&& 31)))))) rfl ?_
      refine EV.iastore cl_171 rfl rfl (by decide) (ix_157 h1 (by decide)) ?_
      refine EV.steps cl_171 1 (q2 := (42, [some (.ref 110), some (.int p1), some (.int p2)], [.int (kI 1)], SH, (up2 (up2 w 110 7 ((w 110 7) ||| ((kI 1) <<< (p1 &&& 31)))) 116 p1.toNatClampNeg p2))) rfl ?_
      refine EV.ret cl_171 rfl rfl rfl ?_
      exact ⟨(by simp only [F_171_110, if_neg h1, if_neg h2]), rfl, (by simp only [G_171_110, if_neg h1, if_neg h2])⟩
    · skip
      refine EV.steps cl_171 1 (q2 := (21, [some (.ref 110), some (.int p1), some (.int p2)], [.int (kI 0)], SH, w)) rfl ?_
      refine EV.ret cl_171 rfl rfl rfl ?_
      exact ⟨(by simp only [F_171_110, if_neg h1, if_pos h2]), rfl, (by simp only [G_171_110, if_neg h1, if_pos h2])⟩
set_option maxRecDepth 20000 in
theorem cl_172 : RCT[172]? = some rc_172 := rfl
def F_172_110 (p1 : Int32) (w : Wd) : Int32 := (if (F_157 p1 (kI 0) (kI 9999) w) = 0 then (kI 0) else (kI 1))
def G_172_110 (p1 : Int32) (w : Wd) : Wd := (if (F_157 p1 (kI 0) (kI 9999) w) = 0 then w else (up2 (up2 w 110 8 p1) 111 (kI 159).toNatClampNeg p1))
theorem z1_172_110 (p1 : Int32) (w : Wd) : F_172_110 p1 w = 0 ∨ F_172_110 p1 w = 1 := by
  unfold F_172_110
  (repeat' split) <;> first | exact Or.inl rfl | exact Or.inr rfl
theorem m_172_110 {X : Scr} {d : Nat} (w : Wd) (p1 : Int32) : CV X (d + 2) 172 [.ref 110, .int p1] SH w (fun r s1 w1 => r = some (.int (F_172_110 p1 w)) ∧ s1 = SH ∧ w1 = G_172_110 p1 w) := by
  refine CV.of rfl ?_
  refine EV.steps cl_172 3 (q2 := (5, [some (.ref 110), some (.int p1)], [.int (kI 9999), .int (kI 0), .int p1], SH, w)) rfl ?_
  refine EV.callF (kc := 157) (av := [.int p1, .int (kI 0), .int (kI 9999)]) (r := []) (rv := some (.int (F_157 p1 (kI 0) (kI 9999) w))) (w2 := w) cl_172 rfl rfl rfl (m_157 w p1 (kI 0) (kI 9999)) ?_
  refine EV.z_ne cl_172 rfl (fun h1 => ?_) (fun h1 => ?_)
  · skip
    refine EV.steps cl_172 7 (q2 := (26, [some (.ref 110), some (.int p1)], [.int p1, .int (kI 159), .ref 111], SH, (up2 w 110 8 p1))) rfl ?_
    refine EV.iastore cl_172 rfl rfl (by decide) rfl ?_
    refine EV.steps cl_172 1 (q2 := (28, [some (.ref 110), some (.int p1)], [.int (kI 1)], SH, (up2 (up2 w 110 8 p1) 111 (kI 159).toNatClampNeg p1))) rfl ?_
    refine EV.ret cl_172 rfl rfl rfl ?_
    exact ⟨(by simp only [F_172_110, if_neg h1]), rfl, (by simp only [G_172_110, if_neg h1])⟩
  · skip
    refine EV.steps cl_172 1 (q2 := (12, [some (.ref 110), some (.int p1)], [.int (kI 0)], SH, w)) rfl ?_
    refine EV.ret cl_172 rfl rfl rfl ?_
    exact ⟨(by simp only [F_172_110, if_pos h1]), rfl, (by simp only [G_172_110, if_pos h1])⟩
set_option maxRecDepth 20000 in
theorem cl_175 : RCT[175]? = some rc_175 := rfl
def F_175_110  (w : Wd) : Int32 := (if (w 110 12) ≤ (w 110 11) then (kI (-1)) else ((w 117 (w 110 11).toNatClampNeg) &&& (kI 255)))
theorem m_175_110 {X : Scr} {d : Nat} (w : Wd)  (i1 : ¬ (w 110 12) ≤ (w 110 11) → (inB (w 110 11) 260 = true)) : CV X (d + 1) 175 [.ref 110] SH w (fun r s1 w1 => r = some (.int (F_175_110 w)) ∧ s1 = SH ∧ w1 = w) := by
  refine CV.of rfl ?_
  refine EV.steps cl_175 4 (q2 := (8, [some (.ref 110)], [.int (w 110 12), .int (w 110 11)], SH, w)) rfl ?_
  refine EV.i_ge cl_175 rfl (fun h1 => ?_) (fun h1 => ?_)
  · skip
    refine EV.steps cl_175 1 (q2 := (28, [some (.ref 110)], [.int (kI (-1))], SH, w)) rfl ?_
    refine EV.ret cl_175 rfl rfl rfl ?_
    exact ⟨(by simp only [F_175_110, if_pos h1]), rfl, rfl⟩
  · skip
    refine EV.steps cl_175 4 (q2 := (19, [some (.ref 110)], [.int (w 110 11), .ref 117], SH, w)) rfl ?_
    refine EV.baload cl_175 rfl rfl (by decide) (i1 h1) ?_
    refine EV.steps cl_175 3 (q2 := (28, [some (.ref 110)], [.int ((w 117 (w 110 11).toNatClampNeg) &&& (kI 255))], SH, w)) rfl ?_
    refine EV.ret cl_175 rfl rfl rfl ?_
    exact ⟨(by simp only [F_175_110, if_neg h1]), rfl, rfl⟩
set_option maxRecDepth 20000 in
theorem cl_176 : RCT[176]? = some rc_176 := rfl
def F_176_110  (w : Wd) : Int32 := (if (F_175_110 w) < (kI 48) then (kI 0) else (if (kI 57) < (F_175_110 w) then (kI 0) else (kI 1)))
theorem z1_176_110  (w : Wd) : F_176_110 w = 0 ∨ F_176_110 w = 1 := by
  unfold F_176_110
  (repeat' split) <;> first | exact Or.inl rfl | exact Or.inr rfl
theorem m_176_110 {X : Scr} {d : Nat} (w : Wd)  (i1 : (¬ (w 110 12) ≤ (w 110 11) → (inB (w 110 11) 260 = true))) (i2 : ¬ (F_175_110 w) < (kI 48) → (¬ (w 110 12) ≤ (w 110 11) → (inB (w 110 11) 260 = true))) : CV X (d + 2) 176 [.ref 110] SH w (fun r s1 w1 => r = some (.int (F_176_110 w)) ∧ s1 = SH ∧ w1 = w) := by
  refine CV.of rfl ?_
  refine EV.steps cl_176 1 (q2 := (1, [some (.ref 110)], [.ref 110], SH, w)) rfl ?_
  refine EV.callF (kc := 175) (av := [.ref 110]) (r := []) (rv := some (.int (F_175_110 w))) (w2 := w) cl_176 rfl rfl rfl (m_175_110 w  (i1)) ?_
  refine EV.steps cl_176 1 (q2 := (6, [some (.ref 110)], [.int (kI 48), .int (F_175_110 w)], SH, w)) rfl ?_
  refine EV.i_lt cl_176 rfl (fun h1 => ?_) (fun h1 => ?_)
  · skip
    refine EV.steps cl_176 1 (q2 := (23, [some (.ref 110)], [.int (kI 0)], SH, w)) rfl ?_
    refine EV.ret cl_176 rfl rfl rfl ?_
    exact ⟨(by simp only [F_176_110, if_pos h1]), rfl, rfl⟩
  · skip
    refine EV.steps cl_176 1 (q2 := (10, [some (.ref 110)], [.ref 110], SH, w)) rfl ?_
    refine EV.callF (kc := 175) (av := [.ref 110]) (r := []) (rv := some (.int (F_175_110 w))) (w2 := w) cl_176 rfl rfl rfl (m_175_110 w  (i2 h1)) ?_
    refine EV.steps cl_176 1 (q2 := (15, [some (.ref 110)], [.int (kI 57), .int (F_175_110 w)], SH, w)) rfl ?_
    refine EV.i_gt cl_176 rfl (fun h2 => ?_) (fun h2 => ?_)
    · skip
      refine EV.steps cl_176 1 (q2 := (23, [some (.ref 110)], [.int (kI 0)], SH, w)) rfl ?_
      refine EV.ret cl_176 rfl rfl rfl ?_
      exact ⟨(by simp only [F_176_110, if_neg h1, if_pos h2]), rfl, rfl⟩
    · skip
      refine EV.steps cl_176 2 (q2 := (23, [some (.ref 110)], [.int (kI 1)], SH, w)) rfl ?_
      refine EV.ret cl_176 rfl rfl rfl ?_
      exact ⟨(by simp only [F_176_110, if_neg h1, if_neg h2]), rfl, rfl⟩
set_option maxRecDepth 20000 in
theorem cl_177 : RCT[177]? = some rc_177 := rfl
def F_177_110 (p1 : Int32) (p2 : Int32) (w : Wd) : Int32 := (kI 0)
def G_177_110 (p1 : Int32) (p2 : Int32) (w : Wd) : Wd := (up2 w 110 13 (((kI (-1000)) * p1) - p2))
theorem z1_177_110 (p1 : Int32) (p2 : Int32) (w : Wd) : F_177_110 p1 p2 w = 0 ∨ F_177_110 p1 p2 w = 1 := by
  unfold F_177_110
  (repeat' split) <;> first | exact Or.inl rfl | exact Or.inr rfl
theorem m_177_110 {X : Scr} {d : Nat} (w : Wd) (p1 : Int32) (p2 : Int32) : CV X (d + 1) 177 [.ref 110, .int p1, .int p2] SH w (fun r s1 w1 => r = some (.int (F_177_110 p1 p2 w)) ∧ s1 = SH ∧ w1 = G_177_110 p1 p2 w) := by
  refine CV.of rfl ?_
  refine EV.steps cl_177 8 (q2 := (12, [some (.ref 110), some (.int p1), some (.int p2)], [.int (kI 0)], SH, (up2 w 110 13 (((kI (-1000)) * p1) - p2)))) rfl ?_
  refine EV.ret cl_177 rfl rfl rfl ?_
  exact ⟨rfl, rfl, rfl⟩
set_option maxRecDepth 20000 in
theorem cl_178 : RCT[178]? = some rc_178 := rfl
def F_178_110 (p1 : Int32) (w : Wd) : Int32 := (if (F_175_110 w) = p1 then (kI 1) else (F_177_110 (kI 1) (w 110 11) w))
def G_178_110 (p1 : Int32) (w : Wd) : Wd := (if (F_175_110 w) = p1 then (up2 w 110 11 ((w 110 11) + (kI 1))) else (G_177_110 (kI 1) (w 110 11) w))
theorem z1_178_110 (p1 : Int32) (w : Wd) : F_178_110 p1 w = 0 ∨ F_178_110 p1 w = 1 := by
  unfold F_178_110
  (repeat' split) <;> first | exact Or.inl rfl | exact Or.inr rfl | exact z1_177_110 (kI 1) (w 110 11) w
theorem m_178_110 {X : Scr} {d : Nat} (w : Wd) (p1 : Int32) (i1 : (¬ (w 110 12) ≤ (w 110 11) → (inB (w 110 11) 260 = true))) : CV X (d + 2) 178 [.ref 110, .int p1] SH w (fun r s1 w1 => r = some (.int (F_178_110 p1 w)) ∧ s1 = SH ∧ w1 = G_178_110 p1 w) := by
  refine CV.of rfl ?_
  refine EV.steps cl_178 1 (q2 := (1, [some (.ref 110), some (.int p1)], [.ref 110], SH, w)) rfl ?_
  refine EV.callF (kc := 175) (av := [.ref 110]) (r := []) (rv := some (.int (F_175_110 w))) (w2 := w) cl_178 rfl rfl rfl (m_175_110 w  (i1)) ?_
  refine EV.steps cl_178 1 (q2 := (5, [some (.ref 110), some (.int p1)], [.int p1, .int (F_175_110 w)], SH, w)) rfl ?_
  refine EV.i_eq cl_178 rfl (fun h1 => ?_) (fun h1 => ?_)
  · skip
    refine EV.steps cl_178 7 (q2 := (29, [some (.ref 110), some (.int p1)], [.int (kI 1)], SH, (up2 w 110 11 ((w 110 11) + (kI 1))))) rfl ?_
    refine EV.ret cl_178 rfl rfl rfl ?_
    exact ⟨(by simp only [F_178_110, if_pos h1]), rfl, (by simp only [G_178_110, if_pos h1])⟩
  · skip
    refine EV.steps cl_178 4 (q2 := (14, [some (.ref 110), some (.int p1)], [.int (w 110 11), .int (kI 1), .ref 110], SH, w)) rfl ?_
    refine EV.callF (kc := 177) (av := [.ref 110, .int (kI 1), .int (w 110 11)]) (r := []) (rv := some (.int (F_177_110 (kI 1) (w 110 11) w))) (w2 := (G_177_110 (kI 1) (w 110 11) w)) cl_178 rfl rfl rfl (m_177_110 w (kI 1) (w 110 11)) ?_
    refine EV.retB cl_178 rfl rfl (z1_177_110 (kI 1) (w 110 11) w) ?_
    exact ⟨(by simp only [F_178_110, if_neg h1]), rfl, (by simp only [G_178_110, if_neg h1])⟩
set_option maxRecDepth 20000 in
theorem cl_180 : RCT[180]? = some rc_180 := rfl
def G_180_110 (p1 : Int32) (p2 : Int32) (w : Wd) : Wd := (up2 (up2 w 118 (w 110 16).toNatClampNeg (((kI 1048576) * p1) + p2)) 110 16 ((w 110 16) + (kI 1)))
theorem m_180_110 {X : Scr} {d : Nat} (w : Wd) (p1 : Int32) (p2 : Int32) (i1 : (inB (w 110 16) 260 = true)) : CV X (d + 1) 180 [.ref 110, .int p1, .int p2] SH w (fun r s1 w1 => r = none ∧ s1 = SH ∧ w1 = G_180_110 p1 p2 w) := by
  refine CV.of rfl ?_
  refine EV.steps cl_180 9 (q2 := (14, [some (.ref 110), some (.int p1), some (.int p2)], [.int (((kI 1048576) * p1) + p2), .int (w 110 16), .ref 118], SH, w)) rfl ?_
  refine EV.iastore cl_180 rfl rfl (by decide) (i1) ?_
  refine EV.steps cl_180 6 (q2 := (25, [some (.ref 110), some (.int p1), some (.int p2)], [], SH, (up2 (up2 w 118 (w 110 16).toNatClampNeg (((kI 1048576) * p1) + p2)) 110 16 ((w 110 16) + (kI 1))))) rfl ?_
  refine EV.ret cl_180 rfl rfl rfl ?_
  exact ⟨rfl, rfl, rfl⟩
set_option maxRecDepth 20000 in
theorem cl_181 : RCT[181]? = some rc_181 := rfl
def F_181_110 (p1 : Int32) (w : Wd) : Int32 := (if (w 110 15) = (kI 6) then (F_177_110 (kI 5) (w 110 11) w) else (kI 1))
def G_181_110 (p1 : Int32) (w : Wd) : Wd := (if (w 110 15) = (kI 6) then (G_177_110 (kI 5) (w 110 11) w) else (up2 (up2 (up2 (up2 w 110 15 ((w 110 15) + (kI 1))) 119 (w 110 17).toNatClampNeg ((kI 1048576) * p1)) 110 17 ((w 110 17) + (kI 1))) 110 11 ((w 110 11) + (kI 1))))
theorem z1_181_110 (p1 : Int32) (w : Wd) : F_181_110 p1 w = 0 ∨ F_181_110 p1 w = 1 := by
  unfold F_181_110
  (repeat' split) <;> first | exact Or.inl rfl | exact Or.inr rfl | exact z1_177_110 (kI 5) (w 110 11) w
theorem m_181_110 {X : Scr} {d : Nat} (w : Wd) (p1 : Int32) (i1 : ¬ (w 110 15) = (kI 6) → (inB (w 110 17) 260 = true)) : CV X (d + 2) 181 [.ref 110, .int p1] SH w (fun r s1 w1 => r = some (.int (F_181_110 p1 w)) ∧ s1 = SH ∧ w1 = G_181_110 p1 w) := by
  refine CV.of rfl ?_
  refine EV.steps cl_181 3 (q2 := (6, [some (.ref 110), some (.int p1)], [.int (kI 6), .int (w 110 15)], SH, w)) rfl ?_
  refine EV.i_ne cl_181 rfl (fun h1 => ?_) (fun h1 => ?_)
  · skip
    refine EV.steps cl_181 13 (q2 := (41, [some (.ref 110), some (.int p1)], [.int ((kI 1048576) * p1), .int (w 110 17), .ref 119], SH, (up2 w 110 15 ((w 110 15) + (kI 1))))) rfl ?_
    refine EV.iastore cl_181 rfl rfl (by decide) (i1 h1) ?_
    refine EV.steps cl_181 13 (q2 := (63, [some (.ref 110), some (.int p1)], [.int (kI 1)], SH, (up2 (up2 (up2 (up2 w 110 15 ((w 110 15) + (kI 1))) 119 (w 110 17).toNatClampNeg ((kI 1048576) * p1)) 110 17 ((w 110 17) + (kI 1))) 110 11 ((w 110 11) + (kI 1))))) rfl ?_
    refine EV.ret cl_181 rfl rfl rfl ?_
    exact ⟨(by simp only [F_181_110, if_neg h1]), rfl, (by simp only [G_181_110, if_neg h1])⟩
  · skip
    refine EV.steps cl_181 4 (q2 := (15, [some (.ref 110), some (.int p1)], [.int (w 110 11), .int (kI 5), .ref 110], SH, w)) rfl ?_
    refine EV.callF (kc := 177) (av := [.ref 110, .int (kI 5), .int (w 110 11)]) (r := []) (rv := some (.int (F_177_110 (kI 5) (w 110 11) w))) (w2 := (G_177_110 (kI 5) (w 110 11) w)) cl_181 rfl rfl rfl (m_177_110 w (kI 5) (w 110 11)) ?_
    refine EV.retB cl_181 rfl rfl (z1_177_110 (kI 5) (w 110 11) w) ?_
    exact ⟨(by simp only [F_181_110, if_pos h1]), rfl, (by simp only [G_181_110, if_pos h1])⟩
set_option maxRecDepth 20000 in
theorem cl_182 : RCT[182]? = some rc_182 := rfl
def F_182_110  (w : Wd) : Int32 := (if (w 110 17) = 0 then (kI (-1)) else ((w 119 ((w 110 17) - (kI 1)).toNatClampNeg) / (kI 1048576)))
theorem m_182_110 {X : Scr} {d : Nat} (w : Wd)  (i1 : ¬ (w 110 17) = 0 → (inB ((w 110 17) - (kI 1)) 260 = true)) : CV X (d + 1) 182 [.ref 110] SH w (fun r s1 w1 => r = some (.int (F_182_110 w)) ∧ s1 = SH ∧ w1 = w) := by
  refine CV.of rfl ?_
  refine EV.steps cl_182 2 (q2 := (4, [some (.ref 110)], [.int (w 110 17)], SH, w)) rfl ?_
  refine EV.z_ne cl_182 rfl (fun h1 => ?_) (fun h1 => ?_)
  · skip
    refine EV.steps cl_182 6 (q2 := (21, [some (.ref 110)], [.int ((w 110 17) - (kI 1)), .ref 119], SH, w)) rfl ?_
    refine EV.iaload cl_182 rfl rfl (by decide) (i1 h1) ?_
    refine EV.steps cl_182 1 (q2 := (24, [some (.ref 110)], [.int (kI 1048576), .int (w 119 ((w 110 17) - (kI 1)).toNatClampNeg)], SH, w)) rfl ?_
    refine EV.idiv cl_182 rfl (by decide) ?_
    refine EV.ret cl_182 rfl rfl rfl ?_
    exact ⟨(by simp only [F_182_110, if_neg h1]), rfl, rfl⟩
  · skip
    refine EV.steps cl_182 2 (q2 := (25, [some (.ref 110)], [.int (kI (-1))], SH, w)) rfl ?_
    refine EV.ret cl_182 rfl rfl rfl ?_
    exact ⟨(by simp only [F_182_110, if_pos h1]), rfl, rfl⟩
set_option maxRecDepth 20000 in
theorem cl_183 : RCT[183]? = some rc_183 := rfl
def F_183 (p1 : Int32) (w : Wd) : Int32 := (if p1 = (kI 97) then (kI 2) else (if p1 = (kI 98) then (kI (-1)) else (if p1 = (kI 99) then (kI 0) else (if p1 = (kI 100) then (kI (-1)) else (if p1 = (kI 101) then (kI (-1)) else (if p1 = (kI 102) then (kI 1) else (if p1 = (kI 103) then (kI 9) else (if p1 = (kI 104) then (kI 10) else (if p1 = (kI 105) then (kI (-1)) else (if p1 = (kI 106) then (kI (-1)) else (if p1 = (kI 107) then (kI (-1)) else (if p1 = (kI 108) then (kI (-1)) else (if p1 = (kI 109) then (kI 6) else (if p1 = (kI 110) then (kI (-1)) else (if p1 = (kI 111) then (kI (-1)) else (if p1 = (kI 112) then (kI 5) else (if p1 = (kI 113) then (kI 11) else (if p1 = (kI 114) then (kI 8) else (if p1 = (kI 115) then (kI 3) else (if p1 = (kI 116) then (kI 4) else (if p1 = (kI 117) then (kI (-1)) else (if p1 = (kI 118) then (kI (-1)) else (if p1 = (kI 119) then (kI (-1)) else (if p1 = (kI 120) then (kI (-1)) else (if p1 = (kI 121) then (kI 7) else (kI (-1)))))))))))))))))))))))))))
theorem m_183 {X : Scr} {d : Nat} (w : Wd) (p1 : Int32) : CV X (d + 1) 183 [.int p1] SH w (fun r s1 w1 => r = some (.int (F_183 p1 w)) ∧ s1 = SH ∧ w1 = w) := by
  refine CV.of rfl ?_
  refine EV.steps cl_183 1 (q2 := (1, [some (.int p1)], [.int p1], SH, w)) rfl ?_
  by_cases h1 : p1 = (kI 97)
  · refine EV.swEq (e := (kI 97)) cl_183 rfl rfl h1 rfl ?_
    refine EV.steps cl_183 1 (q2 := (121, [some (.int p1)], [.int (kI 2)], SH, w)) rfl ?_
    refine EV.ret cl_183 rfl rfl rfl ?_
    exact ⟨(by simp only [F_183, if_pos h1]), rfl, rfl⟩
  by_cases h2 : p1 = (kI 98)
  · refine EV.swEq (e := (kI 98)) cl_183 rfl rfl h2 rfl ?_
    refine EV.steps cl_183 1 (q2 := (147, [some (.int p1)], [.int (kI (-1))], SH, w)) rfl ?_
    refine EV.ret cl_183 rfl rfl rfl ?_
    exact ⟨(by simp only [F_183, if_neg h1, if_pos h2]), rfl, rfl⟩
  by_cases h3 : p1 = (kI 99)
  · refine EV.swEq (e := (kI 99)) cl_183 rfl rfl h3 rfl ?_
    refine EV.steps cl_183 1 (q2 := (117, [some (.int p1)], [.int (kI 0)], SH, w)) rfl ?_
    refine EV.ret cl_183 rfl rfl rfl ?_
    exact ⟨(by simp only [F_183, if_neg h1, if_neg h2, if_pos h3]), rfl, rfl⟩
  by_cases h4 : p1 = (kI 100)
  · refine EV.swEq (e := (kI 100)) cl_183 rfl rfl h4 rfl ?_
    refine EV.steps cl_183 1 (q2 := (147, [some (.int p1)], [.int (kI (-1))], SH, w)) rfl ?_
    refine EV.ret cl_183 rfl rfl rfl ?_
    exact ⟨(by simp only [F_183, if_neg h1, if_neg h2, if_neg h3, if_pos h4]), rfl, rfl⟩
  by_cases h5 : p1 = (kI 101)
  · refine EV.swEq (e := (kI 101)) cl_183 rfl rfl h5 rfl ?_
    refine EV.steps cl_183 1 (q2 := (147, [some (.int p1)], [.int (kI (-1))], SH, w)) rfl ?_
    refine EV.ret cl_183 rfl rfl rfl ?_
    exact ⟨(by simp only [F_183, if_neg h1, if_neg h2, if_neg h3, if_neg h4, if_pos h5]), rfl, rfl⟩
  by_cases h6 : p1 = (kI 102)
  · refine EV.swEq (e := (kI 102)) cl_183 rfl rfl h6 rfl ?_
    refine EV.steps cl_183 1 (q2 := (119, [some (.int p1)], [.int (kI 1)], SH, w)) rfl ?_
    refine EV.ret cl_183 rfl rfl rfl ?_
    exact ⟨(by simp only [F_183, if_neg h1, if_neg h2, if_neg h3, if_neg h4, if_neg h5, if_pos h6]), rfl, rfl⟩
  by_cases h7 : p1 = (kI 103)
  · refine EV.swEq (e := (kI 103)) cl_183 rfl rfl h7 rfl ?_
    refine EV.steps cl_183 1 (q2 := (139, [some (.int p1)], [.int (kI 9)], SH, w)) rfl ?_
    refine EV.ret cl_183 rfl rfl rfl ?_
    exact ⟨(by simp only [F_183, if_neg h1, if_neg h2, if_neg h3, if_neg h4, if_neg h5, if_neg h6, if_pos h7]), rfl, rfl⟩
  by_cases h8 : p1 = (kI 104)
  · refine EV.swEq (e := (kI 104)) cl_183 rfl rfl h8 rfl ?_
    refine EV.steps cl_183 1 (q2 := (142, [some (.int p1)], [.int (kI 10)], SH, w)) rfl ?_
    refine EV.ret cl_183 rfl rfl rfl ?_
    exact ⟨(by simp only [F_183, if_neg h1, if_neg h2, if_neg h3, if_neg h4, if_neg h5, if_neg h6, if_neg h7, if_pos h8]), rfl, rfl⟩
  by_cases h9 : p1 = (kI 105)
  · refine EV.swEq (e := (kI 105)) cl_183 rfl rfl h9 rfl ?_
    refine EV.steps cl_183 1 (q2 := (147, [some (.int p1)], [.int (kI (-1))], SH, w)) rfl ?_
    refine EV.ret cl_183 rfl rfl rfl ?_
    exact ⟨(by simp only [F_183, if_neg h1, if_neg h2, if_neg h3, if_neg h4, if_neg h5, if_neg h6, if_neg h7, if_neg h8, if_pos h9]), rfl, rfl⟩
  by_cases h10 : p1 = (kI 106)
  · refine EV.swEq (e := (kI 106)) cl_183 rfl rfl h10 rfl ?_
    refine EV.steps cl_183 1 (q2 := (147, [some (.int p1)], [.int (kI (-1))], SH, w)) rfl ?_
    refine EV.ret cl_183 rfl rfl rfl ?_
    exact ⟨(by simp only [F_183, if_neg h1, if_neg h2, if_neg h3, if_neg h4, if_neg h5, if_neg h6, if_neg h7, if_neg h8, if_neg h9, if_pos h10]), rfl, rfl⟩
  by_cases h11 : p1 = (kI 107)
  · refine EV.swEq (e := (kI 107)) cl_183 rfl rfl h11 rfl ?_
    refine EV.steps cl_183 1 (q2 := (147, [some (.int p1)], [.int (kI (-1))], SH, w)) rfl ?_
    refine EV.ret cl_183 rfl rfl rfl ?_
    exact ⟨(by simp only [F_183, if_neg h1, if_neg h2, if_neg h3, if_neg h4, if_neg h5, if_neg h6, if_neg h7, if_neg h8, if_neg h9, if_neg h10, if_pos h11]), rfl, rfl⟩
  by_cases h12 : p1 = (kI 108)
  · refine EV.swEq (e := (kI 108)) cl_183 rfl rfl h12 rfl ?_
    refine EV.steps cl_183 1 (q2 := (147, [some (.int p1)], [.int (kI (-1))], SH, w)) rfl ?_
    refine EV.ret cl_183 rfl rfl rfl ?_
    exact ⟨(by simp only [F_183, if_neg h1, if_neg h2, if_neg h3, if_neg h4, if_neg h5, if_neg h6, if_neg h7, if_neg h8, if_neg h9, if_neg h10, if_neg h11, if_pos h12]), rfl, rfl⟩
  by_cases h13 : p1 = (kI 109)
  · refine EV.swEq (e := (kI 109)) cl_183 rfl rfl h13 rfl ?_
    refine EV.steps cl_183 1 (q2 := (130, [some (.int p1)], [.int (kI 6)], SH, w)) rfl ?_
    refine EV.ret cl_183 rfl rfl rfl ?_
    exact ⟨(by simp only [F_183, if_neg h1, if_neg h2, if_neg h3, if_neg h4, if_neg h5, if_neg h6, if_neg h7, if_neg h8, if_neg h9, if_neg h10, if_neg h11, if_neg h12, if_pos h13]), rfl, rfl⟩
  by_cases h14 : p1 = (kI 110)
  · refine EV.swEq (e := (kI 110)) cl_183 rfl rfl h14 rfl ?_
    refine EV.steps cl_183 1 (q2 := (147, [some (.int p1)], [.int (kI (-1))], SH, w)) rfl ?_
    refine EV.ret cl_183 rfl rfl rfl ?_
    exact ⟨(by simp only [F_183, if_neg h1, if_neg h2, if_neg h3, if_neg h4, if_neg h5, if_neg h6, if_neg h7, if_neg h8, if_neg h9, if_neg h10, if_neg h11, if_neg h12, if_neg h13, if_pos h14]), rfl, rfl⟩
  by_cases h15 : p1 = (kI 111)
  · refine EV.swEq (e := (kI 111)) cl_183 rfl rfl h15 rfl ?_
    refine EV.steps cl_183 1 (q2 := (147, [some (.int p1)], [.int (kI (-1))], SH, w)) rfl ?_
    refine EV.ret cl_183 rfl rfl rfl ?_
    exact ⟨(by simp only [F_183, if_neg h1, if_neg h2, if_neg h3, if_neg h4, if_neg h5, if_neg h6, if_neg h7, if_neg h8, if_neg h9, if_neg h10, if_neg h11, if_neg h12, if_neg h13, if_neg h14, if_pos h15]), rfl, rfl⟩
  by_cases h16 : p1 = (kI 112)
  · refine EV.swEq (e := (kI 112)) cl_183 rfl rfl h16 rfl ?_
    refine EV.steps cl_183 1 (q2 := (127, [some (.int p1)], [.int (kI 5)], SH, w)) rfl ?_
    refine EV.ret cl_183 rfl rfl rfl ?_
    exact ⟨(by simp only [F_183, if_neg h1, if_neg h2, if_neg h3, if_neg h4, if_neg h5, if_neg h6, if_neg h7, if_neg h8, if_neg h9, if_neg h10, if_neg h11, if_neg h12, if_neg h13, if_neg h14, if_neg h15, if_pos h16]), rfl, rfl⟩
  by_cases h17 : p1 = (kI 113)
  · refine EV.swEq (e := (kI 113)) cl_183 rfl rfl h17 rfl ?_
    refine EV.steps cl_183 1 (q2 := (145, [some (.int p1)], [.int (kI 11)], SH, w)) rfl ?_
    refine EV.ret cl_183 rfl rfl rfl ?_
    exact ⟨(by simp only [F_183, if_neg h1, if_neg h2, if_neg h3, if_neg h4, if_neg h5, if_neg h6, if_neg h7, if_neg h8, if_neg h9, if_neg h10, if_neg h11, if_neg h12, if_neg h13, if_neg h14, if_neg h15, if_neg h16, if_pos h17]), rfl, rfl⟩
  by_cases h18 : p1 = (kI 114)
  · refine EV.swEq (e := (kI 114)) cl_183 rfl rfl h18 rfl ?_
    refine EV.steps cl_183 1 (q2 := (136, [some (.int p1)], [.int (kI 8)], SH, w)) rfl ?_
    refine EV.ret cl_183 rfl rfl rfl ?_
    exact ⟨(by simp only [F_183, if_neg h1, if_neg h2, if_neg h3, if_neg h4, if_neg h5, if_neg h6, if_neg h7, if_neg h8, if_neg h9, if_neg h10, if_neg h11, if_neg h12, if_neg h13, if_neg h14, if_neg h15, if_neg h16, if_neg h17, if_pos h18]), rfl, rfl⟩
  by_cases h19 : p1 = (kI 115)
  · refine EV.swEq (e := (kI 115)) cl_183 rfl rfl h19 rfl ?_
    refine EV.steps cl_183 1 (q2 := (123, [some (.int p1)], [.int (kI 3)], SH, w)) rfl ?_
    refine EV.ret cl_183 rfl rfl rfl ?_
    exact ⟨(by simp only [F_183, if_neg h1, if_neg h2, if_neg h3, if_neg h4, if_neg h5, if_neg h6, if_neg h7, if_neg h8, if_neg h9, if_neg h10, if_neg h11, if_neg h12, if_neg h13, if_neg h14, if_neg h15, if_neg h16, if_neg h17, if_neg h18, if_pos h19]), rfl, rfl⟩
  by_cases h20 : p1 = (kI 116)
  · refine EV.swEq (e := (kI 116)) cl_183 rfl rfl h20 rfl ?_
    refine EV.steps cl_183 1 (q2 := (125, [some (.int p1)], [.int (kI 4)], SH, w)) rfl ?_
    refine EV.ret cl_183 rfl rfl rfl ?_
    exact ⟨(by simp only [F_183, if_neg h1, if_neg h2, if_neg h3, if_neg h4, if_neg h5, if_neg h6, if_neg h7, if_neg h8, if_neg h9, if_neg h10, if_neg h11, if_neg h12, if_neg h13, if_neg h14, if_neg h15, if_neg h16, if_neg h17, if_neg h18, if_neg h19, if_pos h20]), rfl, rfl⟩
  by_cases h21 : p1 = (kI 117)
  · refine EV.swEq (e := (kI 117)) cl_183 rfl rfl h21 rfl ?_
    refine EV.steps cl_183 1 (q2 := (147, [some (.int p1)], [.int (kI (-1))], SH, w)) rfl ?_
    refine EV.ret cl_183 rfl rfl rfl ?_
    exact ⟨(by simp only [F_183, if_neg h1, if_neg h2, if_neg h3, if_neg h4, if_neg h5, if_neg h6, if_neg h7, if_neg h8, if_neg h9, if_neg h10, if_neg h11, if_neg h12, if_neg h13, if_neg h14, if_neg h15, if_neg h16, if_neg h17, if_neg h18, if_neg h19, if_neg h20, if_pos h21]), rfl, rfl⟩
  by_cases h22 : p1 = (kI 118)
  · refine EV.swEq (e := (kI 118)) cl_183 rfl rfl h22 rfl ?_
    refine EV.steps cl_183 1 (q2 := (147, [some (.int p1)], [.int (kI (-1))], SH, w)) rfl ?_
    refine EV.ret cl_183 rfl rfl rfl ?_
    exact ⟨(by simp only [F_183, if_neg h1, if_neg h2, if_neg h3, if_neg h4, if_neg h5, if_neg h6, if_neg h7, if_neg h8, if_neg h9, if_neg h10, if_neg h11, if_neg h12, if_neg h13, if_neg h14, if_neg h15, if_neg h16, if_neg h17, if_neg h18, if_neg h19, if_neg h20, if_neg h21, if_pos h22]), rfl, rfl⟩
  by_cases h23 : p1 = (kI 119)
  · refine EV.swEq (e := (kI 119)) cl_183 rfl rfl h23 rfl ?_
    refine EV.steps cl_183 1 (q2 := (147, [some (.int p1)], [.int (kI (-1))], SH, w)) rfl ?_
    refine EV.ret cl_183 rfl rfl rfl ?_
    exact ⟨(by simp only [F_183, if_neg h1, if_neg h2, if_neg h3, if_neg h4, if_neg h5, if_neg h6, if_neg h7, if_neg h8, if_neg h9, if_neg h10, if_neg h11, if_neg h12, if_neg h13, if_neg h14, if_neg h15, if_neg h16, if_neg h17, if_neg h18, if_neg h19, if_neg h20, if_neg h21, if_neg h22, if_pos h23]), rfl, rfl⟩
  by_cases h24 : p1 = (kI 120)
  · refine EV.swEq (e := (kI 120)) cl_183 rfl rfl h24 rfl ?_
    refine EV.steps cl_183 1 (q2 := (147, [some (.int p1)], [.int (kI (-1))], SH, w)) rfl ?_
    refine EV.ret cl_183 rfl rfl rfl ?_
    exact ⟨(by simp only [F_183, if_neg h1, if_neg h2, if_neg h3, if_neg h4, if_neg h5, if_neg h6, if_neg h7, if_neg h8, if_neg h9, if_neg h10, if_neg h11, if_neg h12, if_neg h13, if_neg h14, if_neg h15, if_neg h16, if_neg h17, if_neg h18, if_neg h19, if_neg h20, if_neg h21, if_neg h22, if_neg h23, if_pos h24]), rfl, rfl⟩
  by_cases h25 : p1 = (kI 121)
  · refine EV.swEq (e := (kI 121)) cl_183 rfl rfl h25 rfl ?_
    refine EV.steps cl_183 1 (q2 := (133, [some (.int p1)], [.int (kI 7)], SH, w)) rfl ?_
    refine EV.ret cl_183 rfl rfl rfl ?_
    exact ⟨(by simp only [F_183, if_neg h1, if_neg h2, if_neg h3, if_neg h4, if_neg h5, if_neg h6, if_neg h7, if_neg h8, if_neg h9, if_neg h10, if_neg h11, if_neg h12, if_neg h13, if_neg h14, if_neg h15, if_neg h16, if_neg h17, if_neg h18, if_neg h19, if_neg h20, if_neg h21, if_neg h22, if_neg h23, if_neg h24, if_pos h25]), rfl, rfl⟩
  refine EV.swT cl_183 rfl (by have a0 := sw_ne h1 (by decide); have a1 := sw_ne h2 (by decide); have a2 := sw_ne h3 (by decide); have a3 := sw_ne h4 (by decide); have a4 := sw_ne h5 (by decide); have a5 := sw_ne h6 (by decide); have a6 := sw_ne h7 (by decide); have a7 := sw_ne h8 (by decide); have a8 := sw_ne h9 (by decide); have a9 := sw_ne h10 (by decide); have a10 := sw_ne h11 (by decide); have a11 := sw_ne h12 (by decide); have a12 := sw_ne h13 (by decide); have a13 := sw_ne h14 (by decide); have a14 := sw_ne h15 (by decide); have a15 := sw_ne h16 (by decide); have a16 := sw_ne h17 (by decide); have a17 := sw_ne h18 (by decide); have a18 := sw_ne h19 (by decide); have a19 := sw_ne h20 (by decide); have a20 := sw_ne h21 (by decide); have a21 := sw_ne h22 (by decide); have a22 := sw_ne h23 (by decide); have a23 := sw_ne h24 (by decide); have a24 := sw_ne h25 (by decide); clear h1 h2 h3 h4 h5 h6 h7 h8 h9 h10 h11 h12 h13 h14 h15 h16 h17 h18 h19 h20 h21 h22 h23 h24 h25; omega) ?_
  refine EV.steps cl_183 1 (q2 := (147, [some (.int p1)], [.int (kI (-1))], SH, w)) rfl ?_
  refine EV.ret cl_183 rfl rfl rfl ?_
  exact ⟨(by simp only [F_183, if_neg h1, if_neg h2, if_neg h3, if_neg h4, if_neg h5, if_neg h6, if_neg h7, if_neg h8, if_neg h9, if_neg h10, if_neg h11, if_neg h12, if_neg h13, if_neg h14, if_neg h15, if_neg h16, if_neg h17, if_neg h18, if_neg h19, if_neg h20, if_neg h21, if_neg h22, if_neg h23, if_neg h24, if_neg h25]), rfl, rfl⟩
