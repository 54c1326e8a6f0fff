set_option maxRecDepth 20000 in
theorem cl_111 : RCT[111]? = some rc_111 := rfl
def F_111_1  (w : Wd) : Int32 := (F_153 (F_110_1 w) (kI 48) (kI 57) w)
theorem z1_111_1  (w : Wd) : F_111_1 w = 0 ∨ F_111_1 w = 1 := by
  unfold F_111_1
  (repeat' split) <;> first | exact Or.inl rfl | exact Or.inr rfl | exact z1_153 (F_110_1 w) (kI 48) (kI 57) w
theorem m_111_1 {X : Scr} {d : Nat} (w : Wd)  (i1 : (¬ (w 1 2) ≤ (w 1 3) → (¬ (w 1 3) < 0 → ¬ (w 1 1) ≤ (w 1 3) → (inB (w 1 3) 260 = true)))) : CV X (d + 3) 111 [.ref 1] SH w (fun r s1 w1 => r = some (.int (F_111_1 w)) ∧ s1 = SH ∧ w1 = w) := by
  refine CV.of rfl ?_
  refine EV.steps cl_111 1 (q2 := (1, [some (.ref 1)], [.ref 1], SH, w)) rfl ?_
  refine EV.callF (kc := 110) (av := [.ref 1]) (r := []) (rv := some (.int (F_110_1 w))) (w2 := w) cl_111 rfl rfl rfl (m_110_1 w  (i1)) ?_
  refine EV.steps cl_111 2 (q2 := (8, [some (.ref 1)], [.int (kI 57), .int (kI 48), .int (F_110_1 w)], SH, w)) rfl ?_
  refine EV.callF (kc := 153) (av := [.int (F_110_1 w), .int (kI 48), .int (kI 57)]) (r := []) (rv := some (.int (F_153 (F_110_1 w) (kI 48) (kI 57) w))) (w2 := w) cl_111 rfl rfl rfl (m_153 w (F_110_1 w) (kI 48) (kI 57)) ?_
  refine EV.retB cl_111 rfl rfl (z1_153 (F_110_1 w) (kI 48) (kI 57) w) ?_
  exact ⟨rfl, rfl, rfl⟩
set_option maxRecDepth 20000 in
theorem cl_113 : RCT[113]? = some rc_113 := rfl
def F_113_1 (p1 : Int32) (w : Wd) : Int32 := (if (F_110_1 w) = p1 then (kI 1) else (F_115_1 (kI 1) w))
def G_113_1 (p1 : Int32) (w : Wd) : Wd := (if (F_110_1 w) = p1 then (up2 w 1 3 ((w 1 3) + (kI 1))) else (G_115_1 (kI 1) w))
theorem z1_113_1 (p1 : Int32) (w : Wd) : F_113_1 p1 w = 0 ∨ F_113_1 p1 w = 1 := by
  unfold F_113_1
  (repeat' split) <;> first | exact Or.inl rfl | exact Or.inr rfl | exact z1_115_1 (kI 1) w
theorem m_113_1 {X : Scr} {d : Nat} (w : Wd) (p1 : Int32) (i1 : (¬ (w 1 2) ≤ (w 1 3) → (¬ (w 1 3) < 0 → ¬ (w 1 1) ≤ (w 1 3) → (inB (w 1 3) 260 = true)))) : CV X (d + 3) 113 [.ref 1, .int p1] SH w (fun r s1 w1 => r = some (.int (F_113_1 p1 w)) ∧ s1 = SH ∧ w1 = G_113_1 p1 w) := by
  refine CV.of rfl ?_
  refine EV.steps cl_113 1 (q2 := (1, [some (.ref 1), some (.int p1)], [.ref 1], SH, w)) rfl ?_
  refine EV.callF (kc := 110) (av := [.ref 1]) (r := []) (rv := some (.int (F_110_1 w))) (w2 := w) cl_113 rfl rfl rfl (m_110_1 w  (i1)) ?_
  refine EV.steps cl_113 1 (q2 := (5, [some (.ref 1), some (.int p1)], [.int p1, .int (F_110_1 w)], SH, w)) rfl ?_
  refine EV.i_eq cl_113 rfl (fun h1 => ?_) (fun h1 => ?_)
  · skip
    refine EV.steps cl_113 7 (q2 := (25, [some (.ref 1), some (.int p1)], [.int (kI 1)], SH, (up2 w 1 3 ((w 1 3) + (kI 1))))) rfl ?_
    refine EV.ret cl_113 rfl rfl rfl ?_
    exact ⟨(by simp only [F_113_1, if_pos h1]), rfl, (by simp only [G_113_1, if_pos h1])⟩
  · skip
    refine EV.steps cl_113 2 (q2 := (10, [some (.ref 1), some (.int p1)], [.int (kI 1), .ref 1], SH, w)) rfl ?_
    refine EV.callF (kc := 115) (av := [.ref 1, .int (kI 1)]) (r := []) (rv := some (.int (F_115_1 (kI 1) w))) (w2 := (G_115_1 (kI 1) w)) cl_113 rfl rfl rfl (m_115_1 w (kI 1)) ?_
    refine EV.retB cl_113 rfl rfl (z1_115_1 (kI 1) w) ?_
    exact ⟨(by simp only [F_113_1, if_neg h1]), rfl, (by simp only [G_113_1, if_neg h1])⟩
set_option maxRecDepth 20000 in
theorem cl_117 : RCT[117]? = some rc_117 := rfl
def F_117_0 (p1 : Int32) (p2 : Int32) (w : Wd) : Int32 := (if (F_153 p1 (kI 0) (kI 5) w) = 0 then (kI 0) else (if (F_153 p2 (kI 0) (kI 9999) w) = 0 then (kI 0) else (kI 1)))
def G_117_0 (p1 : Int32) (p2 : Int32) (w : Wd) : Wd := (if (F_153 p1 (kI 0) (kI 5) w) = 0 then w else (if (F_153 p2 (kI 0) (kI 9999) w) = 0 then w else (up2 (up2 w 4 p1.toNatClampNeg p2) 3 3 ((w 3 3) ||| ((kI 1) <<< (p1 &&& 31))))))
theorem z1_117_0 (p1 : Int32) (p2 : Int32) (w : Wd) : F_117_0 p1 p2 w = 0 ∨ F_117_0 p1 p2 w = 1 := by
  unfold F_117_0
  (repeat' split) <;> first | exact Or.inl rfl | exact Or.inr rfl
theorem m_117_0 {X : Scr} {d : Nat} (w : Wd) (p1 : Int32) (p2 : Int32) : CV X (d + 2) 117 [.ref 0, .int p1, .int p2] SH w (fun r s1 w1 => r = some (.int (F_117_0 p1 p2 w)) ∧ s1 = SH ∧ w1 = G_117_0 p1 p2 w) := by
  refine CV.of rfl ?_
  refine EV.steps cl_117 3 (q2 := (3, [some (.ref 0), some (.int p1), some (.int p2)], [.int (kI 5), .int (kI 0), .int p1], SH, w)) rfl ?_
  refine EV.callF (kc := 153) (av := [.int p1, .int (kI 0), .int (kI 5)]) (r := []) (rv := some (.int (F_153 p1 (kI 0) (kI 5) w))) (w2 := w) cl_117 rfl rfl rfl (m_153 w p1 (kI 0) (kI 5)) ?_
  refine EV.z_eq cl_117 rfl (fun h1 => ?_) (fun h1 => ?_)
  · skip
    refine EV.steps cl_117 1 (q2 := (21, [some (.ref 0), some (.int p1), some (.int p2)], [.int (kI 0)], SH, w)) rfl ?_
    refine EV.ret cl_117 rfl rfl rfl ?_
    exact ⟨(by simp only [F_117_0, if_pos h1]), rfl, (by simp only [G_117_0, if_pos h1])⟩
  · skip
    refine EV.steps cl_117 3 (q2 := (14, [some (.ref 0), some (.int p1), some (.int p2)], [.int (kI 9999), .int (kI 0), .int p2], SH, w)) rfl ?_
    refine EV.callF (kc := 153) (av := [.int p2, .int (kI 0), .int (kI 9999)]) (r := []) (rv := some (.int (F_153 p2 (kI 0) (kI 9999) w))) (w2 := w) cl_117 rfl rfl rfl (m_153 w p2 (kI 0) (kI 9999)) ?_
    refine EV.z_ne cl_117 rfl (fun h2 => ?_) (fun h2 => ?_)
    · skip
      refine EV.steps cl_117 5 (q2 := (31, [some (.ref 0), some (.int p1), some (.int p2)], [.int p2, .int p1, .ref 4], SH, w)) rfl ?_
      refine EV.iastore cl_117 rfl rfl (by decide) (ix_153 h1 (by decide)) ?_
      refine EV.steps cl_117 10 (q2 := (48, [some (.ref 0), some (.int p1), some (.int p2)], [.int (kI 1)], SH, (up2 (up2 w 4 p1.toNatClampNeg p2) 3 3 ((w 3 3) ||| ((kI 1) <<< (p1 &&& 31)))))) rfl ?_
      refine EV.ret cl_117 rfl rfl rfl ?_
      exact ⟨(by simp only [F_117_0, if_neg h1, if_neg h2]), rfl, (by simp only [G_117_0, if_neg h1, if_neg h2])⟩
    · skip
      refine EV.steps cl_117 1 (q2 := (21, [some (.ref 0), some (.int p1), some (.int p2)], [.int (kI 0)], SH, w)) rfl ?_
      refine EV.ret cl_117 rfl rfl rfl ?_
      exact ⟨(by simp only [F_117_0, if_neg h1, if_pos h2]), rfl, (by simp only [G_117_0, if_neg h1, if_pos h2])⟩
set_option maxRecDepth 20000 in
theorem cl_118 : RCT[118]? = some rc_118 := rfl
def F_118_0 (p1 : Int32) (p2 : Int32) (p3 : Int32) (w : Wd) : Int32 := (if (F_51_3 p1 w) = 0 then (kI 0) else (if (F_51_3 p2 w) = 0 then (kI 0) else (if p1 = p2 then (kI 0) else (kI 1))))
def G_118_0 (p1 : Int32) (p2 : Int32) (p3 : Int32) (w : Wd) : Wd := (if (F_51_3 p1 w) = 0 then w else (if (F_51_3 p2 w) = 0 then w else (if p1 = p2 then w else (G_56_3 p2 p1 p3 (G_56_3 p1 p2 p3 w)))))
theorem z1_118_0 (p1 : Int32) (p2 : Int32) (p3 : Int32) (w : Wd) : F_118_0 p1 p2 p3 w = 0 ∨ F_118_0 p1 p2 p3 w = 1 := by
  unfold F_118_0
  (repeat' split) <;> first | exact Or.inl rfl | exact Or.inr rfl
theorem m_118_0 {X : Scr} {d : Nat} (w : Wd) (p1 : Int32) (p2 : Int32) (p3 : Int32) : CV X (d + 3) 118 [.ref 0, .int p1, .int p2, .int p3] SH w (fun r s1 w1 => r = some (.int (F_118_0 p1 p2 p3 w)) ∧ s1 = SH ∧ w1 = G_118_0 p1 p2 p3 w) := by
  refine CV.of rfl ?_
  refine EV.steps cl_118 3 (q2 := (5, [some (.ref 0), some (.int p1), some (.int p2), some (.int p3)], [.int p1, .ref 3], SH, w)) rfl ?_
  refine EV.callF (kc := 51) (av := [.ref 3, .int p1]) (r := []) (rv := some (.int (F_51_3 p1 w))) (w2 := w) cl_118 rfl rfl rfl (m_51_3 w p1) ?_
  refine EV.z_eq cl_118 rfl (fun h1 => ?_) (fun h1 => ?_)
  · skip
    refine EV.steps cl_118 1 (q2 := (28, [some (.ref 0), some (.int p1), some (.int p2), some (.int p3)], [.int (kI 0)], SH, w)) rfl ?_
    refine EV.ret cl_118 rfl rfl rfl ?_
    exact ⟨(by simp only [F_118_0, if_pos h1]), rfl, (by simp only [G_118_0, if_pos h1])⟩
  · skip
    refine EV.steps cl_118 3 (q2 := (16, [some (.ref 0), some (.int p1), some (.int p2), some (.int p3)], [.int p2, .ref 3], SH, w)) rfl ?_
    refine EV.callF (kc := 51) (av := [.ref 3, .int p2]) (r := []) (rv := some (.int (F_51_3 p2 w))) (w2 := w) cl_118 rfl rfl rfl (m_51_3 w p2) ?_
    refine EV.z_eq cl_118 rfl (fun h2 => ?_) (fun h2 => ?_)
    · skip
      refine EV.steps cl_118 1 (q2 := (28, [some (.ref 0), some (.int p1), some (.int p2), some (.int p3)], [.int (kI 0)], SH, w)) rfl ?_
      refine EV.ret cl_118 rfl rfl rfl ?_
      exact ⟨(by simp only [F_118_0, if_neg h1, if_pos h2]), rfl, (by simp only [G_118_0, if_neg h1, if_pos h2])⟩
    · skip
      refine EV.steps cl_118 2 (q2 := (24, [some (.ref 0), some (.int p1), some (.int p2), some (.int p3)], [.int p2, .int p1], SH, w)) rfl ?_
      refine EV.i_ne cl_118 rfl (fun h3 => ?_) (fun h3 => ?_)
      · skip
        refine EV.steps cl_118 5 (q2 := (36, [some (.ref 0), some (.int p1), some (.int p2), some (.int p3)], [.int p3, .int p2, .int p1, .ref 3], SH, w)) rfl ?_
        refine EV.callF (kc := 56) (av := [.ref 3, .int p1, .int p2, .int p3]) (r := []) (rv := none) (w2 := (G_56_3 p1 p2 p3 w)) cl_118 rfl rfl rfl (m_56_3 w p1 p2 p3) ?_
        refine EV.steps cl_118 5 (q2 := (46, [some (.ref 0), some (.int p1), some (.int p2), some (.int p3)], [.int p3, .int p1, .int p2, .ref 3], SH, (G_56_3 p1 p2 p3 w))) rfl ?_
        refine EV.callF (kc := 56) (av := [.ref 3, .int p2, .int p1, .int p3]) (r := []) (rv := none) (w2 := (G_56_3 p2 p1 p3 (G_56_3 p1 p2 p3 w))) cl_118 rfl rfl rfl (m_56_3 (G_56_3 p1 p2 p3 w) p2 p1 p3) ?_
        refine EV.steps cl_118 1 (q2 := (50, [some (.ref 0), some (.int p1), some (.int p2), some (.int p3)], [.int (kI 1)], SH, (G_56_3 p2 p1 p3 (G_56_3 p1 p2 p3 w)))) rfl ?_
        refine EV.ret cl_118 rfl rfl rfl ?_
        exact ⟨(by simp only [F_118_0, if_neg h1, if_neg h2, if_neg h3]), rfl, (by simp only [G_118_0, if_neg h1, if_neg h2, if_neg h3])⟩
      · skip
        refine EV.steps cl_118 1 (q2 := (28, [some (.ref 0), some (.int p1), some (.int p2), some (.int p3)], [.int (kI 0)], SH, w)) rfl ?_
        refine EV.ret cl_118 rfl rfl rfl ?_
        exact ⟨(by simp only [F_118_0, if_neg h1, if_neg h2, if_pos h3]), rfl, (by simp only [G_118_0, if_neg h1, if_neg h2, if_pos h3])⟩
set_option maxRecDepth 20000 in
theorem cl_119 : RCT[119]? = some rc_119 := rfl
def F_119_0 (p1 : Int32) (p2 : Int32) (w : Wd) : Int32 := (if (F_153 p1 (kI 0) (kI 5) w) = 0 then (kI 0) else (if (F_153 p2 (kI 0) (kI 9999) w) = 0 then (kI 0) else (kI 1)))
def G_119_0 (p1 : Int32) (p2 : Int32) (w : Wd) : Wd := (if (F_153 p1 (kI 0) (kI 5) w) = 0 then w else (if (F_153 p2 (kI 0) (kI 9999) w) = 0 then w else (up2 (up2 w 5 p1.toNatClampNeg p2) 3 4 ((w 3 4) ||| ((kI 1) <<< (p1 &&& 31))))))
theorem z1_119_0 (p1 : Int32) (p2 : Int32) (w : Wd) : F_119_0 p1 p2 w = 0 ∨ F_119_0 p1 p2 w = 1 := by
  unfold F_119_0
  (repeat' split) <;> first | exact Or.inl rfl | exact Or.inr rfl
theorem m_119_0 {X : Scr} {d : Nat} (w : Wd) (p1 : Int32) (p2 : Int32) : CV X (d + 2) 119 [.ref 0, .int p1, .int p2] SH w (fun r s1 w1 => r = some (.int (F_119_0 p1 p2 w)) ∧ s1 = SH ∧ w1 = G_119_0 p1 p2 w) := by
  refine CV.of rfl ?_
  refine EV.steps cl_119 3 (q2 := (3, [some (.ref 0), some (.int p1), some (.int p2)], [.int (kI 5), .int (kI 0), .int p1], SH, w)) rfl ?_
  refine EV.callF (kc := 153) (av := [.int p1, .int (kI 0), .int (kI 5)]) (r := []) (rv := some (.int (F_153 p1 (kI 0) (kI 5) w))) (w2 := w) cl_119 rfl rfl rfl (m_153 w p1 (kI 0) (kI 5)) ?_
  refine EV.z_eq cl_119 rfl (fun h1 => ?_) (fun h1 => ?_)
  · skip
    refine EV.steps cl_119 1 (q2 := (21, [some (.ref 0), some (.int p1), some (.int p2)], [.int (kI 0)], SH, w)) rfl ?_
    refine EV.ret cl_119 rfl rfl rfl ?_
    exact ⟨(by simp only [F_119_0, if_pos h1]), rfl, (by simp only [G_119_0, if_pos h1])⟩
  · skip
    refine EV.steps cl_119 3 (q2 := (14, [some (.ref 0), some (.int p1), some (.int p2)], [.int (kI 9999), .int (kI 0), .int p2], SH, w)) rfl ?_
    refine EV.callF (kc := 153) (av := [.int p2, .int (kI 0), .int (kI 9999)]) (r := []) (rv := some (.int (F_153 p2 (kI 0) (kI 9999) w))) (w2 := w) cl_119 rfl rfl rfl (m_153 w p2 (kI 0) (kI 9999)) ?_
    refine EV.z_ne cl_119 rfl (fun h2 => ?_) (fun h2 => ?_)
    · skip
      refine EV.steps cl_119 5 (q2 := (31, [some (.ref 0), some (.int p1), some (.int p2)], [.int p2, .int p1, .ref 5], SH, w)) rfl ?_
      refine EV.iastore cl_119 rfl rfl (by decide) (ix_153 h1 (by decide)) ?_
      refine EV.steps cl_119 10 (q2 := (48, [some (.ref 0), some (.int p1), some (.int p2)], [.int (kI 1)], SH, (up2 (up2 w 5 p1.toNatClampNeg p2) 3 4 ((w 3 4) ||| ((kI 1) <<< (p1 &&& 31)))))) rfl ?_
      refine EV.ret cl_119 rfl rfl rfl ?_
      exact ⟨(by simp only [F_119_0, if_neg h1, if_neg h2]), rfl, (by simp only [G_119_0, if_neg h1, if_neg h2])⟩
    · skip
      refine EV.steps cl_119 1 (q2 := (21, [some (.ref 0), some (.int p1), some (.int p2)], [.int (kI 0)], SH, w)) rfl ?_
      refine EV.ret cl_119 rfl rfl rfl ?_
      exact ⟨(by simp only [F_119_0, if_neg h1, if_pos h2]), rfl, (by simp only [G_119_0, if_neg h1, if_pos h2])⟩
set_option maxRecDepth 20000 in
theorem cl_120 : RCT[120]? = some rc_120 := rfl
def F_120_0 (p1 : Int32) (w : Wd) : Int32 := (if (F_153 p1 (kI 0) (kI 9999) w) = 0 then (kI 0) else (kI 1))
def G_120_0 (p1 : Int32) (w : Wd) : Wd := (if (F_153 p1 (kI 0) (kI 9999) w) = 0 then w else (up2 (up2 w 3 5 p1) 7 6 p1))
theorem z1_120_0 (p1 : Int32) (w : Wd) : F_120_0 p1 w = 0 ∨ F_120_0 p1 w = 1 := by
  unfold F_120_0
  (repeat' split) <;> first | exact Or.inl rfl | exact Or.inr rfl
theorem m_120_0 {X : Scr} {d : Nat} (w : Wd) (p1 : Int32) : CV X (d + 2) 120 [.ref 0, .int p1] SH w (fun r s1 w1 => r = some (.int (F_120_0 p1 w)) ∧ s1 = SH ∧ w1 = G_120_0 p1 w) := by
  refine CV.of rfl ?_
  refine EV.steps cl_120 3 (q2 := (5, [some (.ref 0), some (.int p1)], [.int (kI 9999), .int (kI 0), .int p1], SH, w)) rfl ?_
  refine EV.callF (kc := 153) (av := [.int p1, .int (kI 0), .int (kI 9999)]) (r := []) (rv := some (.int (F_153 p1 (kI 0) (kI 9999) w))) (w2 := w) cl_120 rfl rfl rfl (m_153 w p1 (kI 0) (kI 9999)) ?_
  refine EV.z_ne cl_120 rfl (fun h1 => ?_) (fun h1 => ?_)
  · skip
    refine EV.steps cl_120 9 (q2 := (30, [some (.ref 0), some (.int p1)], [.int (kI 1)], SH, (up2 (up2 w 3 5 p1) 7 6 p1))) rfl ?_
    refine EV.ret cl_120 rfl rfl rfl ?_
    exact ⟨(by simp only [F_120_0, if_neg h1]), rfl, (by simp only [G_120_0, if_neg h1])⟩
  · skip
    refine EV.steps cl_120 1 (q2 := (12, [some (.ref 0), some (.int p1)], [.int (kI 0)], SH, w)) rfl ?_
    refine EV.ret cl_120 rfl rfl rfl ?_
    exact ⟨(by simp only [F_120_0, if_pos h1]), rfl, (by simp only [G_120_0, if_pos h1])⟩
set_option maxRecDepth 20000 in
theorem cl_126 : RCT[126]? = some rc_126 := rfl
def F_126_0 (p1 : Int32) (p2 : Int32) (w : Wd) : Int32 := (if (F_51_3 p1 w) = 0 then (kI (-1)) else (if (F_52_3 p2 w) = 0 then (kI (-1)) else (F_11_7 p1 p2 w)))
theorem m_126_0 {X : Scr} {d : Nat} (w : Wd) (p1 : Int32) (p2 : Int32) : CV X (d + 3) 126 [.ref 0, .int p1, .int p2] SH w (fun r s1 w1 => r = some (.int (F_126_0 p1 p2 w)) ∧ s1 = SH ∧ w1 = w) := by
  refine CV.of rfl ?_
  refine EV.steps cl_126 3 (q2 := (5, [some (.ref 0), some (.int p1), some (.int p2)], [.int p1, .ref 3], SH, w)) rfl ?_
  refine EV.callF (kc := 51) (av := [.ref 3, .int p1]) (r := []) (rv := some (.int (F_51_3 p1 w))) (w2 := w) cl_126 rfl rfl rfl (m_51_3 w p1) ?_
  refine EV.z_eq cl_126 rfl (fun h1 => ?_) (fun h1 => ?_)
  · skip
    refine EV.steps cl_126 1 (q2 := (23, [some (.ref 0), some (.int p1), some (.int p2)], [.int (kI (-1))], SH, w)) rfl ?_
    refine EV.ret cl_126 rfl rfl rfl ?_
    exact ⟨(by simp only [F_126_0, if_pos h1]), rfl, rfl⟩
  · skip
    refine EV.steps cl_126 3 (q2 := (16, [some (.ref 0), some (.int p1), some (.int p2)], [.int p2, .ref 3], SH, w)) rfl ?_
    refine EV.callF (kc := 52) (av := [.ref 3, .int p2]) (r := []) (rv := some (.int (F_52_3 p2 w))) (w2 := w) cl_126 rfl rfl rfl (m_52_3 w p2) ?_
    refine EV.z_ne cl_126 rfl (fun h2 => ?_) (fun h2 => ?_)
    · skip
      refine EV.steps cl_126 4 (q2 := (30, [some (.ref 0), some (.int p1), some (.int p2)], [.int p2, .int p1, .ref 7], SH, w)) rfl ?_
      refine EV.callF (kc := 11) (av := [.ref 7, .int p1, .int p2]) (r := []) (rv := some (.int (F_11_7 p1 p2 w))) (w2 := w) cl_126 rfl rfl rfl (m_11_7 w p1 p2) ?_
      refine EV.ret cl_126 rfl rfl rfl ?_
      exact ⟨(by simp only [F_126_0, if_neg h1, if_neg h2]), rfl, rfl⟩
    · skip
      refine EV.steps cl_126 1 (q2 := (23, [some (.ref 0), some (.int p1), some (.int p2)], [.int (kI (-1))], SH, w)) rfl ?_
      refine EV.ret cl_126 rfl rfl rfl ?_
      exact ⟨(by simp only [F_126_0, if_neg h1, if_pos h2]), rfl, rfl⟩
set_option maxRecDepth 20000 in
theorem cl_259 : RCT[259]? = some rc_259 := rfl
def F_259 (p1 : Int32) (w : Wd) : Int32 := ((((((((p1 - (((p1).toUInt32 >>> (((kI 1)).toUInt32 &&& Int32.toUInt32 31)).toInt32 &&& (kI 1431655765))) &&& (kI 858993459)) + ((((p1 - (((p1).toUInt32 >>> (((kI 1)).toUInt32 &&& Int32.toUInt32 31)).toInt32 &&& (kI 1431655765)))).toUInt32 >>> (((kI 2)).toUInt32 &&& Int32.toUInt32 31)).toInt32 &&& (kI 858993459))) + (((((p1 - (((p1).toUInt32 >>> (((kI 1)).toUInt32 &&& Int32.toUInt32 31)).toInt32 &&& (kI 1431655765))) &&& (kI 858993459)) + ((((p1 - (((p1).toUInt32 >>> (((kI 1)).toUInt32 &&& Int32.toUInt32 31)).toInt32 &&& (kI 1431655765)))).toUInt32 >>> (((kI 2)).toUInt32 &&& Int32.toUInt32 31)).toInt32 &&& (kI 858993459)))).toUInt32 >>> (((kI 4)).toUInt32 &&& Int32.toUInt32 31)).toInt32) &&& (kI 252645135)) + (((((((p1 - (((p1).toUInt32 >>> (((kI 1)).toUInt32 &&& Int32.toUInt32 31)).toInt32 &&& (kI 1431655765))) &&& (kI 858993459)) + ((((p1 - (((p1).toUInt32 >>> (((kI 1)).toUInt32 &&& Int32.toUInt32 31)).toInt32 &&& (kI 1431655765)))).toUInt32 >>> (((kI 2)).toUInt32 &&& Int32.toUInt32 31)).toInt32 &&& (kI 858993459))) + (((((p1 - (((p1).toUInt32 >>> (((kI 1)).toUInt32 &&& Int32.toUInt32 31)).toInt32 &&& (kI 1431655765))) &&& (kI 858993459)) + ((((p1 - (((p1).toUInt32 >>> (((kI 1)).toUInt32 &&& Int32.toUInt32 31)).toInt32 &&& (kI 1431655765)))).toUInt32 >>> (((kI 2)).toUInt32 &&& Int32.toUInt32 31)).toInt32 &&& (kI 858993459)))).toUInt32 >>> (((kI 4)).toUInt32 &&& Int32.toUInt32 31)).toInt32) &&& (kI 252645135))).toUInt32 >>> (((kI 8)).toUInt32 &&& Int32.toUInt32 31)).toInt32) + ((((((((p1 - (((p1).toUInt32 >>> (((kI 1)).toUInt32 &&& Int32.toUInt32 31)).toInt32 &&& (kI 1431655765))) &&& (kI 858993459)) + ((((p1 - (((p1).toUInt32 >>> (((kI 1)).toUInt32 &&& Int32.toUInt32 31)).toInt32 &&& (kI 1431655765)))).toUInt32 >>> (((kI 2)).toUInt32 &&& Int32.toUInt32 31)).toInt32 &&& (kI 858993459))) + (((((p1 - (((p1).toUInt32 >>> (((kI 1)).toUInt32 &&& Int32.toUInt32 31)).toInt32 &&& (kI 1431655765))) &&& (kI 858993459)) + ((((p1 - (((p1).toUInt32 >>> (((kI 1)).toUInt32 &&& Int32.toUInt32 31)).toInt32 &&& (kI 1431655765)))).toUInt32 >>> (((kI 2)).toUInt32 &&& Int32.toUInt32 31)).toInt32 &&& (kI 858993459)))).toUInt32 >>> (((kI 4)).toUInt32 &&& Int32.toUInt32 31)).toInt32) &&& (kI 252645135)) + (((((((p1 - (((p1).toUInt32 >>> (((kI 1)).toUInt32 &&& Int32.toUInt32 31)).toInt32 &&& (kI 1431655765))) &&& (kI 858993459)) + ((((p1 - (((p1).toUInt32 >>> (((kI 1)).toUInt32 &&& Int32.toUInt32 31)).toInt32 &&& (kI 1431655765)))).toUInt32 >>> (((kI 2)).toUInt32 &&& Int32.toUInt32 31)).toInt32 &&& (kI 858993459))) + (((((p1 - (((p1).toUInt32 >>> (((kI 1)).toUInt32 &&& Int32.toUInt32 31)).toInt32 &&& (kI 1431655765))) &&& (kI 858993459)) + ((((p1 - (((p1).toUInt32 >>> (((kI 1)).toUInt32 &&& Int32.toUInt32 31)).toInt32 &&& (kI 1431655765)))).toUInt32 >>> (((kI 2)).toUInt32 &&& Int32.toUInt32 31)).toInt32 &&& (kI 858993459)))).toUInt32 >>> (((kI 4)).toUInt32 &&& Int32.toUInt32 31)).toInt32) &&& (kI 252645135))).toUInt32 >>> (((kI 8)).toUInt32 &&& Int32.toUInt32 31)).toInt32)).toUInt32 >>> (((kI 16)).toUInt32 &&& Int32.toUInt32 31)).toInt32) &&& (kI 63))
theorem m_259 {X : Scr} {d : Nat} (w : Wd) (p1 : Int32) : CV X (d + 1) 259 [.int p1] SH w (fun r s1 w1 => r = some (.int (F_259 p1 w)) ∧ s1 = SH ∧ w1 = w) := by
  refine CV.of rfl ?_
  refine EV.steps cl_259 41 (q2 := (52, [some (.int (((((((p1 - (((p1).toUInt32 >>> (((kI 1)).toUInt32 &&& Int32.toUInt32 31)).toInt32 &&& (kI 1431655765))) &&& (kI 858993459)) + ((((p1 - (((p1).toUInt32 >>> (((kI 1)).toUInt32 &&& Int32.toUInt32 31)).toInt32 &&& (kI 1431655765)))).toUInt32 >>> (((kI 2)).toUInt32 &&& Int32.toUInt32 31)).toInt32 &&& (kI 858993459))) + (((((p1 - (((p1).toUInt32 >>> (((kI 1)).toUInt32 &&& Int32.toUInt32 31)).toInt32 &&& (kI 1431655765))) &&& (kI 858993459)) + ((((p1 - (((p1).toUInt32 >>> (((kI 1)).toUInt32 &&& Int32.toUInt32 31)).toInt32 &&& (kI 1431655765)))).toUInt32 >>> (((kI 2)).toUInt32 &&& Int32.toUInt32 31)).toInt32 &&& (kI 858993459)))).toUInt32 >>> (((kI 4)).toUInt32 &&& Int32.toUInt32 31)).toInt32) &&& (kI 252645135)) + (((((((p1 - (((p1).toUInt32 >>> (((kI 1)).toUInt32 &&& Int32.toUInt32 31)).toInt32 &&& (kI 1431655765))) &&& (kI 858993459)) + ((((p1 - (((p1).toUInt32 >>> (((kI 1)).toUInt32 &&& Int32.toUInt32 31)).toInt32 &&& (kI 1431655765)))).toUInt32 >>> (((kI 2)).toUInt32 &&& Int32.toUInt32 31)).toInt32 &&& (kI 858993459))) + (((((p1 - (((p1).toUInt32 >>> (((kI 1)).toUInt32 &&& Int32.toUInt32 31)).toInt32 &&& (kI 1431655765))) &&& (kI 858993459)) + ((((p1 - (((p1).toUInt32 >>> (((kI 1)).toUInt32 &&& Int32.toUInt32 31)).toInt32 &&& (kI 1431655765)))).toUInt32 >>> (((kI 2)).toUInt32 &&& Int32.toUInt32 31)).toInt32 &&& (kI 858993459)))).toUInt32 >>> (((kI 4)).toUInt32 &&& Int32.toUInt32 31)).toInt32) &&& (kI 252645135))).toUInt32 >>> (((kI 8)).toUInt32 &&& Int32.toUInt32 31)).toInt32) + ((((((((p1 - (((p1).toUInt32 >>> (((kI 1)).toUInt32 &&& Int32.toUInt32 31)).toInt32 &&& (kI 1431655765))) &&& (kI 858993459)) + ((((p1 - (((p1).toUInt32 >>> (((kI 1)).toUInt32 &&& Int32.toUInt32 31)).toInt32 &&& (kI 1431655765)))).toUInt32 >>> (((kI 2)).toUInt32 &&& Int32.toUInt32 31)).toInt32 &&& (kI 858993459))) + (((((p1 - (((p1).toUInt32 >>> (((kI 1)).toUInt32 &&& Int32.toUInt32 31)).toInt32 &&& (kI 1431655765))) &&& (kI 858993459)) + ((((p1 - (((p1).toUInt32 >>> (((kI 1)).toUInt32 &&& Int32.toUInt32 31)).toInt32 &&& (kI 1431655765)))).toUInt32 >>> (((kI 2)).toUInt32 &&& Int32.toUInt32 31)).toInt32 &&& (kI 858993459)))).toUInt32 >>> (((kI 4)).toUInt32 &&& Int32.toUInt32 31)).toInt32) &&& (kI 252645135)) + (((((((p1 - (((p1).toUInt32 >>> (((kI 1)).toUInt32 &&& Int32.toUInt32 31)).toInt32 &&& (kI 1431655765))) &&& (kI 858993459)) + ((((p1 - (((p1).toUInt32 >>> (((kI 1)).toUInt32 &&& Int32.toUInt32 31)).toInt32 &&& (kI 1431655765)))).toUInt32 >>> (((kI 2)).toUInt32 &&& Int32.toUInt32 31)).toInt32 &&& (kI 858993459))) + (((((p1 - (((p1).toUInt32 >>> (((kI 1)).toUInt32 &&& Int32.toUInt32 31)).toInt32 &&& (kI 1431655765))) &&& (kI 858993459)) + ((((p1 - (((p1).toUInt32 >>> (((kI 1)).toUInt32 &&& Int32.toUInt32 31)).toInt32 &&& (kI 1431655765)))).toUInt32 >>> (((kI 2)).toUInt32 &&& Int32.toUInt32 31)).toInt32 &&& (kI 858993459)))).toUInt32 >>> (((kI 4)).toUInt32 &&& Int32.toUInt32 31)).toInt32) &&& (kI 252645135))).toUInt32 >>> (((kI 8)).toUInt32 &&& Int32.toUInt32 31)).toInt32)).toUInt32 >>> (((kI 16)).toUInt32 &&& Int32.toUInt32 31)).toInt32))], [.int ((((((((p1 - (((p1).toUInt32 >>> (((kI 1)).toUInt32 &&& Int32.toUInt32 31)).toInt32 &&& (kI 1431655765))) &&& (kI 858993459)) + ((((p1 - (((p1).toUInt32 >>> (((kI 1)).toUInt32 &&& Int32.toUInt32 31)).toInt32 &&& (kI 1431655765)))).toUInt32 >>> (((kI 2)).toUInt32 &&& Int32.toUInt32 31)).toInt32 &&& (kI 858993459))) + (((((p1 - (((p1).toUInt32 >>> (((kI 1)).toUInt32 &&& Int32.toUInt32 31)).toInt32 &&& (kI 1431655765))) &&& (kI 858993459)) + ((((p1 - (((p1).toUInt32 >>> (((kI 1)).toUInt32 &&& Int32.toUInt32 31)).toInt32 &&& (kI 1431655765)))).toUInt32 >>> (((kI 2)).toUInt32 &&& Int32.toUInt32 31)).toInt32 &&& (kI 858993459)))).toUInt32 >>> (((kI 4)).toUInt32 &&& Int32.toUInt32 31)).toInt32) &&& (kI 252645135)) + (((((((p1 - (((p1).toUInt32 >>> (((kI 1)).toUInt32 &&& Int32.toUInt32 31)).toInt32 &&& (kI 1431655765))) &&& (kI 858993459)) + ((((p1 - (((p1).toUInt32 >>> (((kI 1)).toUInt32 &&& Int32.toUInt32 31)).toInt32 &&& (kI 1431655765)))).toUInt32 >>> (((kI 2)).toUInt32 &&& Int32.toUInt32 31)).toInt32 &&& (kI 858993459))) + (((((p1 - (((p1).toUInt32 >>> (((kI 1)).toUInt32 &&& Int32.toUInt32 31)).toInt32 &&& (kI 1431655765))) &&& (kI 858993459)) + ((((p1 - (((p1).toUInt32 >>> (((kI 1)).toUInt32 &&& Int32.toUInt32 31)).toInt32 &&& (kI 1431655765)))).toUInt32 >>> (((kI 2)).toUInt32 &&& Int32.toUInt32 31)).toInt32 &&& (kI 858993459)))).toUInt32 >>> (((kI 4)).toUInt32 &&& Int32.toUInt32 31)).toInt32) &&& (kI 252645135))).toUInt32 >>> (((kI 8)).toUInt32 &&& Int32.toUInt32 31)).toInt32) + ((((((((p1 - (((p1).toUInt32 >>> (((kI 1)).toUInt32 &&& Int32.toUInt32 31)).toInt32 &&& (kI 1431655765))) &&& (kI 858993459)) + ((((p1 - (((p1).toUInt32 >>> (((kI 1)).toUInt32 &&& Int32.toUInt32 31)).toInt32 &&& (kI 1431655765)))).toUInt32 >>> (((kI 2)).toUInt32 &&& Int32.toUInt32 31)).toInt32 &&& (kI 858993459))) + (((((p1 - (((p1).toUInt32 >>> (((kI 1)).toUInt32 &&& Int32.toUInt32 31)).toInt32 &&& (kI 1431655765))) &&& (kI 858993459)) + ((((p1 - (((p1).toUInt32 >>> (((kI 1)).toUInt32 &&& Int32.toUInt32 31)).toInt32 &&& (kI 1431655765)))).toUInt32 >>> (((kI 2)).toUInt32 &&& Int32.toUInt32 31)).toInt32 &&& (kI 858993459)))).toUInt32 >>> (((kI 4)).toUInt32 &&& Int32.toUInt32 31)).toInt32) &&& (kI 252645135)) + (((((((p1 - (((p1).toUInt32 >>> (((kI 1)).toUInt32 &&& Int32.toUInt32 31)).toInt32 &&& (kI 1431655765))) &&& (kI 858993459)) + ((((p1 - (((p1).toUInt32 >>> (((kI 1)).toUInt32 &&& Int32.toUInt32 31)).toInt32 &&& (kI 1431655765)))).toUInt32 >>> (((kI 2)).toUInt32 &&& Int32.toUInt32 31)).toInt32 &&& (kI 858993459))) + (((((p1 - (((p1).toUInt32 >>> (((kI 1)).toUInt32 &&& Int32.toUInt32 31)).toInt32 &&& (kI 1431655765))) &&& (kI 858993459)) + ((((p1 - (((p1).toUInt32 >>> (((kI 1)).toUInt32 &&& Int32.toUInt32 31)).toInt32 &&& (kI 1431655765)))).toUInt32 >>> (((kI 2)).toUInt32 &&& Int32.toUInt32 31)).toInt32 &&& (kI 858993459)))).toUInt32 >>> (((kI 4)).toUInt32 &&& Int32.toUInt32 31)).toInt32) &&& (kI 252645135))).toUInt32 >>> (((kI 8)).toUInt32 &&& Int32.toUInt32 31)).toInt32)).toUInt32 >>> (((kI 16)).toUInt32 &&& Int32.toUInt32 31)).toInt32) &&& (kI 63))], SH, w)) rfl ?_
  refine EV.ret cl_259 rfl rfl rfl ?_
  exact ⟨rfl, rfl, rfl⟩
set_option maxRecDepth 20000 in
theorem cl_155 : RCT[155]? = some rc_155 := rfl
def F_155 (p1 : Int32) (p2 : Int32) (p3 : Int32) (w : Wd) : Int32 := (if p1 = 0 then (kI 0) else (if (p1 &&& (p2 ^^^ (kI (-1)))) = 0 then (if p3 < (F_259 p1 w) then (kI 0) else (kI 1)) else (kI 0)))
theorem z1_155 (p1 : Int32) (p2 : Int32) (p3 : Int32) (w : Wd) : F_155 p1 p2 p3 w = 0 ∨ F_155 p1 p2 p3 w = 1 := by
  unfold F_155
  (repeat' split) <;> first | exact Or.inl rfl | exact Or.inr rfl
theorem m_155 {X : Scr} {d : Nat} (w : Wd) (p1 : Int32) (p2 : Int32) (p3 : Int32) : CV X (d + 2) 155 [.int p1, .int p2, .int p3] SH w (fun r s1 w1 => r = some (.int (F_155 p1 p2 p3 w)) ∧ s1 = SH ∧ w1 = w) := by
  refine CV.of rfl ?_
  refine EV.steps cl_155 1 (q2 := (1, [some (.int p1), some (.int p2), some (.int p3)], [.int p1], SH, w)) rfl ?_
  refine EV.z_eq cl_155 rfl (fun h1 => ?_) (fun h1 => ?_)
  · skip
    refine EV.steps cl_155 1 (q2 := (25, [some (.int p1), some (.int p2), some (.int p3)], [.int (kI 0)], SH, w)) rfl ?_
    refine EV.ret cl_155 rfl rfl rfl ?_
    exact ⟨(by simp only [F_155, if_pos h1]), rfl, rfl⟩
  · skip
    refine EV.steps cl_155 5 (q2 := (9, [some (.int p1), some (.int p2), some (.int p3)], [.int (p1 &&& (p2 ^^^ (kI (-1))))], SH, w)) rfl ?_
    refine EV.z_ne cl_155 rfl (fun h2 => ?_) (fun h2 => ?_)
    · skip
      refine EV.steps cl_155 1 (q2 := (25, [some (.int p1), some (.int p2), some (.int p3)], [.int (kI 0)], SH, w)) rfl ?_
      refine EV.ret cl_155 rfl rfl rfl ?_
      exact ⟨(by simp only [F_155, if_neg h1, if_neg h2]), rfl, rfl⟩
    · skip
      refine EV.steps cl_155 1 (q2 := (13, [some (.int p1), some (.int p2), some (.int p3)], [.int p1], SH, w)) rfl ?_
      refine EV.callF (kc := 259) (av := [.int p1]) (r := []) (rv := some (.int (F_259 p1 w))) (w2 := w) cl_155 rfl rfl rfl (m_259 w p1) ?_
      refine EV.steps cl_155 1 (q2 := (17, [some (.int p1), some (.int p2), some (.int p3)], [.int p3, .int (F_259 p1 w)], SH, w)) rfl ?_
      refine EV.i_gt cl_155 rfl (fun h3 => ?_) (fun h3 => ?_)
      · skip
        refine EV.steps cl_155 1 (q2 := (25, [some (.int p1), some (.int p2), some (.int p3)], [.int (kI 0)], SH, w)) rfl ?_
        refine EV.ret cl_155 rfl rfl rfl ?_
        exact ⟨(by simp only [F_155, if_neg h1, if_pos h2, if_pos h3]), rfl, rfl⟩
      · skip
        refine EV.steps cl_155 2 (q2 := (25, [some (.int p1), some (.int p2), some (.int p3)], [.int (kI 1)], SH, w)) rfl ?_
        refine EV.ret cl_155 rfl rfl rfl ?_
        exact ⟨(by simp only [F_155, if_neg h1, if_pos h2, if_neg h3]), rfl, rfl⟩
set_option maxRecDepth 20000 in
theorem cl_135 : RCT[135]? = some rc_135 := rfl
def F_135_0 (p1 : Int32) (p2 : Int32) (p3 : Int32) (p4 : Int32) (p5 : Int32) (w : Wd) : Int32 := (if (F_153 p1 (kI 0) (kI 19) w) = 0 then (kI 0) else (if (F_153 p2 (kI 0) (kI 5) w) = 0 then (kI 0) else (if (F_153 p3 (kI 0) (kI 99) w) = 0 then (kI 0) else (if (F_153 p4 (kI 0) (kI 23) w) = 0 then (kI 0) else (if (F_153 p5 (kI 0) (kI 9) w) = 0 then (kI 0) else (kI 1))))))
def G_135_0 (p1 : Int32) (p2 : Int32) (p3 : Int32) (p4 : Int32) (p5 : Int32) (w : Wd) : Wd := (if (F_153 p1 (kI 0) (kI 19) w) = 0 then w else (if (F_153 p2 (kI 0) (kI 5) w) = 0 then w else (if (F_153 p3 (kI 0) (kI 99) w) = 0 then w else (if (F_153 p4 (kI 0) (kI 23) w) = 0 then w else (if (F_153 p5 (kI 0) (kI 9) w) = 0 then w else (up2 (up2 (up2 (up2 (up2 w 103 p1.toNatClampNeg p2) 104 p1.toNatClampNeg p3) 105 p1.toNatClampNeg p4) 106 p1.toNatClampNeg p5) 102 6 ((w 102 6) ||| ((kI 1) <<< (p1 &&& 31)))))))))
theorem z1_135_0 (p1 : Int32) (p2 : Int32) (p3 : Int32) (p4 : Int32) (p5 : Int32) (w : Wd) : F_135_0 p1 p2 p3 p4 p5 w = 0 ∨ F_135_0 p1 p2 p3 p4 p5 w = 1 := by
  unfold F_135_0
  (repeat' split) <;> first | exact Or.inl rfl | exact Or.inr rfl
theorem m_135_0 {X : Scr} {d : Nat} (w : Wd) (p1 : Int32) (p2 : Int32) (p3 : Int32) (p4 : Int32) (p5 : Int32) : CV X (d + 2) 135 [.ref 0, .int p1, .int p2, .int p3, .int p4, .int p5] SH w (fun r s1 w1 => r = some (.int (F_135_0 p1 p2 p3 p4 p5 w)) ∧ s1 = SH ∧ w1 = G_135_0 p1 p2 p3 p4 p5 w) := by
  refine CV.of rfl ?_
  refine EV.steps cl_135 3 (q2 := (4, [some (.ref 0), some (.int p1), some (.int p2), some (.int p3), some (.int p4), some (.int p5)], [.int (kI 19), .int (kI 0), .int p1], SH, w)) rfl ?_
  refine EV.callF (kc := 153) (av := [.int p1, .int (kI 0), .int (kI 19)]) (r := []) (rv := some (.int (F_153 p1 (kI 0) (kI 19) w))) (w2 := w) cl_135 rfl rfl rfl (m_153 w p1 (kI 0) (kI 19)) ?_
  refine EV.z_eq cl_135 rfl (fun h1 => ?_) (fun h1 => ?_)
  · skip
    refine EV.steps cl_135 1 (q2 := (20, [some (.ref 0), some (.int p1), some (.int p2), some (.int p3), some (.int p4), some (.int p5)], [.int (kI 0)], SH, w)) rfl ?_
    refine EV.ret cl_135 rfl rfl rfl ?_
    exact ⟨(by simp only [F_135_0, if_pos h1]), rfl, (by simp only [G_135_0, if_pos h1])⟩
  · skip
    refine EV.steps cl_135 3 (q2 := (13, [some (.ref 0), some (.int p1), some (.int p2), some (.int p3), some (.int p4), some (.int p5)], [.int (kI 5), .int (kI 0), .int p2], SH, w)) rfl ?_
    refine EV.callF (kc := 153) (av := [.int p2, .int (kI 0), .int (kI 5)]) (r := []) (rv := some (.int (F_153 p2 (kI 0) (kI 5) w))) (w2 := w) cl_135 rfl rfl rfl (m_153 w p2 (kI 0) (kI 5)) ?_
    refine EV.z_ne cl_135 rfl (fun h2 => ?_) (fun h2 => ?_)
    · skip
      refine EV.steps cl_135 3 (q2 := (25, [some (.ref 0), some (.int p1), some (.int p2), some (.int p3), some (.int p4), some (.int p5)], [.int (kI 99), .int (kI 0), .int p3], SH, w)) rfl ?_
      refine EV.callF (kc := 153) (av := [.int p3, .int (kI 0), .int (kI 99)]) (r := []) (rv := some (.int (F_153 p3 (kI 0) (kI 99) w))) (w2 := w) cl_135 rfl rfl rfl (m_153 w p3 (kI 0) (kI 99)) ?_
      refine EV.z_eq cl_135 rfl (fun h3 => ?_) (fun h3 => ?_)
      · skip
        refine EV.steps cl_135 1 (q2 := (54, [some (.ref 0), some (.int p1), some (.int p2), some (.int p3), some (.int p4), some (.int p5)], [.int (kI 0)], SH, w)) rfl ?_
        refine EV.ret cl_135 rfl rfl rfl ?_
        exact ⟨(by simp only [F_135_0, if_neg h1, if_neg h2, if_pos h3]), rfl, (by simp only [G_135_0, if_neg h1, if_neg h2, if_pos h3])⟩
      · skip
        refine EV.steps cl_135 3 (q2 := (36, [some (.ref 0), some (.int p1), some (.int p2), some (.int p3), some (.int p4), some (.int p5)], [.int (kI 23), .int (kI 0), .int p4], SH, w)) rfl ?_
        refine EV.callF (kc := 153) (av := [.int p4, .int (kI 0), .int (kI 23)]) (r := []) (rv := some (.int (F_153 p4 (kI 0) (kI 23) w))) (w2 := w) cl_135 rfl rfl rfl (m_153 w p4 (kI 0) (kI 23)) ?_
        refine EV.z_eq cl_135 rfl (fun h4 => ?_) (fun h4 => ?_)
        · skip
          refine EV.steps cl_135 1 (q2 := (54, [some (.ref 0), some (.int p1), some (.int p2), some (.int p3), some (.int p4), some (.int p5)], [.int (kI 0)], SH, w)) rfl ?_
          refine EV.ret cl_135 rfl rfl rfl ?_
          exact ⟨(by simp only [F_135_0, if_neg h1, if_neg h2, if_neg h3, if_pos h4]), rfl, (by simp only [G_135_0, if_neg h1, if_neg h2, if_neg h3, if_pos h4])⟩
        · skip
          refine EV.steps cl_135 3 (q2 := (47, [some (.ref 0), some (.int p1), some (.int p2), some (.int p3), some (.int p4), some (.int p5)], [.int (kI 9), .int (kI 0), .int p5], SH, w)) rfl ?_
          refine EV.callF (kc := 153) (av := [.int p5, .int (kI 0), .int (kI 9)]) (r := []) (rv := some (.int (F_153 p5 (kI 0) (kI 9) w))) (w2 := w) cl_135 rfl rfl rfl (m_153 w p5 (kI 0) (kI 9)) ?_
          refine EV.z_ne cl_135 rfl (fun h5 => ?_) (fun h5 => ?_)
          · skip
            refine EV.steps cl_135 5 (q2 := (64, [some (.ref 0), some (.int p1), some (.int p2), some (.int p3), some (.int p4), some (.int p5)], [.int p2, .int p1, .ref 103], SH, w)) rfl ?_
            refine EV.iastore cl_135 rfl rfl (by decide) (ix_153 h1 (by decide)) ?_
            refine EV.steps cl_135 5 (q2 := (74, [some (.ref 0), some (.int p1), some (.int p2), some (.int p3), some (.int p4), some (.int p5)], [.int p3, .int p1, .ref 104], SH, (up2 w 103 p1.toNatClampNeg p2))) rfl ?_
            refine EV.iastore cl_135 rfl rfl (by decide) (ix_153 h1 (by decide)) ?_
            refine EV.steps cl_135 5 (q2 := (85, [some (.ref 0), some (.int p1), some (.int p2), some (.int p3), some (.int p4), some (.int p5)], [.int p4, .int p1, .ref 105], SH, (up2 (up2 w 103 p1.toNatClampNeg p2) 104 p1.toNatClampNeg p3))) rfl ?_
            refine EV.iastore cl_135 rfl rfl (by decide) (ix_153 h1 (by decide)) ?_
            refine EV.steps cl_135 5 (q2 := (96, [some (.ref 0), some (.int p1), some (.int p2), some (.int p3), some (.int p4), some (.int p5)], [.int p5, .int p1, .ref 106], SH, (up2 (up2 (up2 w 103 p1.toNatClampNeg p2) 104 p1.toNatClampNeg p3) 105 p1.toNatClampNeg p4))) rfl ?_
            refine EV.iastore cl_135 rfl rfl (by decide) (ix_153 h1 (by decide)) ?_
            refine EV.steps cl_135 10 (q2 := (113, [some (.ref 0), some (.int p1), some (.int p2), some (.int p3), some (.int p4), some (.int p5)], [.int (kI 1)], SH, (up2 (up2 (up2 (up2 (up2 w 103 p1.toNatClampNeg p2) 104 p1.toNatClampNeg p3) 105 p1.toNatClampNeg p4) 106 p1.toNatClampNeg p5) 102 6 ((w 102 6) ||| ((kI 1) <<< (p1 &&& 31)))))) rfl ?_
            refine EV.ret cl_135 rfl rfl rfl ?_
            exact ⟨(by simp only [F_135_0, if_neg h1, if_neg h2, if_neg h3, if_neg h4, if_neg h5]), rfl, (by simp only [G_135_0, if_neg h1, if_neg h2, if_neg h3, if_neg h4, if_neg h5])⟩
          · skip
            refine EV.steps cl_135 1 (q2 := (54, [some (.ref 0), some (.int p1), some (.int p2), some (.int p3), some (.int p4), some (.int p5)], [.int (kI 0)], SH, w)) rfl ?_
            refine EV.ret cl_135 rfl rfl rfl ?_
            exact ⟨(by simp only [F_135_0, if_neg h1, if_neg h2, if_neg h3, if_neg h4, if_pos h5]), rfl, (by simp only [G_135_0, if_neg h1, if_neg h2, if_neg h3, if_neg h4, if_pos h5])⟩
    · skip
      refine EV.steps cl_135 1 (q2 := (20, [some (.ref 0), some (.int p1), some (.int p2), some (.int p3), some (.int p4), some (.int p5)], [.int (kI 0)], SH, w)) rfl ?_
      refine EV.ret cl_135 rfl rfl rfl ?_
      exact ⟨(by simp only [F_135_0, if_neg h1, if_pos h2]), rfl, (by simp only [G_135_0, if_neg h1, if_pos h2])⟩
set_option maxRecDepth 20000 in
theorem cl_141 : RCT[141]? = some rc_141 := rfl
def F_141_0 (p1 : Int32) (p2 : Int32) (w : Wd) : Int32 := (if (F_52_3 p1 w) = 0 then (kI (-1)) else (if (F_153 p2 (kI 0) (kI 7) w) = 0 then (kI (-1)) else (F_13_7 p1 p2 w)))
theorem m_141_0 {X : Scr} {d : Nat} (w : Wd) (p1 : Int32) (p2 : Int32) : CV X (d + 3) 141 [.ref 0, .int p1, .int p2] SH w (fun r s1 w1 => r = some (.int (F_141_0 p1 p2 w)) ∧ s1 = SH ∧ w1 = w) := by
  refine CV.of rfl ?_
  refine EV.steps cl_141 3 (q2 := (5, [some (.ref 0), some (.int p1), some (.int p2)], [.int p1, .ref 3], SH, w)) rfl ?_
  refine EV.callF (kc := 52) (av := [.ref 3, .int p1]) (r := []) (rv := some (.int (F_52_3 p1 w))) (w2 := w) cl_141 rfl rfl rfl (m_52_3 w p1) ?_
  refine EV.z_eq cl_141 rfl (fun h1 => ?_) (fun h1 => ?_)
  · skip
    refine EV.steps cl_141 1 (q2 := (22, [some (.ref 0), some (.int p1), some (.int p2)], [.int (kI (-1))], SH, w)) rfl ?_
    refine EV.ret cl_141 rfl rfl rfl ?_
    exact ⟨(by simp only [F_141_0, if_pos h1]), rfl, rfl⟩
  · skip
    refine EV.steps cl_141 3 (q2 := (15, [some (.ref 0), some (.int p1), some (.int p2)], [.int (kI 7), .int (kI 0), .int p2], SH, w)) rfl ?_
    refine EV.callF (kc := 153) (av := [.int p2, .int (kI 0), .int (kI 7)]) (r := []) (rv := some (.int (F_153 p2 (kI 0) (kI 7) w))) (w2 := w) cl_141 rfl rfl rfl (m_153 w p2 (kI 0) (kI 7)) ?_
    refine EV.z_ne cl_141 rfl (fun h2 => ?_) (fun h2 => ?_)
    · skip
      refine EV.steps cl_141 4 (q2 := (29, [some (.ref 0), some (.int p1), some (.int p2)], [.int p2, .int p1, .ref 7], SH, w)) rfl ?_
      refine EV.callF (kc := 13) (av := [.ref 7, .int p1, .int p2]) (r := []) (rv := some (.int (F_13_7 p1 p2 w))) (w2 := w) cl_141 rfl rfl rfl (m_13_7 w p1 p2) ?_
      refine EV.ret cl_141 rfl rfl rfl ?_
      exact ⟨(by simp only [F_141_0, if_neg h1, if_neg h2]), rfl, rfl⟩
    · skip
      refine EV.steps cl_141 1 (q2 := (22, [some (.ref 0), some (.int p1), some (.int p2)], [.int (kI (-1))], SH, w)) rfl ?_
      refine EV.ret cl_141 rfl rfl rfl ?_
      exact ⟨(by simp only [F_141_0, if_neg h1, if_pos h2]), rfl, rfl⟩
set_option maxRecDepth 20000 in
theorem cl_146 : RCT[146]? = some rc_146 := rfl
def F_146_0 (p1 : Int32) (w : Wd) : Int32 := (if (F_153 p1 (kI 0) (kI 65535) w) = 0 then (kI 0) else (kI 1))
def G_146_0 (p1 : Int32) (w : Wd) : Wd := (if (F_153 p1 (kI 0) (kI 65535) w) = 0 then w else (up2 w 7 8 p1))
theorem z1_146_0 (p1 : Int32) (w : Wd) : F_146_0 p1 w = 0 ∨ F_146_0 p1 w = 1 := by
  unfold F_146_0
  (repeat' split) <;> first | exact Or.inl rfl | exact Or.inr rfl
theorem m_146_0 {X : Scr} {d : Nat} (w : Wd) (p1 : Int32) : CV X (d + 2) 146 [.ref 0, .int p1] SH w (fun r s1 w1 => r = some (.int (F_146_0 p1 w)) ∧ s1 = SH ∧ w1 = G_146_0 p1 w) := by
  refine CV.of rfl ?_
  refine EV.steps cl_146 3 (q2 := (5, [some (.ref 0), some (.int p1)], [.int (kI 65535), .int (kI 0), .int p1], SH, w)) rfl ?_
  refine EV.callF (kc := 153) (av := [.int p1, .int (kI 0), .int (kI 65535)]) (r := []) (rv := some (.int (F_153 p1 (kI 0) (kI 65535) w))) (w2 := w) cl_146 rfl rfl rfl (m_153 w p1 (kI 0) (kI 65535)) ?_
  refine EV.z_ne cl_146 rfl (fun h1 => ?_) (fun h1 => ?_)
  · skip
    refine EV.steps cl_146 5 (q2 := (22, [some (.ref 0), some (.int p1)], [.int (kI 1)], SH, (up2 w 7 8 p1))) rfl ?_
    refine EV.ret cl_146 rfl rfl rfl ?_
    exact ⟨(by simp only [F_146_0, if_neg h1]), rfl, (by simp only [G_146_0, if_neg h1])⟩
  · skip
    refine EV.steps cl_146 1 (q2 := (12, [some (.ref 0), some (.int p1)], [.int (kI 0)], SH, w)) rfl ?_
    refine EV.ret cl_146 rfl rfl rfl ?_
    exact ⟨(by simp only [F_146_0, if_pos h1]), rfl, (by simp only [G_146_0, if_pos h1])⟩
set_option maxRecDepth 20000 in
theorem cl_157 : RCT[157]? = some rc_157 := rfl
def F_157 (p1 : Int32) (p2 : Int32) (p3 : Int32) (w : Wd) : Int32 := (if p1 < p2 then (kI 0) else (if p3 < p1 then (kI 0) else (kI 1)))
theorem z1_157 (p1 : Int32) (p2 : Int32) (p3 : Int32) (w : Wd) : F_157 p1 p2 p3 w = 0 ∨ F_157 p1 p2 p3 w = 1 := by
  unfold F_157
  (repeat' split) <;> first | exact Or.inl rfl | exact Or.inr rfl
theorem m_157 {X : Scr} {d : Nat} (w : Wd) (p1 : Int32) (p2 : Int32) (p3 : Int32) : CV X (d + 1) 157 [.int p1, .int p2, .int p3] SH w (fun r s1 w1 => r = some (.int (F_157 p1 p2 p3 w)) ∧ s1 = SH ∧ w1 = w) := by
  refine CV.of rfl ?_
  refine EV.steps cl_157 2 (q2 := (2, [some (.int p1), some (.int p2), some (.int p3)], [.int p2, .int p1], SH, w)) rfl ?_
  refine EV.i_lt cl_157 rfl (fun h1 => ?_) (fun h1 => ?_)
  · skip
    refine EV.steps cl_157 1 (q2 := (15, [some (.int p1), some (.int p2), some (.int p3)], [.int (kI 0)], SH, w)) rfl ?_
    refine EV.ret cl_157 rfl rfl rfl ?_
    exact ⟨(by simp only [F_157, if_pos h1]), rfl, rfl⟩
  · skip
    refine EV.steps cl_157 2 (q2 := (7, [some (.int p1), some (.int p2), some (.int p3)], [.int p3, .int p1], SH, w)) rfl ?_
    refine EV.i_gt cl_157 rfl (fun h2 => ?_) (fun h2 => ?_)
    · skip
      refine EV.steps cl_157 1 (q2 := (15, [some (.int p1), some (.int p2), some (.int p3)], [.int (kI 0)], SH, w)) rfl ?_
      refine EV.ret cl_157 rfl rfl rfl ?_
      exact ⟨(by simp only [F_157, if_neg h1, if_pos h2]), rfl, rfl⟩
    · skip
      refine EV.steps cl_157 2 (q2 := (15, [some (.int p1), some (.int p2), some (.int p3)], [.int (kI 1)], SH, w)) rfl ?_
      refine EV.ret cl_157 rfl rfl rfl ?_
      exact ⟨(by simp only [F_157, if_neg h1, if_neg h2]), rfl, rfl⟩
theorem wi_157 {p : Int32} {a b : Int} {w : Wd} (h : ¬ F_157 p (kI a) (kI b) w = 0) (ha : -1000000 ≤ a ∧ a ≤ 1000000) (hb : -1000000 ≤ b ∧ b ≤ 1000000) : a ≤ p.toInt ∧ p.toInt ≤ b := by
  unfold F_157 at h
  by_cases h1 : p < kI a
  · rw [if_pos h1] at h; exact absurd rfl h
  · rw [if_neg h1] at h
    by_cases h2 : kI b < p
    · rw [if_pos h2] at h; exact absurd rfl h
    · exact ⟨(le_kI ha.1 ha.2).1.mp (Int32.not_lt.mp h1), (le_kI hb.1 hb.2).2.mp (Int32.not_lt.mp h2)⟩
theorem ix_157 {p : Int32} {b : Int} {w : Wd} {n : Nat} (h : ¬ F_157 p (kI 0) (kI b) w = 0) (hb : 0 ≤ b ∧ b ≤ 1000000 ∧ b < n) : inB p n = true := by
  have h1 := wi_157 h (by omega) (by omega)
  exact inB_of h1.1 (by omega)
theorem ix2_157 {p q : Int32} {a b c : Int} {w w2 : Wd} {n : Nat} (h : ¬ F_157 p (kI 0) (kI a) w = 0) (h2 : ¬ F_157 q (kI 0) (kI b) w2 = 0) (ha : 0 ≤ a ∧ a ≤ 1000) (hb : 0 ≤ b ∧ b ≤ 1000) (hc : 0 ≤ c ∧ c ≤ 1000) (hn : a * c + b < n) : inB (p * kI c + q) n = true := by
  have h3 := wi_157 h (by omega) (by omega)
  have h4 := wi_157 h2 (by omega) (by omega)
  have h5 := toInt_lin (p := p) (q := q) (c := c) (by omega) (by omega) hc
  have h6 : p.toInt * c ≤ a * c := Int.mul_le_mul_of_nonneg_right h3.2 hc.1
  have h7 : 0 ≤ p.toInt * c := Int.mul_nonneg h3.1 hc.1
  exact inB_of (by omega) (by omega)
set_option maxRecDepth 20000 in
theorem cl_158 : RCT[158]? = some rc_158 := rfl
def F_158 (p1 : Int32) (p2 : Int32) (w : Wd) : Int32 := (if p2 ≤ p1 then p2 else p1)
theorem m_158 {X : Scr} {d : Nat} (w : Wd) (p1 : Int32) (p2 : Int32) : CV X (d + 1) 158 [.int p1, .int p2] SH w (fun r s1 w1 => r = some (.int (F_158 p1 p2 w)) ∧ s1 = SH ∧ w1 = w) := by
  refine CV.of rfl ?_
  refine EV.steps cl_158 2 (q2 := (2, [some (.int p1), some (.int p2)], [.int p2, .int p1], SH, w)) rfl ?_
  refine EV.i_ge cl_158 rfl (fun h1 => ?_) (fun h1 => ?_)
  · skip
    refine EV.steps cl_158 1 (q2 := (10, [some (.int p1), some (.int p2)], [.int p2], SH, w)) rfl ?_
    refine EV.ret cl_158 rfl rfl rfl ?_
    exact ⟨(by simp only [F_158, if_pos h1]), rfl, rfl⟩
  · skip
    refine EV.steps cl_158 2 (q2 := (10, [some (.int p1), some (.int p2)], [.int p1], SH, w)) rfl ?_
    refine EV.ret cl_158 rfl rfl rfl ?_
    exact ⟨(by simp only [F_158, if_neg h1]), rfl, rfl⟩
set_option maxRecDepth 20000 in
theorem cl_159 : RCT[159]? = some rc_159 := rfl
def F_159 (p1 : Int32) (p2 : Int32) (w : Wd) : Int32 := (if p1 ≤ p2 then p2 else p1)
theorem m_159 {X : Scr} {d : Nat} (w : Wd) (p1 : Int32) (p2 : Int32) : CV X (d + 1) 159 [.int p1, .int p2] SH w (fun r s1 w1 => r = some (.int (F_159 p1 p2 w)) ∧ s1 = SH ∧ w1 = w) := by
  refine CV.of rfl ?_
  refine EV.steps cl_159 2 (q2 := (2, [some (.int p1), some (.int p2)], [.int p2, .int p1], SH, w)) rfl ?_
  refine EV.i_le cl_159 rfl (fun h1 => ?_) (fun h1 => ?_)
  · skip
    refine EV.steps cl_159 1 (q2 := (10, [some (.int p1), some (.int p2)], [.int p2], SH, w)) rfl ?_
    refine EV.ret cl_159 rfl rfl rfl ?_
    exact ⟨(by simp only [F_159, if_pos h1]), rfl, rfl⟩
  · skip
    refine EV.steps cl_159 2 (q2 := (10, [some (.int p1), some (.int p2)], [.int p1], SH, w)) rfl ?_
    refine EV.ret cl_159 rfl rfl rfl ?_
    exact ⟨(by simp only [F_159, if_neg h1]), rfl, rfl⟩
set_option maxRecDepth 20000 in
theorem cl_160 : RCT[160]? = some rc_160 := rfl
def F_160 (p1 : Int32) (w : Wd) : Int32 := (if 0 ≤ p1 then p1 else (-p1))
theorem m_160 {X : Scr} {d : Nat} (w : Wd) (p1 : Int32) : CV X (d + 1) 160 [.int p1] SH w (fun r s1 w1 => r = some (.int (F_160 p1 w)) ∧ s1 = SH ∧ w1 = w) := by
  refine CV.of rfl ?_
  refine EV.steps cl_160 1 (q2 := (1, [some (.int p1)], [.int p1], SH, w)) rfl ?_
  refine EV.z_ge cl_160 rfl (fun h1 => ?_) (fun h1 => ?_)
  · skip
    refine EV.steps cl_160 1 (q2 := (10, [some (.int p1)], [.int p1], SH, w)) rfl ?_
    refine EV.ret cl_160 rfl rfl rfl ?_
    exact ⟨(by simp only [F_160, if_pos h1]), rfl, rfl⟩
  · skip
    refine EV.steps cl_160 3 (q2 := (10, [some (.int p1)], [.int (-p1)], SH, w)) rfl ?_
    refine EV.ret cl_160 rfl rfl rfl ?_
    exact ⟨(by simp only [F_160, if_neg h1]), rfl, rfl⟩
set_option maxRecDepth 20000 in
theorem cl_161 : RCT[161]? = some rc_161 := rfl
def F_161 (p1 : Int32) (p2 : Int32) (w : Wd) : Int32 := (if ((p1 >>> (p2 &&& 31)) &&& (kI 1)) = (kI 1) then (kI 1) else (kI 0))
theorem z1_161 (p1 : Int32) (p2 : Int32) (w : Wd) : F_161 p1 p2 w = 0 ∨ F_161 p1 p2 w = 1 := by
  unfold F_161
  (repeat' split) <;> first | exact Or.inl rfl | exact Or.inr rfl
theorem m_161 {X : Scr} {d : Nat} (w : Wd) (p1 : Int32) (p2 : Int32) : CV X (d + 1) 161 [.int p1, .int p2] SH w (fun r s1 w1 => r = some (.int (F_161 p1 p2 w)) ∧ s1 = SH ∧ w1 = w) := by
  refine CV.of rfl ?_
  refine EV.steps cl_161 6 (q2 := (6, [some (.int p1), some (.int p2)], [.int (kI 1), .int ((p1 >>> (p2 &&& 31)) &&& (kI 1))], SH, w)) rfl ?_
  refine EV.i_ne cl_161 rfl (fun h1 => ?_) (fun h1 => ?_)
  · skip
    refine EV.steps cl_161 1 (q2 := (14, [some (.int p1), some (.int p2)], [.int (kI 0)], SH, w)) rfl ?_
    refine EV.ret cl_161 rfl rfl rfl ?_
    exact ⟨(by simp only [F_161, if_neg h1]), rfl, rfl⟩
  · skip
    refine EV.steps cl_161 2 (q2 := (14, [some (.int p1), some (.int p2)], [.int (kI 1)], SH, w)) rfl ?_
    refine EV.ret cl_161 rfl rfl rfl ?_
    exact ⟨(by simp only [F_161, if_pos h1]), rfl, rfl⟩
set_option maxRecDepth 20000 in
theorem cl_164 : RCT[164]? = some rc_164 := rfl
def F_164_110 (p1 : Int32) (w : Wd) : Int32 := (if (F_157 p1 (kI 0) (kI 5) w) = 0 then (kI 0) else (if (F_161 (w 110 6) p1 w) = 0 then (kI 0) else (kI 1)))
theorem z1_164_110 (p1 : Int32) (w : Wd) : F_164_110 p1 w = 0 ∨ F_164_110 p1 w = 1 := by
  unfold F_164_110
  (repeat' split) <;> first | exact Or.inl rfl | exact Or.inr rfl
theorem m_164_110 {X : Scr} {d : Nat} (w : Wd) (p1 : Int32) : CV X (d + 2) 164 [.ref 110, .int p1] SH w (fun r s1 w1 => r = some (.int (F_164_110 p1 w)) ∧ s1 = SH ∧ w1 = w) := by
  refine CV.of rfl ?_
  refine EV.steps cl_164 3 (q2 := (3, [some (.ref 110), some (.int p1)], [.int (kI 5), .int (kI 0), .int p1], SH, w)) rfl ?_
  refine EV.callF (kc := 157) (av := [.int p1, .int (kI 0), .int (kI 5)]) (r := []) (rv := some (.int (F_157 p1 (kI 0) (kI 5) w))) (w2 := w) cl_164 rfl rfl rfl (m_157 w p1 (kI 0) (kI 5)) ?_
  refine EV.z_eq cl_164 rfl (fun h1 => ?_) (fun h1 => ?_)
  · skip
    refine EV.steps cl_164 1 (q2 := (25, [some (.ref 110), some (.int p1)], [.int (kI 0)], SH, w)) rfl ?_
    refine EV.ret cl_164 rfl rfl rfl ?_
    exact ⟨(by simp only [F_164_110, if_pos h1]), rfl, rfl⟩
  · skip
    refine EV.steps cl_164 3 (q2 := (14, [some (.ref 110), some (.int p1)], [.int p1, .int (w 110 6)], SH, w)) rfl ?_
    refine EV.callF (kc := 161) (av := [.int (w 110 6), .int p1]) (r := []) (rv := some (.int (F_161 (w 110 6) p1 w))) (w2 := w) cl_164 rfl rfl rfl (m_161 w (w 110 6) p1) ?_
    refine EV.z_eq cl_164 rfl (fun h2 => ?_) (fun h2 => ?_)
    · skip
      refine EV.steps cl_164 1 (q2 := (25, [some (.ref 110), some (.int p1)], [.int (kI 0)], SH, w)) rfl ?_
      refine EV.ret cl_164 rfl rfl rfl ?_
      exact ⟨(by simp only [F_164_110, if_neg h1, if_pos h2]), rfl, rfl⟩
    · skip
      refine EV.steps cl_164 2 (q2 := (25, [some (.ref 110), some (.int p1)], [.int (kI 1)], SH, w)) rfl ?_
      refine EV.ret cl_164 rfl rfl rfl ?_
      exact ⟨(by simp only [F_164_110, if_neg h1, if_neg h2]), rfl, rfl⟩
set_option maxRecDepth 20000 in
theorem cl_165 : RCT[165]? = some rc_165 := rfl
def F_165_110 (p1 : Int32) (w : Wd) : Int32 := (if (F_157 p1 (kI 0) (kI 5) w) = 0 then (kI 0) else (if (F_161 (w 110 7) p1 w) = 0 then (kI 0) else (kI 1)))
theorem z1_165_110 (p1 : Int32) (w : Wd) : F_165_110 p1 w = 0 ∨ F_165_110 p1 w = 1 := by
  unfold F_165_110
  (repeat' split) <;> first | exact Or.inl rfl | exact Or.inr rfl
theorem m_165_110 {X : Scr} {d : Nat} (w : Wd) (p1 : Int32) : CV X (d + 2) 165 [.ref 110, .int p1] SH w (fun r s1 w1 => r = some (.int (F_165_110 p1 w)) ∧ s1 = SH ∧ w1 = w) := by
  refine CV.of rfl ?_
  refine EV.steps cl_165 3 (q2 := (3, [some (.ref 110), some (.int p1)], [.int (kI 5), .int (kI 0), .int p1], SH, w)) rfl ?_
  refine EV.callF (kc := 157) (av := [.int p1, .int (kI 0), .int (kI 5)]) (r := []) (rv := some (.int (F_157 p1 (kI 0) (kI 5) w))) (w2 := w) cl_165 rfl rfl rfl (m_157 w p1 (kI 0) (kI 5)) ?_
  refine EV.z_eq cl_165 rfl (fun h1 => ?_) (fun h1 => ?_)
  · skip
    refine EV.steps cl_165 1 (q2 := (25, [some (.ref 110), some (.int p1)], [.int (kI 0)], SH, w)) rfl ?_
    refine EV.ret cl_165 rfl rfl rfl ?_
    exact ⟨(by simp only [F_165_110, if_pos h1]), rfl, rfl⟩
  · skip
    refine EV.steps cl_165 3 (q2 := (14, [some (.ref 110), some (.int p1)], [.int p1, .int (w 110 7)], SH, w)) rfl ?_
    refine EV.callF (kc := 161) (av := [.int (w 110 7), .int p1]) (r := []) (rv := some (.int (F_161 (w 110 7) p1 w))) (w2 := w) cl_165 rfl rfl rfl (m_161 w (w 110 7) p1) ?_
    refine EV.z_eq cl_165 rfl (fun h2 => ?_) (fun h2 => ?_)
    · skip
      refine EV.steps cl_165 1 (q2 := (25, [some (.ref 110), some (.int p1)], [.int (kI 0)], SH, w)) rfl ?_
      refine EV.ret cl_165 rfl rfl rfl ?_
      exact ⟨(by simp only [F_165_110, if_neg h1, if_pos h2]), rfl, rfl⟩
    · skip
      refine EV.steps cl_165 2 (q2 := (25, [some (.ref 110), some (.int p1)], [.int (kI 1)], SH, w)) rfl ?_
      refine EV.ret cl_165 rfl rfl rfl ?_
      exact ⟨(by simp only [F_165_110, if_neg h1, if_neg h2]), rfl, rfl⟩
set_option maxRecDepth 20000 in
theorem cl_166 : RCT[166]? = some rc_166 := rfl
def F_166_110 (p1 : Int32) (p2 : Int32) (w : Wd) : Int32 := (w 111 (((kI 0) + ((kI 6) * p1)) + p2).toNatClampNeg)
theorem m_166_110 {X : Scr} {d : Nat} (w : Wd) (p1 : Int32) (p2 : Int32) (i1 : (inB (((kI 0) + ((kI 6) * p1)) + p2) 162 = true)) : CV X (d + 1) 166 [.ref 110, .int p1, .int p2] SH w (fun r s1 w1 => r = some (.int (F_166_110 p1 p2 w)) ∧ s1 = SH ∧ w1 = w) := by
  refine CV.of rfl ?_
  refine EV.steps cl_166 9 (q2 := (12, [some (.ref 110), some (.int p1), some (.int p2)], [.int (((kI 0) + ((kI 6) * p1)) + p2), .ref 111], SH, w)) rfl ?_
  refine EV.iaload cl_166 rfl rfl (by decide) (i1) ?_
  refine EV.ret cl_166 rfl rfl rfl ?_
  exact ⟨rfl, rfl, rfl⟩
set_option maxRecDepth 20000 in
theorem cl_169 : RCT[169]? = some rc_169 := rfl
def F_169_110 (p1 : Int32) (p2 : Int32) (w : Wd) : Int32 := (if (F_157 p1 (kI 0) (kI 5) w) = 0 then (kI 0) else (if (F_157 p2 (kI 0) (kI 9999) w) = 0 then (kI 0) else (kI 1)))
def G_169_110 (p1 : Int32) (p2 : Int32) (w : Wd) : Wd := (if (F_157 p1 (kI 0) (kI 5) w) = 0 then w else (if (F_157 p2 (kI 0) (kI 9999) w) = 0 then w else (up2 (up2 w 110 6 ((w 110 6) ||| ((kI 1) <<< (p1 &&& 31)))) 114 p1.toNatClampNeg p2)))
theorem z1_169_110 (p1 : Int32) (p2 : Int32) (w : Wd) : F_169_110 p1 p2 w = 0 ∨ F_169_110 p1 p2 w = 1 := by
  unfold F_169_110
  (repeat' split) <;> first | exact Or.inl rfl | exact Or.inr rfl
theorem m_169_110 {X : Scr} {d : Nat} (w : Wd) (p1 : Int32) (p2 : Int32) : CV X (d + 2) 169 [.ref 110, .int p1, .int p2] SH w (fun r s1 w1 => r = some (.int (F_169_110 p1 p2 w)) ∧ s1 = SH ∧ w1 = G_169_110 p1 p2 w) := by
  refine CV.of rfl ?_
  refine EV.steps cl_169 3 (q2 := (3, [some (.ref 110), some (.int p1), some (.int p2)], [.int (kI 5), .int (kI 0), .int p1], SH, w)) rfl ?_
  refine EV.callF (kc := 157) (av := [.int p1, .int (kI 0), .int (kI 5)]) (r := []) (rv := some (.int (F_157 p1 (kI 0) (kI 5) w))) (w2 := w) cl_169 rfl rfl rfl (m_157 w p1 (kI 0) (kI 5)) ?_
  refine EV.z_eq cl_169 rfl (fun h1 => ?_) (fun h1 => ?_)
  · skip
    refine EV.steps cl_169 1 (q2 := (21, [some (.ref 110), some (.int p1), some (.int p2)], [.int (kI 0)], SH, w)) rfl ?_
    refine EV.ret cl_169 rfl rfl rfl ?_
    exact ⟨(by simp only [F_169_110, if_pos h1]), rfl, (by simp only [G_169_110, if_pos h1])⟩
  · skip
    refine EV.steps cl_169 3 (q2 := (14, [some (.ref 110), some (.int p1), some (.int p2)], [.int (kI 9999), .int (kI 0), .int p2], SH, w)) rfl ?_
    refine EV.callF (kc := 157) (av := [.int p2, .int (kI 0), .int (kI 9999)]) (r := []) (rv := some (.int (F_157 p2 (kI 0) (kI 9999) w))) (w2 := w) cl_169 rfl rfl rfl (m_157 w p2 (kI 0) (kI 9999)) ?_
    refine EV.z_ne cl_169 rfl (fun h2 => ?_) (fun h2 => ?_)
    · skip
      refine EV.steps cl_169 12 (q2 := (40, [some (.ref 110), some (.int p1), some (.int p2)], [.int p2, .int p1, .ref 114], SH, (up2 w 110 6 ((w 110 6) ||| ((kI 1) <<< (p1 &&& 31)))))) rfl ?_
      refine EV.iastore cl_169 rfl rfl (by decide) (ix_157 h1 (by decide)) ?_
      refine EV.steps cl_169 1 (q2 := (42, [some (.ref 110), some (.int p1), some (.int p2)], [.int (kI 1)], SH, (up2 (up2 w 110 6 ((w 110 6) ||| ((kI 1) <<< (p1 &&& 31)))) 114 p1.toNatClampNeg p2))) rfl ?_
      refine EV.ret cl_169 rfl rfl rfl ?_
      exact ⟨(by simp only [F_169_110, if_neg h1, if_neg h2]), rfl, (by simp only [G_169_110, if_neg h1, if_neg h2])⟩
    · skip
      refine EV.steps cl_169 1 (q2 := (21, [some (.ref 110), some (.int p1), some (.int p2)], [.int (kI 0)], SH, w)) rfl ?_
      refine EV.ret cl_169 rfl rfl rfl ?_
      exact ⟨(by simp only [F_169_110, if_neg h1, if_pos h2]), rfl, (by simp only [G_169_110, if_neg h1, if_pos h2])⟩
set_option maxRecDepth 20000 in
theorem cl_170 : RCT[170]? = some rc_170 := rfl
def F_170_110 (p1 : Int32) (p2 : Int32) (p3 : Int32) (w : Wd) : Int32 := (if (F_164_110 p1 w) = 0 then (kI 0) else (if (F_164_110 p2 w) = 0 then (kI 0) else (if p1 = p2 then (kI 0) else (kI 1))))
def G_170_110 (p1 : Int32) (p2 : Int32) (p3 : Int32) (w : Wd) : Wd := (if (F_164_110 p1 w) = 0 then w else (if (F_164_110 p2 w) = 0 then w else (if p1 = p2 then w else (if p3 = 0 then (up2 (up2 w 115 p1.toNatClampNeg ((w 115 p1.toNatClampNeg) &&& (((kI 1) <<< (p2 &&& 31)) ^^^ (kI (-1))))) 115 p2.toNatClampNeg (((up2 w 115 p1.toNatClampNeg ((w 115 p1.toNatClampNeg) &&& (((kI 1) <<< (p2 &&& 31)) ^^^ (kI (-1))))) 115 p2.toNatClampNeg) &&& (((kI 1) <<< (p1 &&& 31)) ^^^ (kI (-1))))) else (up2 (up2 w 115 p1.toNatClampNeg ((w 115 p1.toNatClampNeg) ||| ((kI 1) <<< (p2 &&& 31)))) 115 p2.toNatClampNeg (((up2 w 115 p1.toNatClampNeg ((w 115 p1.toNatClampNeg) ||| ((kI 1) <<< (p2 &&& 31)))) 115 p2.toNatClampNeg) ||| ((kI 1) <<< (p1 &&& 31))))))))
theorem z1_170_110 (p1 : Int32) (p2 : Int32) (p3 : Int32) (w : Wd) : F_170_110 p1 p2 p3 w = 0 ∨ F_170_110 p1 p2 p3 w = 1 := by
  unfold F_170_110
  (repeat' split) <;> first | exact Or.inl rfl | exact Or.inr rfl
theorem m_170_110 {X : Scr} {d : Nat} (w : Wd) (p1 : Int32) (p2 : Int32) (p3 : Int32) (i1 : ¬ (F_164_110 p1 w) = 0 → ¬ (F_164_110 p2 w) = 0 → ¬ p1 = p2 → p3 = 0 → (inB p1 6 = true)) (i2 : ¬ (F_164_110 p1 w) = 0 → ¬ (F_164_110 p2 w) = 0 → ¬ p1 = p2 → p3 = 0 → (inB p2 6 = true)) (i3 : ¬ (F_164_110 p1 w) = 0 → ¬ (F_164_110 p2 w) = 0 → ¬ p1 = p2 → ¬ p3 = 0 → (inB p1 6 = true)) (i4 : ¬ (F_164_110 p1 w) = 0 → ¬ (F_164_110 p2 w) = 0 → ¬ p1 = p2 → ¬ p3 = 0 → (inB p2 6 = true)) : CV X (d + 3) 170 [.ref 110, .int p1, .int p2, .int p3] SH w (fun r s1 w1 => r = some (.int (F_170_110 p1 p2 p3 w)) ∧ s1 = SH ∧ w1 = G_170_110 p1 p2 p3 w) := by
  refine CV.of rfl ?_
  refine EV.steps cl_170 2 (q2 := (2, [some (.ref 110), some (.int p1), some (.int p2), some (.int p3)], [.int p1, .ref 110], SH, w)) rfl ?_
  refine EV.callF (kc := 164) (av := [.ref 110, .int p1]) (r := []) (rv := some (.int (F_164_110 p1 w))) (w2 := w) cl_170 rfl rfl rfl (m_164_110 w p1) ?_
  refine EV.z_eq cl_170 rfl (fun h1 => ?_) (fun h1 => ?_)
  · skip
    refine EV.steps cl_170 1 (q2 := (22, [some (.ref 110), some (.int p1), some (.int p2), some (.int p3)], [.int (kI 0)], SH, w)) rfl ?_
    refine EV.ret cl_170 rfl rfl rfl ?_
    exact ⟨(by simp only [F_170_110, if_pos h1]), rfl, (by simp only [G_170_110, if_pos h1])⟩
  · skip
    refine EV.steps cl_170 2 (q2 := (10, [some (.ref 110), some (.int p1), some (.int p2), some (.int p3)], [.int p2, .ref 110], SH, w)) rfl ?_
    refine EV.callF (kc := 164) (av := [.ref 110, .int p2]) (r := []) (rv := some (.int (F_164_110 p2 w))) (w2 := w) cl_170 rfl rfl rfl (m_164_110 w p2) ?_
    refine EV.z_eq cl_170 rfl (fun h2 => ?_) (fun h2 => ?_)
    · skip
      refine EV.steps cl_170 1 (q2 := (22, [some (.ref 110), some (.int p1), some (.int p2), some (.int p3)], [.int (kI 0)], SH, w)) rfl ?_
      refine EV.ret cl_170 rfl rfl rfl ?_
      exact ⟨(by simp only [F_170_110, if_neg h1, if_pos h2]), rfl, (by simp only [G_170_110, if_neg h1, if_pos h2])⟩
    · skip
      refine EV.steps cl_170 2 (q2 := (18, [some (.ref 110), some (.int p1), some (.int p2), some (.int p3)], [.int p2, .int p1], SH, w)) rfl ?_
      refine EV.i_ne cl_170 rfl (fun h3 => ?_) (fun h3 => ?_)
      · skip
        refine EV.steps cl_170 4 (q2 := (29, [some (.ref 110), some (.int p1), some (.int p2), some (.int p3)], [.int p3, .int p1, .ref 115], SH, w)) rfl ?_
        refine EV.z_eq cl_170 rfl (fun h4 => ?_) (fun h4 => ?_)
        · skip
          refine EV.steps cl_170 3 (q2 := (50, [some (.ref 110), some (.int p1), some (.int p2), some (.int p3)], [.int p1, .ref 115, .int p1, .ref 115], SH, w)) rfl ?_
          refine EV.iaload cl_170 rfl rfl (by decide) (i1 h1 h2 h3 h4) ?_
          refine EV.steps cl_170 6 (q2 := (57, [some (.ref 110), some (.int p1), some (.int p2), some (.int p3)], [.int ((w 115 p1.toNatClampNeg) &&& (((kI 1) <<< (p2 &&& 31)) ^^^ (kI (-1)))), .int p1, .ref 115], SH, w)) rfl ?_
          refine EV.iastore cl_170 rfl rfl (by decide) (i1 h1 h2 h3 h4) ?_
          refine EV.steps cl_170 4 (q2 := (64, [some (.ref 110), some (.int p1), some (.int p2), some (.int p3)], [.int p3, .int p2, .ref 115], SH, (up2 w 115 p1.toNatClampNeg ((w 115 p1.toNatClampNeg) &&& (((kI 1) <<< (p2 &&& 31)) ^^^ (kI (-1))))))) rfl ?_
          refine EV.z_eq cl_170 rfl (fun h5 => ?_) (fun h5 => ?_)
          · skip
            refine EV.steps cl_170 3 (q2 := (85, [some (.ref 110), some (.int p1), some (.int p2), some (.int p3)], [.int p2, .ref 115, .int p2, .ref 115], SH, (up2 w 115 p1.toNatClampNeg ((w 115 p1.toNatClampNeg) &&& (((kI 1) <<< (p2 &&& 31)) ^^^ (kI (-1))))))) rfl ?_
            refine EV.iaload cl_170 rfl rfl (by decide) (i2 h1 h2 h3 h4) ?_
            refine EV.steps cl_170 6 (q2 := (92, [some (.ref 110), some (.int p1), some (.int p2), some (.int p3)], [.int (((up2 w 115 p1.toNatClampNeg ((w 115 p1.toNatClampNeg) &&& (((kI 1) <<< (p2 &&& 31)) ^^^ (kI (-1))))) 115 p2.toNatClampNeg) &&& (((kI 1) <<< (p1 &&& 31)) ^^^ (kI (-1)))), .int p2, .ref 115], SH, (up2 w 115 p1.toNatClampNeg ((w 115 p1.toNatClampNeg) &&& (((kI 1) <<< (p2 &&& 31)) ^^^ (kI (-1))))))) rfl ?_
            refine EV.iastore cl_170 rfl rfl (by decide) (i2 h1 h2 h3 h4) ?_
            refine EV.steps cl_170 1 (q2 := (94, [some (.ref 110), some (.int p1), some (.int p2), some (.int p3)], [.int (kI 1)], SH, (up2 (up2 w 115 p1.toNatClampNeg ((w 115 p1.toNatClampNeg) &&& (((kI 1) <<< (p2 &&& 31)) ^^^ (kI (-1))))) 115 p2.toNatClampNeg (((up2 w 115 p1.toNatClampNeg ((w 115 p1.toNatClampNeg) &&& (((kI 1) <<< (p2 &&& 31)) ^^^ (kI (-1))))) 115 p2.toNatClampNeg) &&& (((kI 1) <<< (p1 &&& 31)) ^^^ (kI (-1))))))) rfl ?_
            refine EV.ret cl_170 rfl rfl rfl ?_
            exact ⟨(by simp only [F_170_110, if_neg h1, if_neg h2, if_neg h3, if_pos h4]), rfl, (by simp only [G_170_110, if_neg h1, if_neg h2, if_neg h3, if_pos h4])⟩
          · skip
            exact absurd h4 h5
        · skip
          refine EV.steps cl_170 3 (q2 := (37, [some (.ref 110), some (.int p1), some (.int p2), some (.int p3)], [.int p1, .ref 115, .int p1, .ref 115], SH, w)) rfl ?_
          refine EV.iaload cl_170 rfl rfl (by decide) (i3 h1 h2 h3 h4) ?_
          refine EV.steps cl_170 5 (q2 := (57, [some (.ref 110), some (.int p1), some (.int p2), some (.int p3)], [.int ((w 115 p1.toNatClampNeg) ||| ((kI 1) <<< (p2 &&& 31))), .int p1, .ref 115], SH, w)) rfl ?_
          refine EV.iastore cl_170 rfl rfl (by decide) (i3 h1 h2 h3 h4) ?_
          refine EV.steps cl_170 4 (q2 := (64, [some (.ref 110), some (.int p1), some (.int p2), some (.int p3)], [.int p3, .int p2, .ref 115], SH, (up2 w 115 p1.toNatClampNeg ((w 115 p1.toNatClampNeg) ||| ((kI 1) <<< (p2 &&& 31)))))) rfl ?_
          refine EV.z_eq cl_170 rfl (fun h6 => ?_) (fun h6 => ?_)
          · skip
            exact absurd h6 h4
          · skip
            refine EV.steps cl_170 3 (q2 := (72, [some (.ref 110), some (.int p1), some (.int p2), some (.int p3)], [.int p2, .ref 115, .int p2, .ref 115], SH, (up2 w 115 p1.toNatClampNeg ((w 115 p1.toNatClampNeg) ||| ((kI 1) <<< (p2 &&& 31)))))) rfl ?_
            refine EV.iaload cl_170 rfl rfl (by decide) (i4 h1 h2 h3 h4) ?_
            refine EV.steps cl_170 5 (q2 := (92, [some (.ref 110), some (.int p1), some (.int p2), some (.int p3)], [.int (((up2 w 115 p1.toNatClampNeg ((w 115 p1.toNatClampNeg) ||| ((kI 1) <<< (p2 &&& 31)))) 115 p2.toNatClampNeg) ||| ((kI 1) <<< (p1 &&& 31))), .int p2, .ref 115], SH, (up2 w 115 p1.toNatClampNeg ((w 115 p1.toNatClampNeg) ||| ((kI 1) <<< (p2 &&& 31)))))) rfl ?_
            refine EV.iastore cl_170 rfl rfl (by decide) (i4 h1 h2 h3 h4) ?_
            refine EV.steps cl_170 1 (q2 := (94, [some (.ref 110), some (.int p1), some (.int p2), some (.int p3)], [.int (kI 1)], SH, (up2 (up2 w 115 p1.toNatClampNeg ((w 115 p1.toNatClampNeg) ||| ((kI 1) <<< (p2 &&& 31)))) 115 p2.toNatClampNeg (((up2 w 115 p1.toNatClampNeg ((w 115 p1.toNatClampNeg) ||| ((kI 1) <<< (p2 &&& 31)))) 115 p2.toNatClampNeg) ||| ((kI 1) <<< (p1 &&& 31)))))) rfl ?_
            refine EV.ret cl_170 rfl rfl rfl ?_
            exact ⟨(by simp only [F_170_110, if_neg h1, if_neg h2, if_neg h3, if_neg h4]), rfl, (by simp only [G_170_110, if_neg h1, if_neg h2, if_neg h3, if_neg h4])⟩
      · skip
        refine EV.steps cl_170 1 (q2 := (22, [some (.ref 110), some (.int p1), some (.int p2), some (.int p3)], [.int (kI 0)], SH, w)) rfl ?_
        refine EV.ret cl_170 rfl rfl rfl ?_
        exact ⟨(by simp only [F_170_110, if_neg h1, if_neg h2, if_pos h3]), rfl, (by simp only [G_170_110, if_neg h1, if_neg h2, if_pos h3])⟩
