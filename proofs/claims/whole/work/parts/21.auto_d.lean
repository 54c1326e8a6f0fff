def F_83_65 (p1 : Int32) (w : Wd) : Int32 := (if (F_153 p1 (kI 0) ((w 65 7) - (kI 1)) w) = 0 then (kI (-1)) else (w 68 p1.toNatClampNeg))
theorem m_83_65 {X : Scr} {d : Nat} (w : Wd) (p1 : Int32) (i1 : ¬ (F_153 p1 (kI 0) ((w 65 7) - (kI 1)) w) = 0 → (inB p1 1 = true)) : CV X (d + 2) 83 [.ref 65, .int p1] SH w (fun r s1 w1 => r = some (.int (F_83_65 p1 w)) ∧ s1 = SH ∧ w1 = w) := by
  refine CV.of rfl ?_
  refine EV.steps cl_83 6 (q2 := (8, [some (.ref 65), some (.int p1)], [.int ((w 65 7) - (kI 1)), .int (kI 0), .int p1], SH, w)) rfl ?_
  refine EV.callF (kc := 153) (av := [.int p1, .int (kI 0), .int ((w 65 7) - (kI 1))]) (r := []) (rv := some (.int (F_153 p1 (kI 0) ((w 65 7) - (kI 1)) w))) (w2 := w) cl_83 rfl rfl rfl (m_153 w p1 (kI 0) ((w 65 7) - (kI 1))) ?_
  refine EV.z_eq cl_83 rfl (fun h1 => ?_) (fun h1 => ?_)
  · skip
    refine EV.steps cl_83 1 (q2 := (24, [some (.ref 65), some (.int p1)], [.int (kI (-1))], SH, w)) rfl ?_
    refine EV.ret cl_83 rfl rfl rfl ?_
    exact ⟨(by simp only [F_83_65, if_pos h1]), rfl, rfl⟩
  · skip
    refine EV.steps cl_83 3 (q2 := (19, [some (.ref 65), some (.int p1)], [.int p1, .ref 68], SH, w)) rfl ?_
    refine EV.iaload cl_83 rfl rfl (by decide) (i1 h1) ?_
    refine EV.steps cl_83 1 (q2 := (24, [some (.ref 65), some (.int p1)], [.int (w 68 p1.toNatClampNeg)], SH, w)) rfl ?_
    refine EV.ret cl_83 rfl rfl rfl ?_
    exact ⟨(by simp only [F_83_65, if_neg h1]), rfl, rfl⟩
def F_83_72 (p1 : Int32) (w : Wd) : Int32 := (if (F_153 p1 (kI 0) ((w 72 7) - (kI 1)) w) = 0 then (kI (-1)) else (w 75 p1.toNatClampNeg))
theorem m_83_72 {X : Scr} {d : Nat} (w : Wd) (p1 : Int32) (i1 : ¬ (F_153 p1 (kI 0) ((w 72 7) - (kI 1)) w) = 0 → (inB p1 1 = true)) : CV X (d + 2) 83 [.ref 72, .int p1] SH w (fun r s1 w1 => r = some (.int (F_83_72 p1 w)) ∧ s1 = SH ∧ w1 = w) := by
  refine CV.of rfl ?_
  refine EV.steps cl_83 6 (q2 := (8, [some (.ref 72), some (.int p1)], [.int ((w 72 7) - (kI 1)), .int (kI 0), .int p1], SH, w)) rfl ?_
  refine EV.callF (kc := 153) (av := [.int p1, .int (kI 0), .int ((w 72 7) - (kI 1))]) (r := []) (rv := some (.int (F_153 p1 (kI 0) ((w 72 7) - (kI 1)) w))) (w2 := w) cl_83 rfl rfl rfl (m_153 w p1 (kI 0) ((w 72 7) - (kI 1))) ?_
  refine EV.z_eq cl_83 rfl (fun h1 => ?_) (fun h1 => ?_)
  · skip
    refine EV.steps cl_83 1 (q2 := (24, [some (.ref 72), some (.int p1)], [.int (kI (-1))], SH, w)) rfl ?_
    refine EV.ret cl_83 rfl rfl rfl ?_
    exact ⟨(by simp only [F_83_72, if_pos h1]), rfl, rfl⟩
  · skip
    refine EV.steps cl_83 3 (q2 := (19, [some (.ref 72), some (.int p1)], [.int p1, .ref 75], SH, w)) rfl ?_
    refine EV.iaload cl_83 rfl rfl (by decide) (i1 h1) ?_
    refine EV.steps cl_83 1 (q2 := (24, [some (.ref 72), some (.int p1)], [.int (w 75 p1.toNatClampNeg)], SH, w)) rfl ?_
    refine EV.ret cl_83 rfl rfl rfl ?_
    exact ⟨(by simp only [F_83_72, if_neg h1]), rfl, rfl⟩
set_option maxRecDepth 20000 in
theorem cl_115 : RCT[115]? = some rc_115 := rfl
def F_115_1 (p1 : Int32) (w : Wd) : Int32 := (kI 0)
def G_115_1 (p1 : Int32) (w : Wd) : Wd := (up2 w 1 4 (((kI (-1000)) * p1) - (w 1 3)))
theorem z1_115_1 (p1 : Int32) (w : Wd) : F_115_1 p1 w = 0 ∨ F_115_1 p1 w = 1 := by
  unfold F_115_1
  (repeat' split) <;> first | exact Or.inl rfl | exact Or.inr rfl
theorem m_115_1 {X : Scr} {d : Nat} (w : Wd) (p1 : Int32) : CV X (d + 1) 115 [.ref 1, .int p1] SH w (fun r s1 w1 => r = some (.int (F_115_1 p1 w)) ∧ s1 = SH ∧ w1 = G_115_1 p1 w) := by
  refine CV.of rfl ?_
  refine EV.steps cl_115 9 (q2 := (15, [some (.ref 1), some (.int p1)], [.int (kI 0)], SH, (up2 w 1 4 (((kI (-1000)) * p1) - (w 1 3))))) rfl ?_
  refine EV.ret cl_115 rfl rfl rfl ?_
  exact ⟨rfl, rfl, rfl⟩
set_option maxRecDepth 20000 in
theorem cl_90 : RCT[90]? = some rc_90 := rfl
def F_90_89 (p1 : Int32) (w : Wd) : Int32 := (if (F_153 p1 (kI 0) (kI 5) w) = 0 then (kI 0) else (w 90 p1.toNatClampNeg))
theorem m_90_89 {X : Scr} {d : Nat} (w : Wd) (p1 : Int32) : CV X (d + 2) 90 [.ref 89, .int p1] SH w (fun r s1 w1 => r = some (.int (F_90_89 p1 w)) ∧ s1 = SH ∧ w1 = w) := by
  refine CV.of rfl ?_
  refine EV.steps cl_90 3 (q2 := (3, [some (.ref 89), some (.int p1)], [.int (kI 5), .int (kI 0), .int p1], SH, w)) rfl ?_
  refine EV.callF (kc := 153) (av := [.int p1, .int (kI 0), .int (kI 5)]) (r := []) (rv := some (.int (F_153 p1 (kI 0) (kI 5) w))) (w2 := w) cl_90 rfl rfl rfl (m_153 w p1 (kI 0) (kI 5)) ?_
  refine EV.z_eq cl_90 rfl (fun h1 => ?_) (fun h1 => ?_)
  · skip
    refine EV.steps cl_90 1 (q2 := (19, [some (.ref 89), some (.int p1)], [.int (kI 0)], SH, w)) rfl ?_
    refine EV.ret cl_90 rfl rfl rfl ?_
    exact ⟨(by simp only [F_90_89, if_pos h1]), rfl, rfl⟩
  · skip
    refine EV.steps cl_90 3 (q2 := (14, [some (.ref 89), some (.int p1)], [.int p1, .ref 90], SH, w)) rfl ?_
    refine EV.iaload cl_90 rfl rfl (by decide) (ix_153 h1 (by decide)) ?_
    refine EV.steps cl_90 1 (q2 := (19, [some (.ref 89), some (.int p1)], [.int (w 90 p1.toNatClampNeg)], SH, w)) rfl ?_
    refine EV.ret cl_90 rfl rfl rfl ?_
    exact ⟨(by simp only [F_90_89, if_neg h1]), rfl, rfl⟩
set_option maxRecDepth 20000 in
theorem cl_95 : RCT[95]? = some rc_95 := rfl
def F_95 (p1 : Int32) (p2 : Int32) (w : Wd) : Int32 := (if p2 = (kI 1) then (p1 + (kI 1)) else (if p2 = (kI 2) then (((kI 2) * p1) + (kI 1)) else p1))
theorem m_95 {X : Scr} {d : Nat} (w : Wd) (p1 : Int32) (p2 : Int32) : CV X (d + 1) 95 [.int p1, .int p2] SH w (fun r s1 w1 => r = some (.int (F_95 p1 p2 w)) ∧ s1 = SH ∧ w1 = w) := by
  refine CV.of rfl ?_
  refine EV.steps cl_95 1 (q2 := (1, [some (.int p1), some (.int p2)], [.int p2], SH, w)) rfl ?_
  by_cases h1 : p2 = (kI 1)
  · refine EV.swEq (e := (kI 1)) cl_95 rfl rfl h1 rfl ?_
    refine EV.steps cl_95 3 (q2 := (31, [some (.int p1), some (.int p2)], [.int (p1 + (kI 1))], SH, w)) rfl ?_
    refine EV.ret cl_95 rfl rfl rfl ?_
    exact ⟨(by simp only [F_95, if_pos h1]), rfl, rfl⟩
  by_cases h2 : p2 = (kI 2)
  · refine EV.swEq (e := (kI 2)) cl_95 rfl rfl h2 rfl ?_
    refine EV.steps cl_95 5 (q2 := (37, [some (.int p1), some (.int p2)], [.int (((kI 2) * p1) + (kI 1))], SH, w)) rfl ?_
    refine EV.ret cl_95 rfl rfl rfl ?_
    exact ⟨(by simp only [F_95, if_neg h1, if_pos h2]), rfl, rfl⟩
  refine EV.swL cl_95 rfl (by intro q hq; simp only [List.mem_cons, List.not_mem_nil, or_false] at hq; rcases hq with rfl | rfl <;> first | exact fun e => sw_ne h1 (by decide) e.symm | exact fun e => sw_ne h2 (by decide) e.symm) ?_
  refine EV.steps cl_95 1 (q2 := (39, [some (.int p1), some (.int p2)], [.int p1], SH, w)) rfl ?_
  refine EV.ret cl_95 rfl rfl rfl ?_
  exact ⟨(by simp only [F_95, if_neg h1, if_neg h2]), rfl, rfl⟩
set_option maxRecDepth 20000 in
theorem cl_94 : RCT[94]? = some rc_94 := rfl
def F_94_89 (p1 : Int32) (p2 : Int32) (p3 : Int32) (w : Wd) : Int32 := (if ((F_53_3 p1 w) * (F_95 (F_90_89 p2 w) p3 w)) ≤ ((F_53_3 p2 w) * (F_95 (F_90_89 p1 w) p3 w)) then (kI 0) else (kI 1))
theorem z1_94_89 (p1 : Int32) (p2 : Int32) (p3 : Int32) (w : Wd) : F_94_89 p1 p2 p3 w = 0 ∨ F_94_89 p1 p2 p3 w = 1 := by
  unfold F_94_89
  (repeat' split) <;> first | exact Or.inl rfl | exact Or.inr rfl
theorem m_94_89 {X : Scr} {d : Nat} (w : Wd) (p1 : Int32) (p2 : Int32) (p3 : Int32) : CV X (d + 3) 94 [.ref 89, .int p1, .int p2, .int p3] SH w (fun r s1 w1 => r = some (.int (F_94_89 p1 p2 p3 w)) ∧ s1 = SH ∧ w1 = w) := by
  refine CV.of rfl ?_
  refine EV.steps cl_94 3 (q2 := (5, [some (.ref 89), some (.int p1), some (.int p2), some (.int p3), none, none], [.int p1, .ref 3], SH, w)) rfl ?_
  refine EV.callF (kc := 53) (av := [.ref 3, .int p1]) (r := []) (rv := some (.int (F_53_3 p1 w))) (w2 := w) cl_94 rfl rfl rfl (m_53_3 w p1) ?_
  refine EV.steps cl_94 2 (q2 := (10, [some (.ref 89), some (.int p1), some (.int p2), some (.int p3), none, none], [.int p2, .ref 89, .int (F_53_3 p1 w)], SH, w)) rfl ?_
  refine EV.callF (kc := 90) (av := [.ref 89, .int p2]) (r := [.int (F_53_3 p1 w)]) (rv := some (.int (F_90_89 p2 w))) (w2 := w) cl_94 rfl rfl rfl (m_90_89 w p2) ?_
  refine EV.steps cl_94 1 (q2 := (14, [some (.ref 89), some (.int p1), some (.int p2), some (.int p3), none, none], [.int p3, .int (F_90_89 p2 w), .int (F_53_3 p1 w)], SH, w)) rfl ?_
  refine EV.callF (kc := 95) (av := [.int (F_90_89 p2 w), .int p3]) (r := [.int (F_53_3 p1 w)]) (rv := some (.int (F_95 (F_90_89 p2 w) p3 w))) (w2 := w) cl_94 rfl rfl rfl (m_95 w (F_90_89 p2 w) p3) ?_
  refine EV.steps cl_94 5 (q2 := (25, [some (.ref 89), some (.int p1), some (.int p2), some (.int p3), some (.int ((F_53_3 p1 w) * (F_95 (F_90_89 p2 w) p3 w))), none], [.int p2, .ref 3], SH, w)) rfl ?_
  refine EV.callF (kc := 53) (av := [.ref 3, .int p2]) (r := []) (rv := some (.int (F_53_3 p2 w))) (w2 := w) cl_94 rfl rfl rfl (m_53_3 w p2) ?_
  refine EV.steps cl_94 2 (q2 := (30, [some (.ref 89), some (.int p1), some (.int p2), some (.int p3), some (.int ((F_53_3 p1 w) * (F_95 (F_90_89 p2 w) p3 w))), none], [.int p1, .ref 89, .int (F_53_3 p2 w)], SH, w)) rfl ?_
  refine EV.callF (kc := 90) (av := [.ref 89, .int p1]) (r := [.int (F_53_3 p2 w)]) (rv := some (.int (F_90_89 p1 w))) (w2 := w) cl_94 rfl rfl rfl (m_90_89 w p1) ?_
  refine EV.steps cl_94 1 (q2 := (34, [some (.ref 89), some (.int p1), some (.int p2), some (.int p3), some (.int ((F_53_3 p1 w) * (F_95 (F_90_89 p2 w) p3 w))), none], [.int p3, .int (F_90_89 p1 w), .int (F_53_3 p2 w)], SH, w)) rfl ?_
  refine EV.callF (kc := 95) (av := [.int (F_90_89 p1 w), .int p3]) (r := [.int (F_53_3 p2 w)]) (rv := some (.int (F_95 (F_90_89 p1 w) p3 w))) (w2 := w) cl_94 rfl rfl rfl (m_95 w (F_90_89 p1 w) p3) ?_
  refine EV.steps cl_94 4 (q2 := (44, [some (.ref 89), some (.int p1), some (.int p2), some (.int p3), some (.int ((F_53_3 p1 w) * (F_95 (F_90_89 p2 w) p3 w))), some (.int ((F_53_3 p2 w) * (F_95 (F_90_89 p1 w) p3 w)))], [.int ((F_53_3 p2 w) * (F_95 (F_90_89 p1 w) p3 w)), .int ((F_53_3 p1 w) * (F_95 (F_90_89 p2 w) p3 w))], SH, w)) rfl ?_
  refine EV.i_le cl_94 rfl (fun h1 => ?_) (fun h1 => ?_)
  · skip
    refine EV.steps cl_94 1 (q2 := (52, [some (.ref 89), some (.int p1), some (.int p2), some (.int p3), some (.int ((F_53_3 p1 w) * (F_95 (F_90_89 p2 w) p3 w))), some (.int ((F_53_3 p2 w) * (F_95 (F_90_89 p1 w) p3 w)))], [.int (kI 0)], SH, w)) rfl ?_
    refine EV.ret cl_94 rfl rfl rfl ?_
    exact ⟨(by simp only [F_94_89, if_pos h1]), rfl, rfl⟩
  · skip
    refine EV.steps cl_94 2 (q2 := (52, [some (.ref 89), some (.int p1), some (.int p2), some (.int p3), some (.int ((F_53_3 p1 w) * (F_95 (F_90_89 p2 w) p3 w))), some (.int ((F_53_3 p2 w) * (F_95 (F_90_89 p1 w) p3 w)))], [.int (kI 1)], SH, w)) rfl ?_
    refine EV.ret cl_94 rfl rfl rfl ?_
    exact ⟨(by simp only [F_94_89, if_neg h1]), rfl, rfl⟩
set_option maxRecDepth 20000 in
theorem cl_105 : RCT[105]? = some rc_105 := rfl
def F_105_1 (p1 : Int32) (p2 : Int32) (p3 : Int32) (w : Wd) : Int32 := (if (F_153 p1 p2 p3 w) = 0 then (kI 0) else (if (w 1 1) < p1 then (kI 0) else (kI 1)))
theorem z1_105_1 (p1 : Int32) (p2 : Int32) (p3 : Int32) (w : Wd) : F_105_1 p1 p2 p3 w = 0 ∨ F_105_1 p1 p2 p3 w = 1 := by
  unfold F_105_1
  (repeat' split) <;> first | exact Or.inl rfl | exact Or.inr rfl
theorem m_105_1 {X : Scr} {d : Nat} (w : Wd) (p1 : Int32) (p2 : Int32) (p3 : Int32) : CV X (d + 2) 105 [.ref 1, .int p1, .int p2, .int p3] SH w (fun r s1 w1 => r = some (.int (F_105_1 p1 p2 p3 w)) ∧ s1 = SH ∧ w1 = w) := by
  refine CV.of rfl ?_
  refine EV.steps cl_105 3 (q2 := (3, [some (.ref 1), some (.int p1), some (.int p2), some (.int p3)], [.int p3, .int p2, .int p1], SH, w)) rfl ?_
  refine EV.callF (kc := 153) (av := [.int p1, .int p2, .int p3]) (r := []) (rv := some (.int (F_153 p1 p2 p3 w))) (w2 := w) cl_105 rfl rfl rfl (m_153 w p1 p2 p3) ?_
  refine EV.z_eq cl_105 rfl (fun h1 => ?_) (fun h1 => ?_)
  · skip
    refine EV.steps cl_105 1 (q2 := (22, [some (.ref 1), some (.int p1), some (.int p2), some (.int p3)], [.int (kI 0)], SH, w)) rfl ?_
    refine EV.ret cl_105 rfl rfl rfl ?_
    exact ⟨(by simp only [F_105_1, if_pos h1]), rfl, rfl⟩
  · skip
    refine EV.steps cl_105 3 (q2 := (14, [some (.ref 1), some (.int p1), some (.int p2), some (.int p3)], [.int (w 1 1), .int p1], SH, w)) rfl ?_
    refine EV.i_gt cl_105 rfl (fun h2 => ?_) (fun h2 => ?_)
    · skip
      refine EV.steps cl_105 1 (q2 := (22, [some (.ref 1), some (.int p1), some (.int p2), some (.int p3)], [.int (kI 0)], SH, w)) rfl ?_
      refine EV.ret cl_105 rfl rfl rfl ?_
      exact ⟨(by simp only [F_105_1, if_neg h1, if_pos h2]), rfl, rfl⟩
    · skip
      refine EV.steps cl_105 2 (q2 := (22, [some (.ref 1), some (.int p1), some (.int p2), some (.int p3)], [.int (kI 1)], SH, w)) rfl ?_
      refine EV.ret cl_105 rfl rfl rfl ?_
      exact ⟨(by simp only [F_105_1, if_neg h1, if_neg h2]), rfl, rfl⟩
set_option maxRecDepth 20000 in
theorem cl_108 : RCT[108]? = some rc_108 := rfl
def F_108_1  (w : Wd) : Int32 := (w 1 4)
def G_108_1  (w : Wd) : Wd := (up2 w 1 1 (kI 0))
theorem m_108_1 {X : Scr} {d : Nat} (w : Wd)  : CV X (d + 1) 108 [.ref 1] SH w (fun r s1 w1 => r = some (.int (F_108_1 w)) ∧ s1 = SH ∧ w1 = G_108_1 w) := by
  refine CV.of rfl ?_
  refine EV.steps cl_108 5 (q2 := (9, [some (.ref 1)], [.int (w 1 4)], SH, (up2 w 1 1 (kI 0)))) rfl ?_
  refine EV.ret cl_108 rfl rfl rfl ?_
  exact ⟨rfl, rfl, rfl⟩
set_option maxRecDepth 20000 in
theorem cl_109 : RCT[109]? = some rc_109 := rfl
def F_109_1  (w : Wd) : Int32 := (if (w 1 3) < (w 1 2) then (kI 0) else (kI 1))
theorem z1_109_1  (w : Wd) : F_109_1 w = 0 ∨ F_109_1 w = 1 := by
  unfold F_109_1
  (repeat' split) <;> first | exact Or.inl rfl | exact Or.inr rfl
theorem m_109_1 {X : Scr} {d : Nat} (w : Wd)  : CV X (d + 1) 109 [.ref 1] SH w (fun r s1 w1 => r = some (.int (F_109_1 w)) ∧ s1 = SH ∧ w1 = w) := by
  refine CV.of rfl ?_
  refine EV.steps cl_109 4 (q2 := (8, [some (.ref 1)], [.int (w 1 2), .int (w 1 3)], SH, w)) rfl ?_
  refine EV.i_lt cl_109 rfl (fun h1 => ?_) (fun h1 => ?_)
  · skip
    refine EV.steps cl_109 1 (q2 := (16, [some (.ref 1)], [.int (kI 0)], SH, w)) rfl ?_
    refine EV.ret cl_109 rfl rfl rfl ?_
    exact ⟨(by simp only [F_109_1, if_pos h1]), rfl, rfl⟩
  · skip
    refine EV.steps cl_109 2 (q2 := (16, [some (.ref 1)], [.int (kI 1)], SH, w)) rfl ?_
    refine EV.ret cl_109 rfl rfl rfl ?_
    exact ⟨(by simp only [F_109_1, if_neg h1]), rfl, rfl⟩
set_option maxRecDepth 20000 in
theorem cl_111 : RCT[111]? = some rc_111 := rfl
def F_111_1  (w : Wd) : Int32 := (F_153 (F_110_1 w) (kI 48) (kI 57) w)
theorem z1_111_1  (w : Wd) : F_111_1 w = 0 ∨ F_111_1 w = 1 := by
  unfold F_111_1
  (repeat' split) <;> first | exact Or.inl rfl | exact Or.inr rfl | exact z1_153 (F_110_1 w) (kI 48) (kI 57) w
theorem m_111_1 {X : Scr} {d : Nat} (w : Wd)  (i1 : (¬ (w 1 2) ≤ (w 1 3) → (¬ (w 1 1) ≤ (w 1 3) → (inB (w 1 3) 260 = true)))) : CV X (d + 3) 111 [.ref 1] SH w (fun r s1 w1 => r = some (.int (F_111_1 w)) ∧ s1 = SH ∧ w1 = w) := by
  refine CV.of rfl ?_
  refine EV.steps cl_111 1 (q2 := (1, [some (.ref 1)], [.ref 1], SH, w)) rfl ?_
  refine EV.callF (kc := 110) (av := [.ref 1]) (r := []) (rv := some (.int (F_110_1 w))) (w2 := w) cl_111 rfl rfl rfl (m_110_1 w  (i1)) ?_
  refine EV.steps cl_111 2 (q2 := (8, [some (.ref 1)], [.int (kI 57), .int (kI 48), .int (F_110_1 w)], SH, w)) rfl ?_
  refine EV.callF (kc := 153) (av := [.int (F_110_1 w), .int (kI 48), .int (kI 57)]) (r := []) (rv := some (.int (F_153 (F_110_1 w) (kI 48) (kI 57) w))) (w2 := w) cl_111 rfl rfl rfl (m_153 w (F_110_1 w) (kI 48) (kI 57)) ?_
  refine EV.retB cl_111 rfl rfl (z1_153 (F_110_1 w) (kI 48) (kI 57) w) ?_
  exact ⟨rfl, rfl, rfl⟩
set_option maxRecDepth 20000 in
theorem cl_113 : RCT[113]? = some rc_113 := rfl
def F_113_1 (p1 : Int32) (w : Wd) : Int32 := (if (F_110_1 w) = p1 then (kI 1) else (F_115_1 (kI 1) w))
def G_113_1 (p1 : Int32) (w : Wd) : Wd := (if (F_110_1 w) = p1 then (up2 w 1 3 ((w 1 3) + (kI 1))) else (G_115_1 (kI 1) w))
theorem z1_113_1 (p1 : Int32) (w : Wd) : F_113_1 p1 w = 0 ∨ F_113_1 p1 w = 1 := by
  unfold F_113_1
  (repeat' split) <;> first | exact Or.inl rfl | exact Or.inr rfl | exact z1_115_1 (kI 1) w
theorem m_113_1 {X : Scr} {d : Nat} (w : Wd) (p1 : Int32) (i1 : (¬ (w 1 2) ≤ (w 1 3) → (¬ (w 1 1) ≤ (w 1 3) → (inB (w 1 3) 260 = true)))) : CV X (d + 3) 113 [.ref 1, .int p1] SH w (fun r s1 w1 => r = some (.int (F_113_1 p1 w)) ∧ s1 = SH ∧ w1 = G_113_1 p1 w) := by
  refine CV.of rfl ?_
  refine EV.steps cl_113 1 (q2 := (1, [some (.ref 1), some (.int p1)], [.ref 1], SH, w)) rfl ?_
  refine EV.callF (kc := 110) (av := [.ref 1]) (r := []) (rv := some (.int (F_110_1 w))) (w2 := w) cl_113 rfl rfl rfl (m_110_1 w  (i1)) ?_
  refine EV.steps cl_113 1 (q2 := (5, [some (.ref 1), some (.int p1)], [.int p1, .int (F_110_1 w)], SH, w)) rfl ?_
  refine EV.i_eq cl_113 rfl (fun h1 => ?_) (fun h1 => ?_)
  · skip
    refine EV.steps cl_113 7 (q2 := (25, [some (.ref 1), some (.int p1)], [.int (kI 1)], SH, (up2 w 1 3 ((w 1 3) + (kI 1))))) rfl ?_
    refine EV.ret cl_113 rfl rfl rfl ?_
    exact ⟨(by simp only [F_113_1, if_pos h1]), rfl, (by simp only [G_113_1, if_pos h1])⟩
  · skip
    refine EV.steps cl_113 2 (q2 := (10, [some (.ref 1), some (.int p1)], [.int (kI 1), .ref 1], SH, w)) rfl ?_
    refine EV.callF (kc := 115) (av := [.ref 1, .int (kI 1)]) (r := []) (rv := some (.int (F_115_1 (kI 1) w))) (w2 := (G_115_1 (kI 1) w)) cl_113 rfl rfl rfl (m_115_1 w (kI 1)) ?_
    refine EV.retB cl_113 rfl rfl (z1_115_1 (kI 1) w) ?_
    exact ⟨(by simp only [F_113_1, if_neg h1]), rfl, (by simp only [G_113_1, if_neg h1])⟩
set_option maxRecDepth 20000 in
theorem cl_117 : RCT[117]? = some rc_117 := rfl
def F_117_0 (p1 : Int32) (p2 : Int32) (w : Wd) : Int32 := (if (F_153 p1 (kI 0) (kI 5) w) = 0 then (kI 0) else (if (F_153 p2 (kI 0) (kI 9999) w) = 0 then (kI 0) else (kI 1)))
def G_117_0 (p1 : Int32) (p2 : Int32) (w : Wd) : Wd := (if (F_153 p1 (kI 0) (kI 5) w) = 0 then w else (if (F_153 p2 (kI 0) (kI 9999) w) = 0 then w else (up2 (up2 w 4 p1.toNatClampNeg p2) 3 3 ((w 3 3) ||| ((kI 1) <<< (p1 &&& 31))))))
theorem z1_117_0 (p1 : Int32) (p2 : Int32) (w : Wd) : F_117_0 p1 p2 w = 0 ∨ F_117_0 p1 p2 w = 1 := by
  unfold F_117_0
  (repeat' split) <;> first | exact Or.inl rfl | exact Or.inr rfl
theorem m_117_0 {X : Scr} {d : Nat} (w : Wd) (p1 : Int32) (p2 : Int32) : CV X (d + 2) 117 [.ref 0, .int p1, .int p2] SH w (fun r s1 w1 => r = some (.int (F_117_0 p1 p2 w)) ∧ s1 = SH ∧ w1 = G_117_0 p1 p2 w) := by
  refine CV.of rfl ?_
  refine EV.steps cl_117 3 (q2 := (3, [some (.ref 0), some (.int p1), some (.int p2)], [.int (kI 5), .int (kI 0), .int p1], SH, w)) rfl ?_
  refine EV.callF (kc := 153) (av := [.int p1, .int (kI 0), .int (kI 5)]) (r := []) (rv := some (.int (F_153 p1 (kI 0) (kI 5) w))) (w2 := w) cl_117 rfl rfl rfl (m_153 w p1 (kI 0) (kI 5)) ?_
  refine EV.z_eq cl_117 rfl (fun h1 => ?_) (fun h1 => ?_)
  · skip
    refine EV.steps cl_117 1 (q2 := (21, [some (.ref 0), some (.int p1), some (.int p2)], [.int (kI 0)], SH, w)) rfl ?_
    refine EV.ret cl_117 rfl rfl rfl ?_
    exact ⟨(by simp only [F_117_0, if_pos h1]), rfl, (by simp only [G_117_0, if_pos h1])⟩
  · skip
    refine EV.steps cl_117 3 (q2 := (14, [some (.ref 0), some (.int p1), some (.int p2)], [.int (kI 9999), .int (kI 0), .int p2], SH, w)) rfl ?_
    refine EV.callF (kc := 153) (av := [.int p2, .int (kI 0), .int (kI 9999)]) (r := []) (rv := some (.int (F_153 p2 (kI 0) (kI 9999) w))) (w2 := w) cl_117 rfl rfl rfl (m_153 w p2 (kI 0) (kI 9999)) ?_
    refine EV.z_ne cl_117 rfl (fun h2 => ?_) (fun h2 => ?_)
    · skip
      refine EV.steps cl_117 5 (q2 := (31, [some (.ref 0), some (.int p1), some (.int p2)], [.int p2, .int p1, .ref 4], SH, w)) rfl ?_
      refine EV.iastore cl_117 rfl rfl (by decide) (ix_153 h1 (by decide)) ?_
      refine EV.steps cl_117 10 (q2 := (48, [some (.ref 0), some (.int p1), some (.int p2)], [.int (kI 1)], SH, (up2 (up2 w 4 p1.toNatClampNeg p2) 3 3 ((w 3 3) ||| ((kI 1) <<< (p1 &&& 31)))))) rfl ?_
      refine EV.ret cl_117 rfl rfl rfl ?_
      exact ⟨(by simp only [F_117_0, if_neg h1, if_neg h2]), rfl, (by simp only [G_117_0, if_neg h1, if_neg h2])⟩
    · skip
      refine EV.steps cl_117 1 (q2 := (21, [some (.ref 0), some (.int p1), some (.int p2)], [.int (kI 0)], SH, w)) rfl ?_
      refine EV.ret cl_117 rfl rfl rfl ?_
      exact ⟨(by simp only [F_117_0, if_neg h1, if_pos h2]), rfl, (by simp only [G_117_0, if_neg h1, if_pos h2])⟩
set_option maxRecDepth 20000 in
theorem cl_118 : RCT[118]? = some rc_118 := rfl
def F_118_0 (p1 : Int32) (p2 : Int32) (p3 : Int32) (w : Wd) : Int32 := (if (F_51_3 p1 w) = 0 then (kI 0) else (if (F_51_3 p2 w) = 0 then (kI 0) else (if p1 = p2 then (kI 0) else (kI 1))))
def G_118_0 (p1 : Int32) (p2 : Int32) (p3 : Int32) (w : Wd) : Wd := (if (F_51_3 p1 w) = 0 then w else (if (F_51_3 p2 w) = 0 then w else (if p1 = p2 then w else (G_56_3 p2 p1 p3 (G_56_3 p1 p2 p3 w)))))
theorem z1_118_0 (p1 : Int32) (p2 : Int32) (p3 : Int32) (w : Wd) : F_118_0 p1 p2 p3 w = 0 ∨ F_118_0 p1 p2 p3 w = 1 := by
  unfold F_118_0
  (repeat' split) <;> first | exact Or.inl rfl | exact Or.inr rfl
theorem m_118_0 {X : Scr} {d : Nat} (w : Wd) (p1 : Int32) (p2 : Int32) (p3 : Int32) : CV X (d + 3) 118 [.ref 0, .int p1, .int p2, .int p3] SH w (fun r s1 w1 => r = some (.int (F_118_0 p1 p2 p3 w)) ∧ s1 = SH ∧ w1 = G_118_0 p1 p2 p3 w) := by
  refine CV.of rfl ?_
  refine EV.steps cl_118 3 (q2 := (5, [some (.ref 0), some (.int p1), some (.int p2), some (.int p3)], [.int p1, .ref 3], SH, w)) rfl ?_
  refine EV.callF (kc := 51) (av := [.ref 3, .int p1]) (r := []) (rv := some (.int (F_51_3 p1 w))) (w2 := w) cl_118 rfl rfl rfl (m_51_3 w p1) ?_
  refine EV.z_eq cl_118 rfl (fun h1 => ?_) (fun h1 => ?_)
  · skip
    refine EV.steps cl_118 1 (q2 := (28, [some (.ref 0), some (.int p1), some (.int p2), some (.int p3)], [.int (kI 0)], SH, w)) rfl ?_
    refine EV.ret cl_118 rfl rfl rfl ?_
    exact ⟨(by simp only [F_118_0, if_pos h1]), rfl, (by simp only [G_118_0, if_pos h1])⟩
  · skip
    refine EV.steps cl_118 3 (q2 := (16, [some (.ref 0), some (.int p1), some (.int p2), some (.int p3)], [.int p2, .ref 3], SH, w)) rfl ?_
    refine EV.callF (kc := 51) (av := [.ref 3, .int p2]) (r := []) (rv := some (.int (F_51_3 p2 w))) (w2 := w) cl_118 rfl rfl rfl (m_51_3 w p2) ?_
    refine EV.z_eq cl_118 rfl (fun h2 => ?_) (fun h2 => ?_)
    · skip
      refine EV.steps cl_118 1 (q2 := (28, [some (.ref 0), some (.int p1), some (.int p2), some (.int p3)], [.int (kI 0)], SH, w)) rfl ?_
      refine EV.ret cl_118 rfl rfl rfl ?_
      exact ⟨(by simp only [F_118_0, if_neg h1, if_pos h2]), rfl, (by simp only [G_118_0, if_neg h1, if_pos h2])⟩
    · skip
      refine EV.steps cl_118 2 (q2 := (24, [some (.ref 0), some (.int p1), some (.int p2), some (.int p3)], [.int p2, .int p1], SH, w)) rfl ?_
      refine EV.i_ne cl_118 rfl (fun h3 => ?_) (fun h3 => ?_)
      · skip
        refine EV.steps cl_118 5 (q2 := (36, [some (.ref 0), some (.int p1), some (.int p2), some (.int p3)], [.int p3, .int p2, .int p1, .ref 3], SH, w)) rfl ?_
        refine EV.callF (kc := 56) (av := [.ref 3, .int p1, .int p2, .int p3]) (r := []) (rv := none) (w2 := (G_56_3 p1 p2 p3 w)) cl_118 rfl rfl rfl (m_56_3 w p1 p2 p3) ?_
        refine EV.steps cl_118 5 (q2 := (46, [some (.ref 0), some (.int p1), some (.int p2), some (.int p3)], [.int p3, .int p1, .int p2, .ref 3], SH, (G_56_3 p1 p2 p3 w))) rfl ?_
        refine EV.callF (kc := 56) (av := [.ref 3, .int p2, .int p1, .int p3]) (r := []) (rv := none) (w2 := (G_56_3 p2 p1 p3 (G_56_3 p1 p2 p3 w))) cl_118 rfl rfl rfl (m_56_3 (G_56_3 p1 p2 p3 w) p2 p1 p3) ?_
        refine EV.steps cl_118 1 (q2 := (50, [some (.ref 0), some (.int p1), some (.int p2), some (.int p3)], [.int (kI 1)], SH, (G_56_3 p2 p1 p3 (G_56_3 p1 p2 p3 w)))) rfl ?_
        refine EV.ret cl_118 rfl rfl rfl ?_
        exact ⟨(by simp only [F_118_0, if_neg h1, if_neg h2, if_neg h3]), rfl, (by simp only [G_118_0, if_neg h1, if_neg h2, if_neg h3])⟩
      · skip
        refine EV.steps cl_118 1 (q2 := (28, [some (.ref 0), some (.int p1), some (.int p2), some (.int p3)], [.int (kI 0)], SH, w)) rfl ?_
        refine EV.ret cl_118 rfl rfl rfl ?_
        exact ⟨(by simp only [F_118_0, if_neg h1, if_neg h2, if_pos h3]), rfl, (by simp only [G_118_0, if_neg h1, if_neg h2, if_pos h3])⟩
set_option maxRecDepth 20000 in
theorem cl_119 : RCT[119]? = some rc_119 := rfl
def F_119_0 (p1 : Int32) (p2 : Int32) (w : Wd) : Int32 := (if (F_153 p1 (kI 0) (kI 5) w) = 0 then (kI 0) else (if (F_153 p2 (kI 0) (kI 9999) w) = 0 then (kI 0) else (kI 1)))
def G_119_0 (p1 : Int32) (p2 : Int32) (w : Wd) : Wd := (if (F_153 p1 (kI 0) (kI 5) w) = 0 then w else (if (F_153 p2 (kI 0) (kI 9999) w) = 0 then w else (up2 (up2 w 5 p1.toNatClampNeg p2) 3 4 ((w 3 4) ||| ((kI 1) <<< (p1 &&& 31))))))
theorem z1_119_0 (p1 : Int32) (p2 : Int32) (w : Wd) : F_119_0 p1 p2 w = 0 ∨ F_119_0 p1 p2 w = 1 := by
  unfold F_119_0
  (repeat' split) <;> first | exact Or.inl rfl | exact Or.inr rfl
theorem m_119_0 {X : Scr} {d : Nat} (w : Wd) (p1 : Int32) (p2 : Int32) : CV X (d + 2) 119 [.ref 0, .int p1, .int p2] SH w (fun r s1 w1 => r = some (.int (F_119_0 p1 p2 w)) ∧ s1 = SH ∧ w1 = G_119_0 p1 p2 w) := by
  refine CV.of rfl ?_
  refine EV.steps cl_119 3 (q2 := (3, [some (.ref 0), some (.int p1), some (.int p2)], [.int (kI 5), .int (kI 0), .int p1], SH, w)) rfl ?_
  refine EV.callF (kc := 153) (av := [.int p1, .int (kI 0), .int (kI 5)]) (r := []) (rv := some (.int (F_153 p1 (kI 0) (kI 5) w))) (w2 := w) cl_119 rfl rfl rfl (m_153 w p1 (kI 0) (kI 5)) ?_
  refine EV.z_eq cl_119 rfl (fun h1 => ?_) (fun h1 => ?_)
  · skip
    refine EV.steps cl_119 1 (q2 := (21, [some (.ref 0), some (.int p1), some (.int p2)], [.int (kI 0)], SH, w)) rfl ?_
    refine EV.ret cl_119 rfl rfl rfl ?_
    exact ⟨(by simp only [F_119_0, if_pos h1]), rfl, (by simp only [G_119_0, if_pos h1])⟩
  · skip
    refine EV.steps cl_119 3 (q2 := (14, [some (.ref 0), some (.int p1), some (.int p2)], [.int (kI 9999), .int (kI 0), .int p2], SH, w)) rfl ?_
    refine EV.callF (kc := 153) (av := [.int p2, .int (kI 0), .int (kI 9999)]) (r := []) (rv := some (.int (F_153 p2 (kI 0) (kI 9999) w))) (w2 := w) cl_119 rfl rfl rfl (m_153 w p2 (kI 0) (kI 9999)) ?_
    refine EV.z_ne cl_119 rfl (fun h2 => ?_) (fun h2 => ?_)
    · skip
      refine EV.steps cl_119 5 (q2 := (31, [some (.ref 0), some (.int p1), some (.int p2)], [.int p2, .int p1, .ref 5], SH, w)) rfl ?_
      refine EV.iastore cl_119 rfl rfl (by decide) (ix_153 h1 (by decide)) ?_
      refine EV.steps cl_119 10 (q2 := (48, [some (.ref 0), some (.int p1), some (.int p2)], [.int (kI 1)], SH, (up2 (up2 w 5 p1.toNatClampNeg p2) 3 4 ((w 3 4) ||| ((kI 1) <<< (p1 &&& 31)))))) rfl ?_
      refine EV.ret cl_119 rfl rfl rfl ?_
      exact ⟨(by simp only [F_119_0, if_neg h1, if_neg h2]), rfl, (by simp only [G_119_0, if_neg h1, if_neg h2])⟩
    · skip
      refine EV.steps cl_119 1 (q2 := (21, [some (.ref 0), some (.int p1), some (.int p2)], [.int (kI 0)], SH, w)) rfl ?_
      refine EV.ret cl_119 rfl rfl rfl ?_
      exact ⟨(by simp only [F_119_0, if_neg h1, if_pos h2]), rfl, (by simp only [G_119_0, if_neg h1, if_pos h2])⟩
set_option maxRecDepth 20000 in
theorem cl_120 : RCT[120]? = some rc_120 := rfl
def F_120_0 (p1 : Int32) (w : Wd) : Int32 := (if (F_153 p1 (kI 0) (kI 9999) w) = 0 then (kI 0) else (kI 1))
def G_120_0 (p1 : Int32) (w : Wd) : Wd := (if (F_153 p1 (kI 0) (kI 9999) w) = 0 then w else (up2 (up2 w 3 5 p1) 7 6 p1))
theorem z1_120_0 (p1 : Int32) (w : Wd) : F_120_0 p1 w = 0 ∨ F_120_0 p1 w = 1 := by
  unfold F_120_0
  (repeat' split) <;> first | exact Or.inl rfl | exact Or.inr rfl
theorem m_120_0 {X : Scr} {d : Nat} (w : Wd) (p1 : Int32) : CV X (d + 2) 120 [.ref 0, .int p1] SH w (fun r s1 w1 => r = some (.int (F_120_0 p1 w)) ∧ s1 = SH ∧ w1 = G_120_0 p1 w) := by
  refine CV.of rfl ?_
  refine EV.steps cl_120 3 (q2 := (5, [some (.ref 0), some (.int p1)], [.int (kI 9999), .int (kI 0), .int p1], SH, w)) rfl ?_
  refine EV.callF (kc := 153) (av := [.int p1, .int (kI 0), .int (kI 9999)]) (r := []) (rv := some (.int (F_153 p1 (kI 0) (kI 9999) w))) (w2 := w) cl_120 rfl rfl rfl (m_153 w p1 (kI 0) (kI 9999)) ?_
  refine EV.z_ne cl_120 rfl (fun h1 => ?_) (fun h1 => ?_)
  · skip
    refine EV.steps cl_120 9 (q2 := (30, [some (.ref 0), some (.int p1)], [.int (kI 1)], SH, (up2 (up2 w 3 5 p1) 7 6 p1))) rfl ?_
    refine EV.ret cl_120 rfl rfl rfl ?_
    exact ⟨(by simp only [F_120_0, if_neg h1]), rfl, (by simp only [G_120_0, if_neg h1])⟩
  · skip
    refine EV.steps cl_120 1 (q2 := (12, [some (.ref 0), some (.int p1)], [.int (kI 0)], SH, w)) rfl ?_
    refine EV.ret cl_120 rfl rfl rfl ?_
    exact ⟨(by simp only [F_120_0, if_pos h1]), rfl, (by simp only [G_120_0, if_pos h1])⟩
set_option maxRecDepth 20000 in
theorem cl_10 : RCT[10]? = some rc_10 := rfl
def G_10_17_7  (w : Wd) : Wd := (up2 (up2 (up2 (up2 (up2 (cp2 (cp2 (cp2 (cp2 w 8 18 (kI 0).toNatClampNeg (kI 0).toNatClampNeg (Int32.ofNat 36).toNatClampNeg) 9 19 (kI 0).toNatClampNeg (kI 0).toNatClampNeg (Int32.ofNat 6).toNatClampNeg) 10 20 (kI 0).toNatClampNeg (kI 0).toNatClampNeg (Int32.ofNat 72).toNatClampNeg) 11 21 (kI 0).toNatClampNeg (kI 0).toNatClampNeg (Int32.ofNat 48).toNatClampNeg) 17 4 ((cp2 (cp2 (cp2 (cp2 w 8 18 (kI 0).toNatClampNeg (kI 0).toNatClampNeg (Int32.ofNat 36).toNatClampNeg) 9 19 (kI 0).toNatClampNeg (kI 0).toNatClampNeg (Int32.ofNat 6).toNatClampNeg) 10 20 (kI 0).toNatClampNeg (kI 0).toNatClampNeg (Int32.ofNat 72).toNatClampNeg) 11 21 (kI 0).toNatClampNeg (kI 0).toNatClampNeg (Int32.ofNat 48).toNatClampNeg) 7 4)) 17 5 ((cp2 (cp2 (cp2 (cp2 w 8 18 (kI 0).toNatClampNeg (kI 0).toNatClampNeg (Int32.ofNat 36).toNatClampNeg) 9 19 (kI 0).toNatClampNeg (kI 0).toNatClampNeg (Int32.ofNat 6).toNatClampNeg) 10 20 (kI 0).toNatClampNeg (kI 0).toNatClampNeg (Int32.ofNat 72).toNatClampNeg) 11 21 (kI 0).toNatClampNeg (kI 0).toNatClampNeg (Int32.ofNat 48).toNatClampNeg) 7 5)) 17 6 ((cp2 (cp2 (cp2 (cp2 w 8 18 (kI 0).toNatClampNeg (kI 0).toNatClampNeg (Int32.ofNat 36).toNatClampNeg) 9 19 (kI 0).toNatClampNeg (kI 0).toNatClampNeg (Int32.ofNat 6).toNatClampNeg) 10 20 (kI 0).toNatClampNeg (kI 0).toNatClampNeg (Int32.ofNat 72).toNatClampNeg) 11 21 (kI 0).toNatClampNeg (kI 0).toNatClampNeg (Int32.ofNat 48).toNatClampNeg) 7 6)) 17 7 ((cp2 (cp2 (cp2 (cp2 w 8 18 (kI 0).toNatClampNeg (kI 0).toNatClampNeg (Int32.ofNat 36).toNatClampNeg) 9 19 (kI 0).toNatClampNeg (kI 0).toNatClampNeg (Int32.ofNat 6).toNatClampNeg) 10 20 (kI 0).toNatClampNeg (kI 0).toNatClampNeg (Int32.ofNat 72).toNatClampNeg) 11 21 (kI 0).toNatClampNeg (kI 0).toNatClampNeg (Int32.ofNat 48).toNatClampNeg) 7 7)) 17 8 ((cp2 (cp2 (cp2 (cp2 w 8 18 (kI 0).toNatClampNeg (kI 0).toNatClampNeg (Int32.ofNat 36).toNatClampNeg) 9 19 (kI 0).toNatClampNeg (kI 0).toNatClampNeg (Int32.ofNat 6).toNatClampNeg) 10 20 (kI 0).toNatClampNeg (kI 0).toNatClampNeg (Int32.ofNat 72).toNatClampNeg) 11 21 (kI 0).toNatClampNeg (kI 0).toNatClampNeg (Int32.ofNat 48).toNatClampNeg) 7 8))
theorem m_10_17_7 {X : Scr} {d : Nat} (w : Wd)  : CV X (d + 2) 10 [.ref 17, .ref 7] SH w (fun r s1 w1 => r = none ∧ s1 = SH ∧ w1 = G_10_17_7 w) := by
  refine CV.of rfl ?_
  refine EV.steps cl_10 9 (q2 := (15, [some (.ref 17), some (.ref 7)], [.int (Int32.ofNat 36), .int (kI 0), .ref 18, .int (kI 0), .ref 8], SH, w)) rfl ?_
  refine EV.acopy cl_10 rfl rfl rfl (by decide) (by decide) ?_
  refine EV.steps cl_10 9 (q2 := (33, [some (.ref 17), some (.ref 7)], [.int (Int32.ofNat 6), .int (kI 0), .ref 19, .int (kI 0), .ref 9], SH, (cp2 w 8 18 (kI 0).toNatClampNeg (kI 0).toNatClampNeg (Int32.ofNat 36).toNatClampNeg))) rfl ?_
  refine EV.acopy cl_10 rfl rfl rfl (by decide) (by decide) ?_
  refine EV.steps cl_10 9 (q2 := (51, [some (.ref 17), some (.ref 7)], [.int (Int32.ofNat 72), .int (kI 0), .ref 20, .int (kI 0), .ref 10], SH, (cp2 (cp2 w 8 18 (kI 0).toNatClampNeg (kI 0).toNatClampNeg (Int32.ofNat 36).toNatClampNeg) 9 19 (kI 0).toNatClampNeg (kI 0).toNatClampNeg (Int32.ofNat 6).toNatClampNeg))) rfl ?_
  refine EV.acopy cl_10 rfl rfl rfl (by decide) (by decide) ?_
  refine EV.steps cl_10 9 (q2 := (69, [some (.ref 17), some (.ref 7)], [.int (Int32.ofNat 48), .int (kI 0), .ref 21, .int (kI 0), .ref 11], SH, (cp2 (cp2 (cp2 w 8 18 (kI 0).toNatClampNeg (kI 0).toNatClampNeg (Int32.ofNat 36).toNatClampNeg) 9 19 (kI 0).toNatClampNeg (kI 0).toNatClampNeg (Int32.ofNat 6).toNatClampNeg) 10 20 (kI 0).toNatClampNeg (kI 0).toNatClampNeg (Int32.ofNat 72).toNatClampNeg))) rfl ?_
  refine EV.acopy cl_10 rfl rfl rfl (by decide) (by decide) ?_
  refine EV.steps cl_10 20 (q2 := (112, [some (.ref 17), some (.ref 7)], [], SH, (up2 (up2 (up2 (up2 (up2 (cp2 (cp2 (cp2 (cp2 w 8 18 (kI 0).toNatClampNeg (kI 0).toNatClampNeg (Int32.ofNat 36).toNatClampNeg) 9 19 (kI 0).toNatClampNeg (kI 0).toNatClampNeg (Int32.ofNat 6).toNatClampNeg) 10 20 (kI 0).toNatClampNeg (kI 0).toNatClampNeg (Int32.ofNat 72).toNatClampNeg) 11 21 (kI 0).toNatClampNeg (kI 0).toNatClampNeg (Int32.ofNat 48).toNatClampNeg) 17 4 ((cp2 (cp2 (cp2 (cp2 w 8 18 (kI 0).toNatClampNeg (kI 0).toNatClampNeg (Int32.ofNat 36).toNatClampNeg) 9 19 (kI 0).toNatClampNeg (kI 0).toNatClampNeg (Int32.ofNat 6).toNatClampNeg) 10 20 (kI 0).toNatClampNeg (kI 0).toNatClampNeg (Int32.ofNat 72).toNatClampNeg) 11 21 (kI 0).toNatClampNeg (kI 0).toNatClampNeg (Int32.ofNat 48).toNatClampNeg) 7 4)) 17 5 ((cp2 (cp2 (cp2 (cp2 w 8 18 (kI 0).toNatClampNeg (kI 0).toNatClampNeg (Int32.ofNat 36).toNatClampNeg) 9 19 (kI 0).toNatClampNeg (kI 0).toNatClampNeg (Int32.ofNat 6).toNatClampNeg) 10 20 (kI 0).toNatClampNeg (kI 0).toNatClampNeg (Int32.ofNat 72).toNatClampNeg) 11 21 (kI 0).toNatClampNeg (kI 0).toNatClampNeg (Int32.ofNat 48).toNatClampNeg) 7 5)) 17 6 ((cp2 (cp2 (cp2 (cp2 w 8 18 (kI 0).toNatClampNeg (kI 0).toNatClampNeg (Int32.ofNat 36).toNatClampNeg) 9 19 (kI 0).toNatClampNeg (kI 0).toNatClampNeg (Int32.ofNat 6).toNatClampNeg) 10 20 (kI 0).toNatClampNeg (kI 0).toNatClampNeg (Int32.ofNat 72).toNatClampNeg) 11 21 (kI 0).toNatClampNeg (kI 0).toNatClampNeg (Int32.ofNat 48).toNatClampNeg) 7 6)) 17 7 ((cp2 (cp2 (cp2 (cp2 w 8 18 (kI 0).toNatClampNeg (kI 0).toNatClampNeg (Int32.ofNat 36).toNatClampNeg) 9 19 (kI 0).toNatClampNeg (kI 0).toNatClampNeg (Int32.ofNat 6).toNatClampNeg) 10 20 (kI 0).toNatClampNeg (kI 0).toNatClampNeg (Int32.ofNat 72).toNatClampNeg) 11 21 (kI 0).toNatClampNeg (kI 0).toNatClampNeg (Int32.ofNat 48).toNatClampNeg) 7 7)) 17 8 ((cp2 (cp2 (cp2 (cp2 w 8 18 (kI 0).toNatClampNeg (kI 0).toNatClampNeg (Int32.ofNat 36).toNatClampNeg) 9 19 (kI 0).toNatClampNeg (kI 0).toNatClampNeg (Int32.ofNat 6).toNatClampNeg) 10 20 (kI 0).toNatClampNeg (kI 0).toNatClampNeg (Int32.ofNat 72).toNatClampNeg) 11 21 (kI 0).toNatClampNeg (kI 0).toNatClampNeg (Int32.ofNat 48).toNatClampNeg) 7 8)))) rfl ?_
  refine EV.ret cl_10 rfl rfl rfl ?_
  exact ⟨rfl, rfl, rfl⟩
set_option maxRecDepth 20000 in
theorem cl_126 : RCT[126]? = some rc_126 := rfl
def F_126_0 (p1 : Int32) (p2 : Int32) (w : Wd) : Int32 := (if (F_51_3 p1 w) = 0 then (kI (-1)) else (if (F_52_3 p2 w) = 0 then (kI (-1)) else (F_11_7 p1 p2 w)))
theorem m_126_0 {X : Scr} {d : Nat} (w : Wd) (p1 : Int32) (p2 : Int32) : CV X (d + 3) 126 [.ref 0, .int p1, .int p2] SH w (fun r s1 w1 => r = some (.int (F_126_0 p1 p2 w)) ∧ s1 = SH ∧ w1 = w) := by
  refine CV.of rfl ?_
  refine EV.steps cl_126 3 (q2 := (5, [some (.ref 0), some (.int p1), some (.int p2)], [.int p1, .ref 3], SH, w)) rfl ?_
  refine EV.callF (kc := 51) (av := [.ref 3, .int p1]) (r := []) (rv := some (.int (F_51_3 p1 w))) (w2 := w) cl_126 rfl rfl rfl (m_51_3 w p1) ?_
  refine EV.z_eq cl_126 rfl (fun h1 => ?_) (fun h1 => ?_)
  · skip
    refine EV.steps cl_126 1 (q2 := (23, [some (.ref 0), some (.int p1), some (.int p2)], [.int (kI (-1))], SH, w)) rfl ?_
    refine EV.ret cl_126 rfl rfl rfl ?_
    exact ⟨(by simp only [F_126_0, if_pos h1]), rfl, rfl⟩
  · skip
    refine EV.steps cl_126 3 (q2 := (16, [some (.ref 0), some (.int p1), some (.int p2)], [.int p2, .ref 3], SH, w)) rfl ?_
    refine EV.callF (kc := 52) (av := [.ref 3, .int p2]) (r := []) (rv := some (.int (F_52_3 p2 w))) (w2 := w) cl_126 rfl rfl rfl (m_52_3 w p2) ?_
    refine EV.z_ne cl_126 rfl (fun h2 => ?_) (fun h2 => ?_)
    · skip
      refine EV.steps cl_126 4 (q2 := (30, [some (.ref 0), some (.int p1), some (.int p2)], [.int p2, .int p1, .ref 7], SH, w)) rfl ?_
      refine EV.callF (kc := 11) (av := [.ref 7, .int p1, .int p2]) (r := []) (rv := some (.int (F_11_7 p1 p2 w))) (w2 := w) cl_126 rfl rfl rfl (m_11_7 w p1 p2) ?_
      refine EV.ret cl_126 rfl rfl rfl ?_
      exact ⟨(by simp only [F_126_0, if_neg h1, if_neg h2]), rfl, rfl⟩
    · skip
      refine EV.steps cl_126 1 (q2 := (23, [some (.ref 0), some (.int p1), some (.int p2)], [.int (kI (-1))], SH, w)) rfl ?_
      refine EV.ret cl_126 rfl rfl rfl ?_
      exact ⟨(by simp only [F_126_0, if_neg h1, if_pos h2]), rfl, rfl⟩
set_option maxRecDepth 20000 in
theorem cl_259 : RCT[259]? = some rc_259 := rfl
def F_259 (p1 : Int32) (w : Wd) : Int32 := ((((((((p1 - (((p1).toUInt32 >>> (((kI 1)).toUInt32 &&& Int32.toUInt32 31)).toInt32 &&& (kI 1431655765))) &&& (kI 858993459)) + ((((p1 - (((p1).toUInt32 >>> (((kI 1)).toUInt32 &&& Int32.toUInt32 31)).toInt32 &&& (kI 1431655765)))).toUInt32 >>> (((kI 2)).toUInt32 &&& Int32.toUInt32 31)).toInt32 &&& (kI 858993459))) + (((((p1 - (((p1).toUInt32 >>> (((kI 1)).toUInt32 &&& Int32.toUInt32 31)).toInt32 &&& (kI 1431655765))) &&& (kI 858993459)) + ((((p1 - (((p1).toUInt32 >>> (((kI 1)).toUInt32 &&& Int32.toUInt32 31)).toInt32 &&& (kI 1431655765)))).toUInt32 >>> (((kI 2)).toUInt32 &&& Int32.toUInt32 31)).toInt32 &&& (kI 858993459)))).toUInt32 >>> (((kI 4)).toUInt32 &&& Int32.toUInt32 31)).toInt32) &&& (kI 252645135)) + (((((((p1 - (((p1).toUInt32 >>> (((kI 1)).toUInt32 &&& Int32.toUInt32 31)).toInt32 &&& (kI 1431655765))) &&& (kI 858993459)) + ((((p1 - (((p1).toUInt32 >>> (((kI 1)).toUInt32 &&& Int32.toUInt32 31)).toInt32 &&& (kI 1431655765)))).toUInt32 >>> (((kI 2)).toUInt32 &&& Int32.toUInt32 31)).toInt32 &&& (kI 858993459))) + (((((p1 - (((p1).toUInt32 >>> (((kI 1)).toUInt32 &&& Int32.toUInt32 31)).toInt32 &&& (kI 1431655765))) &&& (kI 858993459)) + ((((p1 - (((p1).toUInt32 >>> (((kI 1)).toUInt32 &&& Int32.toUInt32 31)).toInt32 &&& (kI 1431655765)))).toUInt32 >>> (((kI 2)).toUInt32 &&& Int32.toUInt32 31)).toInt32 &&& (kI 858993459)))).toUInt32 >>> (((kI 4)).toUInt32 &&& Int32.toUInt32 31)).toInt32) &&& (kI 252645135))).toUInt32 >>> (((kI 8)).toUInt32 &&& Int32.toUInt32 31)).toInt32) + ((((((((p1 - (((p1).toUInt32 >>> (((kI 1)).toUInt32 &&& Int32.toUInt32 31)).toInt32 &&& (kI 1431655765))) &&& (kI 858993459)) + ((((p1 - (((p1).toUInt32 >>> (((kI 1)).toUInt32 &&& Int32.toUInt32 31)).toInt32 &&& (kI 1431655765)))).toUInt32 >>> (((kI 2)).toUInt32 &&& Int32.toUInt32 31)).toInt32 &&& (kI 858993459))) + (((((p1 - (((p1).toUInt32 >>> (((kI 1)).toUInt32 &&& Int32.toUInt32 31)).toInt32 &&& (kI 1431655765))) &&& (kI 858993459)) + ((((p1 - (((p1).toUInt32 >>> (((kI 1)).toUInt32 &&& Int32.toUInt32 31)).toInt32 &&& (kI 1431655765)))).toUInt32 >>> (((kI 2)).toUInt32 &&& Int32.toUInt32 31)).toInt32 &&& (kI 858993459)))).toUInt32 >>> (((kI 4)).toUInt32 &&& Int32.toUInt32 31)).toInt32) &&& (kI 252645135)) + (((((((p1 - (((p1).toUInt32 >>> (((kI 1)).toUInt32 &&& Int32.toUInt32 31)).toInt32 &&& (kI 1431655765))) &&& (kI 858993459)) + ((((p1 - (((p1).toUInt32 >>> (((kI 1)).toUInt32 &&& Int32.toUInt32 31)).toInt32 &&& (kI 1431655765)))).toUInt32 >>> (((kI 2)).toUInt32 &&& Int32.toUInt32 31)).toInt32 &&& (kI 858993459))) + (((((p1 - (((p1).toUInt32 >>> (((kI 1)).toUInt32 &&& Int32.toUInt32 31)).toInt32 &&& (kI 1431655765))) &&& (kI 858993459)) + ((((p1 - (((p1).toUInt32 >>> (((kI 1)).toUInt32 &&& Int32.toUInt32 31)).toInt32 &&& (kI 1431655765)))).toUInt32 >>> (((kI 2)).toUInt32 &&& Int32.toUInt32 31)).toInt32 &&& (kI 858993459)))).toUInt32 >>> (((kI 4)).toUInt32 &&& Int32.toUInt32 31)).toInt32) &&& (kI 252645135))).toUInt32 >>> (((kI 8)).toUInt32 &&& Int32.toUInt32 31)).toInt32)).toUInt32 >>> (((kI 16)).toUInt32 &&& Int32.toUInt32 31)).toInt32) &&& (kI 63))
theorem m_259 {X : Scr} {d : Nat} (w : Wd) (p1 : Int32) : CV X (d + 1) 259 [.int p1] SH w (fun r s1 w1 => r = some (.int (F_259 p1 w)) ∧ s1 = SH ∧ w1 = w) := by
  refine CV.of rfl ?_
  refine EV.steps cl_259 41 (q2 := (52, [some (.int (((((((p1 - (((p1).toUInt32 >>> (((kI 1)).toUInt32 &&& Int32.toUInt32 31)).toInt32 &&& (kI 1431655765))) &&& (kI 858993459)) + ((((p1 - (((p1).toUInt32 >>> (((kI 1)).toUInt32 &&& Int32.toUInt32 31)).toInt32 &&& (kI 1431655765)))).toUInt32 >>> (((kI 2)).toUInt32 &&& Int32.toUInt32 31)).toInt32 &&& (kI 858993459))) + (((((p1 - (((p1).toUInt32 >>> (((kI 1)).toUInt32 &&& Int32.toUInt32 31)).toInt32 &&& (kI 1431655765))) &&& (kI 858993459)) + ((((p1 - (((p1).toUInt32 >>> (((kI 1)).toUInt32 &&& Int32.toUInt32 31)).toInt32 &&& (kI 1431655765)))).toUInt32 >>> (((kI 2)).toUInt32 &&& Int32.toUInt32 31)).toInt32 &&& (kI 858993459)))).toUInt32 >>> (((kI 4)).toUInt32 &&& Int32.toUInt32 31)).toInt32) &&& (kI 252645135)) + (((((((p1 - (((p1).toUInt32 >>> (((kI 1)).toUInt32 &&& Int32.toUInt32 31)).toInt32 &&& (kI 1431655765))) &&& (kI 858993459)) + ((((p1 - (((p1).toUInt32 >>> (((kI 1)).toUInt32 &&& Int32.toUInt32 31)).toInt32 &&& (kI 1431655765)))).toUInt32 >>> (((kI 2)).toUInt32 &&& Int32.toUInt32 31)).toInt32 &&& (kI 858993459))) + (((((p1 - (((p1).toUInt32 >>> (((kI 1)).toUInt32 &&& Int32.toUInt32 31)).toInt32 &&& (kI 1431655765))) &&& (kI 858993459)) + ((((p1 - (((p1).toUInt32 >>> (((kI 1)).toUInt32 &&& Int32.toUInt32 31)).toInt32 &&& (kI 1431655765)))).toUInt32 >>> (((kI 2)).toUInt32 &&& Int32.toUInt32 31)).toInt32 &&& (kI 858993459)))).toUInt32 >>> (((kI 4)).toUInt32 &&& Int32.toUInt32 31)).toInt32) &&& (kI 252645135))).toUInt32 >>> (((kI 8)).toUInt32 &&& Int32.toUInt32 31)).toInt32) + ((((((((p1 - (((p1).toUInt32 >>> (((kI 1)).toUInt32 &&& Int32.toUInt32 31)).toInt32 &&& (kI 1431655765))) &&& (kI 858993459)) + ((((p1 - (((p1).toUInt32 >>> (((kI 1)).toUInt32 &&& Int32.toUInt32 31)).toInt32 &&& (kI 1431655765)))).toUInt32 >>> (((kI 2)).toUInt32 &&& Int32.toUInt32 31)).toInt32 &&& (kI 858993459))) + (((((p1 - (((p1).toUInt32 >>> (((kI 1)).toUInt32 &&& Int32.toUInt32 31)).toInt32 &&& (kI 1431655765))) &&& (kI 858993459)) + ((((p1 - (((p1).toUInt32 >>> (((kI 1)).toUInt32 &&& Int32.toUInt32 31)).toInt32 &&& (kI 1431655765)))).toUInt32 >>> (((kI 2)).toUInt32 &&& Int32.toUInt32 31)).toInt32 &&& (kI 858993459)))).toUInt32 >>> (((kI 4)).toUInt32 &&& Int32.toUInt32 31)).toInt32) &&& (kI 252645135)) + (((((((p1 - (((p1).toUInt32 >>> (((kI 1)).toUInt32 &&& Int32.toUInt32 31)).toInt32 &&& (kI 1431655765))) &&& (kI 858993459)) + ((((p1 - (((p1).toUInt32 >>> (((kI 1)).toUInt32 &&& Int32.toUInt32 31)).toInt32 &&& (kI 1431655765)))).toUInt32 >>> (((kI 2)).toUInt32 &&& Int32.toUInt32 31)).toInt32 &&& (kI 858993459))) + (((((p1 - (((p1).toUInt32 >>> (((kI 1)).toUInt32 &&& Int32.toUInt32 31)).toInt32 &&& (kI 1431655765))) &&& (kI 858993459)) + ((((p1 - (((p1).toUInt32 >>> (((kI 1)).toUInt32 &&& Int32.toUInt32 31)).toInt32 &&& (kI 1431655765)))).toUInt32 >>> (((kI 2)).toUInt32 &&& Int32.toUInt32 31)).toInt32 &&& (kI 858993459)))).toUInt32 >>> (((kI 4)).toUInt32 &&& Int32.toUInt32 31)).toInt32) &&& (kI 252645135))).toUInt32 >>> (((kI 8)).toUInt32 &&& Int32.toUInt32 31)).toInt32)).toUInt32 >>> (((kI 16)).toUInt32 &&& Int32.toUInt32 31)).toInt32))], [.int ((((((((p1 - (((p1).toUInt32 >>> (((kI 1)).toUInt32 &&& Int32.toUInt32 31)).toInt32 &&& (kI 1431655765))) &&& (kI 858993459)) + ((((p1 - (((p1).toUInt32 >>> (((kI 1)).toUInt32 &&& Int32.toUInt32 31)).toInt32 &&& (kI 1431655765)))).toUInt32 >>> (((kI 2)).toUInt32 &&& Int32.toUInt32 31)).toInt32 &&& (kI 858993459))) + (((((p1 - (((p1).toUInt32 >>> (((kI 1)).toUInt32 &&& Int32.toUInt32 31)).toInt32 &&& (kI 1431655765))) &&& (kI 858993459)) + ((((p1 - (((p1).toUInt32 >>> (((kI 1)).toUInt32 &&& Int32.toUInt32 31)).toInt32 &&& (kI 1431655765)))).toUInt32 >>> (((kI 2)).toUInt32 &&& Int32.toUInt32 31)).toInt32 &&& (kI 858993459)))).toUInt32 >>> (((kI 4)).toUInt32 &&& Int32.toUInt32 31)).toInt32) &&& (kI 252645135)) + (((((((p1 - (((p1).toUInt32 >>> (((kI 1)).toUInt32 &&& Int32.toUInt32 31)).toInt32 &&& (kI 1431655765))) &&& (kI 858993459)) + ((((p1 - (((p1).toUInt32 >>> (((kI 1)).toUInt32 &&& Int32.toUInt32 31)).toInt32 &&& (kI 1431655765)))).toUInt32 >>> (((kI 2)).toUInt32 &&& Int32.toUInt32 31)).toInt32 &&& (kI 858993459))) + (((((p1 - (((p1).toUInt32 >>> (((kI 1)).toUInt32 &&& Int32.toUInt32 31)).toInt32 &&& (kI 1431655765))) &&& (kI 858993459)) + ((((p1 - (((p1).toUInt32 >>> (((kI 1)).toUInt32 &&& Int32.toUInt32 31)).toInt32 &&& (kI 1431655765)))).toUInt32 >>> (((kI 2)).toUInt32 &&& Int32.toUInt32 31)).toInt32 &&& (kI 858993459)))).toUInt32 >>> (((kI 4)).toUInt32 &&& Int32.toUInt32 31)).toInt32) &&& (kI 252645135))).toUInt32 >>> (((kI 8)).toUInt32 &&& Int32.toUInt32 31)).toInt32) + ((((((((p1 - (((p1).toUInt32 >>> (((kI 1)).toUInt32 &&& Int32.toUInt32 31)).toInt32 &&& (kI 1431655765))) &&& (kI 858993459)) + ((((p1 - (((p1).toUInt32 >>> (((kI 1)).toUInt32 &&& Int32.toUInt32 31)).toInt32 &&& (kI 1431655765)))).toUInt32 >>> (((kI 2)).toUInt32 &&& Int32.toUInt32 31)).toInt32 &&& (kI 858993459))) + (((((p1 - (((p1).toUInt32 >>> (((kI 1)).toUInt32 &&& Int32.toUInt32 31)).toInt32 &&& (kI 1431655765))) &&& (kI 858993459)) + ((((p1 - (((p1).toUInt32 >>> (((kI 1)).toUInt32 &&& Int32.toUInt32 31)).toInt32 &&& (kI 1431655765)))).toUInt32 >>> (((kI 2)).toUInt32 &&& Int32.toUInt32 31)).toInt32 &&& (kI 858993459)))).toUInt32 >>> (((kI 4)).toUInt32 &&& Int32.toUInt32 31)).toInt32) &&& (kI 252645135)) + (((((((p1 - (((p1).toUInt32 >>> (((kI 1)).toUInt32 &&& Int32.toUInt32 31)).toInt32 &&& (kI 1431655765))) &&& (kI 858993459)) + ((((p1 - (((p1).toUInt32 >>> (((kI 1)).toUInt32 &&& Int32.toUInt32 31)).toInt32 &&& (kI 1431655765)))).toUInt32 >>> (((kI 2)).toUInt32 &&& Int32.toUInt32 31)).toInt32 &&& (kI 858993459))) + (((((p1 - (((p1).toUInt32 >>> (((kI 1)).toUInt32 &&& Int32.toUInt32 31)).toInt32 &&& (kI 1431655765))) &&& (kI 858993459)) + ((((p1 - (((p1).toUInt32 >>> (((kI 1)).toUInt32 &&& Int32.toUInt32 31)).toInt32 &&& (kI 1431655765)))).toUInt32 >>> (((kI 2)).toUInt32 &&& Int32.toUInt32 31)).toInt32 &&& (kI 858993459)))).toUInt32 >>> (((kI 4)).toUInt32 &&& Int32.toUInt32 31)).toInt32) &&& (kI 252645135))).toUInt32 >>> (((kI 8)).toUInt32 &&& Int32.toUInt32 31)).toInt32)).toUInt32 >>> (((kI 16)).toUInt32 &&& Int32.toUInt32 31)).toInt32) &&& (kI 63))], SH, w)) rfl ?_
  refine EV.ret cl_259 rfl rfl rfl ?_
  exact ⟨rfl, rfl, rfl⟩
set_option maxRecDepth 20000 in
theorem cl_155 : RCT[155]? = some rc_155 := rfl
def F_155 (p1 : Int32) (p2 : Int32) (p3 : Int32) (w : Wd) : Int32 := (if p1 = 0 then (kI 0) else (if (p1 &&& (p2 ^^^ (kI (-1)))) = 0 then (if p3 < (F_259 p1 w) then (kI 0) else (kI 1)) else (kI 0)))
theorem z1_155 (p1 : Int32) (p2 : Int32) (p3 : Int32) (w : Wd) : F_155 p1 p2 p3 w = 0 ∨ F_155 p1 p2 p3 w = 1 := by
  unfold F_155
  (repeat' split) <;> first | exact Or.inl rfl | exact Or.inr rfl
theorem m_155 {X : Scr} {d : Nat} (w : Wd) (p1 : Int32) (p2 : Int32) (p3 : Int32) : CV X (d + 2) 155 [.int p1, .int p2, .int p3] SH w (fun r s1 w1 => r = some (.int (F_155 p1 p2 p3 w)) ∧ s1 = SH ∧ w1 = w) := by
  refine CV.of rfl ?_
  refine EV.steps cl_155 1 (q2 := (1, [some (.int p1), some (.int p2), some (.int p3)], [.int p1], SH, w)) rfl ?_
  refine EV.z_eq cl_155 rfl (fun h1 => ?_) (fun h1 => ?_)
  · skip
    refine EV.steps cl_155 1 (q2 := (25, [some (.int p1), some (.int p2), some (.int p3)], [.int (kI 0)], SH, w)) rfl ?_
    refine EV.ret cl_155 rfl rfl rfl ?_
    exact ⟨(by simp only [F_155, if_pos h1]), rfl, rfl⟩
  · skip
    refine EV.steps cl_155 5 (q2 := (9, [some (.int p1), some (.int p2), some (.int p3)], [.int (p1 &&& (p2 ^^^ (kI (-1))))], SH, w)) rfl ?_
    refine EV.z_ne cl_155 rfl (fun h2 => ?_) (fun h2 => ?_)
    · skip
      refine EV.steps cl_155 1 (q2 := (25, [some (.int p1), some (.int p2), some (.int p3)], [.int (kI 0)], SH, w)) rfl ?_
      refine EV.ret cl_155 rfl rfl rfl ?_
      exact ⟨(by simp only [F_155, if_neg h1, if_neg h2]), rfl, rfl⟩
    · skip
      refine EV.steps cl_155 1 (q2 := (13, [some (.int p1), some (.int p2), some (.int p3)], [.int p1], SH, w)) rfl ?_
      refine EV.callF (kc := 259) (av := [.int p1]) (r := []) (rv := some (.int (F_259 p1 w))) (w2 := w) cl_155 rfl rfl rfl (m_259 w p1) ?_
      refine EV.steps cl_155 1 (q2 := (17, [some (.int p1), some (.int p2), some (.int p3)], [.int p3, .int (F_259 p1 w)], SH, w)) rfl ?_
      refine EV.i_gt cl_155 rfl (fun h3 => ?_) (fun h3 => ?_)
      · skip
        refine EV.steps cl_155 1 (q2 := (25, [some (.int p1), some (.int p2), some (.int p3)], [.int (kI 0)], SH, w)) rfl ?_
        refine EV.ret cl_155 rfl rfl rfl ?_
        exact ⟨(by simp only [F_155, if_neg h1, if_pos h2, if_pos h3]), rfl, rfl⟩
      · skip
        refine EV.steps cl_155 2 (q2 := (25, [some (.int p1), some (.int p2), some (.int p3)], [.int (kI 1)], SH, w)) rfl ?_
        refine EV.ret cl_155 rfl rfl rfl ?_
        exact ⟨(by simp only [F_155, if_neg h1, if_pos h2, if_neg h3]), rfl, rfl⟩
set_option maxRecDepth 20000 in
theorem cl_135 : RCT[135]? = some rc_135 := rfl
def F_135_0 (p1 : Int32) (p2 : Int32) (p3 : Int32) (p4 : Int32) (p5 : Int32) (w : Wd) : Int32 := (if (F_153 p1 (kI 0) (kI 19) w) = 0 then (kI 0) else (if (F_153 p2 (kI 0) (kI 5) w) = 0 then (kI 0) else (if (F_153 p3 (kI 0) (kI 99) w) = 0 then (kI 0) else (if (F_153 p4 (kI 0) (kI 23) w) = 0 then (kI 0) else (if (F_153 p5 (kI 0) (kI 9) w) = 0 then (kI 0) else (kI 1))))))
def G_135_0 (p1 : Int32) (p2 : Int32) (p3 : Int32) (p4 : Int32) (p5 : Int32) (w : Wd) : Wd := (if (F_153 p1 (kI 0) (kI 19) w) = 0 then w else (if (F_153 p2 (kI 0) (kI 5) w) = 0 then w else (if (F_153 p3 (kI 0) (kI 99) w) = 0 then w else (if (F_153 p4 (kI 0) (kI 23) w) = 0 then w else (if (F_153 p5 (kI 0) (kI 9) w) = 0 then w else (up2 (up2 (up2 (up2 (up2 w 103 p1.toNatClampNeg p2) 104 p1.toNatClampNeg p3) 105 p1.toNatClampNeg p4) 106 p1.toNatClampNeg p5) 102 6 ((w 102 6) ||| ((kI 1) <<< (p1 &&& 31)))))))))
theorem z1_135_0 (p1 : Int32) (p2 : Int32) (p3 : Int32) (p4 : Int32) (p5 : Int32) (w : Wd) : F_135_0 p1 p2 p3 p4 p5 w = 0 ∨ F_135_0 p1 p2 p3 p4 p5 w = 1 := by
  unfold F_135_0
  (repeat' split) <;> first | exact Or.inl rfl | exact Or.inr rfl
theorem m_135_0 {X : Scr} {d : Nat} (w : Wd) (p1 : Int32) (p2 : Int32) (p3 : Int32) (p4 : Int32) (p5 : Int32) : CV X (d + 2) 135 [.ref 0, .int p1, .int p2, .int p3, .int p4, .int p5] SH w (fun r s1 w1 => r = some (.int (F_135_0 p1 p2 p3 p4 p5 w)) ∧ s1 = SH ∧ w1 = G_135_0 p1 p2 p3 p4 p5 w) := by
  refine CV.of rfl ?_
  refine EV.steps cl_135 3 (q2 := (4, [some (.ref 0), some (.int p1), some (.int p2), some (.int p3), some (.int p4), some (.int p5)], [.int (kI 19), .int (kI 0), .int p1], SH, w)) rfl ?_
  refine EV.callF (kc := 153) (av := [.int p1, .int (kI 0), .int (kI 19)]) (r := []) (rv := some (.int (F_153 p1 (kI 0) (kI 19) w))) (w2 := w) cl_135 rfl rfl rfl (m_153 w p1 (kI 0) (kI 19)) ?_
  refine EV.z_eq cl_135 rfl (fun h1 => ?_) (fun h1 => ?_)
  · skip
    refine EV.steps cl_135 1 (q2 := (20, [some (.ref 0), some (.int p1), some (.int p2), some (.int p3), some (.int p4), some (.int p5)], [.int (kI 0)], SH, w)) rfl ?_
    refine EV.ret cl_135 rfl rfl rfl ?_
    exact ⟨(by simp only [F_135_0, if_pos h1]), rfl, (by simp only [G_135_0, if_pos h1])⟩
  · skip
    refine EV.steps cl_135 3 (q2 := (13, [some (.ref 0), some (.int p1), some (.int p2), some (.int p3), some (.int p4), some (.int p5)], [.int (kI 5), .int (kI 0), .int p2], SH, w)) rfl ?_
    refine EV.callF (kc := 153) (av := [.int p2, .int (kI 0), .int (kI 5)]) (r := []) (rv := some (.int (F_153 p2 (kI 0) (kI 5) w))) (w2 := w) cl_135 rfl rfl rfl (m_153 w p2 (kI 0) (kI 5)) ?_
    refine EV.z_ne cl_135 rfl (fun h2 => ?_) (fun h2 => ?_)
    · skip
      refine EV.steps cl_135 3 (q2 := (25, [some (.ref 0), some (.int p1), some (.int p2), some (.int p3), some (.int p4), some (.int p5)], [.int (kI 99), .int (kI 0), .int p3], SH, w)) rfl ?_
      refine EV.callF (kc := 153) (av := [.int p3, .int (kI 0), .int (kI 99)]) (r := []) (rv := some (.int (F_153 p3 (kI 0) (kI 99) w))) (w2 := w) cl_135 rfl rfl rfl (m_153 w p3 (kI 0) (kI 99)) ?_
      refine EV.z_eq cl_135 rfl (fun h3 => ?_) (fun h3 => ?_)
      · skip
        refine EV.steps cl_135 1 (q2 := (54, [some (.ref 0), some (.int p1), some (.int p2), some (.int p3), some (.int p4), some (.int p5)], [.int (kI 0)], SH, w)) rfl ?_
        refine EV.ret cl_135 rfl rfl rfl ?_
        exact ⟨(by simp only [F_135_0, if_neg h1, if_neg h2, if_pos h3]), rfl, (by simp only [G_135_0, if_neg h1, if_neg h2, if_pos h3])⟩
      · skip
        refine EV.steps cl_135 3 (q2 := (36, [some (.ref 0), some (.int p1), some (.int p2), some (.int p3), some (.int p4), some (.int p5)], [.int (kI 23), .int (kI 0), .int p4], SH, w)) rfl ?_
        refine EV.callF (kc := 153) (av := [.int p4, .int (kI 0), .int (kI 23)]) (r := []) (rv := some (.int (F_153 p4 (kI 0) (kI 23) w))) (w2 := w) cl_135 rfl rfl rfl (m_153 w p4 (kI 0) (kI 23)) ?_
        refine EV.z_eq cl_135 rfl (fun h4 => ?_) (fun h4 => ?_)
        · skip
          refine EV.steps cl_135 1 (q2 := (54, [some (.ref 0), some (.int p1), some (.int p2), some (.int p3), some (.int p4), some (.int p5)], [.int (kI 0)], SH, w)) rfl ?_
          refine EV.ret cl_135 rfl rfl rfl ?_
          exact ⟨(by simp only [F_135_0, if_neg h1, if_neg h2, if_neg h3, if_pos h4]), rfl, (by simp only [G_135_0, if_neg h1, if_neg h2, if_neg h3, if_pos h4])⟩
        · skip
          refine EV.steps cl_135 3 (q2 := (47, [some (.ref 0), some (.int p1), some (.int p2), some (.int p3), some (.int p4), some (.int p5)], [.int (kI 9), .int (kI 0), .int p5], SH, w)) rfl ?_
          refine EV.callF (kc := 153) (av := [.int p5, .int (kI 0), .int (kI 9)]) (r := []) (rv := some (.int (F_153 p5 (kI 0) (kI 9) w))) (w2 := w) cl_135 rfl rfl rfl (m_153 w p5 (kI 0) (kI 9)) ?_
          refine EV.z_ne cl_135 rfl (fun h5 => ?_) (fun h5 => ?_)
          · skip
            refine EV.steps cl_135 5 (q2 := (64, [some (.ref 0), some (.int p1), some (.int p2), some (.int p3), some (.int p4), some (.int p5)], [.int p2, .int p1, .ref 103], SH, w)) rfl ?_
            refine EV.iastore cl_135 rfl rfl (by decide) (ix_153 h1 (by decide)) ?_
            refine EV.steps cl_135 5 (q2 := (74, [some (.ref 0), some (.int p1), some (.int p2), some (.int p3), some (.int p4), some (.int p5)], [.int p3, .int p1, .ref 104], SH, (up2 w 103 p1.toNatClampNeg p2))) rfl ?_
            refine EV.iastore cl_135 rfl rfl (by decide) (ix_153 h1 (by decide)) ?_
            refine EV.steps cl_135 5 (q2 := (85, [some (.ref 0), some (.int p1), some (.int p2), some (.int p3), some (.int p4), some (.int p5)], [.int p4, .int p1, .ref 105], SH, (up2 (up2 w 103 p1.toNatClampNeg p2) 104 p1.toNatClampNeg p3))) rfl ?_
            refine EV.iastore cl_135 rfl rfl (by decide) (ix_153 h1 (by decide)) ?_
            refine EV.steps cl_135 5 (q2 := (96, [some (.ref 0), some (.int p1), some (.int p2), some (.int p3), some (.int p4), some (.int p5)], [.int p5, .int p1, .ref 106], SH, (up2 (up2 (up2 w 103 p1.toNatClampNeg p2) 104 p1.toNatClampNeg p3) 105 p1.toNatClampNeg p4))) rfl ?_
            refine EV.iastore cl_135 rfl rfl (by decide) (ix_153 h1 (by decide)) ?_
            refine EV.steps cl_135 10 (q2 := (113, [some (.ref 0), some (.int p1), some (.int p2), some (.int p3), some (.int p4), some (.int p5)], [.int (kI 1)], SH, (up2 (up2 (up2 (up2 (up2 w 103 p1.toNatClampNeg p2) 104 p1.toNatClampNeg p3) 105 p1.toNatClampNeg p4) 106 p1.toNatClampNeg p5) 102 6 ((w 102 6) ||| ((kI 1) <<< (p1 &&& 31)))))) rfl ?_
            refine EV.ret cl_135 rfl rfl rfl ?_
            exact ⟨(by simp only [F_135_0, if_neg h1, if_neg h2, if_neg h3, if_neg h4, if_neg h5]), rfl, (by simp only [G_135_0, if_neg h1, if_neg h2, if_neg h3, if_neg h4, if_neg h5])⟩
          · skip
            refine EV.steps cl_135 1 (q2 := (54, [some (.ref 0), some (.int p1), some (.int p2), some (.int p3), some (.int p4), some (.int p5)], [.int (kI 0)], SH, w)) rfl ?_
            refine EV.ret cl_135 rfl rfl rfl ?_
            exact ⟨(by simp only [F_135_0, if_neg h1, if_neg h2, if_neg h3, if_neg h4, if_pos h5]), rfl, (by simp only [G_135_0, if_neg h1, if_neg h2, if_neg h3, if_neg h4, if_pos h5])⟩
    · skip
      refine EV.steps cl_135 1 (q2 := (20, [some (.ref 0), some (.int p1), some (.int p2), some (.int p3), some (.int p4), some (.int p5)], [.int (kI 0)], SH, w)) rfl ?_
      refine EV.ret cl_135 rfl rfl rfl ?_
      exact ⟨(by simp only [F_135_0, if_neg h1, if_pos h2]), rfl, (by simp only [G_135_0, if_neg h1, if_pos h2])⟩
set_option maxRecDepth 20000 in
theorem cl_141 : RCT[141]? = some rc_141 := rfl
def F_141_0 (p1 : Int32) (p2 : Int32) (w : Wd) : Int32 := (if (F_52_3 p1 w) = 0 then (kI (-1)) else (if (F_153 p2 (kI 0) (kI 7) w) = 0 then (kI (-1)) else (F_13_7 p1 p2 w)))
theorem m_141_0 {X : Scr} {d : Nat} (w : Wd) (p1 : Int32) (p2 : Int32) : CV X (d + 3) 141 [.ref 0, .int p1, .int p2] SH w (fun r s1 w1 => r = some (.int (F_141_0 p1 p2 w)) ∧ s1 = SH ∧ w1 = w) := by
  refine CV.of rfl ?_
  refine EV.steps cl_141 3 (q2 := (5, [some (.ref 0), some (.int p1), some (.int p2)], [.int p1, .ref 3], SH, w)) rfl ?_
  refine EV.callF (kc := 52) (av := [.ref 3, .int p1]) (r := []) (rv := some (.int (F_52_3 p1 w))) (w2 := w) cl_141 rfl rfl rfl (m_52_3 w p1) ?_
  refine EV.z_eq cl_141 rfl (fun h1 => ?_) (fun h1 => ?_)
  · skip
    refine EV.steps cl_141 1 (q2 := (22, [some (.ref 0), some (.int p1), some (.int p2)], [.int (kI (-1))], SH, w)) rfl ?_
    refine EV.ret cl_141 rfl rfl rfl ?_
    exact ⟨(by simp only [F_141_0, if_pos h1]), rfl, rfl⟩
  · skip
    refine EV.steps cl_141 3 (q2 := (15, [some (.ref 0), some (.int p1), some (.int p2)], [.int (kI 7), .int (kI 0), .int p2], SH, w)) rfl ?_
    refine EV.callF (kc := 153) (av := [.int p2, .int (kI 0), .int (kI 7)]) (r := []) (rv := some (.int (F_153 p2 (kI 0) (kI 7) w))) (w2 := w) cl_141 rfl rfl rfl (m_153 w p2 (kI 0) (kI 7)) ?_
    refine EV.z_ne cl_141 rfl (fun h2 => ?_) (fun h2 => ?_)
    · skip
      refine EV.steps cl_141 4 (q2 := (29, [some (.ref 0), some (.int p1), some (.int p2)], [.int p2, .int p1, .ref 7], SH, w)) rfl ?_
      refine EV.callF (kc := 13) (av := [.ref 7, .int p1, .int p2]) (r := []) (rv := some (.int (F_13_7 p1 p2 w))) (w2 := w) cl_141 rfl rfl rfl (m_13_7 w p1 p2) ?_
      refine EV.ret cl_141 rfl rfl rfl ?_
      exact ⟨(by simp only [F_141_0, if_neg h1, if_neg h2]), rfl, rfl⟩
    · skip
      refine EV.steps cl_141 1 (q2 := (22, [some (.ref 0), some (.int p1), some (.int p2)], [.int (kI (-1))], SH, w)) rfl ?_
      refine EV.ret cl_141 rfl rfl rfl ?_
      exact ⟨(by simp only [F_141_0, if_neg h1, if_pos h2]), rfl, rfl⟩
set_option maxRecDepth 20000 in
theorem cl_146 : RCT[146]? = some rc_146 := rfl
def F_146_0 (p1 : Int32) (w : Wd) : Int32 := (if (F_153 p1 (kI 0) (kI 65535) w) = 0 then (kI 0) else (kI 1))
def G_146_0 (p1 : Int32) (w : Wd) : Wd := (if (F_153 p1 (kI 0) (kI 65535) w) = 0 then w else (up2 w 7 8 p1))
theorem z1_146_0 (p1 : Int32) (w : Wd) : F_146_0 p1 w = 0 ∨ F_146_0 p1 w = 1 := by
  unfold F_146_0
  (repeat' split) <;> first | exact Or.inl rfl | exact Or.inr rfl
theorem m_146_0 {X : Scr} {d : Nat} (w : Wd) (p1 : Int32) : CV X (d + 2) 146 [.ref 0, .int p1] SH w (fun r s1 w1 => r = some (.int (F_146_0 p1 w)) ∧ s1 = SH ∧ w1 = G_146_0 p1 w) := by
  refine CV.of rfl ?_
  refine EV.steps cl_146 3 (q2 := (5, [some (.ref 0), some (.int p1)], [.int (kI 65535), .int (kI 0), .int p1], SH, w)) rfl ?_
  refine EV.callF (kc := 153) (av := [.int p1, .int (kI 0), .int (kI 65535)]) (r := []) (rv := some (.int (F_153 p1 (kI 0) (kI 65535) w))) (w2 := w) cl_146 rfl rfl rfl (m_153 w p1 (kI 0) (kI 65535)) ?_
  refine EV.z_ne cl_146 rfl (fun h1 => ?_) (fun h1 => ?_)
  · skip
    refine EV.steps cl_146 5 (q2 := (22, [some (.ref 0), some (.int p1)], [.int (kI 1)], SH, (up2 w 7 8 p1))) rfl ?_
    refine EV.ret cl_146 rfl rfl rfl ?_
    exact ⟨(by simp only [F_146_0, if_neg h1]), rfl, (by simp only [G_146_0, if_neg h1])⟩
  · skip
    refine EV.steps cl_146 1 (q2 := (12, [some (.ref 0), some (.int p1)], [.int (kI 0)], SH, w)) rfl ?_
    refine EV.ret cl_146 rfl rfl rfl ?_
    exact ⟨(by simp only [F_146_0, if_pos h1]), rfl, (by simp only [G_146_0, if_pos h1])⟩
