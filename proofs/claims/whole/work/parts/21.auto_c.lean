set_option maxRecDepth 20000 in
theorem cl_155 : RCT[155]? = some rc_155 := rfl
def F_155 (p1 : Int32) (p2 : Int32) (p3 : Int32) (w : Wd) : Int32 := (if p1 = 0 then (kI 0) else (if (p1 &&& (p2 ^^^ (kI (-1)))) = 0 then (if p3 < (F_259 p1 w) then (kI 0) else (kI 1)) else (kI 0)))
theorem m_155 {X : Scr} {d : Nat} (w : Wd) (p1 : Int32) (p2 : Int32) (p3 : Int32) : CV X (d + 2) 155 [.int p1, .int p2, .int p3] SH w (fun r s1 w1 => r = some (.int (F_155 p1 p2 p3 w)) ∧ s1 = SH ∧ w1 = w) := by
  refine CV.of rfl ?_
  refine EV.steps cl_155 1 (q2 := (1, [some (.int p1), some (.int p2), some (.int p3)], [.int p1], SH, w)) rfl ?_
  refine EV.z_eq cl_155 rfl (fun h1 => ?_) (fun h1 => ?_)
  · skip
    refine EV.steps cl_155 1 (q2 := (25, [some (.int p1), some (.int p2), some (.int p3)], [.int (kI 0)], SH, w)) rfl ?_
    refine EV.ret cl_155 rfl rfl rfl ?_
    exact ⟨(by simp only [F_155, if_pos h1]), rfl, rfl⟩
  · skip
    refine EV.steps cl_155 5 (q2 := (9, [some (.int p1), some (.int p2), some (.int p3)], [.int (p1 &&& (p2 ^^^ (kI (-1))))], SH, w)) rfl ?_
    refine EV.z_ne cl_155 rfl (fun h2 => ?_) (fun h2 => ?_)
    · skip
      refine EV.steps cl_155 1 (q2 := (25, [some (.int p1), some (.int p2), some (.int p3)], [.int (kI 0)], SH, w)) rfl ?_
      refine EV.ret cl_155 rfl rfl rfl ?_
      exact ⟨(by simp only [F_155, if_neg h1, if_neg h2]), rfl, rfl⟩
    · skip
      refine EV.steps cl_155 1 (q2 := (13, [some (.int p1), some (.int p2), some (.int p3)], [.int p1], SH, w)) rfl ?_
      refine EV.callF (kc := 259) (av := [.int p1]) (r := []) (rv := some (.int (F_259 p1 w))) (w2 := w) cl_155 rfl rfl rfl (m_259 w p1) ?_
      refine EV.steps cl_155 1 (q2 := (17, [some (.int p1), some (.int p2), some (.int p3)], [.int p3, .int (F_259 p1 w)], SH, w)) rfl ?_
      refine EV.i_gt cl_155 rfl (fun h3 => ?_) (fun h3 => ?_)
      · skip
        refine EV.steps cl_155 1 (q2 := (25, [some (.int p1), some (.int p2), some (.int p3)], [.int (kI 0)], SH, w)) rfl ?_
        refine EV.ret cl_155 rfl rfl rfl ?_
        exact ⟨(by simp only [F_155, if_neg h1, if_pos h2, if_pos h3]), rfl, rfl⟩
      · skip
        refine EV.steps cl_155 2 (q2 := (25, [some (.int p1), some (.int p2), some (.int p3)], [.int (kI 1)], SH, w)) rfl ?_
        refine EV.ret cl_155 rfl rfl rfl ?_
        exact ⟨(by simp only [F_155, if_neg h1, if_pos h2, if_neg h3]), rfl, rfl⟩
set_option maxRecDepth 20000 in
theorem cl_135 : RCT[135]? = some rc_135 := rfl
def F_135_0 (p1 : Int32) (p2 : Int32) (p3 : Int32) (p4 : Int32) (p5 : Int32) (w : Wd) : Int32 := (if (F_153 p1 (kI 0) (kI 19) w) = 0 then (kI 0) else (if (F_153 p2 (kI 0) (kI 5) w) = 0 then (kI 0) else (if (F_153 p3 (kI 0) (kI 99) w) = 0 then (kI 0) else (if (F_153 p4 (kI 0) (kI 23) w) = 0 then (kI 0) else (if (F_153 p5 (kI 0) (kI 9) w) = 0 then (kI 0) else (kI 1))))))
def G_135_0 (p1 : Int32) (p2 : Int32) (p3 : Int32) (p4 : Int32) (p5 : Int32) (w : Wd) : Wd := (if (F_153 p1 (kI 0) (kI 19) w) = 0 then w else (if (F_153 p2 (kI 0) (kI 5) w) = 0 then w else (if (F_153 p3 (kI 0) (kI 99) w) = 0 then w else (if (F_153 p4 (kI 0) (kI 23) w) = 0 then w else (if (F_153 p5 (kI 0) (kI 9) w) = 0 then w else (up2 (up2 (up2 (up2 (up2 w 103 p1.toNatClampNeg p2) 104 p1.toNatClampNeg p3) 105 p1.toNatClampNeg p4) 106 p1.toNatClampNeg p5) 102 6 ((w 102 6) ||| ((kI 1) <<< (p1 &&& 31)))))))))
theorem m_135_0 {X : Scr} {d : Nat} (w : Wd) (p1 : Int32) (p2 : Int32) (p3 : Int32) (p4 : Int32) (p5 : Int32) : CV X (d + 2) 135 [.ref 0, .int p1, .int p2, .int p3, .int p4, .int p5] SH w (fun r s1 w1 => r = some (.int (F_135_0 p1 p2 p3 p4 p5 w)) ∧ s1 = SH ∧ w1 = G_135_0 p1 p2 p3 p4 p5 w) := by
  refine CV.of rfl ?_
  refine EV.steps cl_135 3 (q2 := (4, [some (.ref 0), some (.int p1), some (.int p2), some (.int p3), some (.int p4), some (.int p5)], [.int (kI 19), .int (kI 0), .int p1], SH, w)) rfl ?_
  refine EV.callF (kc := 153) (av := [.int p1, .int (kI 0), .int (kI 19)]) (r := []) (rv := some (.int (F_153 p1 (kI 0) (kI 19) w))) (w2 := w) cl_135 rfl rfl rfl (m_153 w p1 (kI 0) (kI 19)) ?_
  refine EV.z_eq cl_135 rfl (fun h1 => ?_) (fun h1 => ?_)
  · skip
    refine EV.steps cl_135 1 (q2 := (20, [some (.ref 0), some (.int p1), some (.int p2), some (.int p3), some (.int p4), some (.int p5)], [.int (kI 0)], SH, w)) rfl ?_
    refine EV.ret cl_135 rfl rfl rfl ?_
    exact ⟨(by simp only [F_135_0, if_pos h1]), rfl, (by simp only [G_135_0, if_pos h1])⟩
  · skip
    refine EV.steps cl_135 3 (q2 := (13, [some (.ref 0), some (.int p1), some (.int p2), some (.int p3), some (.int p4), some (.int p5)], [.int (kI 5), .int (kI 0), .int p2], SH, w)) rfl ?_
    refine EV.callF (kc := 153) (av := [.int p2, .int (kI 0), .int (kI 5)]) (r := []) (rv := some (.int (F_153 p2 (kI 0) (kI 5) w))) (w2 := w) cl_135 rfl rfl rfl (m_153 w p2 (kI 0) (kI 5)) ?_
    refine EV.z_ne cl_135 rfl (fun h2 => ?_) (fun h2 => ?_)
    · skip
      refine EV.steps cl_135 3 (q2 := (25, [some (.ref 0), some (.int p1), some (.int p2), some (.int p3), some (.int p4), some (.int p5)], [.int (kI 99), .int (kI 0), .int p3], SH, w)) rfl ?_
      refine EV.callF (kc := 153) (av := [.int p3, .int (kI 0), .int (kI 99)]) (r := []) (rv := some (.int (F_153 p3 (kI 0) (kI 99) w))) (w2 := w) cl_135 rfl rfl rfl (m_153 w p3 (kI 0) (kI 99)) ?_
      refine EV.z_eq cl_135 rfl (fun h3 => ?_) (fun h3 => ?_)
      · skip
        refine EV.steps cl_135 1 (q2 := (54, [some (.ref 0), some (.int p1), some (.int p2), some (.int p3), some (.int p4), some (.int p5)], [.int (kI 0)], SH, w)) rfl ?_
        refine EV.ret cl_135 rfl rfl rfl ?_
        exact ⟨(by simp only [F_135_0, if_neg h1, if_neg h2, if_pos h3]), rfl, (by simp only [G_135_0, if_neg h1, if_neg h2, if_pos h3])⟩
      · skip
        refine EV.steps cl_135 3 (q2 := (36, [some (.ref 0), some (.int p1), some (.int p2), some (.int p3), some (.int p4), some (.int p5)], [.int (kI 23), .int (kI 0), .int p4], SH, w)) rfl ?_
        refine EV.callF (kc := 153) (av := [.int p4, .int (kI 0), .int (kI 23)]) (r := []) (rv := some (.int (F_153 p4 (kI 0) (kI 23) w))) (w2 := w) cl_135 rfl rfl rfl (m_153 w p4 (kI 0) (kI 23)) ?_
        refine EV.z_eq cl_135 rfl (fun h4 => ?_) (fun h4 => ?_)
        · skip
          refine EV.steps cl_135 1 (q2 := (54, [some (.ref 0), some (.int p1), some (.int p2), some (.int p3), some (.int p4), some (.int p5)], [.int (kI 0)], SH, w)) rfl ?_
          refine EV.ret cl_135 rfl rfl rfl ?_
          exact ⟨(by simp only [F_135_0, if_neg h1, if_neg h2, if_neg h3, if_pos h4]), rfl, (by simp only [G_135_0, if_neg h1, if_neg h2, if_neg h3, if_pos h4])⟩
        · skip
          refine EV.steps cl_135 3 (q2 := (47, [some (.ref 0), some (.int p1), some (.int p2), some (.int p3), some (.int p4), some (.int p5)], [.int (kI 9), .int (kI 0), .int p5], SH, w)) rfl ?_
          refine EV.callF (kc := 153) (av := [.int p5, .int (kI 0), .int (kI 9)]) (r := []) (rv := some (.int (F_153 p5 (kI 0) (kI 9) w))) (w2 := w) cl_135 rfl rfl rfl (m_153 w p5 (kI 0) (kI 9)) ?_
          refine EV.z_ne cl_135 rfl (fun h5 => ?_) (fun h5 => ?_)
          · skip
            refine EV.steps cl_135 5 (q2 := (64, [some (.ref 0), some (.int p1), some (.int p2), some (.int p3), some (.int p4), some (.int p5)], [.int p2, .int p1, .ref 103], SH, w)) rfl ?_
            refine EV.iastore cl_135 rfl rfl (by decide) (ix_153 h1 (by decide)) ?_
            refine EV.steps cl_135 5 (q2 := (74, [some (.ref 0), some (.int p1), some (.int p2), some (.int p3), some (.int p4), some (.int p5)], [.int p3, .int p1, .ref 104], SH, (up2 w 103 p1.toNatClampNeg p2))) rfl ?_
            refine EV.iastore cl_135 rfl rfl (by decide) (ix_153 h1 (by decide)) ?_
            refine EV.steps cl_135 5 (q2 := (85, [some (.ref 0), some (.int p1), some (.int p2), some (.int p3), some (.int p4), some (.int p5)], [.int p4, .int p1, .ref 105], SH, (up2 (up2 w 103 p1.toNatClampNeg p2) 104 p1.toNatClampNeg p3))) rfl ?_
            refine EV.iastore cl_135 rfl rfl (by decide) (ix_153 h1 (by decide)) ?_
            refine EV.steps cl_135 5 (q2 := (96, [some (.ref 0), some (.int p1), some (.int p2), some (.int p3), some (.int p4), some (.int p5)], [.int p5, .int p1, .ref 106], SH, (up2 (up2 (up2 w 103 p1.toNatClampNeg p2) 104 p1.toNatClampNeg p3) 105 p1.toNatClampNeg p4))) rfl ?_
            refine EV.iastore cl_135 rfl rfl (by decide) (ix_153 h1 (by decide)) ?_
            refine EV.steps cl_135 10 (q2 := (113, [some (.ref 0), some (.int p1), some (.int p2), some (.int p3), some (.int p4), some (.int p5)], [.int (kI 1)], SH, (up2 (up2 (up2 (up2 (up2 w 103 p1.toNatClampNeg p2) 104 p1.toNatClampNeg p3) 105 p1.toNatClampNeg p4) 106 p1.toNatClampNeg p5) 102 6 ((w 102 6) ||| ((kI 1) <<< (p1 &&& 31)))))) rfl ?_
            refine EV.ret cl_135 rfl rfl rfl ?_
            exact ⟨(by simp only [F_135_0, if_neg h1, if_neg h2, if_neg h3, if_neg h4, if_neg h5]), rfl, (by simp only [G_135_0, if_neg h1, if_neg h2, if_neg h3, if_neg h4, if_neg h5])⟩
          · skip
            refine EV.steps cl_135 1 (q2 := (54, [some (.ref 0), some (.int p1), some (.int p2), some (.int p3), some (.int p4), some (.int p5)], [.int (kI 0)], SH, w)) rfl ?_
            refine EV.ret cl_135 rfl rfl rfl ?_
            exact ⟨(by simp only [F_135_0, if_neg h1, if_neg h2, if_neg h3, if_neg h4, if_pos h5]), rfl, (by simp only [G_135_0, if_neg h1, if_neg h2, if_neg h3, if_neg h4, if_pos h5])⟩
    · skip
      refine EV.steps cl_135 1 (q2 := (20, [some (.ref 0), some (.int p1), some (.int p2), some (.int p3), some (.int p4), some (.int p5)], [.int (kI 0)], SH, w)) rfl ?_
      refine EV.ret cl_135 rfl rfl rfl ?_
      exact ⟨(by simp only [F_135_0, if_neg h1, if_pos h2]), rfl, (by simp only [G_135_0, if_neg h1, if_pos h2])⟩
set_option maxRecDepth 20000 in
theorem cl_141 : RCT[141]? = some rc_141 := rfl
def F_141_0 (p1 : Int32) (p2 : Int32) (w : Wd) : Int32 := (if (F_52_3 p1 w) = 0 then (kI (-1)) else (if (F_153 p2 (kI 0) (kI 7) w) = 0 then (kI (-1)) else (F_13_7 p1 p2 w)))
theorem m_141_0 {X : Scr} {d : Nat} (w : Wd) (p1 : Int32) (p2 : Int32) : CV X (d + 3) 141 [.ref 0, .int p1, .int p2] SH w (fun r s1 w1 => r = some (.int (F_141_0 p1 p2 w)) ∧ s1 = SH ∧ w1 = w) := by
  refine CV.of rfl ?_
  refine EV.steps cl_141 3 (q2 := (5, [some (.ref 0), some (.int p1), some (.int p2)], [.int p1, .ref 3], SH, w)) rfl ?_
  refine EV.callF (kc := 52) (av := [.ref 3, .int p1]) (r := []) (rv := some (.int (F_52_3 p1 w))) (w2 := w) cl_141 rfl rfl rfl (m_52_3 w p1) ?_
  refine EV.z_eq cl_141 rfl (fun h1 => ?_) (fun h1 => ?_)
  · skip
    refine EV.steps cl_141 1 (q2 := (22, [some (.ref 0), some (.int p1), some (.int p2)], [.int (kI (-1))], SH, w)) rfl ?_
    refine EV.ret cl_141 rfl rfl rfl ?_
    exact ⟨(by simp only [F_141_0, if_pos h1]), rfl, rfl⟩
  · skip
    refine EV.steps cl_141 3 (q2 := (15, [some (.ref 0), some (.int p1), some (.int p2)], [.int (kI 7), .int (kI 0), .int p2], SH, w)) rfl ?_
    refine EV.callF (kc := 153) (av := [.int p2, .int (kI 0), .int (kI 7)]) (r := []) (rv := some (.int (F_153 p2 (kI 0) (kI 7) w))) (w2 := w) cl_141 rfl rfl rfl (m_153 w p2 (kI 0) (kI 7)) ?_
    refine EV.z_ne cl_141 rfl (fun h2 => ?_) (fun h2 => ?_)
    · skip
      refine EV.steps cl_141 4 (q2 := (29, [some (.ref 0), some (.int p1), some (.int p2)], [.int p2, .int p1, .ref 7], SH, w)) rfl ?_
      refine EV.callF (kc := 13) (av := [.ref 7, .int p1, .int p2]) (r := []) (rv := some (.int (F_13_7 p1 p2 w))) (w2 := w) cl_141 rfl rfl rfl (m_13_7 w p1 p2) ?_
      refine EV.ret cl_141 rfl rfl rfl ?_
      exact ⟨(by simp only [F_141_0, if_neg h1, if_neg h2]), rfl, rfl⟩
    · skip
      refine EV.steps cl_141 1 (q2 := (22, [some (.ref 0), some (.int p1), some (.int p2)], [.int (kI (-1))], SH, w)) rfl ?_
      refine EV.ret cl_141 rfl rfl rfl ?_
      exact ⟨(by simp only [F_141_0, if_neg h1, if_pos h2]), rfl, rfl⟩
set_option maxRecDepth 20000 in
theorem cl_146 : RCT[146]? = some rc_146 := rfl
def F_146_0 (p1 : Int32) (w : Wd) : Int32 := (if (F_153 p1 (kI 0) (kI 65535) w) = 0 then (kI 0) else (kI 1))
def G_146_0 (p1 : Int32) (w : Wd) : Wd := (if (F_153 p1 (kI 0) (kI 65535) w) = 0 then w else (up2 w 7 8 p1))
theorem m_146_0 {X : Scr} {d : Nat} (w : Wd) (p1 : Int32) : CV X (d + 2) 146 [.ref 0, .int p1] SH w (fun r s1 w1 => r = some (.int (F_146_0 p1 w)) ∧ s1 = SH ∧ w1 = G_146_0 p1 w) := by
  refine CV.of rfl ?_
  refine EV.steps cl_146 3 (q2 := (5, [some (.ref 0), some (.int p1)], [.int (kI 65535), .int (kI 0), .int p1], SH, w)) rfl ?_
  refine EV.callF (kc := 153) (av := [.int p1, .int (kI 0), .int (kI 65535)]) (r := []) (rv := some (.int (F_153 p1 (kI 0) (kI 65535) w))) (w2 := w) cl_146 rfl rfl rfl (m_153 w p1 (kI 0) (kI 65535)) ?_
  refine EV.z_ne cl_146 rfl (fun h1 => ?_) (fun h1 => ?_)
  · skip
    refine EV.steps cl_146 5 (q2 := (22, [some (.ref 0), some (.int p1)], [.int (kI 1)], SH, (up2 w 7 8 p1))) rfl ?_
    refine EV.ret cl_146 rfl rfl rfl ?_
    exact ⟨(by simp only [F_146_0, if_neg h1]), rfl, (by simp only [G_146_0, if_neg h1])⟩
  · skip
    refine EV.steps cl_146 1 (q2 := (12, [some (.ref 0), some (.int p1)], [.int (kI 0)], SH, w)) rfl ?_
    refine EV.ret cl_146 rfl rfl rfl ?_
    exact ⟨(by simp only [F_146_0, if_pos h1]), rfl, (by simp only [G_146_0, if_pos h1])⟩
set_option maxRecDepth 20000 in
theorem cl_157 : RCT[157]? = some rc_157 := rfl
def F_157 (p1 : Int32) (p2 : Int32) (p3 : Int32) (w : Wd) : Int32 := (if p1 < p2 then (kI 0) else (if p3 < p1 then (kI 0) else (kI 1)))
theorem m_157 {X : Scr} {d : Nat} (w : Wd) (p1 : Int32) (p2 : Int32) (p3 : Int32) : CV X (d + 1) 157 [.int p1, .int p2, .int p3] SH w (fun r s1 w1 => r = some (.int (F_157 p1 p2 p3 w)) ∧ s1 = SH ∧ w1 = w) := by
  refine CV.of rfl ?_
  refine EV.steps cl_157 2 (q2 := (2, [some (.int p1), some (.int p2), some (.int p3)], [.int p2, .int p1], SH, w)) rfl ?_
  refine EV.i_lt cl_157 rfl (fun h1 => ?_) (fun h1 => ?_)
  · skip
    refine EV.steps cl_157 1 (q2 := (15, [some (.int p1), some (.int p2), some (.int p3)], [.int (kI 0)], SH, w)) rfl ?_
    refine EV.ret cl_157 rfl rfl rfl ?_
    exact ⟨(by simp only [F_157, if_pos h1]), rfl, rfl⟩
  · skip
    refine EV.steps cl_157 2 (q2 := (7, [some (.int p1), some (.int p2), some (.int p3)], [.int p3, .int p1], SH, w)) rfl ?_
    refine EV.i_gt cl_157 rfl (fun h2 => ?_) (fun h2 => ?_)
    · skip
      refine EV.steps cl_157 1 (q2 := (15, [some (.int p1), some (.int p2), some (.int p3)], [.int (kI 0)], SH, w)) rfl ?_
      refine EV.ret cl_157 rfl rfl rfl ?_
      exact ⟨(by simp only [F_157, if_neg h1, if_pos h2]), rfl, rfl⟩
    · skip
      refine EV.steps cl_157 2 (q2 := (15, [some (.int p1), some (.int p2), some (.int p3)], [.int (kI 1)], SH, w)) rfl ?_
      refine EV.ret cl_157 rfl rfl rfl ?_
      exact ⟨(by simp only [F_157, if_neg h1, if_neg h2]), rfl, rfl⟩
theorem wi_157 {p : Int32} {a b : Int} {w : Wd} (h : ¬ F_157 p (kI a) (kI b) w = 0) (ha : -1000000 ≤ a ∧ a ≤ 1000000) (hb : -1000000 ≤ b ∧ b ≤ 1000000) : a ≤ p.toInt ∧ p.toInt ≤ b := by
  unfold F_157 at h
  by_cases h1 : p < kI a
  · rw [if_pos h1] at h; exact absurd rfl h
  · rw [if_neg h1] at h
    by_cases h2 : kI b < p
    · rw [if_pos h2] at h; exact absurd rfl h
    · exact ⟨(le_kI ha.1 ha.2).1.mp (Int32.not_lt.mp h1), (le_kI hb.1 hb.2).2.mp (Int32.not_lt.mp h2)⟩
theorem ix_157 {p : Int32} {b : Int} {w : Wd} {n : Nat} (h : ¬ F_157 p (kI 0) (kI b) w = 0) (hb : 0 ≤ b ∧ b ≤ 1000000 ∧ b < n) : inB p n = true := by
  have h1 := wi_157 h (by omega) (by omega)
  exact inB_of h1.1 (by omega)
theorem ix2_157 {p q : Int32} {a b c : Int} {w w2 : Wd} {n : Nat} (h : ¬ F_157 p (kI 0) (kI a) w = 0) (h2 : ¬ F_157 q (kI 0) (kI b) w2 = 0) (ha : 0 ≤ a ∧ a ≤ 1000) (hb : 0 ≤ b ∧ b ≤ 1000) (hc : 0 ≤ c ∧ c ≤ 1000) (hn : a * c + b < n) : inB (p * kI c + q) n = true := by
  have h3 := wi_157 h (by omega) (by omega)
  have h4 := wi_157 h2 (by omega) (by omega)
  have h5 := toInt_lin (p := p) (q := q) (c := c) (by omega) (by omega) hc
  have h6 : p.toInt * c ≤ a * c := Int.mul_le_mul_of_nonneg_right h3.2 hc.1
  have h7 : 0 ≤ p.toInt * c := Int.mul_nonneg h3.1 hc.1
  exact inB_of (by omega) (by omega)
set_option maxRecDepth 20000 in
theorem cl_158 : RCT[158]? = some rc_158 := rfl
def F_158 (p1 : Int32) (p2 : Int32) (w : Wd) : Int32 := (if p2 ≤ p1 then p2 else p1)
theorem m_158 {X : Scr} {d : Nat} (w : Wd) (p1 : Int32) (p2 : Int32) : CV X (d + 1) 158 [.int p1, .int p2] SH w (fun r s1 w1 => r = some (.int (F_158 p1 p2 w)) ∧ s1 = SH ∧ w1 = w) := by
  refine CV.of rfl ?_
  refine EV.steps cl_158 2 (q2 := (2, [some (.int p1), some (.int p2)], [.int p2, .int p1], SH, w)) rfl ?_
  refine EV.i_ge cl_158 rfl (fun h1 => ?_) (fun h1 => ?_)
  · skip
    refine EV.steps cl_158 1 (q2 := (10, [some (.int p1), some (.int p2)], [.int p2], SH, w)) rfl ?_
    refine EV.ret cl_158 rfl rfl rfl ?_
    exact ⟨(by simp only [F_158, if_pos h1]), rfl, rfl⟩
  · skip
    refine EV.steps cl_158 2 (q2 := (10, [some (.int p1), some (.int p2)], [.int p1], SH, w)) rfl ?_
    refine EV.ret cl_158 rfl rfl rfl ?_
    exact ⟨(by simp only [F_158, if_neg h1]), rfl, rfl⟩
set_option maxRecDepth 20000 in
theorem cl_159 : RCT[159]? = some rc_159 := rfl
def F_159 (p1 : Int32) (p2 : Int32) (w : Wd) : Int32 := (if p1 ≤ p2 then p2 else p1)
theorem m_159 {X : Scr} {d : Nat} (w : Wd) (p1 : Int32) (p2 : Int32) : CV X (d + 1) 159 [.int p1, .int p2] SH w (fun r s1 w1 => r = some (.int (F_159 p1 p2 w)) ∧ s1 = SH ∧ w1 = w) := by
  refine CV.of rfl ?_
  refine EV.steps cl_159 2 (q2 := (2, [some (.int p1), some (.int p2)], [.int p2, .int p1], SH, w)) rfl ?_
  refine EV.i_le cl_159 rfl (fun h1 => ?_) (fun h1 => ?_)
  · skip
    refine EV.steps cl_159 1 (q2 := (10, [some (.int p1), some (.int p2)], [.int p2], SH, w)) rfl ?_
    refine EV.ret cl_159 rfl rfl rfl ?_
    exact ⟨(by simp only [F_159, if_pos h1]), rfl, rfl⟩
  · skip
    refine EV.steps cl_159 2 (q2 := (10, [some (.int p1), some (.int p2)], [.int p1], SH, w)) rfl ?_
    refine EV.ret cl_159 rfl rfl rfl ?_
    exact ⟨(by simp only [F_159, if_neg h1]), rfl, rfl⟩
set_option maxRecDepth 20000 in
theorem cl_160 : RCT[160]? = some rc_160 := rfl
def F_160 (p1 : Int32) (w : Wd) : Int32 := (if 0 ≤ p1 then p1 else (-p1))
theorem m_160 {X : Scr} {d : Nat} (w : Wd) (p1 : Int32) : CV X (d + 1) 160 [.int p1] SH w (fun r s1 w1 => r = some (.int (F_160 p1 w)) ∧ s1 = SH ∧ w1 = w) := by
  refine CV.of rfl ?_
  refine EV.steps cl_160 1 (q2 := (1, [some (.int p1)], [.int p1], SH, w)) rfl ?_
  refine EV.z_ge cl_160 rfl (fun h1 => ?_) (fun h1 => ?_)
  · skip
    refine EV.steps cl_160 1 (q2 := (10, [some (.int p1)], [.int p1], SH, w)) rfl ?_
    refine EV.ret cl_160 rfl rfl rfl ?_
    exact ⟨(by simp only [F_160, if_pos h1]), rfl, rfl⟩
  · skip
    refine EV.steps cl_160 3 (q2 := (10, [some (.int p1)], [.int (-p1)], SH, w)) rfl ?_
    refine EV.ret cl_160 rfl rfl rfl ?_
    exact ⟨(by simp only [F_160, if_neg h1]), rfl, rfl⟩
set_option maxRecDepth 20000 in
theorem cl_161 : RCT[161]? = some rc_161 := rfl
def F_161 (p1 : Int32) (p2 : Int32) (w : Wd) : Int32 := (if ((p1 >>> (p2 &&& 31)) &&& (kI 1)) = (kI 1) then (kI 1) else (kI 0))
theorem m_161 {X : Scr} {d : Nat} (w : Wd) (p1 : Int32) (p2 : Int32) : CV X (d + 1) 161 [.int p1, .int p2] SH w (fun r s1 w1 => r = some (.int (F_161 p1 p2 w)) ∧ s1 = SH ∧ w1 = w) := by
  refine CV.of rfl ?_
  refine EV.steps cl_161 6 (q2 := (6, [some (.int p1), some (.int p2)], [.int (kI 1), .int ((p1 >>> (p2 &&& 31)) &&& (kI 1))], SH, w)) rfl ?_
  refine EV.i_ne cl_161 rfl (fun h1 => ?_) (fun h1 => ?_)
  · skip
    refine EV.steps cl_161 1 (q2 := (14, [some (.int p1), some (.int p2)], [.int (kI 0)], SH, w)) rfl ?_
    refine EV.ret cl_161 rfl rfl rfl ?_
    exact ⟨(by simp only [F_161, if_neg h1]), rfl, rfl⟩
  · skip
    refine EV.steps cl_161 2 (q2 := (14, [some (.int p1), some (.int p2)], [.int (kI 1)], SH, w)) rfl ?_
    refine EV.ret cl_161 rfl rfl rfl ?_
    exact ⟨(by simp only [F_161, if_pos h1]), rfl, rfl⟩
set_option maxRecDepth 20000 in
theorem cl_164 : RCT[164]? = some rc_164 := rfl
def F_164_110 (p1 : Int32) (w : Wd) : Int32 := (if (F_157 p1 (kI 0) (kI 5) w) = 0 then (kI 0) else (if (F_161 (w 110 6) p1 w) = 0 then (kI 0) else (kI 1)))
theorem m_164_110 {X : Scr} {d : Nat} (w : Wd) (p1 : Int32) : CV X (d + 2) 164 [.ref 110, .int p1] SH w (fun r s1 w1 => r = some (.int (F_164_110 p1 w)) ∧ s1 = SH ∧ w1 = w) := by
  refine CV.of rfl ?_
  refine EV.steps cl_164 3 (q2 := (3, [some (.ref 110), some (.int p1)], [.int (kI 5), .int (kI 0), .int p1], SH, w)) rfl ?_
  refine EV.callF (kc := 157) (av := [.int p1, .int (kI 0), .int (kI 5)]) (r := []) (rv := some (.int (F_157 p1 (kI 0) (kI 5) w))) (w2 := w) cl_164 rfl rfl rfl (m_157 w p1 (kI 0) (kI 5)) ?_
  refine EV.z_eq cl_164 rfl (fun h1 => ?_) (fun h1 => ?_)
  · skip
    refine EV.steps cl_164 1 (q2 := (25, [some (.ref 110), some (.int p1)], [.int (kI 0)], SH, w)) rfl ?_
    refine EV.ret cl_164 rfl rfl rfl ?_
    exact ⟨(by simp only [F_164_110, if_pos h1]), rfl, rfl⟩
  · skip
    refine EV.steps cl_164 3 (q2 := (14, [some (.ref 110), some (.int p1)], [.int p1, .int (w 110 6)], SH, w)) rfl ?_
    refine EV.callF (kc := 161) (av := [.int (w 110 6), .int p1]) (r := []) (rv := some (.int (F_161 (w 110 6) p1 w))) (w2 := w) cl_164 rfl rfl rfl (m_161 w (w 110 6) p1) ?_
    refine EV.z_eq cl_164 rfl (fun h2 => ?_) (fun h2 => ?_)
    · skip
      refine EV.steps cl_164 1 (q2 := (25, [some (.ref 110), some (.int p1)], [.int (kI 0)], SH, w)) rfl ?_
      refine EV.ret cl_164 rfl rfl rfl ?_
      exact ⟨(by simp only [F_164_110, if_neg h1, if_pos h2]), rfl, rfl⟩
    · skip
      refine EV.steps cl_164 2 (q2 := (25, [some (.ref 110), some (.int p1)], [.int (kI 1)], SH, w)) rfl ?_
      refine EV.ret cl_164 rfl rfl rfl ?_
      exact ⟨(by simp only [F_164_110, if_neg h1, if_neg h2]), rfl, rfl⟩
set_option maxRecDepth 20000 in
theorem cl_165 : RCT[165]? = some rc_165 := rfl
def F_165_110 (p1 : Int32) (w : Wd) : Int32 := (if (F_157 p1 (kI 0) (kI 5) w) = 0 then (kI 0) else (if (F_161 (w 110 7) p1 w) = 0 then (kI 0) else (kI 1)))
theorem m_165_110 {X : Scr} {d : Nat} (w : Wd) (p1 : Int32) : CV X (d + 2) 165 [.ref 110, .int p1] SH w (fun r s1 w1 => r = some (.int (F_165_110 p1 w)) ∧ s1 = SH ∧ w1 = w) := by
  refine CV.of rfl ?_
  refine EV.steps cl_165 3 (q2 := (3, [some (.ref 110), some (.int p1)], [.int (kI 5), .int (kI 0), .int p1], SH, w)) rfl ?_
  refine EV.callF (kc := 157) (av := [.int p1, .int (kI 0), .int (kI 5)]) (r := []) (rv := some (.int (F_157 p1 (kI 0) (kI 5) w))) (w2 := w) cl_165 rfl rfl rfl (m_157 w p1 (kI 0) (kI 5)) ?_
  refine EV.z_eq cl_165 rfl (fun h1 => ?_) (fun h1 => ?_)
  · skip
    refine EV.steps cl_165 1 (q2 := (25, [some (.ref 110), some (.int p1)], [.int (kI 0)], SH, w)) rfl ?_
    refine EV.ret cl_165 rfl rfl rfl ?_
    exact ⟨(by simp only [F_165_110, if_pos h1]), rfl, rfl⟩
  · skip
    refine EV.steps cl_165 3 (q2 := (14, [some (.ref 110), some (.int p1)], [.int p1, .int (w 110 7)], SH, w)) rfl ?_
    refine EV.callF (kc := 161) (av := [.int (w 110 7), .int p1]) (r := []) (rv := some (.int (F_161 (w 110 7) p1 w))) (w2 := w) cl_165 rfl rfl rfl (m_161 w (w 110 7) p1) ?_
    refine EV.z_eq cl_165 rfl (fun h2 => ?_) (fun h2 => ?_)
    · skip
      refine EV.steps cl_165 1 (q2 := (25, [some (.ref 110), some (.int p1)], [.int (kI 0)], SH, w)) rfl ?_
      refine EV.ret cl_165 rfl rfl rfl ?_
      exact ⟨(by simp only [F_165_110, if_neg h1, if_pos h2]), rfl, rfl⟩
    · skip
      refine EV.steps cl_165 2 (q2 := (25, [some (.ref 110), some (.int p1)], [.int (kI 1)], SH, w)) rfl ?_
      refine EV.ret cl_165 rfl rfl rfl ?_
      exact ⟨(by simp only [F_165_110, if_neg h1, if_neg h2]), rfl, rfl⟩
set_option maxRecDepth 20000 in
theorem cl_166 : RCT[166]? = some rc_166 := rfl
set_option maxRecDepth 20000 in
theorem cl_169 : RCT[169]? = some rc_169 := rfl
def F_169_110 (p1 : Int32) (p2 : Int32) (w : Wd) : Int32 := (if (F_157 p1 (kI 0) (kI 5) w) = 0 then (kI 0) else (if (F_157 p2 (kI 0) (kI 9999) w) = 0 then (kI 0) else (kI 1)))
def G_169_110 (p1 : Int32) (p2 : Int32) (w : Wd) : Wd := (if (F_157 p1 (kI 0) (kI 5) w) = 0 then w else (if (F_157 p2 (kI 0) (kI 9999) w) = 0 then w else (up2 (up2 w 110 6 ((w 110 6) ||| ((kI 1) <<< (p1 &&& 31)))) 114 p1.toNatClampNeg p2)))
theorem m_169_110 {X : Scr} {d : Nat} (w : Wd) (p1 : Int32) (p2 : Int32) : CV X (d + 2) 169 [.ref 110, .int p1, .int p2] SH w (fun r s1 w1 => r = some (.int (F_169_110 p1 p2 w)) ∧ s1 = SH ∧ w1 = G_169_110 p1 p2 w) := by
  refine CV.of rfl ?_
  refine EV.steps cl_169 3 (q2 := (3, [some (.ref 110), some (.int p1), some (.int p2)], [.int (kI 5), .int (kI 0), .int p1], SH, w)) rfl ?_
  refine EV.callF (kc := 157) (av := [.int p1, .int (kI 0), .int (kI 5)]) (r := []) (rv := some (.int (F_157 p1 (kI 0) (kI 5) w))) (w2 := w) cl_169 rfl rfl rfl (m_157 w p1 (kI 0) (kI 5)) ?_
  refine EV.z_eq cl_169 rfl (fun h1 => ?_) (fun h1 => ?_)
  · skip
    refine EV.steps cl_169 1 (q2 := (21, [some (.ref 110), some (.int p1), some (.int p2)], [.int (kI 0)], SH, w)) rfl ?_
    refine EV.ret cl_169 rfl rfl rfl ?_
    exact ⟨(by simp only [F_169_110, if_pos h1]), rfl, (by simp only [G_169_110, if_pos h1])⟩
  · skip
    refine EV.steps cl_169 3 (q2 := (14, [some (.ref 110), some (.int p1), some (.int p2)], [.int (kI 9999), .int (kI 0), .int p2], SH, w)) rfl ?_
    refine EV.callF (kc := 157) (av := [.int p2, .int (kI 0), .int (kI 9999)]) (r := []) (rv := some (.int (F_157 p2 (kI 0) (kI 9999) w))) (w2 := w) cl_169 rfl rfl rfl (m_157 w p2 (kI 0) (kI 9999)) ?_
    refine EV.z_ne cl_169 rfl (fun h2 => ?_) (fun h2 => ?_)
    · skip
      refine EV.steps cl_169 12 (q2 := (40, [some (.ref 110), some (.int p1), some (.int p2)], [.int p2, .int p1, .ref 114], SH, (up2 w 110 6 ((w 110 6) ||| ((kI 1) <<< (p1 &&& 31)))))) rfl ?_
      refine EV.iastore cl_169 rfl rfl (by decide) (ix_157 h1 (by decide)) ?_
      refine EV.steps cl_169 1 (q2 := (42, [some (.ref 110), some (.int p1), some (.int p2)], [.int (kI 1)], SH, (up2 (up2 w 110 6 ((w 110 6) ||| ((kI 1) <<< (p1 &&& 31)))) 114 p1.toNatClampNeg p2))) rfl ?_
      refine EV.ret cl_169 rfl rfl rfl ?_
      exact ⟨(by simp only [F_169_110, if_neg h1, if_neg h2]), rfl, (by simp only [G_169_110, if_neg h1, if_neg h2])⟩
    · skip
      refine EV.steps cl_169 1 (q2 := (21, [some (.ref 110), some (.int p1), some (.int p2)], [.int (kI 0)], SH, w)) rfl ?_
      refine EV.ret cl_169 rfl rfl rfl ?_
      exact ⟨(by simp only [F_169_110, if_neg h1, if_pos h2]), rfl, (by simp only [G_169_110, if_neg h1, if_pos h2])⟩
set_option maxRecDepth 20000 in
theorem cl_170 : RCT[170]? = some rc_170 := rfl
set_option maxRecDepth 20000 in
theorem cl_171 : RCT[171]? = some rc_171 := rfl
def F_171_110 (p1 : Int32) (p2 : Int32) (w : Wd) : Int32 := (if (F_157 p1 (kI 0) (kI 5) w) = 0 then (kI 0) else (if (F_157 p2 (kI 0) (kI 9999) w) = 0 then (kI 0) else (kI 1)))
def G_171_110 (p1 : Int32) (p2 : Int32) (w : Wd) : Wd := (if (F_157 p1 (kI 0) (kI 5) w) = 0 then w else (if (F_157 p2 (kI 0) (kI 9999) w) = 0 then w else (up2 (up2 w 110 7 ((w 110 7) ||| ((kI 1) <<< (p1 &&& 31)))) 116 p1.toNatClampNeg p2)))
theorem m_171_110 {X : Scr} {d : Nat} (w : Wd) (p1 : Int32) (p2 : Int32) : CV X (d + 2) 171 [.ref 110, .int p1, .int p2] SH w (fun r s1 w1 => r = some (.int (F_171_110 p1 p2 w)) ∧ s1 = SH ∧ w1 = G_171_110 p1 p2 w) := by
  refine CV.of rfl ?_
  refine EV.steps cl_171 3 (q2 := (3, [some (.ref 110), some (.int p1), some (.int p2)], [.int (kI 5), .int (kI 0), .int p1], SH, w)) rfl ?_
  refine EV.callF (kc := 157) (av := [.int p1, .int (kI 0), .int (kI 5)]) (r := []) (rv := some (.int (F_157 p1 (kI 0) (kI 5) w))) (w2 := w) cl_171 rfl rfl rfl (m_157 w p1 (kI 0) (kI 5)) ?_
  refine EV.z_eq cl_171 rfl (fun h1 => ?_) (fun h1 => ?_)
  · skip
    refine EV.steps cl_171 1 (q2 := (21, [some (.ref 110), some (.int p1), some (.int p2)], [.int (kI 0)], SH, w)) rfl ?_
    refine EV.ret cl_171 rfl rfl rfl ?_
    exact ⟨(by simp only [F_171_110, if_pos h1]), rfl, (by simp only [G_171_110, if_pos h1])⟩
  · skip
    refine EV.steps cl_171 3 (q2 := (14, [some (.ref 110), some (.int p1), some (.int p2)], [.int (kI 9999), .int (kI 0), .int p2], SH, w)) rfl ?_
    refine EV.callF (kc := 157) (av := [.int p2, .int (kI 0), .int (kI 9999)]) (r := []) (rv := some (.int (F_157 p2 (kI 0) (kI 9999) w))) (w2 := w) cl_171 rfl rfl rfl (m_157 w p2 (kI 0) (kI 9999)) ?_
    refine EV.z_ne cl_171 rfl (fun h2 => ?_) (fun h2 => ?_)
    · skip
      refine EV.steps cl_171 12 (q2 := (40, [some (.ref 110), some (.int p1), some (.int p2)], [.int p2, .int p1, .ref 116], SH, (up2 w 110 7 ((w 110 7) ||| ((kI 1) <<< (p1 &&& 31)))))) rfl ?_
      refine EV.iastore cl_171 rfl rfl (by decide) (ix_157 h1 (by decide)) ?_
      refine EV.steps cl_171 1 (q2 := (42, [some (.ref 110), some (.int p1), some (.int p2)], [.int (kI 1)], SH, (up2 (up2 w 110 7 ((w 110 7) ||| ((kI 1) <<< (p1 &&& 31)))) 116 p1.toNatClampNeg p2))) rfl ?_
      refine EV.ret cl_171 rfl rfl rfl ?_
      exact ⟨(by simp only [F_171_110, if_neg h1, if_neg h2]), rfl, (by simp only [G_171_110, if_neg h1, if_neg h2])⟩
    · skip
      refine EV.steps cl_171 1 (q2 := (21, [some (.ref 110), some (.int p1), some (.int p2)], [.int (kI 0)], SH, w)) rfl ?_
      refine EV.ret cl_171 rfl rfl rfl ?_
      exact ⟨(by simp only [F_171_110, if_neg h1, if_pos h2]), rfl, (by simp only [G_171_110, if_neg h1, if_pos h2])⟩
set_option maxRecDepth 20000 in
theorem cl_172 : RCT[172]? = some rc_172 := rfl
def F_172_110 (p1 : Int32) (w : Wd) : Int32 := (if (F_157 p1 (kI 0) (kI 9999) w) = 0 then (kI 0) else (kI 1))
def G_172_110 (p1 : Int32) (w : Wd) : Wd := (if (F_157 p1 (kI 0) (kI 9999) w) = 0 then w else (up2 (up2 w 110 8 p1) 111 (kI 159).toNatClampNeg p1))
theorem m_172_110 {X : Scr} {d : Nat} (w : Wd) (p1 : Int32) : CV X (d + 2) 172 [.ref 110, .int p1] SH w (fun r s1 w1 => r = some (.int (F_172_110 p1 w)) ∧ s1 = SH ∧ w1 = G_172_110 p1 w) := by
  refine CV.of rfl ?_
  refine EV.steps cl_172 3 (q2 := (5, [some (.ref 110), some (.int p1)], [.int (kI 9999), .int (kI 0), .int p1], SH, w)) rfl ?_
  refine EV.callF (kc := 157) (av := [.int p1, .int (kI 0), .int (kI 9999)]) (r := []) (rv := some (.int (F_157 p1 (kI 0) (kI 9999) w))) (w2 := w) cl_172 rfl rfl rfl (m_157 w p1 (kI 0) (kI 9999)) ?_
  refine EV.z_ne cl_172 rfl (fun h1 => ?_) (fun h1 => ?_)
  · skip
    refine EV.steps cl_172 7 (q2 := (26, [some (.ref 110), some (.int p1)], [.int p1, .int (kI 159), .ref 111], SH, (up2 w 110 8 p1))) rfl ?_
    refine EV.iastore cl_172 rfl rfl (by decide) rfl ?_
    refine EV.steps cl_172 1 (q2 := (28, [some (.ref 110), some (.int p1)], [.int (kI 1)], SH, (up2 (up2 w 110 8 p1) 111 (kI 159).toNatClampNeg p1))) rfl ?_
    refine EV.ret cl_172 rfl rfl rfl ?_
    exact ⟨(by simp only [F_172_110, if_neg h1]), rfl, (by simp only [G_172_110, if_neg h1])⟩
  · skip
    refine EV.steps cl_172 1 (q2 := (12, [some (.ref 110), some (.int p1)], [.int (kI 0)], SH, w)) rfl ?_
    refine EV.ret cl_172 rfl rfl rfl ?_
    exact ⟨(by simp only [F_172_110, if_pos h1]), rfl, (by simp only [G_172_110, if_pos h1])⟩
set_option maxRecDepth 20000 in
theorem cl_175 : RCT[175]? = some rc_175 := rfl
set_option maxRecDepth 20000 in
theorem cl_177 : RCT[177]? = some rc_177 := rfl
def F_177_110 (p1 : Int32) (p2 : Int32) (w : Wd) : Int32 := (kI 0)
def G_177_110 (p1 : Int32) (p2 : Int32) (w : Wd) : Wd := (up2 w 110 13 (((kI (-1000)) * p1) - p2))
theorem m_177_110 {X : Scr} {d : Nat} (w : Wd) (p1 : Int32) (p2 : Int32) : CV X (d + 1) 177 [.ref 110, .int p1, .int p2] SH w (fun r s1 w1 => r = some (.int (F_177_110 p1 p2 w)) ∧ s1 = SH ∧ w1 = G_177_110 p1 p2 w) := by
  refine CV.of rfl ?_
  refine EV.steps cl_177 8 (q2 := (12, [some (.ref 110), some (.int p1), some (.int p2)], [.int (kI 0)], SH, (up2 w 110 13 (((kI (-1000)) * p1) - p2)))) rfl ?_
  refine EV.ret cl_177 rfl rfl rfl ?_
  exact ⟨rfl, rfl, rfl⟩
set_option maxRecDepth 20000 in
theorem cl_180 : RCT[180]? = some rc_180 := rfl
set_option maxRecDepth 20000 in
theorem cl_181 : RCT[181]? = some rc_181 := rfl
set_option maxRecDepth 20000 in
theorem cl_184 : RCT[184]? = some rc_184 := rfl
def F_184 (p1 : Int32) (w : Wd) : Int32 := (if p1 = (kI 43) then (kI 2) else (if p1 = (kI 45) then (kI 3) else (if p1 = (kI 42) then (kI 4) else (if p1 = (kI 47) then (kI 5) else (if p1 = (kI 37) then (kI 6) else (kI (-1)))))))
theorem m_184 {X : Scr} {d : Nat} (w : Wd) (p1 : Int32) : CV X (d + 1) 184 [.int p1] SH w (fun r s1 w1 => r = some (.int (F_184 p1 w)) ∧ s1 = SH ∧ w1 = w) := by
  refine CV.of rfl ?_
  refine EV.steps cl_184 2 (q2 := (3, [some (.int p1)], [.int (kI 43), .int p1], SH, w)) rfl ?_
  refine EV.i_ne cl_184 rfl (fun h1 => ?_) (fun h1 => ?_)
  · skip
    refine EV.steps cl_184 2 (q2 := (13, [some (.int p1)], [.int (kI 45), .int p1], SH, w)) rfl ?_
    refine EV.i_ne cl_184 rfl (fun h2 => ?_) (fun h2 => ?_)
    · skip
      refine EV.steps cl_184 2 (q2 := (23, [some (.int p1)], [.int (kI 42), .int p1], SH, w)) rfl ?_
      refine EV.i_ne cl_184 rfl (fun h3 => ?_) (fun h3 => ?_)
      · skip
        refine EV.steps cl_184 2 (q2 := (33, [some (.int p1)], [.int (kI 47), .int p1], SH, w)) rfl ?_
        refine EV.i_ne cl_184 rfl (fun h4 => ?_) (fun h4 => ?_)
        · skip
          refine EV.steps cl_184 2 (q2 := (43, [some (.int p1)], [.int (kI 37), .int p1], SH, w)) rfl ?_
          refine EV.i_ne cl_184 rfl (fun h5 => ?_) (fun h5 => ?_)
          · skip
            refine EV.steps cl_184 1 (q2 := (52, [some (.int p1)], [.int (kI (-1))], SH, w)) rfl ?_
            refine EV.ret cl_184 rfl rfl rfl ?_
            exact ⟨(by simp only [F_184, if_neg h1, if_neg h2, if_neg h3, if_neg h4, if_neg h5]), rfl, rfl⟩
          · skip
            refine EV.steps cl_184 2 (q2 := (52, [some (.int p1)], [.int (kI 6)], SH, w)) rfl ?_
            refine EV.ret cl_184 rfl rfl rfl ?_
            exact ⟨(by simp only [F_184, if_neg h1, if_neg h2, if_neg h3, if_neg h4, if_pos h5]), rfl, rfl⟩
        · skip
          refine EV.steps cl_184 2 (q2 := (52, [some (.int p1)], [.int (kI 5)], SH, w)) rfl ?_
          refine EV.ret cl_184 rfl rfl rfl ?_
          exact ⟨(by simp only [F_184, if_neg h1, if_neg h2, if_neg h3, if_pos h4]), rfl, rfl⟩
      · skip
        refine EV.steps cl_184 2 (q2 := (52, [some (.int p1)], [.int (kI 4)], SH, w)) rfl ?_
        refine EV.ret cl_184 rfl rfl rfl ?_
        exact ⟨(by simp only [F_184, if_neg h1, if_neg h2, if_pos h3]), rfl, rfl⟩
    · skip
      refine EV.steps cl_184 2 (q2 := (52, [some (.int p1)], [.int (kI 3)], SH, w)) rfl ?_
      refine EV.ret cl_184 rfl rfl rfl ?_
      exact ⟨(by simp only [F_184, if_neg h1, if_pos h2]), rfl, rfl⟩
  · skip
    refine EV.steps cl_184 2 (q2 := (52, [some (.int p1)], [.int (kI 2)], SH, w)) rfl ?_
    refine EV.ret cl_184 rfl rfl rfl ?_
    exact ⟨(by simp only [F_184, if_pos h1]), rfl, rfl⟩
set_option maxRecDepth 20000 in
theorem cl_195 : RCT[195]? = some rc_195 := rfl
def G_195_110 (p1 : Int32) (w : Wd) : Wd := (up2 (up2 (up2 (up2 (up2 (up2 w 110 11 (kI 0)) 110 12 p1) 110 16 (kI 0)) 110 18 (kI 0)) 110 15 (kI 0)) 110 17 (kI 0))
theorem m_195_110 {X : Scr} {d : Nat} (w : Wd) (p1 : Int32) : CV X (d + 1) 195 [.ref 110, .int p1] SH w (fun r s1 w1 => r = none ∧ s1 = SH ∧ w1 = G_195_110 p1 w) := by
  refine CV.of rfl ?_
  refine EV.steps cl_195 18 (q2 := (30, [some (.ref 110), some (.int p1)], [], SH, (up2 (up2 (up2 (up2 (up2 (up2 w 110 11 (kI 0)) 110 12 p1) 110 16 (kI 0)) 110 18 (kI 0)) 110 15 (kI 0)) 110 17 (kI 0)))) rfl ?_
  refine EV.ret cl_195 rfl rfl rfl ?_
  exact ⟨rfl, rfl, rfl⟩
set_option maxRecDepth 20000 in
theorem cl_206 : RCT[206]? = some rc_206 := rfl
set_option maxRecDepth 20000 in
theorem cl_219 : RCT[219]? = some rc_219 := rfl
set_option maxRecDepth 20000 in
theorem cl_235 : RCT[235]? = some rc_235 := rfl
def F_235_110 (p1 : Int32) (p2 : Int32) (p3 : Int32) (p4 : Int32) (p5 : Int32) (w : Wd) : Int32 := (if (F_157 p1 (kI 0) (kI 19) w) = 0 then (kI 0) else (if (F_157 p2 (kI 0) (kI 5) w) = 0 then (kI 0) else (if (F_157 p3 (kI 0) (kI 99) w) = 0 then (kI 0) else (if (F_157 p4 (kI 0) (kI 23) w) = 0 then (kI 0) else (if (F_157 p5 (kI 0) (kI 9) w) = 0 then (kI 0) else (kI 1))))))
def G_235_110 (p1 : Int32) (p2 : Int32) (p3 : Int32) (p4 : Int32) (p5 : Int32) (w : Wd) : Wd := (if (F_157 p1 (kI 0) (kI 19) w) = 0 then w else (if (F_157 p2 (kI 0) (kI 5) w) = 0 then w else (if (F_157 p3 (kI 0) (kI 99) w) = 0 then w else (if (F_157 p4 (kI 0) (kI 23) w) = 0 then w else (if (F_157 p5 (kI 0) (kI 9) w) = 0 then w else (up2 (up2 (up2 (up2 (up2 w 110 56 ((w 110 56) ||| ((kI 1) <<< (p1 &&& 31)))) 140 p1.toNatClampNeg p2) 141 p1.toNatClampNeg p3) 142 p1.toNatClampNeg p4) 143 p1.toNatClampNeg p5))))))
theorem m_235_110 {X : Scr} {d : Nat} (w : Wd) (p1 : Int32) (p2 : Int32) (p3 : Int32) (p4 : Int32) (p5 : Int32) : CV X (d + 2) 235 [.ref 110, .int p1, .int p2, .int p3, .int p4, .int p5] SH w (fun r s1 w1 => r = some (.int (F_235_110 p1 p2 p3 p4 p5 w)) ∧ s1 = SH ∧ w1 = G_235_110 p1 p2 p3 p4 p5 w) := by
  refine CV.of rfl ?_
  refine EV.steps cl_235 3 (q2 := (4, [some (.ref 110), some (.int p1), some (.int p2), some (.int p3), some (.int p4), some (.int p5)], [.int (kI 19), .int (kI 0), .int p1], SH, w)) rfl ?_
  refine EV.callF (kc := 157) (av := [.int p1, .int (kI 0), .int (kI 19)]) (r := []) (rv := some (.int (F_157 p1 (kI 0) (kI 19) w))) (w2 := w) cl_235 rfl rfl rfl (m_157 w p1 (kI 0) (kI 19)) ?_
  refine EV.z_eq cl_235 rfl (fun h1 => ?_) (fun h1 => ?_)
  · skip
    refine EV.steps cl_235 1 (q2 := (52, [some (.ref 110), some (.int p1), some (.int p2), some (.int p3), some (.int p4), some (.int p5)], [.int (kI 0)], SH, w)) rfl ?_
    refine EV.ret cl_235 rfl rfl rfl ?_
    exact ⟨(by simp only [F_235_110, if_pos h1]), rfl, (by simp only [G_235_110, if_pos h1])⟩
  · skip
    refine EV.steps cl_235 3 (q2 := (13, [some (.ref 110), some (.int p1), some (.int p2), some (.int p3), some (.int p4), some (.int p5)], [.int (kI 5), .int (kI 0), .int p2], SH, w)) rfl ?_
    refine EV.callF (kc := 157) (av := [.int p2, .int (kI 0), .int (kI 5)]) (r := []) (rv := some (.int (F_157 p2 (kI 0) (kI 5) w))) (w2 := w) cl_235 rfl rfl rfl (m_157 w p2 (kI 0) (kI 5)) ?_
    refine EV.z_eq cl_235 rfl (fun h2 => ?_) (fun h2 => ?_)
    · skip
      refine EV.steps cl_235 1 (q2 := (52, [some (.ref 110), some (.int p1), some (.int p2), some (.int p3), some (.int p4), some (.int p5)], [.int (kI 0)], SH, w)) rfl ?_
      refine EV.ret cl_235 rfl rfl rfl ?_
      exact ⟨(by simp only [F_235_110, if_neg h1, if_pos h2]), rfl, (by simp only [G_235_110, if_neg h1, if_pos h2])⟩
    · skip
      refine EV.steps cl_235 3 (q2 := (23, [some (.ref 110), some (.int p1), some (.int p2), some (.int p3), some (.int p4), some (.int p5)], [.int (kI 99), .int (kI 0), .int p3], SH, w)) rfl ?_
      refine EV.callF (kc := 157) (av := [.int p3, .int (kI 0), .int (kI 99)]) (r := []) (rv := some (.int (F_157 p3 (kI 0) (kI 99) w))) (w2 := w) cl_235 rfl rfl rfl (m_157 w p3 (kI 0) (kI 99)) ?_
      refine EV.z_eq cl_235 rfl (fun h3 => ?_) (fun h3 => ?_)
      · skip
        refine EV.steps cl_235 1 (q2 := (52, [some (.ref 110), some (.int p1), some (.int p2), some (.int p3), some (.int p4), some (.int p5)], [.int (kI 0)], SH, w)) rfl ?_
        refine EV.ret cl_235 rfl rfl rfl ?_
        exact ⟨(by simp only [F_235_110, if_neg h1, if_neg h2, if_pos h3]), rfl, (by simp only [G_235_110, if_neg h1, if_neg h2, if_pos h3])⟩
      · skip
        refine EV.steps cl_235 3 (q2 := (34, [some (.ref 110), some (.int p1), some (.int p2), some (.int p3), some (.int p4), some (.int p5)], [.int (kI 23), .int (kI 0), .int p4], SH, w)) rfl ?_
        refine EV.callF (kc := 157) (av := [.int p4, .int (kI 0), .int (kI 23)]) (r := []) (rv := some (.int (F_157 p4 (kI 0) (kI 23) w))) (w2 := w) cl_235 rfl rfl rfl (m_157 w p4 (kI 0) (kI 23)) ?_
        refine EV.z_eq cl_235 rfl (fun h4 => ?_) (fun h4 => ?_)
        · skip
          refine EV.steps cl_235 1 (q2 := (52, [some (.ref 110), some (.int p1), some (.int p2), some (.int p3), some (.int p4), some (.int p5)], [.int (kI 0)], SH, w)) rfl ?_
          refine EV.ret cl_235 rfl rfl rfl ?_
          exact ⟨(by simp only [F_235_110, if_neg h1, if_neg h2, if_neg h3, if_pos h4]), rfl, (by simp only [G_235_110, if_neg h1, if_neg h2, if_neg h3, if_pos h4])⟩
        · skip
          refine EV.steps cl_235 3 (q2 := (45, [some (.ref 110), some (.int p1), some (.int p2), some (.int p3), some (.int p4), some (.int p5)], [.int (kI 9), .int (kI 0), .int p5], SH, w)) rfl ?_
          refine EV.callF (kc := 157) (av := [.int p5, .int (kI 0), .int (kI 9)]) (r := []) (rv := some (.int (F_157 p5 (kI 0) (kI 9) w))) (w2 := w) cl_235 rfl rfl rfl (m_157 w p5 (kI 0) (kI 9)) ?_
          refine EV.z_ne cl_235 rfl (fun h5 => ?_) (fun h5 => ?_)
          · skip
            refine EV.steps cl_235 12 (q2 := (71, [some (.ref 110), some (.int p1), some (.int p2), some (.int p3), some (.int p4), some (.int p5)], [.int p2, .int p1, .ref 140], SH, (up2 w 110 56 ((w 110 56) ||| ((kI 1) <<< (p1 &&& 31)))))) rfl ?_
            refine EV.iastore cl_235 rfl rfl (by decide) (ix_157 h1 (by decide)) ?_
            refine EV.steps cl_235 4 (q2 := (78, [some (.ref 110), some (.int p1), some (.int p2), some (.int p3), some (.int p4), some (.int p5)], [.int p3, .int p1, .ref 141], SH, (up2 (up2 w 110 56 ((w 110 56) ||| ((kI 1) <<< (p1 &&& 31)))) 140 p1.toNatClampNeg p2))) rfl ?_
            refine EV.iastore cl_235 rfl rfl (by decide) (ix_157 h1 (by decide)) ?_
            refine EV.steps cl_235 4 (q2 := (86, [some (.ref 110), some (.int p1), some (.int p2), some (.int p3), some (.int p4), some (.int p5)], [.int p4, .int p1, .ref 142], SH, (up2 (up2 (up2 w 110 56 ((w 110 56) ||| ((kI 1) <<< (p1 &&& 31)))) 140 p1.toNatClampNeg p2) 141 p1.toNatClampNeg p3))) rfl ?_
            refine EV.iastore cl_235 rfl rfl (by decide) (ix_157 h1 (by decide)) ?_
            refine EV.steps cl_235 4 (q2 := (94, [some (.ref 110), some (.int p1), some (.int p2), some (.int p3), some (.int p4), some (.int p5)], [.int p5, .int p1, .ref 143], SH, (up2 (up2 (up2 (up2 w 110 56 ((w 110 56) ||| ((kI 1) <<< (p1 &&& 31)))) 140 p1.toNatClampNeg p2) 141 p1.toNatClampNeg p3) 142 p1.toNatClampNeg p4))) rfl ?_
            refine EV.iastore cl_235 rfl rfl (by decide) (ix_157 h1 (by decide)) ?_
            refine EV.steps cl_235 1 (q2 := (96, [some (.ref 110), some (.int p1), some (.int p2), some (.int p3), some (.int p4), some (.int p5)], [.int (kI 1)], SH, (up2 (up2 (up2 (up2 (up2 w 110 56 ((w 110 56) ||| ((kI 1) <<< (p1 &&& 31)))) 140 p1.toNatClampNeg p2) 141 p1.toNatClampNeg p3) 142 p1.toNatClampNeg p4) 143 p1.toNatClampNeg p5))) rfl ?_
            refine EV.ret cl_235 rfl rfl rfl ?_
            exact ⟨(by simp only [F_235_110, if_neg h1, if_neg h2, if_neg h3, if_neg h4, if_neg h5]), rfl, (by simp only [G_235_110, if_neg h1, if_neg h2, if_neg h3, if_neg h4, if_neg h5])⟩
          · skip
            refine EV.steps cl_235 1 (q2 := (52, [some (.ref 110), some (.int p1), some (.int p2), some (.int p3), some (.int p4), some (.int p5)], [.int (kI 0)], SH, w)) rfl ?_
            refine EV.ret cl_235 rfl rfl rfl ?_
            exact ⟨(by simp only [F_235_110, if_neg h1, if_neg h2, if_neg h3, if_neg h4, if_pos h5]), rfl, (by simp only [G_235_110, if_neg h1, if_neg h2, if_neg h3, if_neg h4, if_pos h5])⟩
set_option maxRecDepth 20000 in
theorem cl_244 : RCT[244]? = some rc_244 := rfl
set_option maxRecDepth 20000 in
theorem cl_246 : RCT[246]? = some rc_246 := rfl
set_option maxRecDepth 20000 in
theorem cl_253 : RCT[253]? = some rc_253 := rfl
def F_253_110 (p1 : Int32) (w : Wd) : Int32 := (if (F_157 p1 (kI 0) (kI 65535) w) = 0 then (kI 0) else (kI 1))
def G_253_110 (p1 : Int32) (w : Wd) : Wd := (if (F_157 p1 (kI 0) (kI 65535) w) = 0 then w else (up2 w 111 (kI 161).toNatClampNeg p1))
theorem m_253_110 {X : Scr} {d : Nat} (w : Wd) (p1 : Int32) : CV X (d + 2) 253 [.ref 110, .int p1] SH w (fun r s1 w1 => r = some (.int (F_253_110 p1 w)) ∧ s1 = SH ∧ w1 = G_253_110 p1 w) := by
  refine CV.of rfl ?_
  refine EV.steps cl_253 3 (q2 := (5, [some (.ref 110), some (.int p1)], [.int (kI 65535), .int (kI 0), .int p1], SH, w)) rfl ?_
  refine EV.callF (kc := 157) (av := [.int p1, .int (kI 0), .int (kI 65535)]) (r := []) (rv := some (.int (F_157 p1 (kI 0) (kI 65535) w))) (w2 := w) cl_253 rfl rfl rfl (m_157 w p1 (kI 0) (kI 65535)) ?_
  refine EV.z_ne cl_253 rfl (fun h1 => ?_) (fun h1 => ?_)
  · skip
    refine EV.steps cl_253 4 (q2 := (21, [some (.ref 110), some (.int p1)], [.int p1, .int (kI 161), .ref 111], SH, w)) rfl ?_
    refine EV.iastore cl_253 rfl rfl (by decide) rfl ?_
    refine EV.steps cl_253 1 (q2 := (23, [some (.ref 110), some (.int p1)], [.int (kI 1)], SH, (up2 w 111 (kI 161).toNatClampNeg p1))) rfl ?_
    refine EV.ret cl_253 rfl rfl rfl ?_
    exact ⟨(by simp only [F_253_110, if_neg h1]), rfl, (by simp only [G_253_110, if_neg h1])⟩
  · skip
    refine EV.steps cl_253 1 (q2 := (12, [some (.ref 110), some (.int p1)], [.int (kI 0)], SH, w)) rfl ?_
    refine EV.ret cl_253 rfl rfl rfl ?_
    exact ⟨(by simp only [F_253_110, if_pos h1]), rfl, (by simp only [G_253_110, if_pos h1])⟩
