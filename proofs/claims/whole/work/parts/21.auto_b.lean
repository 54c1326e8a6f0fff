def G_16_17 (p1 : Int32) (p2 : Int32) (p3 : Int32) (w : Wd) : Wd := (if (F_153 p1 (kI 0) (kI 5) w) = 0 then w else (if (F_153 p2 (kI 0) (kI 5) w) = 0 then w else (up2 (up2 (up2 w 19 p2.toNatClampNeg ((w 19 p2.toNatClampNeg) - (w 18 ((p1 * (kI 6)) + p2).toNatClampNeg))) 18 ((p1 * (kI 6)) + p2).toNatClampNeg (if (kI 0) < (if ((w 18 ((p1 * (kI 6)) + p2).toNatClampNeg) + p3) < (kI 9999) then ((w 18 ((p1 * (kI 6)) + p2).toNatClampNeg) + p3) else (kI 9999)) then (if ((w 18 ((p1 * (kI 6)) + p2).toNatClampNeg) + p3) < (kI 9999) then ((w 18 ((p1 * (kI 6)) + p2).toNatClampNeg) + p3) else (kI 9999)) else (kI 0))) 19 p2.toNatClampNeg (((up2 w 19 p2.toNatClampNeg ((w 19 p2.toNatClampNeg) - (w 18 ((p1 * (kI 6)) + p2).toNatClampNeg))) 19 p2.toNatClampNeg) + ((up2 (up2 w 19 p2.toNatClampNeg ((w 19 p2.toNatClampNeg) - (w 18 ((p1 * (kI 6)) + p2).toNatClampNeg))) 18 ((p1 * (kI 6)) + p2).toNatClampNeg (if (kI 0) < (if ((w 18 ((p1 * (kI 6)) + p2).toNatClampNeg) + p3) < (kI 9999) then ((w 18 ((p1 * (kI 6)) + p2).toNatClampNeg) + p3) else (kI 9999)) then (if ((w 18 ((p1 * (kI 6)) + p2).toNatClampNeg) + p3) < (kI 9999) then ((w 18 ((p1 * (kI 6)) + p2).toNatClampNeg) + p3) else (kI 9999)) else (kI 0))) 18 ((p1 * (kI 6)) + p2).toNatClampNeg)))))
theorem m_16_17 {X : Scr} {d : Nat} (w : Wd) (p1 : Int32) (p2 : Int32) (p3 : Int32) : CV X (d + 2) 16 [.ref 17, .int p1, .int p2, .int p3] SH w (fun r s1 w1 => r = none ∧ s1 = SH ∧ w1 = G_16_17 p1 p2 p3 w) := by
  refine CV.of rfl ?_
  refine EV.steps cl_16 3 (q2 := (3, [some (.ref 17), some (.int p1), some (.int p2), some (.int p3), none], [.int (kI 5), .int (kI 0), .int p1], SH, w)) rfl ?_
  refine EV.callF (kc := 153) (av := [.int p1, .int (kI 0), .int (kI 5)]) (r := []) (rv := some (.int (F_153 p1 (kI 0) (kI 5) w))) (w2 := w) cl_16 rfl rfl rfl (m_153 w p1 (kI 0) (kI 5)) ?_
  refine EV.z_eq cl_16 rfl (fun h1 => ?_) (fun h1 => ?_)
  · skip
    refine EV.ret cl_16 rfl rfl rfl ?_
    exact ⟨rfl, rfl, (by simp only [G_16_17, if_pos h1])⟩
  · skip
    refine EV.steps cl_16 3 (q2 := (12, [some (.ref 17), some (.int p1), some (.int p2), some (.int p3), none], [.int (kI 5), .int (kI 0), .int p2], SH, w)) rfl ?_
    refine EV.callF (kc := 153) (av := [.int p2, .int (kI 0), .int (kI 5)]) (r := []) (rv := some (.int (F_153 p2 (kI 0) (kI 5) w))) (w2 := w) cl_16 rfl rfl rfl (m_153 w p2 (kI 0) (kI 5)) ?_
    refine EV.z_eq cl_16 rfl (fun h2 => ?_) (fun h2 => ?_)
    · skip
      refine EV.ret cl_16 rfl rfl rfl ?_
      exact ⟨rfl, rfl, (by simp only [G_16_17, if_neg h1, if_pos h2])⟩
    · skip
      refine EV.steps cl_16 10 (q2 := (32, [some (.ref 17), some (.int p1), some (.int p2), some (.int p3), some (.int ((p1 * (kI 6)) + p2))], [.int p2, .ref 19, .int p2, .ref 19], SH, w)) rfl ?_
      refine EV.iaload cl_16 rfl rfl (by decide) (ix_153 h2 (by decide)) ?_
      refine EV.steps cl_16 3 (q2 := (39, [some (.ref 17), some (.int p1), some (.int p2), some (.int p3), some (.int ((p1 * (kI 6)) + p2))], [.int ((p1 * (kI 6)) + p2), .ref 18, .int (w 19 p2.toNatClampNeg), .int p2, .ref 19], SH, w)) rfl ?_
      refine EV.iaload cl_16 rfl rfl (by decide) (ix2_153 h1 h2 (by decide) (by decide) (by decide) (by decide)) ?_
      refine EV.steps cl_16 1 (q2 := (41, [some (.ref 17), some (.int p1), some (.int p2), some (.int p3), some (.int ((p1 * (kI 6)) + p2))], [.int ((w 19 p2.toNatClampNeg) - (w 18 ((p1 * (kI 6)) + p2).toNatClampNeg)), .int p2, .ref 19], SH, w)) rfl ?_
      refine EV.iastore cl_16 rfl rfl (by decide) (ix_153 h2 (by decide)) ?_
      refine EV.steps cl_16 8 (q2 := (58, [some (.ref 17), some (.int p1), some (.int p2), some (.int p3), some (.int ((p1 * (kI 6)) + p2))], [.int ((p1 * (kI 6)) + p2), .ref 18, .int (kI 9999), .int (kI 0), .int ((p1 * (kI 6)) + p2), .ref 18], SH, (up2 w 19 p2.toNatClampNeg ((w 19 p2.toNatClampNeg) - (w 18 ((p1 * (kI 6)) + p2).toNatClampNeg))))) rfl ?_
      refine EV.iaload cl_16 rfl rfl (by decide) (ix2_153 h1 h2 (by decide) (by decide) (by decide) (by decide)) ?_
      refine EV.steps cl_16 4 (q2 := (67, [some (.ref 17), some (.int p1), some (.int p2), some (.int p3), some (.int ((p1 * (kI 6)) + p2))], [.int (if (kI 0) < (if ((w 18 ((p1 * (kI 6)) + p2).toNatClampNeg) + p3) < (kI 9999) then ((w 18 ((p1 * (kI 6)) + p2).toNatClampNeg) + p3) else (kI 9999)) then (if ((w 18 ((p1 * (kI 6)) + p2).toNatClampNeg) + p3) < (kI 9999) then ((w 18 ((p1 * (kI 6)) + p2).toNatClampNeg) + p3) else (kI 9999)) else (kI 0)), .int ((p1 * (kI 6)) + p2), .ref 18], SH, (up2 w 19 p2.toNatClampNeg ((w 19 p2.toNatClampNeg) - (w 18 ((p1 * (kI 6)) + p2).toNatClampNeg))))) rfl ?_
      refine EV.iastore cl_16 rfl rfl (by decide) (ix2_153 h1 h2 (by decide) (by decide) (by decide) (by decide)) ?_
      refine EV.steps cl_16 4 (q2 := (74, [some (.ref 17), some (.int p1), some (.int p2), some (.int p3), some (.int ((p1 * (kI 6)) + p2))], [.int p2, .ref 19, .int p2, .ref 19], SH, (up2 (up2 w 19 p2.toNatClampNeg ((w 19 p2.toNatClampNeg) - (w 18 ((p1 * (kI 6)) + p2).toNatClampNeg))) 18 ((p1 * (kI 6)) + p2).toNatClampNeg (if (kI 0) < (if ((w 18 ((p1 * (kI 6)) + p2).toNatClampNeg) + p3) < (kI 9999) then ((w 18 ((p1 * (kI 6)) + p2).toNatClampNeg) + p3) else (kI 9999)) then (if ((w 18 ((p1 * (kI 6)) + p2).toNatClampNeg) + p3) < (kI 9999) then ((w 18 ((p1 * (kI 6)) + p2).toNatClampNeg) + p3) else (kI 9999)) else (kI 0))))) rfl ?_
      refine EV.iaload cl_16 rfl rfl (by decide) (ix_153 h2 (by decide)) ?_
      refine EV.steps cl_16 3 (q2 := (81, [some (.ref 17), some (.int p1), some (.int p2), some (.int p3), some (.int ((p1 * (kI 6)) + p2))], [.int ((p1 * (kI 6)) + p2), .ref 18, .int ((up2 w 19 p2.toNatClampNeg ((w 19 p2.toNatClampNeg) - (w 18 ((p1 * (kI 6)) + p2).toNatClampNeg))) 19 p2.toNatClampNeg), .int p2, .ref 19], SH, (up2 (up2 w 19 p2.toNatClampNeg ((w 19 p2.toNatClampNeg) - (w 18 ((p1 * (kI 6)) + p2).toNatClampNeg))) 18 ((p1 * (kI 6)) + p2).toNatClampNeg (if (kI 0) < (if ((w 18 ((p1 * (kI 6)) + p2).toNatClampNeg) + p3) < (kI 9999) then ((w 18 ((p1 * (kI 6)) + p2).toNatClampNeg) + p3) else (kI 9999)) then (if ((w 18 ((p1 * (kI 6)) + p2).toNatClampNeg) + p3) < (kI 9999) then ((w 18 ((p1 * (kI 6)) + p2).toNatClampNeg) + p3) else (kI 9999)) else (kI 0))))) rfl ?_
      refine EV.iaload cl_16 rfl rfl (by decide) (ix2_153 h1 h2 (by decide) (by decide) (by decide) (by decide)) ?_
      refine EV.steps cl_16 1 (q2 := (83, [some (.ref 17), some (.int p1), some (.int p2), some (.int p3), some (.int ((p1 * (kI 6)) + p2))], [.int (((up2 w 19 p2.toNatClampNeg ((w 19 p2.toNatClampNeg) - (w 18 ((p1 * (kI 6)) + p2).toNatClampNeg))) 19 p2.toNatClampNeg) + ((up2 (up2 w 19 p2.toNatClampNeg ((w 19 p2.toNatClampNeg) - (w 18 ((p1 * (kI 6)) + p2).toNatClampNeg))) 18 ((p1 * (kI 6)) + p2).toNatClampNeg (if (kI 0) < (if ((w 18 ((p1 * (kI 6)) + p2).toNatClampNeg) + p3) < (kI 9999) then ((w 18 ((p1 * (kI 6)) + p2).toNatClampNeg) + p3) else (kI 9999)) then (if ((w 18 ((p1 * (kI 6)) + p2).toNatClampNeg) + p3) < (kI 9999) then ((w 18 ((p1 * (kI 6)) + p2).toNatClampNeg) + p3) else (kI 9999)) else (kI 0))) 18 ((p1 * (kI 6)) + p2).toNatClampNeg)), .int p2, .ref 19], SH, (up2 (up2 w 19 p2.toNatClampNeg ((w 19 p2.toNatClampNeg) - (w 18 ((p1 * (kI 6)) + p2).toNatClampNeg))) 18 ((p1 * (kI 6)) + p2).toNatClampNeg (if (kI 0) < (if ((w 18 ((p1 * (kI 6)) + p2).toNatClampNeg) + p3) < (kI 9999) then ((w 18 ((p1 * (kI 6)) + p2).toNatClampNeg) + p3) else (kI 9999)) then (if ((w 18 ((p1 * (kI 6)) + p2).toNatClampNeg) + p3) < (kI 9999) then ((w 18 ((p1 * (kI 6)) + p2).toNatClampNeg) + p3) else (kI 9999)) else (kI 0))))) rfl ?_
      refine EV.iastore cl_16 rfl rfl (by decide) (ix_153 h2 (by decide)) ?_
      refine EV.ret cl_16 rfl rfl rfl ?_
      exact ⟨rfl, rfl, (by simp only [G_16_17, if_neg h1, if_neg h2])⟩
set_option maxRecDepth 20000 in
theorem cl_17 : RCT[17]? = some rc_17 := rfl
def G_17_7 (p1 : Int32) (p2 : Int32) (w : Wd) : Wd := (if (F_153 p1 (kI 0) (kI 5) w) = 0 then w else (if (F_153 (w 7 4) (kI 0) (kI 11) w) = 0 then w else (up2 w 10 ((p1 * (kI 12)) + (w 7 4)).toNatClampNeg (if ((w 10 ((p1 * (kI 12)) + (w 7 4)).toNatClampNeg) + p2) < (kI 9999) then ((w 10 ((p1 * (kI 12)) + (w 7 4)).toNatClampNeg) + p2) else (kI 9999)))))
theorem m_17_7 {X : Scr} {d : Nat} (w : Wd) (p1 : Int32) (p2 : Int32) (i1 : ¬ (F_153 p1 (kI 0) (kI 5) w) = 0 → ¬ (F_153 (w 7 4) (kI 0) (kI 11) w) = 0 → (inB ((p1 * (kI 12)) + (w 7 4)) 72 = true)) : CV X (d + 2) 17 [.ref 7, .int p1, .int p2] SH w (fun r s1 w1 => r = none ∧ s1 = SH ∧ w1 = G_17_7 p1 p2 w) := by
  refine CV.of rfl ?_
  refine EV.steps cl_17 3 (q2 := (3, [some (.ref 7), some (.int p1), some (.int p2), none], [.int (kI 5), .int (kI 0), .int p1], SH, w)) rfl ?_
  refine EV.callF (kc := 153) (av := [.int p1, .int (kI 0), .int (kI 5)]) (r := []) (rv := some (.int (F_153 p1 (kI 0) (kI 5) w))) (w2 := w) cl_17 rfl rfl rfl (m_153 w p1 (kI 0) (kI 5)) ?_
  refine EV.z_eq cl_17 rfl (fun h1 => ?_) (fun h1 => ?_)
  · skip
    refine EV.ret cl_17 rfl rfl rfl ?_
    exact ⟨rfl, rfl, (by simp only [G_17_7, if_pos h1])⟩
  · skip
    refine EV.steps cl_17 4 (q2 := (16, [some (.ref 7), some (.int p1), some (.int p2), none], [.int (kI 11), .int (kI 0), .int (w 7 4)], SH, w)) rfl ?_
    refine EV.callF (kc := 153) (av := [.int (w 7 4), .int (kI 0), .int (kI 11)]) (r := []) (rv := some (.int (F_153 (w 7 4) (kI 0) (kI 11) w))) (w2 := w) cl_17 rfl rfl rfl (m_153 w (w 7 4) (kI 0) (kI 11)) ?_
    refine EV.z_eq cl_17 rfl (fun h2 => ?_) (fun h2 => ?_)
    · skip
      refine EV.ret cl_17 rfl rfl rfl ?_
      exact ⟨rfl, rfl, (by simp only [G_17_7, if_neg h1, if_pos h2])⟩
    · skip
      refine EV.steps cl_17 14 (q2 := (45, [some (.ref 7), some (.int p1), some (.int p2), some (.int ((p1 * (kI 12)) + (w 7 4)))], [.int ((p1 * (kI 12)) + (w 7 4)), .ref 10, .int (kI 9999), .int ((p1 * (kI 12)) + (w 7 4)), .ref 10], SH, w)) rfl ?_
      refine EV.iaload cl_17 rfl rfl (by decide) (i1 h1 h2) ?_
      refine EV.steps cl_17 3 (q2 := (51, [some (.ref 7), some (.int p1), some (.int p2), some (.int ((p1 * (kI 12)) + (w 7 4)))], [.int (if ((w 10 ((p1 * (kI 12)) + (w 7 4)).toNatClampNeg) + p2) < (kI 9999) then ((w 10 ((p1 * (kI 12)) + (w 7 4)).toNatClampNeg) + p2) else (kI 9999)), .int ((p1 * (kI 12)) + (w 7 4)), .ref 10], SH, w)) rfl ?_
      refine EV.iastore cl_17 rfl rfl (by decide) (i1 h1 h2) ?_
      refine EV.ret cl_17 rfl rfl rfl ?_
      exact ⟨rfl, rfl, (by simp only [G_17_7, if_neg h1, if_neg h2])⟩
def G_17_12 (p1 : Int32) (p2 : Int32) (w : Wd) : Wd := (if (F_153 p1 (kI 0) (kI 5) w) = 0 then w else (if (F_153 (w 12 4) (kI 0) (kI 11) w) = 0 then w else (up2 w 15 ((p1 * (kI 12)) + (w 12 4)).toNatClampNeg (if ((w 15 ((p1 * (kI 12)) + (w 12 4)).toNatClampNeg) + p2) < (kI 9999) then ((w 15 ((p1 * (kI 12)) + (w 12 4)).toNatClampNeg) + p2) else (kI 9999)))))
theorem m_17_12 {X : Scr} {d : Nat} (w : Wd) (p1 : Int32) (p2 : Int32) (i1 : ¬ (F_153 p1 (kI 0) (kI 5) w) = 0 → ¬ (F_153 (w 12 4) (kI 0) (kI 11) w) = 0 → (inB ((p1 * (kI 12)) + (w 12 4)) 72 = true)) : CV X (d + 2) 17 [.ref 12, .int p1, .int p2] SH w (fun r s1 w1 => r = none ∧ s1 = SH ∧ w1 = G_17_12 p1 p2 w) := by
  refine CV.of rfl ?_
  refine EV.steps cl_17 3 (q2 := (3, [some (.ref 12), some (.int p1), some (.int p2), none], [.int (kI 5), .int (kI 0), .int p1], SH, w)) rfl ?_
  refine EV.callF (kc := 153) (av := [.int p1, .int (kI 0), .int (kI 5)]) (r := []) (rv := some (.int (F_153 p1 (kI 0) (kI 5) w))) (w2 := w) cl_17 rfl rfl rfl (m_153 w p1 (kI 0) (kI 5)) ?_
  refine EV.z_eq cl_17 rfl (fun h1 => ?_) (fun h1 => ?_)
  · skip
    refine EV.ret cl_17 rfl rfl rfl ?_
    exact ⟨rfl, rfl, (by simp only [G_17_12, if_pos h1])⟩
  · skip
    refine EV.steps cl_17 4 (q2 := (16, [some (.ref 12), some (.int p1), some (.int p2), none], [.int (kI 11), .int (kI 0), .int (w 12 4)], SH, w)) rfl ?_
    refine EV.callF (kc := 153) (av := [.int (w 12 4), .int (kI 0), .int (kI 11)]) (r := []) (rv := some (.int (F_153 (w 12 4) (kI 0) (kI 11) w))) (w2 := w) cl_17 rfl rfl rfl (m_153 w (w 12 4) (kI 0) (kI 11)) ?_
    refine EV.z_eq cl_17 rfl (fun h2 => ?_) (fun h2 => ?_)
    · skip
      refine EV.ret cl_17 rfl rfl rfl ?_
      exact ⟨rfl, rfl, (by simp only [G_17_12, if_neg h1, if_pos h2])⟩
    · skip
      refine EV.steps cl_17 14 (q2 := (45, [some (.ref 12), some (.int p1), some (.int p2), some (.int ((p1 * (kI 12)) + (w 12 4)))], [.int ((p1 * (kI 12)) + (w 12 4)), .ref 15, .int (kI 9999), .int ((p1 * (kI 12)) + (w 12 4)), .ref 15], SH, w)) rfl ?_
      refine EV.iaload cl_17 rfl rfl (by decide) (i1 h1 h2) ?_
      refine EV.steps cl_17 3 (q2 := (51, [some (.ref 12), some (.int p1), some (.int p2), some (.int ((p1 * (kI 12)) + (w 12 4)))], [.int (if ((w 15 ((p1 * (kI 12)) + (w 12 4)).toNatClampNeg) + p2) < (kI 9999) then ((w 15 ((p1 * (kI 12)) + (w 12 4)).toNatClampNeg) + p2) else (kI 9999)), .int ((p1 * (kI 12)) + (w 12 4)), .ref 15], SH, w)) rfl ?_
      refine EV.iastore cl_17 rfl rfl (by decide) (i1 h1 h2) ?_
      refine EV.ret cl_17 rfl rfl rfl ?_
      exact ⟨rfl, rfl, (by simp only [G_17_12, if_neg h1, if_neg h2])⟩
def G_17_17 (p1 : Int32) (p2 : Int32) (w : Wd) : Wd := (if (F_153 p1 (kI 0) (kI 5) w) = 0 then w else (if (F_153 (w 17 4) (kI 0) (kI 11) w) = 0 then w else (up2 w 20 ((p1 * (kI 12)) + (w 17 4)).toNatClampNeg (if ((w 20 ((p1 * (kI 12)) + (w 17 4)).toNatClampNeg) + p2) < (kI 9999) then ((w 20 ((p1 * (kI 12)) + (w 17 4)).toNatClampNeg) + p2) else (kI 9999)))))
theorem m_17_17 {X : Scr} {d : Nat} (w : Wd) (p1 : Int32) (p2 : Int32) (i1 : ¬ (F_153 p1 (kI 0) (kI 5) w) = 0 → ¬ (F_153 (w 17 4) (kI 0) (kI 11) w) = 0 → (inB ((p1 * (kI 12)) + (w 17 4)) 72 = true)) : CV X (d + 2) 17 [.ref 17, .int p1, .int p2] SH w (fun r s1 w1 => r = none ∧ s1 = SH ∧ w1 = G_17_17 p1 p2 w) := by
  refine CV.of rfl ?_
  refine EV.steps cl_17 3 (q2 := (3, [some (.ref 17), some (.int p1), some (.int p2), none], [.int (kI 5), .int (kI 0), .int p1], SH, w)) rfl ?_
  refine EV.callF (kc := 153) (av := [.int p1, .int (kI 0), .int (kI 5)]) (r := []) (rv := some (.int (F_153 p1 (kI 0) (kI 5) w))) (w2 := w) cl_17 rfl rfl rfl (m_153 w p1 (kI 0) (kI 5)) ?_
  refine EV.z_eq cl_17 rfl (fun h1 => ?_) (fun h1 => ?_)
  · skip
    refine EV.ret cl_17 rfl rfl rfl ?_
    exact ⟨rfl, rfl, (by simp only [G_17_17, if_pos h1])⟩
  · skip
    refine EV.steps cl_17 4 (q2 := (16, [some (.ref 17), some (.int p1), some (.int p2), none], [.int (kI 11), .int (kI 0), .int (w 17 4)], SH, w)) rfl ?_
    refine EV.callF (kc := 153) (av := [.int (w 17 4), .int (kI 0), .int (kI 11)]) (r := []) (rv := some (.int (F_153 (w 17 4) (kI 0) (kI 11) w))) (w2 := w) cl_17 rfl rfl rfl (m_153 w (w 17 4) (kI 0) (kI 11)) ?_
    refine EV.z_eq cl_17 rfl (fun h2 => ?_) (fun h2 => ?_)
    · skip
      refine EV.ret cl_17 rfl rfl rfl ?_
      exact ⟨rfl, rfl, (by simp only [G_17_17, if_neg h1, if_pos h2])⟩
    · skip
      refine EV.steps cl_17 14 (q2 := (45, [some (.ref 17), some (.int p1), some (.int p2), some (.int ((p1 * (kI 12)) + (w 17 4)))], [.int ((p1 * (kI 12)) + (w 17 4)), .ref 20, .int (kI 9999), .int ((p1 * (kI 12)) + (w 17 4)), .ref 20], SH, w)) rfl ?_
      refine EV.iaload cl_17 rfl rfl (by decide) (i1 h1 h2) ?_
      refine EV.steps cl_17 3 (q2 := (51, [some (.ref 17), some (.int p1), some (.int p2), some (.int ((p1 * (kI 12)) + (w 17 4)))], [.int (if ((w 20 ((p1 * (kI 12)) + (w 17 4)).toNatClampNeg) + p2) < (kI 9999) then ((w 20 ((p1 * (kI 12)) + (w 17 4)).toNatClampNeg) + p2) else (kI 9999)), .int ((p1 * (kI 12)) + (w 17 4)), .ref 20], SH, w)) rfl ?_
      refine EV.iastore cl_17 rfl rfl (by decide) (i1 h1 h2) ?_
      refine EV.ret cl_17 rfl rfl rfl ?_
      exact ⟨rfl, rfl, (by simp only [G_17_17, if_neg h1, if_neg h2])⟩
set_option maxRecDepth 20000 in
theorem cl_18 : RCT[18]? = some rc_18 := rfl
def F_18_7  (w : Wd) : Int32 := (((((kI 25173) * (w 7 8)) + (kI 13849)) &&& (kI 65535)) - ((((kI 25173) * (w 7 8)) + (kI 13849)) &&& (kI 65535)) / (kI 10) * (kI 10))
def G_18_7  (w : Wd) : Wd := (up2 w 7 8 ((((kI 25173) * (w 7 8)) + (kI 13849)) &&& (kI 65535)))
theorem m_18_7 {X : Scr} {d : Nat} (w : Wd)  : CV X (d + 1) 18 [.ref 7] SH w (fun r s1 w1 => r = some (.int (F_18_7 w)) ∧ s1 = SH ∧ w1 = G_18_7 w) := by
  refine CV.of rfl ?_
  refine EV.steps cl_18 13 (q2 := (25, [some (.ref 7)], [.int (kI 10), .int ((((kI 25173) * (w 7 8)) + (kI 13849)) &&& (kI 65535))], SH, (up2 w 7 8 ((((kI 25173) * (w 7 8)) + (kI 13849)) &&& (kI 65535))))) rfl ?_
  refine EV.irem cl_18 rfl (by decide) ?_
  refine EV.ret cl_18 rfl rfl rfl ?_
  exact ⟨rfl, rfl, rfl⟩
def F_18_12  (w : Wd) : Int32 := (((((kI 25173) * (w 12 8)) + (kI 13849)) &&& (kI 65535)) - ((((kI 25173) * (w 12 8)) + (kI 13849)) &&& (kI 65535)) / (kI 10) * (kI 10))
def G_18_12  (w : Wd) : Wd := (up2 w 12 8 ((((kI 25173) * (w 12 8)) + (kI 13849)) &&& (kI 65535)))
theorem m_18_12 {X : Scr} {d : Nat} (w : Wd)  : CV X (d + 1) 18 [.ref 12] SH w (fun r s1 w1 => r = some (.int (F_18_12 w)) ∧ s1 = SH ∧ w1 = G_18_12 w) := by
  refine CV.of rfl ?_
  refine EV.steps cl_18 13 (q2 := (25, [some (.ref 12)], [.int (kI 10), .int ((((kI 25173) * (w 12 8)) + (kI 13849)) &&& (kI 65535))], SH, (up2 w 12 8 ((((kI 25173) * (w 12 8)) + (kI 13849)) &&& (kI 65535))))) rfl ?_
  refine EV.irem cl_18 rfl (by decide) ?_
  refine EV.ret cl_18 rfl rfl rfl ?_
  exact ⟨rfl, rfl, rfl⟩
def F_18_17  (w : Wd) : Int32 := (((((kI 25173) * (w 17 8)) + (kI 13849)) &&& (kI 65535)) - ((((kI 25173) * (w 17 8)) + (kI 13849)) &&& (kI 65535)) / (kI 10) * (kI 10))
def G_18_17  (w : Wd) : Wd := (up2 w 17 8 ((((kI 25173) * (w 17 8)) + (kI 13849)) &&& (kI 65535)))
theorem m_18_17 {X : Scr} {d : Nat} (w : Wd)  : CV X (d + 1) 18 [.ref 17] SH w (fun r s1 w1 => r = some (.int (F_18_17 w)) ∧ s1 = SH ∧ w1 = G_18_17 w) := by
  refine CV.of rfl ?_
  refine EV.steps cl_18 13 (q2 := (25, [some (.ref 17)], [.int (kI 10), .int ((((kI 25173) * (w 17 8)) + (kI 13849)) &&& (kI 65535))], SH, (up2 w 17 8 ((((kI 25173) * (w 17 8)) + (kI 13849)) &&& (kI 65535))))) rfl ?_
  refine EV.irem cl_18 rfl (by decide) ?_
  refine EV.ret cl_18 rfl rfl rfl ?_
  exact ⟨rfl, rfl, rfl⟩
set_option maxRecDepth 20000 in
theorem cl_37 : RCT[37]? = some rc_37 := rfl
def F_37_95 (p1 : Int32) (w : Wd) : Int32 := (if (F_153 p1 (kI 0) (kI 11) w) = 0 then (kI 0) else (w 101 p1.toNatClampNeg))
theorem m_37_95 {X : Scr} {d : Nat} (w : Wd) (p1 : Int32) : CV X (d + 2) 37 [.ref 95, .int p1] SH w (fun r s1 w1 => r = some (.int (F_37_95 p1 w)) ∧ s1 = SH ∧ w1 = w) := by
  refine CV.of rfl ?_
  refine EV.steps cl_37 3 (q2 := (4, [some (.ref 95), some (.int p1)], [.int (kI 11), .int (kI 0), .int p1], SH, w)) rfl ?_
  refine EV.callF (kc := 153) (av := [.int p1, .int (kI 0), .int (kI 11)]) (r := []) (rv := some (.int (F_153 p1 (kI 0) (kI 11) w))) (w2 := w) cl_37 rfl rfl rfl (m_153 w p1 (kI 0) (kI 11)) ?_
  refine EV.z_eq cl_37 rfl (fun h1 => ?_) (fun h1 => ?_)
  · skip
    refine EV.steps cl_37 1 (q2 := (20, [some (.ref 95), some (.int p1)], [.int (kI 0)], SH, w)) rfl ?_
    refine EV.ret cl_37 rfl rfl rfl ?_
    exact ⟨(by simp only [F_37_95, if_pos h1]), rfl, rfl⟩
  · skip
    refine EV.steps cl_37 3 (q2 := (15, [some (.ref 95), some (.int p1)], [.int p1, .ref 101], SH, w)) rfl ?_
    refine EV.iaload cl_37 rfl rfl (by decide) (ix_153 h1 (by decide)) ?_
    refine EV.steps cl_37 1 (q2 := (20, [some (.ref 95), some (.int p1)], [.int (w 101 p1.toNatClampNeg)], SH, w)) rfl ?_
    refine EV.ret cl_37 rfl rfl rfl ?_
    exact ⟨(by simp only [F_37_95, if_neg h1]), rfl, rfl⟩
set_option maxRecDepth 20000 in
theorem cl_41 : RCT[41]? = some rc_41 := rfl
def F_41_95 (p1 : Int32) (w : Wd) : Int32 := (if (F_153 p1 (kI 0) (kI 11) w) = 0 then (kI 0) else (w 99 p1.toNatClampNeg))
theorem m_41_95 {X : Scr} {d : Nat} (w : Wd) (p1 : Int32) : CV X (d + 2) 41 [.ref 95, .int p1] SH w (fun r s1 w1 => r = some (.int (F_41_95 p1 w)) ∧ s1 = SH ∧ w1 = w) := by
  refine CV.of rfl ?_
  refine EV.steps cl_41 3 (q2 := (4, [some (.ref 95), some (.int p1)], [.int (kI 11), .int (kI 0), .int p1], SH, w)) rfl ?_
  refine EV.callF (kc := 153) (av := [.int p1, .int (kI 0), .int (kI 11)]) (r := []) (rv := some (.int (F_153 p1 (kI 0) (kI 11) w))) (w2 := w) cl_41 rfl rfl rfl (m_153 w p1 (kI 0) (kI 11)) ?_
  refine EV.z_eq cl_41 rfl (fun h1 => ?_) (fun h1 => ?_)
  · skip
    refine EV.steps cl_41 1 (q2 := (20, [some (.ref 95), some (.int p1)], [.int (kI 0)], SH, w)) rfl ?_
    refine EV.ret cl_41 rfl rfl rfl ?_
    exact ⟨(by simp only [F_41_95, if_pos h1]), rfl, rfl⟩
  · skip
    refine EV.steps cl_41 3 (q2 := (15, [some (.ref 95), some (.int p1)], [.int p1, .ref 99], SH, w)) rfl ?_
    refine EV.iaload cl_41 rfl rfl (by decide) (ix_153 h1 (by decide)) ?_
    refine EV.steps cl_41 1 (q2 := (20, [some (.ref 95), some (.int p1)], [.int (w 99 p1.toNatClampNeg)], SH, w)) rfl ?_
    refine EV.ret cl_41 rfl rfl rfl ?_
    exact ⟨(by simp only [F_41_95, if_neg h1]), rfl, rfl⟩
set_option maxRecDepth 20000 in
theorem cl_42 : RCT[42]? = some rc_42 := rfl
def F_42_95 (p1 : Int32) (p2 : Int32) (w : Wd) : Int32 := (if (F_153 p1 (kI 0) (kI 12) w) = 0 then (kI 0) else (if (F_153 p2 (kI 0) (kI 11) w) = 0 then (kI 0) else (w 100 ((p1 * (kI 12)) + p2).toNatClampNeg)))
theorem m_42_95 {X : Scr} {d : Nat} (w : Wd) (p1 : Int32) (p2 : Int32) : CV X (d + 2) 42 [.ref 95, .int p1, .int p2] SH w (fun r s1 w1 => r = some (.int (F_42_95 p1 p2 w)) ∧ s1 = SH ∧ w1 = w) := by
  refine CV.of rfl ?_
  refine EV.steps cl_42 3 (q2 := (4, [some (.ref 95), some (.int p1), some (.int p2)], [.int (kI 12), .int (kI 0), .int p1], SH, w)) rfl ?_
  refine EV.callF (kc := 153) (av := [.int p1, .int (kI 0), .int (kI 12)]) (r := []) (rv := some (.int (F_153 p1 (kI 0) (kI 12) w))) (w2 := w) cl_42 rfl rfl rfl (m_153 w p1 (kI 0) (kI 12)) ?_
  refine EV.z_eq cl_42 rfl (fun h1 => ?_) (fun h1 => ?_)
  · skip
    refine EV.steps cl_42 1 (q2 := (35, [some (.ref 95), some (.int p1), some (.int p2)], [.int (kI 0)], SH, w)) rfl ?_
    refine EV.ret cl_42 rfl rfl rfl ?_
    exact ⟨(by simp only [F_42_95, if_pos h1]), rfl, rfl⟩
  · skip
    refine EV.steps cl_42 3 (q2 := (14, [some (.ref 95), some (.int p1), some (.int p2)], [.int (kI 11), .int (kI 0), .int p2], SH, w)) rfl ?_
    refine EV.callF (kc := 153) (av := [.int p2, .int (kI 0), .int (kI 11)]) (r := []) (rv := some (.int (F_153 p2 (kI 0) (kI 11) w))) (w2 := w) cl_42 rfl rfl rfl (m_153 w p2 (kI 0) (kI 11)) ?_
    refine EV.z_eq cl_42 rfl (fun h2 => ?_) (fun h2 => ?_)
    · skip
      refine EV.steps cl_42 1 (q2 := (35, [some (.ref 95), some (.int p1), some (.int p2)], [.int (kI 0)], SH, w)) rfl ?_
      refine EV.ret cl_42 rfl rfl rfl ?_
      exact ⟨(by simp only [F_42_95, if_neg h1, if_pos h2]), rfl, rfl⟩
    · skip
      refine EV.steps cl_42 7 (q2 := (30, [some (.ref 95), some (.int p1), some (.int p2)], [.int ((p1 * (kI 12)) + p2), .ref 100], SH, w)) rfl ?_
      refine EV.iaload cl_42 rfl rfl (by decide) (ix2_153 h1 h2 (by decide) (by decide) (by decide) (by decide)) ?_
      refine EV.steps cl_42 1 (q2 := (35, [some (.ref 95), some (.int p1), some (.int p2)], [.int (w 100 ((p1 * (kI 12)) + p2).toNatClampNeg)], SH, w)) rfl ?_
      refine EV.ret cl_42 rfl rfl rfl ?_
      exact ⟨(by simp only [F_42_95, if_neg h1, if_neg h2]), rfl, rfl⟩
set_option maxRecDepth 20000 in
theorem cl_40 : RCT[40]? = some rc_40 := rfl
def F_40_95 (p1 : Int32) (p2 : Int32) (w : Wd) : Int32 := (if (F_153 p1 (kI 0) (kI 11) w) = 0 then ((if 0 ≤ ((kI 0) - (F_41_95 p2 w)) then ((kI 0) - (F_41_95 p2 w)) else 0 - ((kI 0) - (F_41_95 p2 w))) + (F_42_95 (p1 + (kI 1)) p2 w)) else ((if 0 ≤ ((w 98 p1.toNatClampNeg) - (F_41_95 p2 w)) then ((w 98 p1.toNatClampNeg) - (F_41_95 p2 w)) else 0 - ((w 98 p1.toNatClampNeg) - (F_41_95 p2 w))) + (F_42_95 (p1 + (kI 1)) p2 w)))
theorem m_40_95 {X : Scr} {d : Nat} (w : Wd) (p1 : Int32) (p2 : Int32) : CV X (d + 3) 40 [.ref 95, .int p1, .int p2] SH w (fun r s1 w1 => r = some (.int (F_40_95 p1 p2 w)) ∧ s1 = SH ∧ w1 = w) := by
  refine CV.of rfl ?_
  refine EV.steps cl_40 3 (q2 := (4, [some (.ref 95), some (.int p1), some (.int p2), none], [.int (kI 11), .int (kI 0), .int p1], SH, w)) rfl ?_
  refine EV.callF (kc := 153) (av := [.int p1, .int (kI 0), .int (kI 11)]) (r := []) (rv := some (.int (F_153 p1 (kI 0) (kI 11) w))) (w2 := w) cl_40 rfl rfl rfl (m_153 w p1 (kI 0) (kI 11)) ?_
  refine EV.z_eq cl_40 rfl (fun h1 => ?_) (fun h1 => ?_)
  · skip
    refine EV.steps cl_40 5 (q2 := (24, [some (.ref 95), some (.int p1), some (.int p2), some (.int (kI 0))], [.int p2, .ref 95, .int (kI 0)], SH, w)) rfl ?_
    refine EV.callF (kc := 41) (av := [.ref 95, .int p2]) (r := [.int (kI 0)]) (rv := some (.int (F_41_95 p2 w))) (w2 := w) cl_40 rfl rfl rfl (m_41_95 w p2) ?_
    refine EV.steps cl_40 7 (q2 := (36, [some (.ref 95), some (.int p1), some (.int p2), some (.int (kI 0))], [.int p2, .int (p1 + (kI 1)), .ref 95, .int (if 0 ≤ ((kI 0) - (F_41_95 p2 w)) then ((kI 0) - (F_41_95 p2 w)) else 0 - ((kI 0) - (F_41_95 p2 w)))], SH, w)) rfl ?_
    refine EV.callF (kc := 42) (av := [.ref 95, .int (p1 + (kI 1)), .int p2]) (r := [.int (if 0 ≤ ((kI 0) - (F_41_95 p2 w)) then ((kI 0) - (F_41_95 p2 w)) else 0 - ((kI 0) - (F_41_95 p2 w)))]) (rv := some (.int (F_42_95 (p1 + (kI 1)) p2 w))) (w2 := w) cl_40 rfl rfl rfl (m_42_95 w (p1 + (kI 1)) p2) ?_
    refine EV.steps cl_40 1 (q2 := (40, [some (.ref 95), some (.int p1), some (.int p2), some (.int (kI 0))], [.int ((if 0 ≤ ((kI 0) - (F_41_95 p2 w)) then ((kI 0) - (F_41_95 p2 w)) else 0 - ((kI 0) - (F_41_95 p2 w))) + (F_42_95 (p1 + (kI 1)) p2 w))], SH, w)) rfl ?_
    refine EV.ret cl_40 rfl rfl rfl ?_
    exact ⟨(by simp only [F_40_95, if_pos h1]), rfl, rfl⟩
  · skip
    refine EV.steps cl_40 3 (q2 := (15, [some (.ref 95), some (.int p1), some (.int p2), none], [.int p1, .ref 98], SH, w)) rfl ?_
    refine EV.iaload cl_40 rfl rfl (by decide) (ix_153 h1 (by decide)) ?_
    refine EV.steps cl_40 5 (q2 := (24, [some (.ref 95), some (.int p1), some (.int p2), some (.int (w 98 p1.toNatClampNeg))], [.int p2, .ref 95, .int (w 98 p1.toNatClampNeg)], SH, w)) rfl ?_
    refine EV.callF (kc := 41) (av := [.ref 95, .int p2]) (r := [.int (w 98 p1.toNatClampNeg)]) (rv := some (.int (F_41_95 p2 w))) (w2 := w) cl_40 rfl rfl rfl (m_41_95 w p2) ?_
    refine EV.steps cl_40 7 (q2 := (36, [some (.ref 95), some (.int p1), some (.int p2), some (.int (w 98 p1.toNatClampNeg))], [.int p2, .int (p1 + (kI 1)), .ref 95, .int (if 0 ≤ ((w 98 p1.toNatClampNeg) - (F_41_95 p2 w)) then ((w 98 p1.toNatClampNeg) - (F_41_95 p2 w)) else 0 - ((w 98 p1.toNatClampNeg) - (F_41_95 p2 w)))], SH, w)) rfl ?_
    refine EV.callF (kc := 42) (av := [.ref 95, .int (p1 + (kI 1)), .int p2]) (r := [.int (if 0 ≤ ((w 98 p1.toNatClampNeg) - (F_41_95 p2 w)) then ((w 98 p1.toNatClampNeg) - (F_41_95 p2 w)) else 0 - ((w 98 p1.toNatClampNeg) - (F_41_95 p2 w)))]) (rv := some (.int (F_42_95 (p1 + (kI 1)) p2 w))) (w2 := w) cl_40 rfl rfl rfl (m_42_95 w (p1 + (kI 1)) p2) ?_
    refine EV.steps cl_40 1 (q2 := (40, [some (.ref 95), some (.int p1), some (.int p2), some (.int (w 98 p1.toNatClampNeg))], [.int ((if 0 ≤ ((w 98 p1.toNatClampNeg) - (F_41_95 p2 w)) then ((w 98 p1.toNatClampNeg) - (F_41_95 p2 w)) else 0 - ((w 98 p1.toNatClampNeg) - (F_41_95 p2 w))) + (F_42_95 (p1 + (kI 1)) p2 w))], SH, w)) rfl ?_
    refine EV.ret cl_40 rfl rfl rfl ?_
    exact ⟨(by simp only [F_40_95, if_neg h1]), rfl, rfl⟩
set_option maxRecDepth 20000 in
theorem cl_47 : RCT[47]? = some rc_47 := rfl
def F_47_84 (p1 : Int32) (w : Wd) : Int32 := (if p1 < 0 then (kI 0) else (if (kI 12) ≤ p1 then (kI 0) else (w 85 p1.toNatClampNeg)))
theorem m_47_84 {X : Scr} {d : Nat} (w : Wd) (p1 : Int32) (i1 : ¬ p1 < 0 → ¬ (kI 12) ≤ p1 → (inB p1 12 = true)) : CV X (d + 1) 47 [.ref 84, .int p1] SH w (fun r s1 w1 => r = some (.int (F_47_84 p1 w)) ∧ s1 = SH ∧ w1 = w) := by
  refine CV.of rfl ?_
  refine EV.steps cl_47 1 (q2 := (1, [some (.ref 84), some (.int p1)], [.int p1], SH, w)) rfl ?_
  refine EV.z_lt cl_47 rfl (fun h1 => ?_) (fun h1 => ?_)
  · skip
    refine EV.steps cl_47 1 (q2 := (20, [some (.ref 84), some (.int p1)], [.int (kI 0)], SH, w)) rfl ?_
    refine EV.ret cl_47 rfl rfl rfl ?_
    exact ⟨(by simp only [F_47_84, if_pos h1]), rfl, rfl⟩
  · skip
    refine EV.steps cl_47 2 (q2 := (7, [some (.ref 84), some (.int p1)], [.int (kI 12), .int p1], SH, w)) rfl ?_
    refine EV.i_ge cl_47 rfl (fun h2 => ?_) (fun h2 => ?_)
    · skip
      refine EV.steps cl_47 1 (q2 := (20, [some (.ref 84), some (.int p1)], [.int (kI 0)], SH, w)) rfl ?_
      refine EV.ret cl_47 rfl rfl rfl ?_
      exact ⟨(by simp only [F_47_84, if_neg h1, if_pos h2]), rfl, rfl⟩
    · skip
      refine EV.steps cl_47 3 (q2 := (15, [some (.ref 84), some (.int p1)], [.int p1, .ref 85], SH, w)) rfl ?_
      refine EV.iaload cl_47 rfl rfl (by decide) (i1 h1 h2) ?_
      refine EV.steps cl_47 1 (q2 := (20, [some (.ref 84), some (.int p1)], [.int (w 85 p1.toNatClampNeg)], SH, w)) rfl ?_
      refine EV.ret cl_47 rfl rfl rfl ?_
      exact ⟨(by simp only [F_47_84, if_neg h1, if_neg h2]), rfl, rfl⟩
set_option maxRecDepth 20000 in
theorem cl_48 : RCT[48]? = some rc_48 := rfl
def F_48 (p1 : Int32) (p2 : Int32) (w : Wd) : Int32 := (if p2 = 0 then (if p1 = (kI 47) then (kI 1) else (if p1 = (kI 37) then (kI 1) else (kI 0))) else (kI 0))
theorem z1_48 (p1 : Int32) (p2 : Int32) (w : Wd) : F_48 p1 p2 w = 0 ∨ F_48 p1 p2 w = 1 := by
  unfold F_48
  (repeat' split) <;> first | exact Or.inl rfl | exact Or.inr rfl
theorem m_48 {X : Scr} {d : Nat} (w : Wd) (p1 : Int32) (p2 : Int32) : CV X (d + 1) 48 [.int p1, .int p2] SH w (fun r s1 w1 => r = some (.int (F_48 p1 p2 w)) ∧ s1 = SH ∧ w1 = w) := by
  refine CV.of rfl ?_
  refine EV.steps cl_48 1 (q2 := (1, [some (.int p1), some (.int p2)], [.int p2], SH, w)) rfl ?_
  refine EV.z_ne cl_48 rfl (fun h1 => ?_) (fun h1 => ?_)
  · skip
    refine EV.steps cl_48 1 (q2 := (21, [some (.int p1), some (.int p2)], [.int (kI 0)], SH, w)) rfl ?_
    refine EV.ret cl_48 rfl rfl rfl ?_
    exact ⟨(by simp only [F_48, if_neg h1]), rfl, rfl⟩
  · skip
    refine EV.steps cl_48 2 (q2 := (7, [some (.int p1), some (.int p2)], [.int (kI 47), .int p1], SH, w)) rfl ?_
    refine EV.i_eq cl_48 rfl (fun h2 => ?_) (fun h2 => ?_)
    · skip
      refine EV.steps cl_48 2 (q2 := (21, [some (.int p1), some (.int p2)], [.int (kI 1)], SH, w)) rfl ?_
      refine EV.ret cl_48 rfl rfl rfl ?_
      exact ⟨(by simp only [F_48, if_pos h1, if_pos h2]), rfl, rfl⟩
    · skip
      refine EV.steps cl_48 2 (q2 := (13, [some (.int p1), some (.int p2)], [.int (kI 37), .int p1], SH, w)) rfl ?_
      refine EV.i_ne cl_48 rfl (fun h3 => ?_) (fun h3 => ?_)
      · skip
        refine EV.steps cl_48 1 (q2 := (21, [some (.int p1), some (.int p2)], [.int (kI 0)], SH, w)) rfl ?_
        refine EV.ret cl_48 rfl rfl rfl ?_
        exact ⟨(by simp only [F_48, if_pos h1, if_neg h2, if_neg h3]), rfl, rfl⟩
      · skip
        refine EV.steps cl_48 2 (q2 := (21, [some (.int p1), some (.int p2)], [.int (kI 1)], SH, w)) rfl ?_
        refine EV.ret cl_48 rfl rfl rfl ?_
        exact ⟨(by simp only [F_48, if_pos h1, if_neg h2, if_pos h3]), rfl, rfl⟩
set_option maxRecDepth 20000 in
theorem cl_49 : RCT[49]? = some rc_49 := rfl
def F_49 (p1 : Int32) (p2 : Int32) (p3 : Int32) (w : Wd) : Int32 := (if p1 = (kI 37) then (if p3 = 0 then (kI 0) else (p2 - p2 / p3 * p3)) else (if p1 = (kI 42) then (p2 * p3) else (if p1 = (kI 43) then (p2 + p3) else (if p1 = (kI 45) then (p2 - p3) else (if p1 = (kI 47) then (if p3 = 0 then (kI 0) else (p2 / p3)) else (if p1 = (kI 60) then (if p3 ≤ p2 then (kI 0) else (kI 1)) else (if p1 = (kI 62) then (if p2 ≤ p3 then (kI 0) else (kI 1)) else (if p2 = p3 then (kI 1) else (kI 0)))))))))
theorem m_49 {X : Scr} {d : Nat} (w : Wd) (p1 : Int32) (p2 : Int32) (p3 : Int32) (i1 : p1 = (kI 37) → ¬ p3 = 0 → (¬ p3 = 0)) (i2 : ¬ p1 = (kI 37) → ¬ p1 = (kI 42) → ¬ p1 = (kI 43) → ¬ p1 = (kI 45) → p1 = (kI 47) → ¬ p3 = 0 → (¬ p3 = 0)) : CV X (d + 1) 49 [.int p1, .int p2, .int p3] SH w (fun r s1 w1 => r = some (.int (F_49 p1 p2 p3 w)) ∧ s1 = SH ∧ w1 = w) := by
  refine CV.of rfl ?_
  refine EV.steps cl_49 1 (q2 := (1, [some (.int p1), some (.int p2), some (.int p3)], [.int p1], SH, w)) rfl ?_
  by_cases h1 : p1 = (kI 37)
  · refine EV.swEq (e := (kI 37)) cl_49 rfl rfl h1 rfl ?_
    refine EV.steps cl_49 1 (q2 := (93, [some (.int p1), some (.int p2), some (.int p3)], [.int p3], SH, w)) rfl ?_
    refine EV.z_ne cl_49 rfl (fun h2 => ?_) (fun h2 => ?_)
    · skip
      refine EV.steps cl_49 2 (q2 := (102, [some (.int p1), some (.int p2), some (.int p3)], [.int p3, .int p2], SH, w)) rfl ?_
      refine EV.irem cl_49 rfl (i1 h1 h2) ?_
      refine EV.ret cl_49 rfl rfl rfl ?_
      exact ⟨(by simp only [F_49, if_pos h1, if_neg h2]), rfl, rfl⟩
    · skip
      refine EV.steps cl_49 2 (q2 := (103, [some (.int p1), some (.int p2), some (.int p3)], [.int (kI 0)], SH, w)) rfl ?_
      refine EV.ret cl_49 rfl rfl rfl ?_
      exact ⟨(by simp only [F_49, if_pos h1, if_pos h2]), rfl, rfl⟩
  by_cases h3 : p1 = (kI 42)
  · refine EV.swEq (e := (kI 42)) cl_49 rfl rfl h3 rfl ?_
    refine EV.steps cl_49 3 (q2 := (79, [some (.int p1), some (.int p2), some (.int p3)], [.int (p2 * p3)], SH, w)) rfl ?_
    refine EV.ret cl_49 rfl rfl rfl ?_
    exact ⟨(by simp only [F_49, if_neg h1, if_pos h3]), rfl, rfl⟩
  by_cases h4 : p1 = (kI 43)
  · refine EV.swEq (e := (kI 43)) cl_49 rfl rfl h4 rfl ?_
    refine EV.steps cl_49 3 (q2 := (71, [some (.int p1), some (.int p2), some (.int p3)], [.int (p2 + p3)], SH, w)) rfl ?_
    refine EV.ret cl_49 rfl rfl rfl ?_
    exact ⟨(by simp only [F_49, if_neg h1, if_neg h3, if_pos h4]), rfl, rfl⟩
  by_cases h5 : p1 = (kI 45)
  · refine EV.swEq (e := (kI 45)) cl_49 rfl rfl h5 rfl ?_
    refine EV.steps cl_49 3 (q2 := (75, [some (.int p1), some (.int p2), some (.int p3)], [.int (p2 - p3)], SH, w)) rfl ?_
    refine EV.ret cl_49 rfl rfl rfl ?_
    exact ⟨(by simp only [F_49, if_neg h1, if_neg h3, if_neg h4, if_pos h5]), rfl, rfl⟩
  by_cases h6 : p1 = (kI 47)
  · refine EV.swEq (e := (kI 47)) cl_49 rfl rfl h6 rfl ?_
    refine EV.steps cl_49 1 (q2 := (81, [some (.int p1), some (.int p2), some (.int p3)], [.int p3], SH, w)) rfl ?_
    refine EV.z_ne cl_49 rfl (fun h7 => ?_) (fun h7 => ?_)
    · skip
      refine EV.steps cl_49 2 (q2 := (90, [some (.int p1), some (.int p2), some (.int p3)], [.int p3, .int p2], SH, w)) rfl ?_
      refine EV.idiv cl_49 rfl (i2 h1 h3 h4 h5 h6 h7) ?_
      refine EV.ret cl_49 rfl rfl rfl ?_
      exact ⟨(by simp only [F_49, if_neg h1, if_neg h3, if_neg h4, if_neg h5, if_pos h6, if_neg h7]), rfl, rfl⟩
    · skip
      refine EV.steps cl_49 2 (q2 := (91, [some (.int p1), some (.int p2), some (.int p3)], [.int (kI 0)], SH, w)) rfl ?_
      refine EV.ret cl_49 rfl rfl rfl ?_
      exact ⟨(by simp only [F_49, if_neg h1, if_neg h3, if_neg h4, if_neg h5, if_pos h6, if_pos h7]), rfl, rfl⟩
  by_cases h8 : p1 = (kI 60)
  · refine EV.swEq (e := (kI 60)) cl_49 rfl rfl h8 rfl ?_
    refine EV.steps cl_49 2 (q2 := (106, [some (.int p1), some (.int p2), some (.int p3)], [.int p3, .int p2], SH, w)) rfl ?_
    refine EV.i_ge cl_49 rfl (fun h9 => ?_) (fun h9 => ?_)
    · skip
      refine EV.steps cl_49 1 (q2 := (114, [some (.int p1), some (.int p2), some (.int p3)], [.int (kI 0)], SH, w)) rfl ?_
      refine EV.ret cl_49 rfl rfl rfl ?_
      exact ⟨(by simp only [F_49, if_neg h1, if_neg h3, if_neg h4, if_neg h5, if_neg h6, if_pos h8, if_pos h9]), rfl, rfl⟩
    · skip
      refine EV.steps cl_49 2 (q2 := (114, [some (.int p1), some (.int p2), some (.int p3)], [.int (kI 1)], SH, w)) rfl ?_
      refine EV.ret cl_49 rfl rfl rfl ?_
      exact ⟨(by simp only [F_49, if_neg h1, if_neg h3, if_neg h4, if_neg h5, if_neg h6, if_pos h8, if_neg h9]), rfl, rfl⟩
  by_cases h10 : p1 = (kI 62)
  · refine EV.swEq (e := (kI 62)) cl_49 rfl rfl h10 rfl ?_
    refine EV.steps cl_49 2 (q2 := (117, [some (.int p1), some (.int p2), some (.int p3)], [.int p3, .int p2], SH, w)) rfl ?_
    refine EV.i_le cl_49 rfl (fun h11 => ?_) (fun h11 => ?_)
    · skip
      refine EV.steps cl_49 1 (q2 := (125, [some (.int p1), some (.int p2), some (.int p3)], [.int (kI 0)], SH, w)) rfl ?_
      refine EV.ret cl_49 rfl rfl rfl ?_
      exact ⟨(by simp only [F_49, if_neg h1, if_neg h3, if_neg h4, if_neg h5, if_neg h6, if_neg h8, if_pos h10, if_pos h11]), rfl, rfl⟩
    · skip
      refine EV.steps cl_49 2 (q2 := (125, [some (.int p1), some (.int p2), some (.int p3)], [.int (kI 1)], SH, w)) rfl ?_
      refine EV.ret cl_49 rfl rfl rfl ?_
      exact ⟨(by simp only [F_49, if_neg h1, if_neg h3, if_neg h4, if_neg h5, if_neg h6, if_neg h8, if_pos h10, if_neg h11]), rfl, rfl⟩
  refine EV.swL cl_49 rfl (by intro q hq; simp only [List.mem_cons, List.not_mem_nil, or_false] at hq; rcases hq with rfl | rfl | rfl | rfl | rfl | rfl | rfl <;> first | exact fun e => sw_ne h1 (by decide) e.symm | exact fun e => sw_ne h3 (by decide) e.symm | exact fun e => sw_ne h4 (by decide) e.symm | exact fun e => sw_ne h5 (by decide) e.symm | exact fun e => sw_ne h6 (by decide) e.symm | exact fun e => sw_ne h8 (by decide) e.symm | exact fun e => sw_ne h10 (by decide) e.symm) ?_
  refine EV.steps cl_49 2 (q2 := (128, [some (.int p1), some (.int p2), some (.int p3)], [.int p3, .int p2], SH, w)) rfl ?_
  refine EV.i_ne cl_49 rfl (fun h12 => ?_) (fun h12 => ?_)
  · skip
    refine EV.steps cl_49 1 (q2 := (136, [some (.int p1), some (.int p2), some (.int p3)], [.int (kI 0)], SH, w)) rfl ?_
    refine EV.ret cl_49 rfl rfl rfl ?_
    exact ⟨(by simp only [F_49, if_neg h1, if_neg h3, if_neg h4, if_neg h5, if_neg h6, if_neg h8, if_neg h10, if_neg h12]), rfl, rfl⟩
  · skip
    refine EV.steps cl_49 2 (q2 := (136, [some (.int p1), some (.int p2), some (.int p3)], [.int (kI 1)], SH, w)) rfl ?_
    refine EV.ret cl_49 rfl rfl rfl ?_
    exact ⟨(by simp only [F_49, if_neg h1, if_neg h3, if_neg h4, if_neg h5, if_neg h6, if_neg h8, if_neg h10, if_pos h12]), rfl, rfl⟩
set_option maxRecDepth 20000 in
theorem cl_51 : RCT[51]? = some rc_51 := rfl
def F_51_3 (p1 : Int32) (w : Wd) : Int32 := (if (F_153 p1 (kI 0) (kI 5) w) = 0 then (kI 0) else (if (F_154 (w 3 3) p1 w) = 0 then (kI 0) else (kI 1)))
theorem z1_51_3 (p1 : Int32) (w : Wd) : F_51_3 p1 w = 0 ∨ F_51_3 p1 w = 1 := by
  unfold F_51_3
  (repeat' split) <;> first | exact Or.inl rfl | exact Or.inr rfl
theorem m_51_3 {X : Scr} {d : Nat} (w : Wd) (p1 : Int32) : CV X (d + 2) 51 [.ref 3, .int p1] SH w (fun r s1 w1 => r = some (.int (F_51_3 p1 w)) ∧ s1 = SH ∧ w1 = w) := by
  refine CV.of rfl ?_
  refine EV.steps cl_51 3 (q2 := (3, [some (.ref 3), some (.int p1)], [.int (kI 5), .int (kI 0), .int p1], SH, w)) rfl ?_
  refine EV.callF (kc := 153) (av := [.int p1, .int (kI 0), .int (kI 5)]) (r := []) (rv := some (.int (F_153 p1 (kI 0) (kI 5) w))) (w2 := w) cl_51 rfl rfl rfl (m_153 w p1 (kI 0) (kI 5)) ?_
  refine EV.z_eq cl_51 rfl (fun h1 => ?_) (fun h1 => ?_)
  · skip
    refine EV.steps cl_51 1 (q2 := (25, [some (.ref 3), some (.int p1)], [.int (kI 0)], SH, w)) rfl ?_
    refine EV.ret cl_51 rfl rfl rfl ?_
    exact ⟨(by simp only [F_51_3, if_pos h1]), rfl, rfl⟩
  · skip
    refine EV.steps cl_51 3 (q2 := (14, [some (.ref 3), some (.int p1)], [.int p1, .int (w 3 3)], SH, w)) rfl ?_
    refine EV.callF (kc := 154) (av := [.int (w 3 3), .int p1]) (r := []) (rv := some (.int (F_154 (w 3 3) p1 w))) (w2 := w) cl_51 rfl rfl rfl (m_154 w (w 3 3) p1) ?_
    refine EV.z_eq cl_51 rfl (fun h2 => ?_) (fun h2 => ?_)
    · skip
      refine EV.steps cl_51 1 (q2 := (25, [some (.ref 3), some (.int p1)], [.int (kI 0)], SH, w)) rfl ?_
      refine EV.ret cl_51 rfl rfl rfl ?_
      exact ⟨(by simp only [F_51_3, if_neg h1, if_pos h2]), rfl, rfl⟩
    · skip
      refine EV.steps cl_51 2 (q2 := (25, [some (.ref 3), some (.int p1)], [.int (kI 1)], SH, w)) rfl ?_
      refine EV.ret cl_51 rfl rfl rfl ?_
      exact ⟨(by simp only [F_51_3, if_neg h1, if_neg h2]), rfl, rfl⟩
set_option maxRecDepth 20000 in
theorem cl_52 : RCT[52]? = some rc_52 := rfl
def F_52_3 (p1 : Int32) (w : Wd) : Int32 := (if (F_153 p1 (kI 0) (kI 5) w) = 0 then (kI 0) else (if (F_154 (w 3 4) p1 w) = 0 then (kI 0) else (kI 1)))
theorem z1_52_3 (p1 : Int32) (w : Wd) : F_52_3 p1 w = 0 ∨ F_52_3 p1 w = 1 := by
  unfold F_52_3
  (repeat' split) <;> first | exact Or.inl rfl | exact Or.inr rfl
theorem m_52_3 {X : Scr} {d : Nat} (w : Wd) (p1 : Int32) : CV X (d + 2) 52 [.ref 3, .int p1] SH w (fun r s1 w1 => r = some (.int (F_52_3 p1 w)) ∧ s1 = SH ∧ w1 = w) := by
  refine CV.of rfl ?_
  refine EV.steps cl_52 3 (q2 := (3, [some (.ref 3), some (.int p1)], [.int (kI 5), .int (kI 0), .int p1], SH, w)) rfl ?_
  refine EV.callF (kc := 153) (av := [.int p1, .int (kI 0), .int (kI 5)]) (r := []) (rv := some (.int (F_153 p1 (kI 0) (kI 5) w))) (w2 := w) cl_52 rfl rfl rfl (m_153 w p1 (kI 0) (kI 5)) ?_
  refine EV.z_eq cl_52 rfl (fun h1 => ?_) (fun h1 => ?_)
  · skip
    refine EV.steps cl_52 1 (q2 := (25, [some (.ref 3), some (.int p1)], [.int (kI 0)], SH, w)) rfl ?_
    refine EV.ret cl_52 rfl rfl rfl ?_
    exact ⟨(by simp only [F_52_3, if_pos h1]), rfl, rfl⟩
  · skip
    refine EV.steps cl_52 3 (q2 := (14, [some (.ref 3), some (.int p1)], [.int p1, .int (w 3 4)], SH, w)) rfl ?_
    refine EV.callF (kc := 154) (av := [.int (w 3 4), .int p1]) (r := []) (rv := some (.int (F_154 (w 3 4) p1 w))) (w2 := w) cl_52 rfl rfl rfl (m_154 w (w 3 4) p1) ?_
    refine EV.z_eq cl_52 rfl (fun h2 => ?_) (fun h2 => ?_)
    · skip
      refine EV.steps cl_52 1 (q2 := (25, [some (.ref 3), some (.int p1)], [.int (kI 0)], SH, w)) rfl ?_
      refine EV.ret cl_52 rfl rfl rfl ?_
      exact ⟨(by simp only [F_52_3, if_neg h1, if_pos h2]), rfl, rfl⟩
    · skip
      refine EV.steps cl_52 2 (q2 := (25, [some (.ref 3), some (.int p1)], [.int (kI 1)], SH, w)) rfl ?_
      refine EV.ret cl_52 rfl rfl rfl ?_
      exact ⟨(by simp only [F_52_3, if_neg h1, if_neg h2]), rfl, rfl⟩
set_option maxRecDepth 20000 in
theorem cl_53 : RCT[53]? = some rc_53 := rfl
def F_53_3 (p1 : Int32) (w : Wd) : Int32 := (if (F_153 p1 (kI 0) (kI 5) w) = 0 then (kI 0) else (w 4 p1.toNatClampNeg))
theorem m_53_3 {X : Scr} {d : Nat} (w : Wd) (p1 : Int32) : CV X (d + 2) 53 [.ref 3, .int p1] SH w (fun r s1 w1 => r = some (.int (F_53_3 p1 w)) ∧ s1 = SH ∧ w1 = w) := by
  refine CV.of rfl ?_
  refine EV.steps cl_53 3 (q2 := (3, [some (.ref 3), some (.int p1)], [.int (kI 5), .int (kI 0), .int p1], SH, w)) rfl ?_
  refine EV.callF (kc := 153) (av := [.int p1, .int (kI 0), .int (kI 5)]) (r := []) (rv := some (.int (F_153 p1 (kI 0) (kI 5) w))) (w2 := w) cl_53 rfl rfl rfl (m_153 w p1 (kI 0) (kI 5)) ?_
  refine EV.z_eq cl_53 rfl (fun h1 => ?_) (fun h1 => ?_)
  · skip
    refine EV.steps cl_53 1 (q2 := (19, [some (.ref 3), some (.int p1)], [.int (kI 0)], SH, w)) rfl ?_
    refine EV.ret cl_53 rfl rfl rfl ?_
    exact ⟨(by simp only [F_53_3, if_pos h1]), rfl, rfl⟩
  · skip
    refine EV.steps cl_53 3 (q2 := (14, [some (.ref 3), some (.int p1)], [.int p1, .ref 4], SH, w)) rfl ?_
    refine EV.iaload cl_53 rfl rfl (by decide) (ix_153 h1 (by decide)) ?_
    refine EV.steps cl_53 1 (q2 := (19, [some (.ref 3), some (.int p1)], [.int (w 4 p1.toNatClampNeg)], SH, w)) rfl ?_
    refine EV.ret cl_53 rfl rfl rfl ?_
    exact ⟨(by simp only [F_53_3, if_neg h1]), rfl, rfl⟩
set_option maxRecDepth 20000 in
theorem cl_54 : RCT[54]? = some rc_54 := rfl
def F_54_3 (p1 : Int32) (w : Wd) : Int32 := (if (F_153 p1 (kI 0) (kI 5) w) = 0 then (kI 0) else (w 5 p1.toNatClampNeg))
theorem m_54_3 {X : Scr} {d : Nat} (w : Wd) (p1 : Int32) : CV X (d + 2) 54 [.ref 3, .int p1] SH w (fun r s1 w1 => r = some (.int (F_54_3 p1 w)) ∧ s1 = SH ∧ w1 = w) := by
  refine CV.of rfl ?_
  refine EV.steps cl_54 3 (q2 := (3, [some (.ref 3), some (.int p1)], [.int (kI 5), .int (kI 0), .int p1], SH, w)) rfl ?_
  refine EV.callF (kc := 153) (av := [.int p1, .int (kI 0), .int (kI 5)]) (r := []) (rv := some (.int (F_153 p1 (kI 0) (kI 5) w))) (w2 := w) cl_54 rfl rfl rfl (m_153 w p1 (kI 0) (kI 5)) ?_
  refine EV.z_eq cl_54 rfl (fun h1 => ?_) (fun h1 => ?_)
  · skip
    refine EV.steps cl_54 1 (q2 := (19, [some (.ref 3), some (.int p1)], [.int (kI 0)], SH, w)) rfl ?_
    refine EV.ret cl_54 rfl rfl rfl ?_
    exact ⟨(by simp only [F_54_3, if_pos h1]), rfl, rfl⟩
  · skip
    refine EV.steps cl_54 3 (q2 := (14, [some (.ref 3), some (.int p1)], [.int p1, .ref 5], SH, w)) rfl ?_
    refine EV.iaload cl_54 rfl rfl (by decide) (ix_153 h1 (by decide)) ?_
    refine EV.steps cl_54 1 (q2 := (19, [some (.ref 3), some (.int p1)], [.int (w 5 p1.toNatClampNeg)], SH, w)) rfl ?_
    refine EV.ret cl_54 rfl rfl rfl ?_
    exact ⟨(by simp only [F_54_3, if_neg h1]), rfl, rfl⟩
set_option maxRecDepth 20000 in
theorem cl_55 : RCT[55]? = some rc_55 := rfl
def F_55_3 (p1 : Int32) (w : Wd) : Int32 := (if (F_153 p1 (kI 0) (kI 5) w) = 0 then (kI 0) else (w 6 p1.toNatClampNeg))
theorem m_55_3 {X : Scr} {d : Nat} (w : Wd) (p1 : Int32) : CV X (d + 2) 55 [.ref 3, .int p1] SH w (fun r s1 w1 => r = some (.int (F_55_3 p1 w)) ∧ s1 = SH ∧ w1 = w) := by
  refine CV.of rfl ?_
  refine EV.steps cl_55 3 (q2 := (3, [some (.ref 3), some (.int p1)], [.int (kI 5), .int (kI 0), .int p1], SH, w)) rfl ?_
  refine EV.callF (kc := 153) (av := [.int p1, .int (kI 0), .int (kI 5)]) (r := []) (rv := some (.int (F_153 p1 (kI 0) (kI 5) w))) (w2 := w) cl_55 rfl rfl rfl (m_153 w p1 (kI 0) (kI 5)) ?_
  refine EV.z_eq cl_55 rfl (fun h1 => ?_) (fun h1 => ?_)
  · skip
    refine EV.steps cl_55 1 (q2 := (19, [some (.ref 3), some (.int p1)], [.int (kI 0)], SH, w)) rfl ?_
    refine EV.ret cl_55 rfl rfl rfl ?_
    exact ⟨(by simp only [F_55_3, if_pos h1]), rfl, rfl⟩
  · skip
    refine EV.steps cl_55 3 (q2 := (14, [some (.ref 3), some (.int p1)], [.int p1, .ref 6], SH, w)) rfl ?_
    refine EV.iaload cl_55 rfl rfl (by decide) (ix_153 h1 (by decide)) ?_
    refine EV.steps cl_55 1 (q2 := (19, [some (.ref 3), some (.int p1)], [.int (w 6 p1.toNatClampNeg)], SH, w)) rfl ?_
    refine EV.ret cl_55 rfl rfl rfl ?_
    exact ⟨(by simp only [F_55_3, if_neg h1]), rfl, rfl⟩
set_option maxRecDepth 20000 in
theorem cl_56 : RCT[56]? = some rc_56 := rfl
def G_56_3 (p1 : Int32) (p2 : Int32) (p3 : Int32) (w : Wd) : Wd := (if (F_153 p1 (kI 0) (kI 5) w) = 0 then w else (if p3 = 0 then (up2 w 6 p1.toNatClampNeg ((w 6 p1.toNatClampNeg) &&& (((kI 1) <<< (p2 &&& 31)) ^^^ (kI (-1))))) else (up2 w 6 p1.toNatClampNeg ((w 6 p1.toNatClampNeg) ||| ((kI 1) <<< (p2 &&& 31))))))
theorem m_56_3 {X : Scr} {d : Nat} (w : Wd) (p1 : Int32) (p2 : Int32) (p3 : Int32) : CV X (d + 2) 56 [.ref 3, .int p1, .int p2, .int p3] SH w (fun r s1 w1 => r = none ∧ s1 = SH ∧ w1 = G_56_3 p1 p2 p3 w) := by
  refine CV.of rfl ?_
  refine EV.steps cl_56 3 (q2 := (3, [some (.ref 3), some (.int p1), some (.int p2), some (.int p3)], [.int (kI 5), .int (kI 0), .int p1], SH, w)) rfl ?_
  refine EV.callF (kc := 153) (av := [.int p1, .int (kI 0), .int (kI 5)]) (r := []) (rv := some (.int (F_153 p1 (kI 0) (kI 5) w))) (w2 := w) cl_56 rfl rfl rfl (m_153 w p1 (kI 0) (kI 5)) ?_
  refine EV.z_eq cl_56 rfl (fun h1 => ?_) (fun h1 => ?_)
  · skip
    refine EV.ret cl_56 rfl rfl rfl ?_
    exact ⟨rfl, rfl, (by simp only [G_56_3, if_pos h1])⟩
  · skip
    refine EV.steps cl_56 4 (q2 := (15, [some (.ref 3), some (.int p1), some (.int p2), some (.int p3)], [.int p3, .int p1, .ref 6], SH, w)) rfl ?_
    refine EV.z_eq cl_56 rfl (fun h2 => ?_) (fun h2 => ?_)
    · skip
      refine EV.steps cl_56 3 (q2 := (36, [some (.ref 3), some (.int p1), some (.int p2), some (.int p3)], [.int p1, .ref 6, .int p1, .ref 6], SH, w)) rfl ?_
      refine EV.iaload cl_56 rfl rfl (by decide) (ix_153 h1 (by decide)) ?_
      refine EV.steps cl_56 6 (q2 := (43, [some (.ref 3), some (.int p1), some (.int p2), some (.int p3)], [.int ((w 6 p1.toNatClampNeg) &&& (((kI 1) <<< (p2 &&& 31)) ^^^ (kI (-1)))), .int p1, .ref 6], SH, w)) rfl ?_
      refine EV.iastore cl_56 rfl rfl (by decide) (ix_153 h1 (by decide)) ?_
      refine EV.ret cl_56 rfl rfl rfl ?_
      exact ⟨rfl, rfl, (by simp only [G_56_3, if_neg h1, if_pos h2])⟩
    · skip
      refine EV.steps cl_56 3 (q2 := (23, [some (.ref 3), some (.int p1), some (.int p2), some (.int p3)], [.int p1, .ref 6, .int p1, .ref 6], SH, w)) rfl ?_
      refine EV.iaload cl_56 rfl rfl (by decide) (ix_153 h1 (by decide)) ?_
      refine EV.steps cl_56 5 (q2 := (43, [some (.ref 3), some (.int p1), some (.int p2), some (.int p3)], [.int ((w 6 p1.toNatClampNeg) ||| ((kI 1) <<< (p2 &&& 31))), .int p1, .ref 6], SH, w)) rfl ?_
      refine EV.iastore cl_56 rfl rfl (by decide) (ix_153 h1 (by decide)) ?_
      refine EV.ret cl_56 rfl rfl rfl ?_
      exact ⟨rfl, rfl, (by simp only [G_56_3, if_neg h1, if_neg h2])⟩
set_option maxRecDepth 20000 in
theorem cl_107 : RCT[107]? = some rc_107 := rfl
def G_107_1 (p1 : Int32) (w : Wd) : Wd := (up2 (up2 (up2 w 1 2 p1) 1 3 (kI 0)) 1 4 (kI 0))
theorem m_107_1 {X : Scr} {d : Nat} (w : Wd) (p1 : Int32) : CV X (d + 1) 107 [.ref 1, .int p1] SH w (fun r s1 w1 => r = none ∧ s1 = SH ∧ w1 = G_107_1 p1 w) := by
  refine CV.of rfl ?_
  refine EV.steps cl_107 9 (q2 := (15, [some (.ref 1), some (.int p1)], [], SH, (up2 (up2 (up2 w 1 2 p1) 1 3 (kI 0)) 1 4 (kI 0)))) rfl ?_
  refine EV.ret cl_107 rfl rfl rfl ?_
  exact ⟨rfl, rfl, rfl⟩
set_option maxRecDepth 20000 in
theorem cl_77 : RCT[77]? = some rc_77 := rfl
def G_77_29  (w : Wd) : Wd := (up2 (up2 w 29 6 (kI 0)) 29 7 (kI 0))
theorem m_77_29 {X : Scr} {d : Nat} (w : Wd)  : CV X (d + 1) 77 [.ref 29] SH w (fun r s1 w1 => r = none ∧ s1 = SH ∧ w1 = G_77_29 w) := by
  refine CV.of rfl ?_
  refine EV.steps cl_77 6 (q2 := (10, [some (.ref 29)], [], SH, (up2 (up2 w 29 6 (kI 0)) 29 7 (kI 0)))) rfl ?_
  refine EV.ret cl_77 rfl rfl rfl ?_
  exact ⟨rfl, rfl, rfl⟩
set_option maxRecDepth 20000 in
theorem cl_80 : RCT[80]? = some rc_80 := rfl
def G_80_29 (p1 : Int32) (w : Wd) : Wd := (if (Int32.ofNat 16) ≤ (w 29 7) then w else (up2 (up2 (up2 w 32 (w 29 7).toNatClampNeg p1) 33 (w 29 7).toNatClampNeg (w 29 6)) 34 (w 29 7).toNatClampNeg (w 29 6)))
theorem m_80_29 {X : Scr} {d : Nat} (w : Wd) (p1 : Int32) (i1 : ¬ (Int32.ofNat 16) ≤ (w 29 7) → (inB (w 29 7) 16 = true)) : CV X (d + 1) 80 [.ref 29, .int p1] SH w (fun r s1 w1 => r = none ∧ s1 = SH ∧ w1 = G_80_29 p1 w) := by
  refine CV.of rfl ?_
  refine EV.steps cl_80 5 (q2 := (9, [some (.ref 29), some (.int p1)], [.int (Int32.ofNat 16), .int (w 29 7)], SH, w)) rfl ?_
  refine EV.i_ge cl_80 rfl (fun h1 => ?_) (fun h1 => ?_)
  · skip
    refine EV.ret cl_80 rfl rfl rfl ?_
    exact ⟨rfl, rfl, (by simp only [G_80_29, if_pos h1])⟩
  · skip
    refine EV.steps cl_80 5 (q2 := (21, [some (.ref 29), some (.int p1)], [.int p1, .int (w 29 7), .ref 32], SH, w)) rfl ?_
    refine EV.iastore cl_80 rfl rfl (by decide) (i1 h1) ?_
    refine EV.steps cl_80 6 (q2 := (34, [some (.ref 29), some (.int p1)], [.int (w 29 6), .int (w 29 7), .ref 33], SH, (up2 w 32 (w 29 7).toNatClampNeg p1))) rfl ?_
    refine EV.iastore cl_80 rfl rfl (by decide) (i1 h1) ?_
    refine EV.steps cl_80 6 (q2 := (47, [some (.ref 29), some (.int p1)], [.int (w 29 6), .int (w 29 7), .ref 34], SH, (up2 (up2 w 32 (w 29 7).toNatClampNeg p1) 33 (w 29 7).toNatClampNeg (w 29 6)))) rfl ?_
    refine EV.iastore cl_80 rfl rfl (by decide) (i1 h1) ?_
    refine EV.ret cl_80 rfl rfl rfl ?_
    exact ⟨rfl, rfl, (by simp only [G_80_29, if_neg h1])⟩
set_option maxRecDepth 20000 in
theorem cl_106 : RCT[106]? = some rc_106 := rfl
def F_106_1 (p1 : Int32) (w : Wd) : Int32 := (if p1 < 0 then (kI (-1)) else (if (w 1 1) ≤ p1 then (kI (-1)) else (w 2 p1.toNatClampNeg)))
theorem m_106_1 {X : Scr} {d : Nat} (w : Wd) (p1 : Int32) (i1 : ¬ p1 < 0 → ¬ (w 1 1) ≤ p1 → (inB p1 260 = true)) : CV X (d + 1) 106 [.ref 1, .int p1] SH w (fun r s1 w1 => r = some (.int (F_106_1 p1 w)) ∧ s1 = SH ∧ w1 = w) := by
  refine CV.of rfl ?_
  refine EV.steps cl_106 1 (q2 := (1, [some (.ref 1), some (.int p1)], [.int p1], SH, w)) rfl ?_
  refine EV.z_lt cl_106 rfl (fun h1 => ?_) (fun h1 => ?_)
  · skip
    refine EV.steps cl_106 1 (q2 := (22, [some (.ref 1), some (.int p1)], [.int (kI (-1))], SH, w)) rfl ?_
    refine EV.ret cl_106 rfl rfl rfl ?_
    exact ⟨(by simp only [F_106_1, if_pos h1]), rfl, rfl⟩
  · skip
    refine EV.steps cl_106 3 (q2 := (9, [some (.ref 1), some (.int p1)], [.int (w 1 1), .int p1], SH, w)) rfl ?_
    refine EV.i_ge cl_106 rfl (fun h2 => ?_) (fun h2 => ?_)
    · skip
      refine EV.steps cl_106 1 (q2 := (22, [some (.ref 1), some (.int p1)], [.int (kI (-1))], SH, w)) rfl ?_
      refine EV.ret cl_106 rfl rfl rfl ?_
      exact ⟨(by simp only [F_106_1, if_neg h1, if_pos h2]), rfl, rfl⟩
    · skip
      refine EV.steps cl_106 3 (q2 := (17, [some (.ref 1), some (.int p1)], [.int p1, .ref 2], SH, w)) rfl ?_
      refine EV.iaload cl_106 rfl rfl (by decide) (i1 h1 h2) ?_
      refine EV.steps cl_106 1 (q2 := (22, [some (.ref 1), some (.int p1)], [.int (w 2 p1.toNatClampNeg)], SH, w)) rfl ?_
      refine EV.ret cl_106 rfl rfl rfl ?_
      exact ⟨(by simp only [F_106_1, if_neg h1, if_neg h2]), rfl, rfl⟩
set_option maxRecDepth 20000 in
theorem cl_110 : RCT[110]? = some rc_110 := rfl
def F_110_1  (w : Wd) : Int32 := (if (w 1 2) ≤ (w 1 3) then (kI (-1)) else (if (w 1 1) ≤ (w 1 3) then (kI (-1)) else (w 2 (w 1 3).toNatClampNeg)))
theorem m_110_1 {X : Scr} {d : Nat} (w : Wd)  (i1 : ¬ (w 1 2) ≤ (w 1 3) → (¬ (w 1 1) ≤ (w 1 3) → (inB (w 1 3) 260 = true))) : CV X (d + 2) 110 [.ref 1] SH w (fun r s1 w1 => r = some (.int (F_110_1 w)) ∧ s1 = SH ∧ w1 = w) := by
  refine CV.of rfl ?_
  refine EV.steps cl_110 4 (q2 := (8, [some (.ref 1)], [.int (w 1 2), .int (w 1 3)], SH, w)) rfl ?_
  refine EV.i_ge cl_110 rfl (fun h1 => ?_) (fun h1 => ?_)
  · skip
    refine EV.steps cl_110 1 (q2 := (35, [some (.ref 1)], [.int (kI (-1))], SH, w)) rfl ?_
    refine EV.ret cl_110 rfl rfl rfl ?_
    exact ⟨(by simp only [F_110_1, if_pos h1]), rfl, rfl⟩
  · skip
    refine EV.steps cl_110 4 (q2 := (19, [some (.ref 1)], [.int (w 1 1), .int (w 1 3)], SH, w)) rfl ?_
    refine EV.i_ge cl_110 rfl (fun h2 => ?_) (fun h2 => ?_)
    · skip
      refine EV.steps cl_110 1 (q2 := (35, [some (.ref 1)], [.int (kI (-1))], SH, w)) rfl ?_
      refine EV.ret cl_110 rfl rfl rfl ?_
      exact ⟨(by simp only [F_110_1, if_neg h1, if_pos h2]), rfl, rfl⟩
    · skip
      refine EV.steps cl_110 4 (q2 := (30, [some (.ref 1)], [.int (w 1 3), .ref 2], SH, w)) rfl ?_
      refine EV.iaload cl_110 rfl rfl (by decide) (i1 h1 h2) ?_
      refine EV.steps cl_110 1 (q2 := (35, [some (.ref 1)], [.int (w 2 (w 1 3).toNatClampNeg)], SH, w)) rfl ?_
      refine EV.ret cl_110 rfl rfl rfl ?_
      exact ⟨(by simp only [F_110_1, if_neg h1, if_neg h2]), rfl, rfl⟩
set_option maxRecDepth 20000 in
theorem cl_112 : RCT[112]? = some rc_112 := rfl
def G_112_1  (w : Wd) : Wd := (up2 w 1 3 ((w 1 3) + (kI 1)))
theorem m_112_1 {X : Scr} {d : Nat} (w : Wd)  : CV X (d + 1) 112 [.ref 1] SH w (fun r s1 w1 => r = none ∧ s1 = SH ∧ w1 = G_112_1 w) := by
  refine CV.of rfl ?_
  refine EV.steps cl_112 6 (q2 := (10, [some (.ref 1)], [], SH, (up2 w 1 3 ((w 1 3) + (kI 1))))) rfl ?_
  refine EV.ret cl_112 rfl rfl rfl ?_
  exact ⟨rfl, rfl, rfl⟩
set_option maxRecDepth 20000 in
theorem cl_81 : RCT[81]? = some rc_81 := rfl
def G_81_29  (w : Wd) : Wd := (if (Int32.ofNat 16) ≤ (w 29 7) then w else (up2 w 34 (w 29 7).toNatClampNeg (w 29 6)))
theorem m_81_29 {X : Scr} {d : Nat} (w : Wd)  (i1 : ¬ (Int32.ofNat 16) ≤ (w 29 7) → (inB (w 29 7) 16 = true)) : CV X (d + 1) 81 [.ref 29] SH w (fun r s1 w1 => r = none ∧ s1 = SH ∧ w1 = G_81_29 w) := by
  refine CV.of rfl ?_
  refine EV.steps cl_81 5 (q2 := (9, [some (.ref 29)], [.int (Int32.ofNat 16), .int (w 29 7)], SH, w)) rfl ?_
  refine EV.i_ge cl_81 rfl (fun h1 => ?_) (fun h1 => ?_)
  · skip
    refine EV.ret cl_81 rfl rfl rfl ?_
    exact ⟨rfl, rfl, (by simp only [G_81_29, if_pos h1])⟩
  · skip
    refine EV.steps cl_81 6 (q2 := (24, [some (.ref 29)], [.int (w 29 6), .int (w 29 7), .ref 34], SH, w)) rfl ?_
    refine EV.iastore cl_81 rfl rfl (by decide) (i1 h1) ?_
    refine EV.ret cl_81 rfl rfl rfl ?_
    exact ⟨rfl, rfl, (by simp only [G_81_29, if_neg h1])⟩
set_option maxRecDepth 20000 in
theorem cl_73 : RCT[73]? = some rc_73 := rfl
def F_73 (p1 : Int32) (w : Wd) : Int32 := (if p1 = (kI 43) then (kI 1) else (if p1 = (kI 45) then (kI 1) else (kI 0)))
theorem z1_73 (p1 : Int32) (w : Wd) : F_73 p1 w = 0 ∨ F_73 p1 w = 1 := by
  unfold F_73
  (repeat' split) <;> first | exact Or.inl rfl | exact Or.inr rfl
theorem m_73 {X : Scr} {d : Nat} (w : Wd) (p1 : Int32) : CV X (d + 1) 73 [.int p1] SH w (fun r s1 w1 => r = some (.int (F_73 p1 w)) ∧ s1 = SH ∧ w1 = w) := by
  refine CV.of rfl ?_
  refine EV.steps cl_73 2 (q2 := (3, [some (.int p1)], [.int (kI 43), .int p1], SH, w)) rfl ?_
  refine EV.i_eq cl_73 rfl (fun h1 => ?_) (fun h1 => ?_)
  · skip
    refine EV.steps cl_73 2 (q2 := (17, [some (.int p1)], [.int (kI 1)], SH, w)) rfl ?_
    refine EV.ret cl_73 rfl rfl rfl ?_
    exact ⟨(by simp only [F_73, if_pos h1]), rfl, rfl⟩
  · skip
    refine EV.steps cl_73 2 (q2 := (9, [some (.int p1)], [.int (kI 45), .int p1], SH, w)) rfl ?_
    refine EV.i_ne cl_73 rfl (fun h2 => ?_) (fun h2 => ?_)
    · skip
      refine EV.steps cl_73 1 (q2 := (17, [some (.int p1)], [.int (kI 0)], SH, w)) rfl ?_
      refine EV.ret cl_73 rfl rfl rfl ?_
      exact ⟨(by simp only [F_73, if_neg h1, if_neg h2]), rfl, rfl⟩
    · skip
      refine EV.steps cl_73 2 (q2 := (17, [some (.int p1)], [.int (kI 1)], SH, w)) rfl ?_
      refine EV.ret cl_73 rfl rfl rfl ?_
      exact ⟨(by simp only [F_73, if_neg h1, if_pos h2]), rfl, rfl⟩
set_option maxRecDepth 20000 in
theorem cl_74 : RCT[74]? = some rc_74 := rfl
def F_74 (p1 : Int32) (w : Wd) : Int32 := (if p1 = (kI 42) then (kI 1) else (if p1 = (kI 47) then (kI 1) else (if p1 = (kI 37) then (kI 1) else (kI 0))))
theorem z1_74 (p1 : Int32) (w : Wd) : F_74 p1 w = 0 ∨ F_74 p1 w = 1 := by
  unfold F_74
  (repeat' split) <;> first | exact Or.inl rfl | exact Or.inr rfl
theorem m_74 {X : Scr} {d : Nat} (w : Wd) (p1 : Int32) : CV X (d + 1) 74 [.int p1] SH w (fun r s1 w1 => r = some (.int (F_74 p1 w)) ∧ s1 = SH ∧ w1 = w) := by
  refine CV.of rfl ?_
  refine EV.steps cl_74 2 (q2 := (3, [some (.int p1)], [.int (kI 42), .int p1], SH, w)) rfl ?_
  refine EV.i_eq cl_74 rfl (fun h1 => ?_) (fun h1 => ?_)
  · skip
    refine EV.steps cl_74 2 (q2 := (23, [some (.int p1)], [.int (kI 1)], SH, w)) rfl ?_
    refine EV.ret cl_74 rfl rfl rfl ?_
    exact ⟨(by simp only [F_74, if_pos h1]), rfl, rfl⟩
  · skip
    refine EV.steps cl_74 2 (q2 := (9, [some (.int p1)], [.int (kI 47), .int p1], SH, w)) rfl ?_
    refine EV.i_eq cl_74 rfl (fun h2 => ?_) (fun h2 => ?_)
    · skip
      refine EV.steps cl_74 2 (q2 := (23, [some (.int p1)], [.int (kI 1)], SH, w)) rfl ?_
      refine EV.ret cl_74 rfl rfl rfl ?_
      exact ⟨(by simp only [F_74, if_neg h1, if_pos h2]), rfl, rfl⟩
    · skip
      refine EV.steps cl_74 2 (q2 := (15, [some (.int p1)], [.int (kI 37), .int p1], SH, w)) rfl ?_
      refine EV.i_ne cl_74 rfl (fun h3 => ?_) (fun h3 => ?_)
      · skip
        refine EV.steps cl_74 1 (q2 := (23, [some (.int p1)], [.int (kI 0)], SH, w)) rfl ?_
        refine EV.ret cl_74 rfl rfl rfl ?_
        exact ⟨(by simp only [F_74, if_neg h1, if_neg h2, if_neg h3]), rfl, rfl⟩
      · skip
        refine EV.steps cl_74 2 (q2 := (23, [some (.int p1)], [.int (kI 1)], SH, w)) rfl ?_
        refine EV.ret cl_74 rfl rfl rfl ?_
        exact ⟨(by simp only [F_74, if_neg h1, if_neg h2, if_pos h3]), rfl, rfl⟩
def G_77_22  (w : Wd) : Wd := (up2 (up2 w 22 6 (kI 0)) 22 7 (kI 0))
theorem m_77_22 {X : Scr} {d : Nat} (w : Wd)  : CV X (d + 1) 77 [.ref 22] SH w (fun r s1 w1 => r = none ∧ s1 = SH ∧ w1 = G_77_22 w) := by
  refine CV.of rfl ?_
  refine EV.steps cl_77 6 (q2 := (10, [some (.ref 22)], [], SH, (up2 (up2 w 22 6 (kI 0)) 22 7 (kI 0)))) rfl ?_
  refine EV.ret cl_77 rfl rfl rfl ?_
  exact ⟨rfl, rfl, rfl⟩
def G_77_37  (w : Wd) : Wd := (up2 (up2 w 37 6 (kI 0)) 37 7 (kI 0))
theorem m_77_37 {X : Scr} {d : Nat} (w : Wd)  : CV X (d + 1) 77 [.ref 37] SH w (fun r s1 w1 => r = none ∧ s1 = SH ∧ w1 = G_77_37 w) := by
  refine CV.of rfl ?_
  refine EV.steps cl_77 6 (q2 := (10, [some (.ref 37)], [], SH, (up2 (up2 w 37 6 (kI 0)) 37 7 (kI 0)))) rfl ?_
  refine EV.ret cl_77 rfl rfl rfl ?_
  exact ⟨rfl, rfl, rfl⟩
def G_77_44  (w : Wd) : Wd := (up2 (up2 w 44 6 (kI 0)) 44 7 (kI 0))
theorem m_77_44 {X : Scr} {d : Nat} (w : Wd)  : CV X (d + 1) 77 [.ref 44] SH w (fun r s1 w1 => r = none ∧ s1 = SH ∧ w1 = G_77_44 w) := by
  refine CV.of rfl ?_
  refine EV.steps cl_77 6 (q2 := (10, [some (.ref 44)], [], SH, (up2 (up2 w 44 6 (kI 0)) 44 7 (kI 0)))) rfl ?_
  refine EV.ret cl_77 rfl rfl rfl ?_
  exact ⟨rfl, rfl, rfl⟩
def G_77_51  (w : Wd) : Wd := (up2 (up2 w 51 6 (kI 0)) 51 7 (kI 0))
theorem m_77_51 {X : Scr} {d : Nat} (w : Wd)  : CV X (d + 1) 77 [.ref 51] SH w (fun r s1 w1 => r = none ∧ s1 = SH ∧ w1 = G_77_51 w) := by
  refine CV.of rfl ?_
  refine EV.steps cl_77 6 (q2 := (10, [some (.ref 51)], [], SH, (up2 (up2 w 51 6 (kI 0)) 51 7 (kI 0)))) rfl ?_
  refine EV.ret cl_77 rfl rfl rfl ?_
  exact ⟨rfl, rfl, rfl⟩
