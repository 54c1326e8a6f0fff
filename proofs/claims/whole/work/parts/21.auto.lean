theorem cl_153 : RCT[153]? = some rc_153 := rfl
def F_153 (p1 : Int32) (p2 : Int32) (p3 : Int32) (w : Wd) : Int32 := (if p1 < p2 then (kI 0) else (if p3 < p1 then (kI 0) else (kI 1)))
theorem m_153 {X : Scr} {d : Nat} (w : Wd) (p1 : Int32) (p2 : Int32) (p3 : Int32) : CV X (d + 1) 153 [.int p1, .int p2, .int p3] SH w (fun r s1 w1 => r = some (.int (F_153 p1 p2 p3 w)) ∧ s1 = SH ∧ w1 = w) := by
  refine CV.of rfl ?_
  refine EV.steps cl_153 2 (q2 := (2, [some (.int p1), some (.int p2), some (.int p3)], [.int p2, .int p1], SH, w)) rfl ?_
  refine EV.i_lt cl_153 rfl (fun h1 => ?_) (fun h1 => ?_)
  · skip
    refine EV.steps cl_153 1 (q2 := (15, [some (.int p1), some (.int p2), some (.int p3)], [.int (kI 0)], SH, w)) rfl ?_
    refine EV.ret cl_153 rfl rfl rfl ?_
    exact ⟨(by simp only [F_153, if_pos h1]), rfl, rfl⟩
  · skip
    refine EV.steps cl_153 2 (q2 := (7, [some (.int p1), some (.int p2), some (.int p3)], [.int p3, .int p1], SH, w)) rfl ?_
    refine EV.i_gt cl_153 rfl (fun h2 => ?_) (fun h2 => ?_)
    · skip
      refine EV.steps cl_153 1 (q2 := (15, [some (.int p1), some (.int p2), some (.int p3)], [.int (kI 0)], SH, w)) rfl ?_
      refine EV.ret cl_153 rfl rfl rfl ?_
      exact ⟨(by simp only [F_153, if_neg h1, if_pos h2]), rfl, rfl⟩
    · skip
      refine EV.steps cl_153 2 (q2 := (15, [some (.int p1), some (.int p2), some (.int p3)], [.int (kI 1)], SH, w)) rfl ?_
      refine EV.ret cl_153 rfl rfl rfl ?_
      exact ⟨(by simp only [F_153, if_neg h1, if_neg h2]), rfl, rfl⟩
theorem wi_153 {p : Int32} {a b : Int} {w : Wd} (h : ¬ F_153 p (kI a) (kI b) w = 0) (ha : -1000000 ≤ a ∧ a ≤ 1000000) (hb : -1000000 ≤ b ∧ b ≤ 1000000) : a ≤ p.toInt ∧ p.toInt ≤ b := by
  unfold F_153 at h
  by_cases h1 : p < kI a
  · rw [if_pos h1] at h; exact absurd rfl h
  · rw [if_neg h1] at h
    by_cases h2 : kI b < p
    · rw [if_pos h2] at h; exact absurd rfl h
    · exact ⟨(le_kI ha.1 ha.2).1.mp (Int32.not_lt.mp h1), (le_kI hb.1 hb.2).2.mp (Int32.not_lt.mp h2)⟩
theorem ix_153 {p : Int32} {b : Int} {w : Wd} {n : Nat} (h : ¬ F_153 p (kI 0) (kI b) w = 0) (hb : 0 ≤ b ∧ b ≤ 1000000 ∧ b < n) : inB p n = true := by
  have h1 := wi_153 h (by omega) (by omega)
  exact inB_of h1.1 (by omega)
theorem ix2_153 {p q : Int32} {a b c : Int} {w w2 : Wd} {n : Nat} (h : ¬ F_153 p (kI 0) (kI a) w = 0) (h2 : ¬ F_153 q (kI 0) (kI b) w2 = 0) (ha : 0 ≤ a ∧ a ≤ 1000) (hb : 0 ≤ b ∧ b ≤ 1000) (hc : 0 ≤ c ∧ c ≤ 1000) (hn : a * c + b < n) : inB (p * kI c + q) n = true := by
  have h3 := wi_153 h (by omega) (by omega)
  have h4 := wi_153 h2 (by omega) (by omega)
  have h5 := toInt_lin (p := p) (q := q) (c := c) (by omega) (by omega) hc
  have h6 : p.toInt * c ≤ a * c := Int.mul_le_mul_of_nonneg_right h3.2 hc.1
  have h7 : 0 ≤ p.toInt * c := Int.mul_nonneg h3.1 hc.1
  exact inB_of (by omega) (by omega)
theorem cl_154 : RCT[154]? = some rc_154 := rfl
def F_154 (p1 : Int32) (p2 : Int32) (w : Wd) : Int32 := (if ((p1 >>> (p2 &&& 31)) &&& (kI 1)) = (kI 1) then (kI 1) else (kI 0))
theorem m_154 {X : Scr} {d : Nat} (w : Wd) (p1 : Int32) (p2 : Int32) : CV X (d + 1) 154 [.int p1, .int p2] SH w (fun r s1 w1 => r = some (.int (F_154 p1 p2 w)) ∧ s1 = SH ∧ w1 = w) := by
  refine CV.of rfl ?_
  refine EV.steps cl_154 6 (q2 := (6, [some (.int p1), some (.int p2)], [.int (kI 1), .int ((p1 >>> (p2 &&& 31)) &&& (kI 1))], SH, w)) rfl ?_
  refine EV.i_ne cl_154 rfl (fun h1 => ?_) (fun h1 => ?_)
  · skip
    refine EV.steps cl_154 1 (q2 := (14, [some (.int p1), some (.int p2)], [.int (kI 0)], SH, w)) rfl ?_
    refine EV.ret cl_154 rfl rfl rfl ?_
    exact ⟨(by simp only [F_154, if_pos h1]), rfl, rfl⟩
  · skip
    refine EV.steps cl_154 2 (q2 := (14, [some (.int p1), some (.int p2)], [.int (kI 1)], SH, w)) rfl ?_
    refine EV.ret cl_154 rfl rfl rfl ?_
    exact ⟨(by simp only [F_154, if_neg h1]), rfl, rfl⟩
theorem cl_8 : RCT[8]? = some rc_8 := rfl
def F_8_102 (p1 : Int32) (p2 : Int32) (w : Wd) : Int32 := (if (F_153 p1 (kI 0) (kI 19) w) = 0 then (kI 0) else (if (F_153 p2 (kI 0) (kI 19) w) = 0 then (kI 0) else (if (F_154 (w 102 6) p1 w) = 0 then (kI 0) else (if (F_154 (w 102 6) p2 w) = 0 then (kI 0) else (if (if 0 ≤ ((w 105 p1.toNatClampNeg) - (w 105 p2.toNatClampNeg)) then ((w 105 p1.toNatClampNeg) - (w 105 p2.toNatClampNeg)) else 0 - ((w 105 p1.toNatClampNeg) - (w 105 p2.toNatClampNeg))) = (kI 1) then (if (kI 1) = 0 then (kI 0) else (if (w 103 p1.toNatClampNeg) = (w 103 p2.toNatClampNeg) then (if (w 106 p1.toNatClampNeg) = (w 106 p2.toNatClampNeg) then (if (w 104 p1.toNatClampNeg) = (w 104 p2.toNatClampNeg) then (kI 1) else (kI 0)) else (kI 0)) else (kI 0))) else (if (if 0 ≤ ((w 105 p1.toNatClampNeg) - (w 105 p2.toNatClampNeg)) then ((w 105 p1.toNatClampNeg) - (w 105 p2.toNatClampNeg)) else 0 - ((w 105 p1.toNatClampNeg) - (w 105 p2.toNatClampNeg))) = (kI 23) then (if (kI 1) = 0 then (kI 0) else (if (w 103 p1.toNatClampNeg) = (w 103 p2.toNatClampNeg) then (if (w 106 p1.toNatClampNeg) = (w 106 p2.toNatClampNeg) then (if (w 104 p1.toNatClampNeg) = (w 104 p2.toNatClampNeg) then (kI 1) else (kI 0)) else (kI 0)) else (kI 0))) else (if (kI 0) = 0 then (kI 0) else (if (w 103 p1.toNatClampNeg) = (w 103 p2.toNatClampNeg) then (if (w 106 p1.toNatClampNeg) = (w 106 p2.toNatClampNeg) then (if (w 104 p1.toNatClampNeg) = (w 104 p2.toNatClampNeg) then (kI 1) else (kI 0)) else (kI 0)) else (kI 0)))))))))
theorem m_8_102 {X : Scr} {d : Nat} (w : Wd) (p1 : Int32) (p2 : Int32) : CV X (d + 2) 8 [.ref 102, .int p1, .int p2] SH w (fun r s1 w1 => r = some (.int (F_8_102 p1 p2 w)) ∧ s1 = SH ∧ w1 = w) := by
  refine CV.of rfl ?_
  refine EV.steps cl_8 3 (q2 := (4, [some (.ref 102), some (.int p1), some (.int p2), none, none], [.int (kI 19), .int (kI 0), .int p1], SH, w)) rfl ?_
  refine EV.call cl_8 rfl rfl rfl (m_153 w p1 (kI 0) (kI 19)) ?_
  rintro _ _ _ ⟨rfl, rfl, rfl⟩
  refine EV.z_eq cl_8 rfl (fun h1 => ?_) (fun h1 => ?_)
  · skip
    refine EV.steps cl_8 1 (q2 := (21, [some (.ref 102), some (.int p1), some (.int p2), none, none], [.int (kI 0)], SH, w)) rfl ?_
    refine EV.ret cl_8 rfl rfl rfl ?_
    exact ⟨(by simp only [F_8_102, if_pos h1]), rfl, rfl⟩
  · skip
    refine EV.steps cl_8 3 (q2 := (14, [some (.ref 102), some (.int p1), some (.int p2), none, none], [.int (kI 19), .int (kI 0), .int p2], SH, w)) rfl ?_
    refine EV.call cl_8 rfl rfl rfl (m_153 w p2 (kI 0) (kI 19)) ?_
    rintro _ _ _ ⟨rfl, rfl, rfl⟩
    refine EV.z_ne cl_8 rfl (fun h2 => ?_) (fun h2 => ?_)
    · skip
      refine EV.steps cl_8 3 (q2 := (27, [some (.ref 102), some (.int p1), some (.int p2), none, none], [.int p1, .int (w 102 6)], SH, w)) rfl ?_
      refine EV.call cl_8 rfl rfl rfl (m_154 w (w 102 6) p1) ?_
      rintro _ _ _ ⟨rfl, rfl, rfl⟩
      refine EV.z_eq cl_8 rfl (fun h3 => ?_) (fun h3 => ?_)
      · skip
        refine EV.steps cl_8 1 (q2 := (45, [some (.ref 102), some (.int p1), some (.int p2), none, none], [.int (kI 0)], SH, w)) rfl ?_
        refine EV.ret cl_8 rfl rfl rfl ?_
        exact ⟨(by simp only [F_8_102, if_neg h1, if_pos h2, if_pos h3]), rfl, rfl⟩
      · skip
        refine EV.steps cl_8 3 (q2 := (38, [some (.ref 102), some (.int p1), some (.int p2), none, none], [.int p2, .int (w 102 6)], SH, w)) rfl ?_
        refine EV.call cl_8 rfl rfl rfl (m_154 w (w 102 6) p2) ?_
        rintro _ _ _ ⟨rfl, rfl, rfl⟩
        refine EV.z_ne cl_8 rfl (fun h4 => ?_) (fun h4 => ?_)
        · skip
          refine EV.steps cl_8 3 (q2 := (51, [some (.ref 102), some (.int p1), some (.int p2), none, none], [.int p1, .ref 105], SH, w)) rfl ?_
          refine EV.iaload cl_8 rfl rfl (by decide) (by first | rfl | exact ix_153 (by assumption) (by decide) | exact ix2_153 (by assumption) (by assumption) (by decide) (by decide) (by decide) (by decide) | exact ix_157 (by assumption) (by decide)) ?_
          refine EV.steps cl_8 3 (q2 := (57, [some (.ref 102), some (.int p1), some (.int p2), none, none], [.int p2, .ref 105, .int (w 105 p1.toNatClampNeg)], SH, w)) rfl ?_
          refine EV.iaload cl_8 rfl rfl (by decide) (by first | rfl | exact ix_153 (by assumption) (by decide) | exact ix2_153 (by assumption) (by assumption) (by decide) (by decide) (by decide) (by decide) | exact ix_157 (by assumption) (by decide)) ?_
          refine EV.steps cl_8 5 (q2 := (65, [some (.ref 102), some (.int p1), some (.int p2), some (.int (if 0 ≤ ((w 105 p1.toNatClampNeg) - (w 105 p2.toNatClampNeg)) then ((w 105 p1.toNatClampNeg) - (w 105 p2.toNatClampNeg)) else 0 - ((w 105 p1.toNatClampNeg) - (w 105 p2.toNatClampNeg)))), none], [.int (kI 1), .int (if 0 ≤ ((w 105 p1.toNatClampNeg) - (w 105 p2.toNatClampNeg)) then ((w 105 p1.toNatClampNeg) - (w 105 p2.toNatClampNeg)) else 0 - ((w 105 p1.toNatClampNeg) - (w 105 p2.toNatClampNeg)))], SH, w)) rfl ?_
          refine EV.i_eq cl_8 rfl (fun h5 => ?_) (fun h5 => ?_)
          · skip
            refine EV.steps cl_8 4 (q2 := (83, [some (.ref 102), some (.int p1), some (.int p2), some (.int (if 0 ≤ ((w 105 p1.toNatClampNeg) - (w 105 p2.toNatClampNeg)) then ((w 105 p1.toNatClampNeg) - (w 105 p2.toNatClampNeg)) else 0 - ((w 105 p1.toNatClampNeg) - (w 105 p2.toNatClampNeg)))), some (.int (kI 1))], [.int (kI 1)], SH, w)) rfl ?_
            refine EV.z_eq cl_8 rfl (fun h6 => ?_) (fun h6 => ?_)
            · skip
              refine EV.steps cl_8 1 (q2 := (136, [some (.ref 102), some (.int p1), some (.int p2), some (.int (if 0 ≤ ((w 105 p1.toNatClampNeg) - (w 105 p2.toNatClampNeg)) then ((w 105 p1.toNatClampNeg) - (w 105 p2.toNatClampNeg)) else 0 - ((w 105 p1.toNatClampNeg) - (w 105 p2.toNatClampNeg)))), some (.int (kI 1))], [.int (kI 0)], SH, w)) rfl ?_
              refine EV.ret cl_8 rfl rfl rfl ?_
              exact ⟨(by simp only [F_8_102, if_neg h1, if_pos h2, if_neg h3, if_pos h4, if_pos h5, if_pos h6]), rfl, rfl⟩
            · skip
              refine EV.steps cl_8 3 (q2 := (91, [some (.ref 102), some (.int p1), some (.int p2), some (.int (if 0 ≤ ((w 105 p1.toNatClampNeg) - (w 105 p2.toNatClampNeg)) then ((w 105 p1.toNatClampNeg) - (w 105 p2.toNatClampNeg)) else 0 - ((w 105 p1.toNatClampNeg) - (w 105 p2.toNatClampNeg)))), some (.int (kI 1))], [.int p1, .ref 103], SH, w)) rfl ?_
              refine EV.iaload cl_8 rfl rfl (by decide) (by first | rfl | exact ix_153 (by assumption) (by decide) | exact ix2_153 (by assumption) (by assumption) (by decide) (by decide) (by decide) (by decide) | exact ix_157 (by assumption) (by decide)) ?_
              refine EV.steps cl_8 3 (q2 := (97, [some (.ref 102), some (.int p1), some (.int p2), some (.int (if 0 ≤ ((w 105 p1.toNatClampNeg) - (w 105 p2.toNatClampNeg)) then ((w 105 p1.toNatClampNeg) - (w 105 p2.toNatClampNeg)) else 0 - ((w 105 p1.toNatClampNeg) - (w 105 p2.toNatClampNeg)))), some (.int (kI 1))], [.int p2, .ref 103, .int (w 103 p1.toNatClampNeg)], SH, w)) rfl ?_
              refine EV.iaload cl_8 rfl rfl (by decide) (by first | rfl | exact ix_153 (by assumption) (by decide) | exact ix2_153 (by assumption) (by assumption) (by decide) (by decide) (by decide) (by decide) | exact ix_157 (by assumption) (by decide)) ?_
              refine EV.i_ne cl_8 rfl (fun h7 => ?_) (fun h7 => ?_)
              · skip
                refine EV.steps cl_8 1 (q2 := (136, [some (.ref 102), some (.int p1), some (.int p2), some (.int (if 0 ≤ ((w 105 p1.toNatClampNeg) - (w 105 p2.toNatClampNeg)) then ((w 105 p1.toNatClampNeg) - (w 105 p2.toNatClampNeg)) else 0 - ((w 105 p1.toNatClampNeg) - (w 105 p2.toNatClampNeg)))), some (.int (kI 1))], [.int (kI 0)], SH, w)) rfl ?_
                refine EV.ret cl_8 rfl rfl rfl ?_
                exact ⟨(by simp only [F_8_102, if_neg h1, if_pos h2, if_neg h3, if_pos h4, if_pos h5, if_neg h6, if_pos h7]), rfl, rfl⟩
              · skip
                refine EV.steps cl_8 3 (q2 := (106, [some (.ref 102), some (.int p1), some (.int p2), some (.int (if 0 ≤ ((w 105 p1.toNatClampNeg) - (w 105 p2.toNatClampNeg)) then ((w 105 p1.toNatClampNeg) - (w 105 p2.toNatClampNeg)) else 0 - ((w 105 p1.toNatClampNeg) - (w 105 p2.toNatClampNeg)))), some (.int (kI 1))], [.int p1, .ref 106], SH, w)) rfl ?_
                refine EV.iaload cl_8 rfl rfl (by decide) (by first | rfl | exact ix_153 (by assumption) (by decide) | exact ix2_153 (by assumption) (by assumption) (by decide) (by decide) (by decide) (by decide) | exact ix_157 (by assumption) (by decide)) ?_
                refine EV.steps cl_8 3 (q2 := (112, [some (.ref 102), some (.int p1), some (.int p2), some (.int (if 0 ≤ ((w 105 p1.toNatClampNeg) - (w 105 p2.toNatClampNeg)) then ((w 105 p1.toNatClampNeg) - (w 105 p2.toNatClampNeg)) else 0 - ((w 105 p1.toNatClampNeg) - (w 105 p2.toNatClampNeg)))), some (.int (kI 1))], [.int p2, .ref 106, .int (w 106 p1.toNatClampNeg)], SH, w)) rfl ?_
                refine EV.iaload cl_8 rfl rfl (by decide) (by first | rfl | exact ix_153 (by assumption) (by decide) | exact ix2_153 (by assumption) (by assumption) (by decide) (by decide) (by decide) (by decide) | exact ix_157 (by assumption) (by decide)) ?_
                refine EV.i_ne cl_8 rfl (fun h8 => ?_) (fun h8 => ?_)
                · skip
                  refine EV.steps cl_8 1 (q2 := (136, [some (.ref 102), some (.int p1), some (.int p2), some (.int (if 0 ≤ ((w 105 p1.toNatClampNeg) - (w 105 p2.toNatClampNeg)) then ((w 105 p1.toNatClampNeg) - (w 105 p2.toNatClampNeg)) else 0 - ((w 105 p1.toNatClampNeg) - (w 105 p2.toNatClampNeg)))), some (.int (kI 1))], [.int (kI 0)], SH, w)) rfl ?_
                  refine EV.ret cl_8 rfl rfl rfl ?_
                  exact ⟨(by simp only [F_8_102, if_neg h1, if_pos h2, if_neg h3, if_pos h4, if_pos h5, if_neg h6, if_neg h7, if_pos h8]), rfl, rfl⟩
                · skip
                  refine EV.steps cl_8 3 (q2 := (121, [some (.ref 102), some (.int p1), some (.int p2), some (.int (if 0 ≤ ((w 105 p1.toNatClampNeg) - (w 105 p2.toNatClampNeg)) then ((w 105 p1.toNatClampNeg) - (w 105 p2.toNatClampNeg)) else 0 - ((w 105 p1.toNatClampNeg) - (w 105 p2.toNatClampNeg)))), some (.int (kI 1))], [.int p1, .ref 104], SH, w)) rfl ?_
                  refine EV.iaload cl_8 rfl rfl (by decide) (by first | rfl | exact ix_153 (by assumption) (by decide) | exact ix2_153 (by assumption) (by assumption) (by decide) (by decide) (by decide) (by decide) | exact ix_157 (by assumption) (by decide)) ?_
                  refine EV.steps cl_8 3 (q2 := (127, [some (.ref 102), some (.int p1), some (.int p2), some (.int (if 0 ≤ ((w 105 p1.toNatClampNeg) - (w 105 p2.toNatClampNeg)) then ((w 105 p1.toNatClampNeg) - (w 105 p2.toNatClampNeg)) else 0 - ((w 105 p1.toNatClampNeg) - (w 105 p2.toNatClampNeg)))), some (.int (kI 1))], [.int p2, .ref 104, .int (w 104 p1.toNatClampNeg)], SH, w)) rfl ?_
                  refine EV.iaload cl_8 rfl rfl (by decide) (by first | rfl | exact ix_153 (by assumption) (by decide) | exact ix2_153 (by assumption) (by assumption) (by decide) (by decide) (by decide) (by decide) | exact ix_157 (by assumption) (by decide)) ?_
                  refine EV.i_ne cl_8 rfl (fun h9 => ?_) (fun h9 => ?_)
                  · skip
                    refine EV.steps cl_8 1 (q2 := (136, [some (.ref 102), some (.int p1), some (.int p2), some (.int (if 0 ≤ ((w 105 p1.toNatClampNeg) - (w 105 p2.toNatClampNeg)) then ((w 105 p1.toNatClampNeg) - (w 105 p2.toNatClampNeg)) else 0 - ((w 105 p1.toNatClampNeg) - (w 105 p2.toNatClampNeg)))), some (.int (kI 1))], [.int (kI 0)], SH, w)) rfl ?_
                    refine EV.ret cl_8 rfl rfl rfl ?_
                    exact ⟨(by simp only [F_8_102, if_neg h1, if_pos h2, if_neg h3, if_pos h4, if_pos h5, if_neg h6, if_neg h7, if_neg h8, if_pos h9]), rfl, rfl⟩
                  · skip
                    refine EV.steps cl_8 2 (q2 := (136, [some (.ref 102), some (.int p1), some (.int p2), some (.int (if 0 ≤ ((w 105 p1.toNatClampNeg) - (w 105 p2.toNatClampNeg)) then ((w 105 p1.toNatClampNeg) - (w 105 p2.toNatClampNeg)) else 0 - ((w 105 p1.toNatClampNeg) - (w 105 p2.toNatClampNeg)))), some (.int (kI 1))], [.int (kI 1)], SH, w)) rfl ?_
                    refine EV.ret cl_8 rfl rfl rfl ?_
                    exact ⟨(by simp only [F_8_102, if_neg h1, if_pos h2, if_neg h3, if_pos h4, if_pos h5, if_neg h6, if_neg h7, if_neg h8, if_neg h9]), rfl, rfl⟩
          · skip
            refine EV.steps cl_8 2 (q2 := (71, [some (.ref 102), some (.int p1), some (.int p2), some (.int (if 0 ≤ ((w 105 p1.toNatClampNeg) - (w 105 p2.toNatClampNeg)) then ((w 105 p1.toNatClampNeg) - (w 105 p2.toNatClampNeg)) else 0 - ((w 105 p1.toNatClampNeg) - (w 105 p2.toNatClampNeg)))), none], [.int (kI 23), .int (if 0 ≤ ((w 105 p1.toNatClampNeg) - (w 105 p2.toNatClampNeg)) then ((w 105 p1.toNatClampNeg) - (w 105 p2.toNatClampNeg)) else 0 - ((w 105 p1.toNatClampNeg) - (w 105 p2.toNatClampNeg)))], SH, w)) rfl ?_
            refine EV.i_ne cl_8 rfl (fun h10 => ?_) (fun h10 => ?_)
            · skip
              refine EV.steps cl_8 3 (q2 := (83, [some (.ref 102), some (.int p1), some (.int p2), some (.int (if 0 ≤ ((w 105 p1.toNatClampNeg) - (w 105 p2.toNatClampNeg)) then ((w 105 p1.toNatClampNeg) - (w 105 p2.toNatClampNeg)) else 0 - ((w 105 p1.toNatClampNeg) - (w 105 p2.toNatClampNeg)))), some (.int (kI 0))], [.int (kI 0)], SH, w)) rfl ?_
              refine EV.z_eq cl_8 rfl (fun h11 => ?_) (fun h11 => ?_)
              · skip
                refine EV.steps cl_8 1 (q2 := (136, [some (.ref 102), some (.int p1), some (.int p2), some (.int (if 0 ≤ ((w 105 p1.toNatClampNeg) - (w 105 p2.toNatClampNeg)) then ((w 105 p1.toNatClampNeg) - (w 105 p2.toNatClampNeg)) else 0 - ((w 105 p1.toNatClampNeg) - (w 105 p2.toNatClampNeg)))), some (.int (kI 0))], [.int (kI 0)], SH, w)) rfl ?_
                refine EV.ret cl_8 rfl rfl rfl ?_
                exact ⟨(by simp only [F_8_102, if_neg h1, if_pos h2, if_neg h3, if_pos h4, if_neg h5, if_pos h10, if_pos h11]), rfl, rfl⟩
              · skip
                refine EV.steps cl_8 3 (q2 := (91, [some (.ref 102), some (.int p1), some (.int p2), some (.int (if 0 ≤ ((w 105 p1.toNatClampNeg) - (w 105 p2.toNatClampNeg)) then ((w 105 p1.toNatClampNeg) - (w 105 p2.toNatClampNeg)) else 0 - ((w 105 p1.toNatClampNeg) - (w 105 p2.toNatClampNeg)))), some (.int (kI 0))], [.int p1, .ref 103], SH, w)) rfl ?_
                refine EV.iaload cl_8 rfl rfl (by decide) (by first | rfl | exact ix_153 (by assumption) (by decide) | exact ix2_153 (by assumption) (by assumption) (by decide) (by decide) (by decide) (by decide) | exact ix_157 (by assumption) (by decide)) ?_
                refine EV.steps cl_8 3 (q2 := (97, [some (.ref 102), some (.int p1), some (.int p2), some (.int (if 0 ≤ ((w 105 p1.toNatClampNeg) - (w 105 p2.toNatClampNeg)) then ((w 105 p1.toNatClampNeg) - (w 105 p2.toNatClampNeg)) else 0 - ((w 105 p1.toNatClampNeg) - (w 105 p2.toNatClampNeg)))), some (.int (kI 0))], [.int p2, .ref 103, .int (w 103 p1.toNatClampNeg)], SH, w)) rfl ?_
                refine EV.iaload cl_8 rfl rfl (by decide) (by first | rfl | exact ix_153 (by assumption) (by decide) | exact ix2_153 (by assumption) (by assumption) (by decide) (by decide) (by decide) (by decide) | exact ix_157 (by assumption) (by decide)) ?_
                refine EV.i_ne cl_8 rfl (fun h12 => ?_) (fun h12 => ?_)
                · skip
                  refine EV.steps cl_8 1 (q2 := (136, [some (.ref 102), some (.int p1), some (.int p2), some (.int (if 0 ≤ ((w 105 p1.toNatClampNeg) - (w 105 p2.toNatClampNeg)) then ((w 105 p1.toNatClampNeg) - (w 105 p2.toNatClampNeg)) else 0 - ((w 105 p1.toNatClampNeg) - (w 105 p2.toNatClampNeg)))), some (.int (kI 0))], [.int (kI 0)], SH, w)) rfl ?_
                  refine EV.ret cl_8 rfl rfl rfl ?_
                  exact ⟨(by simp only [F_8_102, if_neg h1, if_pos h2, if_neg h3, if_pos h4, if_neg h5, if_pos h10, if_neg h11, if_pos h12]), rfl, rfl⟩
                · skip
                  refine EV.steps cl_8 3 (q2 := (106, [some (.ref 102), some (.int p1), some (.int p2), some (.int (if 0 ≤ ((w 105 p1.toNatClampNeg) - (w 105 p2.toNatClampNeg)) then ((w 105 p1.toNatClampNeg) - (w 105 p2.toNatClampNeg)) else 0 - ((w 105 p1.toNatClampNeg) - (w 105 p2.toNatClampNeg)))), some (.int (kI 0))], [.int p1, .ref 106], SH, w)) rfl ?_
                  refine EV.iaload cl_8 rfl rfl (by decide) (by first | rfl | exact ix_153 (by assumption) (by decide) | exact ix2_153 (by assumption) (by assumption) (by decide) (by decide) (by decide) (by decide) | exact ix_157 (by assumption) (by decide)) ?_
                  refine EV.steps cl_8 3 (q2 := (112, [some (.ref 102), some (.int p1), some (.int p2), some (.int (if 0 ≤ ((w 105 p1.toNatClampNeg) - (w 105 p2.toNatClampNeg)) then ((w 105 p1.toNatClampNeg) - (w 105 p2.toNatClampNeg)) else 0 - ((w 105 p1.toNatClampNeg) - (w 105 p2.toNatClampNeg)))), some (.int (kI 0))], [.int p2, .ref 106, .int (w 106 p1.toNatClampNeg)], SH, w)) rfl ?_
                  refine EV.iaload cl_8 rfl rfl (by decide) (by first | rfl | exact ix_153 (by assumption) (by decide) | exact ix2_153 (by assumption) (by assumption) (by decide) (by decide) (by decide) (by decide) | exact ix_157 (by assumption) (by decide)) ?_
                  refine EV.i_ne cl_8 rfl (fun h13 => ?_) (fun h13 => ?_)
                  · skip
                    refine EV.steps cl_8 1 (q2 := (136, [some (.ref 102), some (.int p1), some (.int p2), some (.int (if 0 ≤ ((w 105 p1.toNatClampNeg) - (w 105 p2.toNatClampNeg)) then ((w 105 p1.toNatClampNeg) - (w 105 p2.toNatClampNeg)) else 0 - ((w 105 p1.toNatClampNeg) - (w 105 p2.toNatClampNeg)))), some (.int (kI 0))], [.int (kI 0)], SH, w)) rfl ?_
                    refine EV.ret cl_8 rfl rfl rfl ?_
                    exact ⟨(by simp only [F_8_102, if_neg h1, if_pos h2, if_neg h3, if_pos h4, if_neg h5, if_pos h10, if_neg h11, if_neg h12, if_pos h13]), rfl, rfl⟩
                  · skip
                    refine EV.steps cl_8 3 (q2 := (121, [some (.ref 102), some (.int p1), some (.int p2), some (.int (if 0 ≤ ((w 105 p1.toNatClampNeg) - (w 105 p2.toNatClampNeg)) then ((w 105 p1.toNatClampNeg) - (w 105 p2.toNatClampNeg)) else 0 - ((w 105 p1.toNatClampNeg) - (w 105 p2.toNatClampNeg)))), some (.int (kI 0))], [.int p1, .ref 104], SH, w)) rfl ?_
                    refine EV.iaload cl_8 rfl rfl (by decide) (by first | rfl | exact ix_153 (by assumption) (by decide) | exact ix2_153 (by assumption) (by assumption) (by decide) (by decide) (by decide) (by decide) | exact ix_157 (by assumption) (by decide)) ?_
                    refine EV.steps cl_8 3 (q2 := (127, [some (.ref 102), some (.int p1), some (.int p2), some (.int (if 0 ≤ ((w 105 p1.toNatClampNeg) - (w 105 p2.toNatClampNeg)) then ((w 105 p1.toNatClampNeg) - (w 105 p2.toNatClampNeg)) else 0 - ((w 105 p1.toNatClampNeg) - (w 105 p2.toNatClampNeg)))), some (.int (kI 0))], [.int p2, .ref 104, .int (w 104 p1.toNatClampNeg)], SH, w)) rfl ?_
                    refine EV.iaload cl_8 rfl rfl (by decide) (by first | rfl | exact ix_153 (by assumption) (by decide) | exact ix2_153 (by assumption) (by assumption) (by decide) (by decide) (by decide) (by decide) | exact ix_157 (by assumption) (by decide)) ?_
                    refine EV.i_ne cl_8 rfl (fun h14 => ?_) (fun h14 => ?_)
                    · skip
                      refine EV.steps cl_8 1 (q2 := (136, [some (.ref 102), some (.int p1), some (.int p2), some (.int (if 0 ≤ ((w 105 p1.toNatClampNeg) - (w 105 p2.toNatClampNeg)) then ((w 105 p1.toNatClampNeg) - (w 105 p2.toNatClampNeg)) else 0 - ((w 105 p1.toNatClampNeg) - (w 105 p2.toNatClampNeg)))), some (.int (kI 0))], [.int (kI 0)], SH, w)) rfl ?_
                      refine EV.ret cl_8 rfl rfl rfl ?_
                      exact ⟨(by simp only [F_8_102, if_neg h1, if_pos h2, if_neg h3, if_pos h4, if_neg h5, if_pos h10, if_neg h11, if_neg h12, if_neg h13, if_pos h14]), rfl, rfl⟩
                    · skip
                      refine EV.steps cl_8 2 (q2 := (136, [some (.ref 102), some (.int p1), some (.int p2), some (.int (if 0 ≤ ((w 105 p1.toNatClampNeg) - (w 105 p2.toNatClampNeg)) then ((w 105 p1.toNatClampNeg) - (w 105 p2.toNatClampNeg)) else 0 - ((w 105 p1.toNatClampNeg) - (w 105 p2.toNatClampNeg)))), some (.int (kI 0))], [.int (kI 1)], SH, w)) rfl ?_
                      refine EV.ret cl_8 rfl rfl rfl ?_
                      exact ⟨(by simp only [F_8_102, if_neg h1, if_pos h2, if_neg h3, if_pos h4, if_neg h5, if_pos h10, if_neg h11, if_neg h12, if_neg h13, if_neg h14]), rfl, rfl⟩
            · skip
              refine EV.steps cl_8 4 (q2 := (83, [some (.ref 102), some (.int p1), some (.int p2), some (.int (if 0 ≤ ((w 105 p1.toNatClampNeg) - (w 105 p2.toNatClampNeg)) then ((w 105 p1.toNatClampNeg) - (w 105 p2.toNatClampNeg)) else 0 - ((w 105 p1.toNatClampNeg) - (w 105 p2.toNatClampNeg)))), some (.int (kI 1))], [.int (kI 1)], SH, w)) rfl ?_
              refine EV.z_eq cl_8 rfl (fun h15 => ?_) (fun h15 => ?_)
              · skip
                refine EV.steps cl_8 1 (q2 := (136, [some (.ref 102), some (.int p1), some (.int p2), some (.int (if 0 ≤ ((w 105 p1.toNatClampNeg) - (w 105 p2.toNatClampNeg)) then ((w 105 p1.toNatClampNeg) - (w 105 p2.toNatClampNeg)) else 0 - ((w 105 p1.toNatClampNeg) - (w 105 p2.toNatClampNeg)))), some (.int (kI 1))], [.int (kI 0)], SH, w)) rfl ?_
                refine EV.ret cl_8 rfl rfl rfl ?_
                exact ⟨(by simp only [F_8_102, if_neg h1, if_pos h2, if_neg h3, if_pos h4, if_neg h5, if_neg h10, if_pos h15]), rfl, rfl⟩
              · skip
                refine EV.steps cl_8 3 (q2 := (91, [some (.ref 102), some (.int p1), some (.int p2), some (.int (if 0 ≤ ((w 105 p1.toNatClampNeg) - (w 105 p2.toNatClampNeg)) then ((w 105 p1.toNatClampNeg) - (w 105 p2.toNatClampNeg)) else 0 - ((w 105 p1.toNatClampNeg) - (w 105 p2.toNatClampNeg)))), some (.int (kI 1))], [.int p1, .ref 103], SH, w)) rfl ?_
                refine EV.iaload cl_8 rfl rfl (by decide) (by first | rfl | exact ix_153 (by assumption) (by decide) | exact ix2_153 (by assumption) (by assumption) (by decide) (by decide) (by decide) (by decide) | exact ix_157 (by assumption) (by decide)) ?_
                refine EV.steps cl_8 3 (q2 := (97, [some (.ref 102), some (.int p1), some (.int p2), some (.int (if 0 ≤ ((w 105 p1.toNatClampNeg) - (w 105 p2.toNatClampNeg)) then ((w 105 p1.toNatClampNeg) - (w 105 p2.toNatClampNeg)) else 0 - ((w 105 p1.toNatClampNeg) - (w 105 p2.toNatClampNeg)))), some (.int (kI 1))], [.int p2, .ref 103, .int (w 103 p1.toNatClampNeg)], SH, w)) rfl ?_
                refine EV.iaload cl_8 rfl rfl (by decide) (by first | rfl | exact ix_153 (by assumption) (by decide) | exact ix2_153 (by assumption) (by assumption) (by decide) (by decide) (by decide) (by decide) | exact ix_157 (by assumption) (by decide)) ?_
                refine EV.i_ne cl_8 rfl (fun h16 => ?_) (fun h16 => ?_)
                · skip
                  refine EV.steps cl_8 1 (q2 := (136, [some (.ref 102), some (.int p1), some (.int p2), some (.int (if 0 ≤ ((w 105 p1.toNatClampNeg) - (w 105 p2.toNatClampNeg)) then ((w 105 p1.toNatClampNeg) - (w 105 p2.toNatClampNeg)) else 0 - ((w 105 p1.toNatClampNeg) - (w 105 p2.toNatClampNeg)))), some (.int (kI 1))], [.int (kI 0)], SH, w)) rfl ?_
                  refine EV.ret cl_8 rfl rfl rfl ?_
                  exact ⟨(by simp only [F_8_102, if_neg h1, if_pos h2, if_neg h3, if_pos h4, if_neg h5, if_neg h10, if_neg h15, if_pos h16]), rfl, rfl⟩
                · skip
                  refine EV.steps cl_8 3 (q2 := (106, [some (.ref 102), some (.int p1), some (.int p2), some (.int (if 0 ≤ ((w 105 p1.toNatClampNeg) - (w 105 p2.toNatClampNeg)) then ((w 105 p1.toNatClampNeg) - (w 105 p2.toNatClampNeg)) else 0 - ((w 105 p1.toNatClampNeg) - (w 105 p2.toNatClampNeg)))), some (.int (kI 1))], [.int p1, .ref 106], SH, w)) rfl ?_
                  refine EV.iaload cl_8 rfl rfl (by decide) (by first | rfl | exact ix_153 (by assumption) (by decide) | exact ix2_153 (by assumption) (by assumption) (by decide) (by decide) (by decide) (by decide) | exact ix_157 (by assumption) (by decide)) ?_
                  refine EV.steps cl_8 3 (q2 := (112, [some (.ref 102), some (.int p1), some (.int p2), some (.int (if 0 ≤ ((w 105 p1.toNatClampNeg) - (w 105 p2.toNatClampNeg)) then ((w 105 p1.toNatClampNeg) - (w 105 p2.toNatClampNeg)) else 0 - ((w 105 p1.toNatClampNeg) - (w 105 p2.toNatClampNeg)))), some (.int (kI 1))], [.int p2, .ref 106, .int (w 106 p1.toNatClampNeg)], SH, w)) rfl ?_
                  refine EV.iaload cl_8 rfl rfl (by decide) (by first | rfl | exact ix_153 (by assumption) (by decide) | exact ix2_153 (by assumption) (by assumption) (by decide) (by decide) (by decide) (by decide) | exact ix_157 (by assumption) (by decide)) ?_
                  refine EV.i_ne cl_8 rfl (fun h17 => ?_) (fun h17 => ?_)
                  · skip
                    refine EV.steps cl_8 1 (q2 := (136, [some (.ref 102), some (.int p1), some (.int p2), some (.int (if 0 ≤ ((w 105 p1.toNatClampNeg) - (w 105 p2.toNatClampNeg)) then ((w 105 p1.toNatClampNeg) - (w 105 p2.toNatClampNeg)) else 0 - ((w 105 p1.toNatClampNeg) - (w 105 p2.toNatClampNeg)))), some (.int (kI 1))], [.int (kI 0)], SH, w)) rfl ?_
                    refine EV.ret cl_8 rfl rfl rfl ?_
                    exact ⟨(by simp only [F_8_102, if_neg h1, if_pos h2, if_neg h3, if_pos h4, if_neg h5, if_neg h10, if_neg h15, if_neg h16, if_pos h17]), rfl, rfl⟩
                  · skip
                    refine EV.steps cl_8 3 (q2 := (121, [some (.ref 102), some (.int p1), some (.int p2), some (.int (if 0 ≤ ((w 105 p1.toNatClampNeg) - (w 105 p2.toNatClampNeg)) then ((w 105 p1.toNatClampNeg) - (w 105 p2.toNatClampNeg)) else 0 - ((w 105 p1.toNatClampNeg) - (w 105 p2.toNatClampNeg)))), some (.int (kI 1))], [.int p1, .ref 104], SH, w)) rfl ?_
                    refine EV.iaload cl_8 rfl rfl (by decide) (by first | rfl | exact ix_153 (by assumption) (by decide) | exact ix2_153 (by assumption) (by assumption) (by decide) (by decide) (by decide) (by decide) | exact ix_157 (by assumption) (by decide)) ?_
                    refine EV.steps cl_8 3 (q2 := (127, [some (.ref 102), some (.int p1), some (.int p2), some (.int (if 0 ≤ ((w 105 p1.toNatClampNeg) - (w 105 p2.toNatClampNeg)) then ((w 105 p1.toNatClampNeg) - (w 105 p2.toNatClampNeg)) else 0 - ((w 105 p1.toNatClampNeg) - (w 105 p2.toNatClampNeg)))), some (.int (kI 1))], [.int p2, .ref 104, .int (w 104 p1.toNatClampNeg)], SH, w)) rfl ?_
                    refine EV.iaload cl_8 rfl rfl (by decide) (by first | rfl | exact ix_153 (by assumption) (by decide) | exact ix2_153 (by assumption) (by assumption) (by decide) (by decide) (by decide) (by decide) | exact ix_157 (by assumption) (by decide)) ?_
                    refine EV.i_ne cl_8 rfl (fun h18 => ?_) (fun h18 => ?_)
                    · skip
                      refine EV.steps cl_8 1 (q2 := (136, [some (.ref 102), some (.int p1), some (.int p2), some (.int (if 0 ≤ ((w 105 p1.toNatClampNeg) - (w 105 p2.toNatClampNeg)) then ((w 105 p1.toNatClampNeg) - (w 105 p2.toNatClampNeg)) else 0 - ((w 105 p1.toNatClampNeg) - (w 105 p2.toNatClampNeg)))), some (.int (kI 1))], [.int (kI 0)], SH, w)) rfl ?_
                      refine EV.ret cl_8 rfl rfl rfl ?_
                      exact ⟨(by simp only [F_8_102, if_neg h1, if_pos h2, if_neg h3, if_pos h4, if_neg h5, if_neg h10, if_neg h15, if_neg h16, if_neg h17, if_pos h18]), rfl, rfl⟩
                    · skip
                      refine EV.steps cl_8 2 (q2 := (136, [some (.ref 102), some (.int p1), some (.int p2), some (.int (if 0 ≤ ((w 105 p1.toNatClampNeg) - (w 105 p2.toNatClampNeg)) then ((w 105 p1.toNatClampNeg) - (w 105 p2.toNatClampNeg)) else 0 - ((w 105 p1.toNatClampNeg) - (w 105 p2.toNatClampNeg)))), some (.int (kI 1))], [.int (kI 1)], SH, w)) rfl ?_
                      refine EV.ret cl_8 rfl rfl rfl ?_
                      exact ⟨(by simp only [F_8_102, if_neg h1, if_pos h2, if_neg h3, if_pos h4, if_neg h5, if_neg h10, if_neg h15, if_neg h16, if_neg h17, if_neg h18]), rfl, rfl⟩
        · skip
          refine EV.steps cl_8 1 (q2 := (45, [some (.ref 102), some (.int p1), some (.int p2), none, none], [.int (kI 0)], SH, w)) rfl ?_
          refine EV.ret cl_8 rfl rfl rfl ?_
          exact ⟨(by simp only [F_8_102, if_neg h1, if_pos h2, if_neg h3, if_neg h4]), rfl, rfl⟩
    · skip
      refine EV.steps cl_8 1 (q2 := (21, [some (.ref 102), some (.int p1), some (.int p2), none, none], [.int (kI 0)], SH, w)) rfl ?_
      refine EV.ret cl_8 rfl rfl rfl ?_
      exact ⟨(by simp only [F_8_102, if_neg h1, if_neg h2]), rfl, rfl⟩
theorem cl_11 : RCT[11]? = some rc_11 := rfl
def F_11_7 (p1 : Int32) (p2 : Int32) (w : Wd) : Int32 := (if (F_153 p1 (kI 0) (kI 5) w) = 0 then (kI 0) else (if (F_153 p2 (kI 0) (kI 5) w) = 0 then (kI 0) else (w 8 ((p1 * (kI 6)) + p2).toNatClampNeg)))
theorem m_11_7 {X : Scr} {d : Nat} (w : Wd) (p1 : Int32) (p2 : Int32) : CV X (d + 2) 11 [.ref 7, .int p1, .int p2] SH w (fun r s1 w1 => r = some (.int (F_11_7 p1 p2 w)) ∧ s1 = SH ∧ w1 = w) := by
  refine CV.of rfl ?_
  refine EV.steps cl_11 3 (q2 := (3, [some (.ref 7), some (.int p1), some (.int p2)], [.int (kI 5), .int (kI 0), .int p1], SH, w)) rfl ?_
  refine EV.call cl_11 rfl rfl rfl (m_153 w p1 (kI 0) (kI 5)) ?_
  rintro _ _ _ ⟨rfl, rfl, rfl⟩
  refine EV.z_eq cl_11 rfl (fun h1 => ?_) (fun h1 => ?_)
  · skip
    refine EV.steps cl_11 1 (q2 := (33, [some (.ref 7), some (.int p1), some (.int p2)], [.int (kI 0)], SH, w)) rfl ?_
    refine EV.ret cl_11 rfl rfl rfl ?_
    exact ⟨(by simp only [F_11_7, if_pos h1]), rfl, rfl⟩
  · skip
    refine EV.steps cl_11 3 (q2 := (12, [some (.ref 7), some (.int p1), some (.int p2)], [.int (kI 5), .int (kI 0), .int p2], SH, w)) rfl ?_
    refine EV.call cl_11 rfl rfl rfl (m_153 w p2 (kI 0) (kI 5)) ?_
    rintro _ _ _ ⟨rfl, rfl, rfl⟩
    refine EV.z_eq cl_11 rfl (fun h2 => ?_) (fun h2 => ?_)
    · skip
      refine EV.steps cl_11 1 (q2 := (33, [some (.ref 7), some (.int p1), some (.int p2)], [.int (kI 0)], SH, w)) rfl ?_
      refine EV.ret cl_11 rfl rfl rfl ?_
      exact ⟨(by simp only [F_11_7, if_neg h1, if_pos h2]), rfl, rfl⟩
    · skip
      refine EV.steps cl_11 7 (q2 := (28, [some (.ref 7), some (.int p1), some (.int p2)], [.int ((p1 * (kI 6)) + p2), .ref 8], SH, w)) rfl ?_
      refine EV.iaload cl_11 rfl rfl (by decide) (by first | rfl | exact ix_153 (by assumption) (by decide) | exact ix2_153 (by assumption) (by assumption) (by decide) (by decide) (by decide) (by decide) | exact ix_157 (by assumption) (by decide)) ?_
      refine EV.steps cl_11 1 (q2 := (33, [some (.ref 7), some (.int p1), some (.int p2)], [.int (w 8 ((p1 * (kI 6)) + p2).toNatClampNeg)], SH, w)) rfl ?_
      refine EV.ret cl_11 rfl rfl rfl ?_
      exact ⟨(by simp only [F_11_7, if_neg h1, if_neg h2]), rfl, rfl⟩
def F_11_12 (p1 : Int32) (p2 : Int32) (w : Wd) : Int32 := (if (F_153 p1 (kI 0) (kI 5) w) = 0 then (kI 0) else (if (F_153 p2 (kI 0) (kI 5) w) = 0 then (kI 0) else (w 13 ((p1 * (kI 6)) + p2).toNatClampNeg)))
theorem m_11_12 {X : Scr} {d : Nat} (w : Wd) (p1 : Int32) (p2 : Int32) : CV X (d + 2) 11 [.ref 12, .int p1, .int p2] SH w (fun r s1 w1 => r = some (.int (F_11_12 p1 p2 w)) ∧ s1 = SH ∧ w1 = w) := by
  refine CV.of rfl ?_
  refine EV.steps cl_11 3 (q2 := (3, [some (.ref 12), some (.int p1), some (.int p2)], [.int (kI 5), .int (kI 0), .int p1], SH, w)) rfl ?_
  refine EV.call cl_11 rfl rfl rfl (m_153 w p1 (kI 0) (kI 5)) ?_
  rintro _ _ _ ⟨rfl, rfl, rfl⟩
  refine EV.z_eq cl_11 rfl (fun h1 => ?_) (fun h1 => ?_)
  · skip
    refine EV.steps cl_11 1 (q2 := (33, [some (.ref 12), some (.int p1), some (.int p2)], [.int (kI 0)], SH, w)) rfl ?_
    refine EV.ret cl_11 rfl rfl rfl ?_
    exact ⟨(by simp only [F_11_12, if_pos h1]), rfl, rfl⟩
  · skip
    refine EV.steps cl_11 3 (q2 := (12, [some (.ref 12), some (.int p1), some (.int p2)], [.int (kI 5), .int (kI 0), .int p2], SH, w)) rfl ?_
    refine EV.call cl_11 rfl rfl rfl (m_153 w p2 (kI 0) (kI 5)) ?_
    rintro _ _ _ ⟨rfl, rfl, rfl⟩
    refine EV.z_eq cl_11 rfl (fun h2 => ?_) (fun h2 => ?_)
    · skip
      refine EV.steps cl_11 1 (q2 := (33, [some (.ref 12), some (.int p1), some (.int p2)], [.int (kI 0)], SH, w)) rfl ?_
      refine EV.ret cl_11 rfl rfl rfl ?_
      exact ⟨(by simp only [F_11_12, if_neg h1, if_pos h2]), rfl, rfl⟩
    · skip
      refine EV.steps cl_11 7 (q2 := (28, [some (.ref 12), some (.int p1), some (.int p2)], [.int ((p1 * (kI 6)) + p2), .ref 13], SH, w)) rfl ?_
      refine EV.iaload cl_11 rfl rfl (by decide) (by first | rfl | exact ix_153 (by assumption) (by decide) | exact ix2_153 (by assumption) (by assumption) (by decide) (by decide) (by decide) (by decide) | exact ix_157 (by assumption) (by decide)) ?_
      refine EV.steps cl_11 1 (q2 := (33, [some (.ref 12), some (.int p1), some (.int p2)], [.int (w 13 ((p1 * (kI 6)) + p2).toNatClampNeg)], SH, w)) rfl ?_
      refine EV.ret cl_11 rfl rfl rfl ?_
      exact ⟨(by simp only [F_11_12, if_neg h1, if_neg h2]), rfl, rfl⟩
def F_11_17 (p1 : Int32) (p2 : Int32) (w : Wd) : Int32 := (if (F_153 p1 (kI 0) (kI 5) w) = 0 then (kI 0) else (if (F_153 p2 (kI 0) (kI 5) w) = 0 then (kI 0) else (w 18 ((p1 * (kI 6)) + p2).toNatClampNeg)))
theorem m_11_17 {X : Scr} {d : Nat} (w : Wd) (p1 : Int32) (p2 : Int32) : CV X (d + 2) 11 [.ref 17, .int p1, .int p2] SH w (fun r s1 w1 => r = some (.int (F_11_17 p1 p2 w)) ∧ s1 = SH ∧ w1 = w) := by
  refine CV.of rfl ?_
  refine EV.steps cl_11 3 (q2 := (3, [some (.ref 17), some (.int p1), some (.int p2)], [.int (kI 5), .int (kI 0), .int p1], SH, w)) rfl ?_
  refine EV.call cl_11 rfl rfl rfl (m_153 w p1 (kI 0) (kI 5)) ?_
  rintro _ _ _ ⟨rfl, rfl, rfl⟩
  refine EV.z_eq cl_11 rfl (fun h1 => ?_) (fun h1 => ?_)
  · skip
    refine EV.steps cl_11 1 (q2 := (33, [some (.ref 17), some (.int p1), some (.int p2)], [.int (kI 0)], SH, w)) rfl ?_
    refine EV.ret cl_11 rfl rfl rfl ?_
    exact ⟨(by simp only [F_11_17, if_pos h1]), rfl, rfl⟩
  · skip
    refine EV.steps cl_11 3 (q2 := (12, [some (.ref 17), some (.int p1), some (.int p2)], [.int (kI 5), .int (kI 0), .int p2], SH, w)) rfl ?_
    refine EV.call cl_11 rfl rfl rfl (m_153 w p2 (kI 0) (kI 5)) ?_
    rintro _ _ _ ⟨rfl, rfl, rfl⟩
    refine EV.z_eq cl_11 rfl (fun h2 => ?_) (fun h2 => ?_)
    · skip
      refine EV.steps cl_11 1 (q2 := (33, [some (.ref 17), some (.int p1), some (.int p2)], [.int (kI 0)], SH, w)) rfl ?_
      refine EV.ret cl_11 rfl rfl rfl ?_
      exact ⟨(by simp only [F_11_17, if_neg h1, if_pos h2]), rfl, rfl⟩
    · skip
      refine EV.steps cl_11 7 (q2 := (28, [some (.ref 17), some (.int p1), some (.int p2)], [.int ((p1 * (kI 6)) + p2), .ref 18], SH, w)) rfl ?_
      refine EV.iaload cl_11 rfl rfl (by decide) (by first | rfl | exact ix_153 (by assumption) (by decide) | exact ix2_153 (by assumption) (by assumption) (by decide) (by decide) (by decide) (by decide) | exact ix_157 (by assumption) (by decide)) ?_
      refine EV.steps cl_11 1 (q2 := (33, [some (.ref 17), some (.int p1), some (.int p2)], [.int (w 18 ((p1 * (kI 6)) + p2).toNatClampNeg)], SH, w)) rfl ?_
      refine EV.ret cl_11 rfl rfl rfl ?_
      exact ⟨(by simp only [F_11_17, if_neg h1, if_neg h2]), rfl, rfl⟩
theorem cl_12 : RCT[12]? = some rc_12 := rfl
def F_12_7 (p1 : Int32) (p2 : Int32) (w : Wd) : Int32 := (if (F_153 p1 (kI 0) (kI 5) w) = 0 then (kI 0) else (if (F_153 p2 (kI 0) (kI 11) w) = 0 then (kI 0) else (w 10 ((p1 * (kI 12)) + p2).toNatClampNeg)))
theorem m_12_7 {X : Scr} {d : Nat} (w : Wd) (p1 : Int32) (p2 : Int32) : CV X (d + 2) 12 [.ref 7, .int p1, .int p2] SH w (fun r s1 w1 => r = some (.int (F_12_7 p1 p2 w)) ∧ s1 = SH ∧ w1 = w) := by
  refine CV.of rfl ?_
  refine EV.steps cl_12 3 (q2 := (3, [some (.ref 7), some (.int p1), some (.int p2)], [.int (kI 5), .int (kI 0), .int p1], SH, w)) rfl ?_
  refine EV.call cl_12 rfl rfl rfl (m_153 w p1 (kI 0) (kI 5)) ?_
  rintro _ _ _ ⟨rfl, rfl, rfl⟩
  refine EV.z_eq cl_12 rfl (fun h1 => ?_) (fun h1 => ?_)
  · skip
    refine EV.steps cl_12 1 (q2 := (34, [some (.ref 7), some (.int p1), some (.int p2)], [.int (kI 0)], SH, w)) rfl ?_
    refine EV.ret cl_12 rfl rfl rfl ?_
    exact ⟨(by simp only [F_12_7, if_pos h1]), rfl, rfl⟩
  · skip
    refine EV.steps cl_12 3 (q2 := (13, [some (.ref 7), some (.int p1), some (.int p2)], [.int (kI 11), .int (kI 0), .int p2], SH, w)) rfl ?_
    refine EV.call cl_12 rfl rfl rfl (m_153 w p2 (kI 0) (kI 11)) ?_
    rintro _ _ _ ⟨rfl, rfl, rfl⟩
    refine EV.z_eq cl_12 rfl (fun h2 => ?_) (fun h2 => ?_)
    · skip
      refine EV.steps cl_12 1 (q2 := (34, [some (.ref 7), some (.int p1), some (.int p2)], [.int (kI 0)], SH, w)) rfl ?_
      refine EV.ret cl_12 rfl rfl rfl ?_
      exact ⟨(by simp only [F_12_7, if_neg h1, if_pos h2]), rfl, rfl⟩
    · skip
      refine EV.steps cl_12 7 (q2 := (29, [some (.ref 7), some (.int p1), some (.int p2)], [.int ((p1 * (kI 12)) + p2), .ref 10], SH, w)) rfl ?_
      refine EV.iaload cl_12 rfl rfl (by decide) (by first | rfl | exact ix_153 (by assumption) (by decide) | exact ix2_153 (by assumption) (by assumption) (by decide) (by decide) (by decide) (by decide) | exact ix_157 (by assumption) (by decide)) ?_
      refine EV.steps cl_12 1 (q2 := (34, [some (.ref 7), some (.int p1), some (.int p2)], [.int (w 10 ((p1 * (kI 12)) + p2).toNatClampNeg)], SH, w)) rfl ?_
      refine EV.ret cl_12 rfl rfl rfl ?_
      exact ⟨(by simp only [F_12_7, if_neg h1, if_neg h2]), rfl, rfl⟩
def F_12_12 (p1 : Int32) (p2 : Int32) (w : Wd) : Int32 := (if (F_153 p1 (kI 0) (kI 5) w) = 0 then (kI 0) else (if (F_153 p2 (kI 0) (kI 11) w) = 0 then (kI 0) else (w 15 ((p1 * (kI 12)) + p2).toNatClampNeg)))
theorem m_12_12 {X : Scr} {d : Nat} (w : Wd) (p1 : Int32) (p2 : Int32) : CV X (d + 2) 12 [.ref 12, .int p1, .int p2] SH w (fun r s1 w1 => r = some (.int (F_12_12 p1 p2 w)) ∧ s1 = SH ∧ w1 = w) := by
  refine CV.of rfl ?_
  refine EV.steps cl_12 3 (q2 := (3, [some (.ref 12), some (.int p1), some (.int p2)], [.int (kI 5), .int (kI 0), .int p1], SH, w)) rfl ?_
  refine EV.call cl_12 rfl rfl rfl (m_153 w p1 (kI 0) (kI 5)) ?_
  rintro _ _ _ ⟨rfl, rfl, rfl⟩
  refine EV.z_eq cl_12 rfl (fun h1 => ?_) (fun h1 => ?_)
  · skip
    refine EV.steps cl_12 1 (q2 := (34, [some (.ref 12), some (.int p1), some (.int p2)], [.int (kI 0)], SH, w)) rfl ?_
    refine EV.ret cl_12 rfl rfl rfl ?_
    exact ⟨(by simp only [F_12_12, if_pos h1]), rfl, rfl⟩
  · skip
    refine EV.steps cl_12 3 (q2 := (13, [some (.ref 12), some (.int p1), some (.int p2)], [.int (kI 11), .int (kI 0), .int p2], SH, w)) rfl ?_
    refine EV.call cl_12 rfl rfl rfl (m_153 w p2 (kI 0) (kI 11)) ?_
    rintro _ _ _ ⟨rfl, rfl, rfl⟩
    refine EV.z_eq cl_12 rfl (fun h2 => ?_) (fun h2 => ?_)
    · skip
      refine EV.steps cl_12 1 (q2 := (34, [some (.ref 12), some (.int p1), some (.int p2)], [.int (kI 0)], SH, w)) rfl ?_
      refine EV.ret cl_12 rfl rfl rfl ?_
      exact ⟨(by simp only [F_12_12, if_neg h1, if_pos h2]), rfl, rfl⟩
    · skip
      refine EV.steps cl_12 7 (q2 := (29, [some (.ref 12), some (.int p1), some (.int p2)], [.int ((p1 * (kI 12)) + p2), .ref 15], SH, w)) rfl ?_
      refine EV.iaload cl_12 rfl rfl (by decide) (by first | rfl | exact ix_153 (by assumption) (by decide) | exact ix2_153 (by assumption) (by assumption) (by decide) (by decide) (by decide) (by decide) | exact ix_157 (by assumption) (by decide)) ?_
      refine EV.steps cl_12 1 (q2 := (34, [some (.ref 12), some (.int p1), some (.int p2)], [.int (w 15 ((p1 * (kI 12)) + p2).toNatClampNeg)], SH, w)) rfl ?_
      refine EV.ret cl_12 rfl rfl rfl ?_
      exact ⟨(by simp only [F_12_12, if_neg h1, if_neg h2]), rfl, rfl⟩
def F_12_17 (p1 : Int32) (p2 : Int32) (w : Wd) : Int32 := (if (F_153 p1 (kI 0) (kI 5) w) = 0 then (kI 0) else (if (F_153 p2 (kI 0) (kI 11) w) = 0 then (kI 0) else (w 20 ((p1 * (kI 12)) + p2).toNatClampNeg)))
theorem m_12_17 {X : Scr} {d : Nat} (w : Wd) (p1 : Int32) (p2 : Int32) : CV X (d + 2) 12 [.ref 17, .int p1, .int p2] SH w (fun r s1 w1 => r = some (.int (F_12_17 p1 p2 w)) ∧ s1 = SH ∧ w1 = w) := by
  refine CV.of rfl ?_
  refine EV.steps cl_12 3 (q2 := (3, [some (.ref 17), some (.int p1), some (.int p2)], [.int (kI 5), .int (kI 0), .int p1], SH, w)) rfl ?_
  refine EV.call cl_12 rfl rfl rfl (m_153 w p1 (kI 0) (kI 5)) ?_
  rintro _ _ _ ⟨rfl, rfl, rfl⟩
  refine EV.z_eq cl_12 rfl (fun h1 => ?_) (fun h1 => ?_)
  · skip
    refine EV.steps cl_12 1 (q2 := (34, [some (.ref 17), some (.int p1), some (.int p2)], [.int (kI 0)], SH, w)) rfl ?_
    refine EV.ret cl_12 rfl rfl rfl ?_
    exact ⟨(by simp only [F_12_17, if_pos h1]), rfl, rfl⟩
  · skip
    refine EV.steps cl_12 3 (q2 := (13, [some (.ref 17), some (.int p1), some (.int p2)], [.int (kI 11), .int (kI 0), .int p2], SH, w)) rfl ?_
    refine EV.call cl_12 rfl rfl rfl (m_153 w p2 (kI 0) (kI 11)) ?_
    rintro _ _ _ ⟨rfl, rfl, rfl⟩
    refine EV.z_eq cl_12 rfl (fun h2 => ?_) (fun h2 => ?_)
    · skip
      refine EV.steps cl_12 1 (q2 := (34, [some (.ref 17), some (.int p1), some (.int p2)], [.int (kI 0)], SH, w)) rfl ?_
      refine EV.ret cl_12 rfl rfl rfl ?_
      exact ⟨(by simp only [F_12_17, if_neg h1, if_pos h2]), rfl, rfl⟩
    · skip
      refine EV.steps cl_12 7 (q2 := (29, [some (.ref 17), some (.int p1), some (.int p2)], [.int ((p1 * (kI 12)) + p2), .ref 20], SH, w)) rfl ?_
      refine EV.iaload cl_12 rfl rfl (by decide) (by first | rfl | exact ix_153 (by assumption) (by decide) | exact ix2_153 (by assumption) (by assumption) (by decide) (by decide) (by decide) (by decide) | exact ix_157 (by assumption) (by decide)) ?_
      refine EV.steps cl_12 1 (q2 := (34, [some (.ref 17), some (.int p1), some (.int p2)], [.int (w 20 ((p1 * (kI 12)) + p2).toNatClampNeg)], SH, w)) rfl ?_
      refine EV.ret cl_12 rfl rfl rfl ?_
      exact ⟨(by simp only [F_12_17, if_neg h1, if_neg h2]), rfl, rfl⟩
theorem cl_13 : RCT[13]? = some rc_13 := rfl
def F_13_7 (p1 : Int32) (p2 : Int32) (w : Wd) : Int32 := (if (F_153 p1 (kI 0) (kI 5) w) = 0 then (if (kI 0) = 0 then (kI (-2)) else (w 11 ((p2 * (kI 6)) + p1).toNatClampNeg)) else (if (F_153 p2 (kI 0) (kI 7) w) = 0 then (if (kI 0) = 0 then (kI (-2)) else (w 11 ((p2 * (kI 6)) + p1).toNatClampNeg)) else (if (kI 1) = 0 then (kI (-2)) else (w 11 ((p2 * (kI 6)) + p1).toNatClampNeg))))
theorem m_13_7 {X : Scr} {d : Nat} (w : Wd) (p1 : Int32) (p2 : Int32) : CV X (d + 2) 13 [.ref 7, .int p1, .int p2] SH w (fun r s1 w1 => r = some (.int (F_13_7 p1 p2 w)) ∧ s1 = SH ∧ w1 = w) := by
  refine CV.of rfl ?_
  refine EV.steps cl_13 3 (q2 := (3, [some (.ref 7), some (.int p1), some (.int p2), none], [.int (kI 5), .int (kI 0), .int p1], SH, w)) rfl ?_
  refine EV.call cl_13 rfl rfl rfl (m_153 w p1 (kI 0) (kI 5)) ?_
  rintro _ _ _ ⟨rfl, rfl, rfl⟩
  refine EV.z_eq cl_13 rfl (fun h1 => ?_) (fun h1 => ?_)
  · skip
    refine EV.steps cl_13 3 (q2 := (26, [some (.ref 7), some (.int p1), some (.int p2), some (.int (kI 0))], [.int (kI 0)], SH, w)) rfl ?_
    refine EV.z_eq cl_13 rfl (fun h2 => ?_) (fun h2 => ?_)
    · skip
      refine EV.steps cl_13 1 (q2 := (45, [some (.ref 7), some (.int p1), some (.int p2), some (.int (kI 0))], [.int (kI (-2))], SH, w)) rfl ?_
      refine EV.ret cl_13 rfl rfl rfl ?_
      exact ⟨(by simp only [F_13_7, if_pos h1, if_pos h2]), rfl, rfl⟩
    · skip
      refine EV.steps cl_13 7 (q2 := (39, [some (.ref 7), some (.int p1), some (.int p2), some (.int (kI 0))], [.int ((p2 * (kI 6)) + p1), .ref 11], SH, w)) rfl ?_
      refine EV.iaload cl_13 rfl rfl (by decide) (by first | rfl | exact ix_153 (by assumption) (by decide) | exact ix2_153 (by assumption) (by assumption) (by decide) (by decide) (by decide) (by decide) | exact ix_157 (by assumption) (by decide)) ?_
      refine EV.steps cl_13 1 (q2 := (45, [some (.ref 7), some (.int p1), some (.int p2), some (.int (kI 0))], [.int (w 11 ((p2 * (kI 6)) + p1).toNatClampNeg)], SH, w)) rfl ?_
      refine EV.ret cl_13 rfl rfl rfl ?_
      exact ⟨(by simp only [F_13_7, if_pos h1, if_neg h2]), rfl, rfl⟩
  · skip
    refine EV.steps cl_13 3 (q2 := (13, [some (.ref 7), some (.int p1), some (.int p2), none], [.int (kI 7), .int (kI 0), .int p2], SH, w)) rfl ?_
    refine EV.call cl_13 rfl rfl rfl (m_153 w p2 (kI 0) (kI 7)) ?_
    rintro _ _ _ ⟨rfl, rfl, rfl⟩
    refine EV.z_eq cl_13 rfl (fun h3 => ?_) (fun h3 => ?_)
    · skip
      refine EV.steps cl_13 3 (q2 := (26, [some (.ref 7), some (.int p1), some (.int p2), some (.int (kI 0))], [.int (kI 0)], SH, w)) rfl ?_
      refine EV.z_eq cl_13 rfl (fun h4 => ?_) (fun h4 => ?_)
      · skip
        refine EV.steps cl_13 1 (q2 := (45, [some (.ref 7), some (.int p1), some (.int p2), some (.int (kI 0))], [.int (kI (-2))], SH, w)) rfl ?_
        refine EV.ret cl_13 rfl rfl rfl ?_
        exact ⟨(by simp only [F_13_7, if_neg h1, if_pos h3, if_pos h4]), rfl, rfl⟩
      · skip
        refine EV.steps cl_13 7 (q2 := (39, [some (.ref 7), some (.int p1), some (.int p2), some (.int (kI 0))], [.int ((p2 * (kI 6)) + p1), .ref 11], SH, w)) rfl ?_
        refine EV.iaload cl_13 rfl rfl (by decide) (by first | rfl | exact ix_153 (by assumption) (by decide) | exact ix2_153 (by assumption) (by assumption) (by decide) (by decide) (by decide) (by decide) | exact ix_157 (by assumption) (by decide)) ?_
        refine EV.steps cl_13 1 (q2 := (45, [some (.ref 7), some (.int p1), some (.int p2), some (.int (kI 0))], [.int (w 11 ((p2 * (kI 6)) + p1).toNatClampNeg)], SH, w)) rfl ?_
        refine EV.ret cl_13 rfl rfl rfl ?_
        exact ⟨(by simp only [F_13_7, if_neg h1, if_pos h3, if_neg h4]), rfl, rfl⟩
    · skip
      refine EV.steps cl_13 4 (q2 := (26, [some (.ref 7), some (.int p1), some (.int p2), some (.int (kI 1))], [.int (kI 1)], SH, w)) rfl ?_
      refine EV.z_eq cl_13 rfl (fun h5 => ?_) (fun h5 => ?_)
      · skip
        refine EV.steps cl_13 1 (q2 := (45, [some (.ref 7), some (.int p1), some (.int p2), some (.int (kI 1))], [.int (kI (-2))], SH, w)) rfl ?_
        refine EV.ret cl_13 rfl rfl rfl ?_
        exact ⟨(by simp only [F_13_7, if_neg h1, if_neg h3, if_pos h5]), rfl, rfl⟩
      · skip
        refine EV.steps cl_13 7 (q2 := (39, [some (.ref 7), some (.int p1), some (.int p2), some (.int (kI 1))], [.int ((p2 * (kI 6)) + p1), .ref 11], SH, w)) rfl ?_
        refine EV.iaload cl_13 rfl rfl (by decide) (by first | rfl | exact ix_153 (by assumption) (by decide) | exact ix2_153 (by assumption) (by assumption) (by decide) (by decide) (by decide) (by decide) | exact ix_157 (by assumption) (by decide)) ?_
        refine EV.steps cl_13 1 (q2 := (45, [some (.ref 7), some (.int p1), some (.int p2), some (.int (kI 1))], [.int (w 11 ((p2 * (kI 6)) + p1).toNatClampNeg)], SH, w)) rfl ?_
        refine EV.ret cl_13 rfl rfl rfl ?_
        exact ⟨(by simp only [F_13_7, if_neg h1, if_neg h3, if_neg h5]), rfl, rfl⟩
def F_13_12 (p1 : Int32) (p2 : Int32) (w : Wd) : Int32 := (if (F_153 p1 (kI 0) (kI 5) w) = 0 then (if (kI 0) = 0 then (kI (-2)) else (w 16 ((p2 * (kI 6)) + p1).toNatClampNeg)) else (if (F_153 p2 (kI 0) (kI 7) w) = 0 then (if (kI 0) = 0 then (kI (-2)) else (w 16 ((p2 * (kI 6)) + p1).toNatClampNeg)) else (if (kI 1) = 0 then (kI (-2)) else (w 16 ((p2 * (kI 6)) + p1).toNatClampNeg))))
theorem m_13_12 {X : Scr} {d : Nat} (w : Wd) (p1 : Int32) (p2 : Int32) : CV X (d + 2) 13 [.ref 12, .int p1, .int p2] SH w (fun r s1 w1 => r = some (.int (F_13_12 p1 p2 w)) ∧ s1 = SH ∧ w1 = w) := by
  refine CV.of rfl ?_
  refine EV.steps cl_13 3 (q2 := (3, [some (.ref 12), some (.int p1), some (.int p2), none], [.int (kI 5), .int (kI 0), .int p1], SH, w)) rfl ?_
  refine EV.call cl_13 rfl rfl rfl (m_153 w p1 (kI 0) (kI 5)) ?_
  rintro _ _ _ ⟨rfl, rfl, rfl⟩
  refine EV.z_eq cl_13 rfl (fun h1 => ?_) (fun h1 => ?_)
  · skip
    refine EV.steps cl_13 3 (q2 := (26, [some (.ref 12), some (.int p1), some (.int p2), some (.int (kI 0))], [.int (kI 0)], SH, w)) rfl ?_
    refine EV.z_eq cl_13 rfl (fun h2 => ?_) (fun h2 => ?_)
    · skip
      refine EV.steps cl_13 1 (q2 := (45, [some (.ref 12), some (.int p1), some (.int p2), some (.int (kI 0))], [.int (kI (-2))], SH, w)) rfl ?_
      refine EV.ret cl_13 rfl rfl rfl ?_
      exact ⟨(by simp only [F_13_12, if_pos h1, if_pos h2]), rfl, rfl⟩
    · skip
      refine EV.steps cl_13 7 (q2 := (39, [some (.ref 12), some (.int p1), some (.int p2), some (.int (kI 0))], [.int ((p2 * (kI 6)) + p1), .ref 16], SH, w)) rfl ?_
      refine EV.iaload cl_13 rfl rfl (by decide) (by first | rfl | exact ix_153 (by assumption) (by decide) | exact ix2_153 (by assumption) (by assumption) (by decide) (by decide) (by decide) (by decide) | exact ix_157 (by assumption) (by decide)) ?_
      refine EV.steps cl_13 1 (q2 := (45, [some (.ref 12), some (.int p1), some (.int p2), some (.int (kI 0))], [.int (w 16 ((p2 * (kI 6)) + p1).toNatClampNeg)], SH, w)) rfl ?_
      refine EV.ret cl_13 rfl rfl rfl ?_
      exact ⟨(by simp only [F_13_12, if_pos h1, if_neg h2]), rfl, rfl⟩
  · skip
    refine EV.steps cl_13 3 (q2 := (13, [some (.ref 12), some (.int p1), some (.int p2), none], [.int (kI 7), .int (kI 0), .int p2], SH, w)) rfl ?_
    refine EV.call cl_13 rfl rfl rfl (m_153 w p2 (kI 0) (kI 7)) ?_
    rintro _ _ _ ⟨rfl, rfl, rfl⟩
    refine EV.z_eq cl_13 rfl (fun h3 => ?_) (fun h3 => ?_)
    · skip
      refine EV.steps cl_13 3 (q2 := (26, [some (.ref 12), some (.int p1), some (.int p2), some (.int (kI 0))], [.int (kI 0)], SH, w)) rfl ?_
      refine EV.z_eq cl_13 rfl (fun h4 => ?_) (fun h4 => ?_)
      · skip
        refine EV.steps cl_13 1 (q2 := (45, [some (.ref 12), some (.int p1), some (.int p2), some (.int (kI 0))], [.int (kI (-2))], SH, w)) rfl ?_
        refine EV.ret cl_13 rfl rfl rfl ?_
        exact ⟨(by simp only [F_13_12, if_neg h1, if_pos h3, if_pos h4]), rfl, rfl⟩
      · skip
        refine EV.steps cl_13 7 (q2 := (39, [some (.ref 12), some (.int p1), some (.int p2), some (.int (kI 0))], [.int ((p2 * (kI 6)) + p1), .ref 16], SH, w)) rfl ?_
        refine EV.iaload cl_13 rfl rfl (by decide) (by first | rfl | exact ix_153 (by assumption) (by decide) | exact ix2_153 (by assumption) (by assumption) (by decide) (by decide) (by decide) (by decide) | exact ix_157 (by assumption) (by decide)) ?_
        refine EV.steps cl_13 1 (q2 := (45, [some (.ref 12), some (.int p1), some (.int p2), some (.int (kI 0))], [.int (w 16 ((p2 * (kI 6)) + p1).toNatClampNeg)], SH, w)) rfl ?_
        refine EV.ret cl_13 rfl rfl rfl ?_
        exact ⟨(by simp only [F_13_12, if_neg h1, if_pos h3, if_neg h4]), rfl, rfl⟩
    · skip
      refine EV.steps cl_13 4 (q2 := (26, [some (.ref 12), some (.int p1), some (.int p2), some (.int (kI 1))], [.int (kI 1)], SH, w)) rfl ?_
      refine EV.z_eq cl_13 rfl (fun h5 => ?_) (fun h5 => ?_)
      · skip
        refine EV.steps cl_13 1 (q2 := (45, [some (.ref 12), some (.int p1), some (.int p2), some (.int (kI 1))], [.int (kI (-2))], SH, w)) rfl ?_
        refine EV.ret cl_13 rfl rfl rfl ?_
        exact ⟨(by simp only [F_13_12, if_neg h1, if_neg h3, if_pos h5]), rfl, rfl⟩
      · skip
        refine EV.steps cl_13 7 (q2 := (39, [some (.ref 12), some (.int p1), some (.int p2), some (.int (kI 1))], [.int ((p2 * (kI 6)) + p1), .ref 16], SH, w)) rfl ?_
        refine EV.iaload cl_13 rfl rfl (by decide) (by first | rfl | exact ix_153 (by assumption) (by decide) | exact ix2_153 (by assumption) (by assumption) (by decide) (by decide) (by decide) (by decide) | exact ix_157 (by assumption) (by decide)) ?_
        refine EV.steps cl_13 1 (q2 := (45, [some (.ref 12), some (.int p1), some (.int p2), some (.int (kI 1))], [.int (w 16 ((p2 * (kI 6)) + p1).toNatClampNeg)], SH, w)) rfl ?_
        refine EV.ret cl_13 rfl rfl rfl ?_
        exact ⟨(by simp only [F_13_12, if_neg h1, if_neg h3, if_neg h5]), rfl, rfl⟩
def F_13_17 (p1 : Int32) (p2 : Int32) (w : Wd) : Int32 := (if (F_153 p1 (kI 0) (kI 5) w) = 0 then (if (kI 0) = 0 then (kI (-2)) else (w 21 ((p2 * (kI 6)) + p1).toNatClampNeg)) else (if (F_153 p2 (kI 0) (kI 7) w) = 0 then (if (kI 0) = 0 then (kI (-2)) else (w 21 ((p2 * (kI 6)) + p1).toNatClampNeg)) else (if (kI 1) = 0 then (kI (-2)) else (w 21 ((p2 * (kI 6)) + p1).toNatClampNeg))))
theorem m_13_17 {X : Scr} {d : Nat} (w : Wd) (p1 : Int32) (p2 : Int32) : CV X (d + 2) 13 [.ref 17, .int p1, .int p2] SH w (fun r s1 w1 => r = some (.int (F_13_17 p1 p2 w)) ∧ s1 = SH ∧ w1 = w) := by
  refine CV.of rfl ?_
  refine EV.steps cl_13 3 (q2 := (3, [some (.ref 17), some (.int p1), some (.int p2), none], [.int (kI 5), .int (kI 0), .int p1], SH, w)) rfl ?_
  refine EV.call cl_13 rfl rfl rfl (m_153 w p1 (kI 0) (kI 5)) ?_
  rintro _ _ _ ⟨rfl, rfl, rfl⟩
  refine EV.z_eq cl_13 rfl (fun h1 => ?_) (fun h1 => ?_)
  · skip
    refine EV.steps cl_13 3 (q2 := (26, [some (.ref 17), some (.int p1), some (.int p2), some (.int (kI 0))], [.int (kI 0)], SH, w)) rfl ?_
    refine EV.z_eq cl_13 rfl (fun h2 => ?_) (fun h2 => ?_)
    · skip
      refine EV.steps cl_13 1 (q2 := (45, [some (.ref 17), some (.int p1), some (.int p2), some (.int (kI 0))], [.int (kI (-2))], SH, w)) rfl ?_
      refine EV.ret cl_13 rfl rfl rfl ?_
      exact ⟨(by simp only [F_13_17, if_pos h1, if_pos h2]), rfl, rfl⟩
    · skip
      refine EV.steps cl_13 7 (q2 := (39, [some (.ref 17), some (.int p1), some (.int p2), some (.int (kI 0))], [.int ((p2 * (kI 6)) + p1), .ref 21], SH, w)) rfl ?_
      refine EV.iaload cl_13 rfl rfl (by decide) (by first | rfl | exact ix_153 (by assumption) (by decide) | exact ix2_153 (by assumption) (by assumption) (by decide) (by decide) (by decide) (by decide) | exact ix_157 (by assumption) (by decide)) ?_
      refine EV.steps cl_13 1 (q2 := (45, [some (.ref 17), some (.int p1), some (.int p2), some (.int (kI 0))], [.int (w 21 ((p2 * (kI 6)) + p1).toNatClampNeg)], SH, w)) rfl ?_
      refine EV.ret cl_13 rfl rfl rfl ?_
      exact ⟨(by simp only [F_13_17, if_pos h1, if_neg h2]), rfl, rfl⟩
  · skip
    refine EV.steps cl_13 3 (q2 := (13, [some (.ref 17), some (.int p1), some (.int p2), none], [.int (kI 7), .int (kI 0), .int p2], SH, w)) rfl ?_
    refine EV.call cl_13 rfl rfl rfl (m_153 w p2 (kI 0) (kI 7)) ?_
    rintro _ _ _ ⟨rfl, rfl, rfl⟩
    refine EV.z_eq cl_13 rfl (fun h3 => ?_) (fun h3 => ?_)
    · skip
      refine EV.steps cl_13 3 (q2 := (26, [some (.ref 17), some (.int p1), some (.int p2), some (.int (kI 0))], [.int (kI 0)], SH, w)) rfl ?_
      refine EV.z_eq cl_13 rfl (fun h4 => ?_) (fun h4 => ?_)
      · skip
        refine EV.steps cl_13 1 (q2 := (45, [some (.ref 17), some (.int p1), some (.int p2), some (.int (kI 0))], [.int (kI (-2))], SH, w)) rfl ?_
        refine EV.ret cl_13 rfl rfl rfl ?_
        exact ⟨(by simp only [F_13_17, if_neg h1, if_pos h3, if_pos h4]), rfl, rfl⟩
      · skip
        refine EV.steps cl_13 7 (q2 := (39, [some (.ref 17), some (.int p1), some (.int p2), some (.int (kI 0))], [.int ((p2 * (kI 6)) + p1), .ref 21], SH, w)) rfl ?_
        refine EV.iaload cl_13 rfl rfl (by decide) (by first | rfl | exact ix_153 (by assumption) (by decide) | exact ix2_153 (by assumption) (by assumption) (by decide) (by decide) (by decide) (by decide) | exact ix_157 (by assumption) (by decide)) ?_
        refine EV.steps cl_13 1 (q2 := (45, [some (.ref 17), some (.int p1), some (.int p2), some (.int (kI 0))], [.int (w 21 ((p2 * (kI 6)) + p1).toNatClampNeg)], SH, w)) rfl ?_
        refine EV.ret cl_13 rfl rfl rfl ?_
        exact ⟨(by simp only [F_13_17, if_neg h1, if_pos h3, if_neg h4]), rfl, rfl⟩
    · skip
      refine EV.steps cl_13 4 (q2 := (26, [some (.ref 17), some (.int p1), some (.int p2), some (.int (kI 1))], [.int (kI 1)], SH, w)) rfl ?_
      refine EV.z_eq cl_13 rfl (fun h5 => ?_) (fun h5 => ?_)
      · skip
        refine EV.steps cl_13 1 (q2 := (45, [some (.ref 17), some (.int p1), some (.int p2), some (.int (kI 1))], [.int (kI (-2))], SH, w)) rfl ?_
        refine EV.ret cl_13 rfl rfl rfl ?_
        exact ⟨(by simp only [F_13_17, if_neg h1, if_neg h3, if_pos h5]), rfl, rfl⟩
      · skip
        refine EV.steps cl_13 7 (q2 := (39, [some (.ref 17), some (.int p1), some (.int p2), some (.int (kI 1))], [.int ((p2 * (kI 6)) + p1), .ref 21], SH, w)) rfl ?_
        refine EV.iaload cl_13 rfl rfl (by decide) (by first | rfl | exact ix_153 (by assumption) (by decide) | exact ix2_153 (by assumption) (by assumption) (by decide) (by decide) (by decide) (by decide) | exact ix_157 (by assumption) (by decide)) ?_
        refine EV.steps cl_13 1 (q2 := (45, [some (.ref 17), some (.int p1), some (.int p2), some (.int (kI 1))], [.int (w 21 ((p2 * (kI 6)) + p1).toNatClampNeg)], SH, w)) rfl ?_
        refine EV.ret cl_13 rfl rfl rfl ?_
        exact ⟨(by simp only [F_13_17, if_neg h1, if_neg h3, if_neg h5]), rfl, rfl⟩
theorem cl_14 : RCT[14]? = some rc_14 := rfl
def F_14_7 (p1 : Int32) (w : Wd) : Int32 := (if (F_153 p1 (kI 0) (kI 5) w) = 0 then (kI 0) else (w 9 p1.toNatClampNeg))
theorem m_14_7 {X : Scr} {d : Nat} (w : Wd) (p1 : Int32) : CV X (d + 2) 14 [.ref 7, .int p1] SH w (fun r s1 w1 => r = some (.int (F_14_7 p1 w)) ∧ s1 = SH ∧ w1 = w) := by
  refine CV.of rfl ?_
  refine EV.steps cl_14 3 (q2 := (3, [some (.ref 7), some (.int p1)], [.int (kI 5), .int (kI 0), .int p1], SH, w)) rfl ?_
  refine EV.call cl_14 rfl rfl rfl (m_153 w p1 (kI 0) (kI 5)) ?_
  rintro _ _ _ ⟨rfl, rfl, rfl⟩
  refine EV.z_eq cl_14 rfl (fun h1 => ?_) (fun h1 => ?_)
  · skip
    refine EV.steps cl_14 1 (q2 := (19, [some (.ref 7), some (.int p1)], [.int (kI 0)], SH, w)) rfl ?_
    refine EV.ret cl_14 rfl rfl rfl ?_
    exact ⟨(by simp only [F_14_7, if_pos h1]), rfl, rfl⟩
  · skip
    refine EV.steps cl_14 3 (q2 := (14, [some (.ref 7), some (.int p1)], [.int p1, .ref 9], SH, w)) rfl ?_
    refine EV.iaload cl_14 rfl rfl (by decide) (by first | rfl | exact ix_153 (by assumption) (by decide) | exact ix2_153 (by assumption) (by assumption) (by decide) (by decide) (by decide) (by decide) | exact ix_157 (by assumption) (by decide)) ?_
    refine EV.steps cl_14 1 (q2 := (19, [some (.ref 7), some (.int p1)], [.int (w 9 p1.toNatClampNeg)], SH, w)) rfl ?_
    refine EV.ret cl_14 rfl rfl rfl ?_
    exact ⟨(by simp only [F_14_7, if_neg h1]), rfl, rfl⟩
def F_14_12 (p1 : Int32) (w : Wd) : Int32 := (if (F_153 p1 (kI 0) (kI 5) w) = 0 then (kI 0) else (w 14 p1.toNatClampNeg))
theorem m_14_12 {X : Scr} {d : Nat} (w : Wd) (p1 : Int32) : CV X (d + 2) 14 [.ref 12, .int p1] SH w (fun r s1 w1 => r = some (.int (F_14_12 p1 w)) ∧ s1 = SH ∧ w1 = w) := by
  refine CV.of rfl ?_
  refine EV.steps cl_14 3 (q2 := (3, [some (.ref 12), some (.int p1)], [.int (kI 5), .int (kI 0), .int p1], SH, w)) rfl ?_
  refine EV.call cl_14 rfl rfl rfl (m_153 w p1 (kI 0) (kI 5)) ?_
  rintro _ _ _ ⟨rfl, rfl, rfl⟩
  refine EV.z_eq cl_14 rfl (fun h1 => ?_) (fun h1 => ?_)
  · skip
    refine EV.steps cl_14 1 (q2 := (19, [some (.ref 12), some (.int p1)], [.int (kI 0)], SH, w)) rfl ?_
    refine EV.ret cl_14 rfl rfl rfl ?_
    exact ⟨(by simp only [F_14_12, if_pos h1]), rfl, rfl⟩
  · skip
    refine EV.steps cl_14 3 (q2 := (14, [some (.ref 12), some (.int p1)], [.int p1, .ref 14], SH, w)) rfl ?_
    refine EV.iaload cl_14 rfl rfl (by decide) (by first | rfl | exact ix_153 (by assumption) (by decide) | exact ix2_153 (by assumption) (by assumption) (by decide) (by decide) (by decide) (by decide) | exact ix_157 (by assumption) (by decide)) ?_
    refine EV.steps cl_14 1 (q2 := (19, [some (.ref 12), some (.int p1)], [.int (w 14 p1.toNatClampNeg)], SH, w)) rfl ?_
    refine EV.ret cl_14 rfl rfl rfl ?_
    exact ⟨(by simp only [F_14_12, if_neg h1]), rfl, rfl⟩
def F_14_17 (p1 : Int32) (w : Wd) : Int32 := (if (F_153 p1 (kI 0) (kI 5) w) = 0 then (kI 0) else (w 19 p1.toNatClampNeg))
theorem m_14_17 {X : Scr} {d : Nat} (w : Wd) (p1 : Int32) : CV X (d + 2) 14 [.ref 17, .int p1] SH w (fun r s1 w1 => r = some (.int (F_14_17 p1 w)) ∧ s1 = SH ∧ w1 = w) := by
  refine CV.of rfl ?_
  refine EV.steps cl_14 3 (q2 := (3, [some (.ref 17), some (.int p1)], [.int (kI 5), .int (kI 0), .int p1], SH, w)) rfl ?_
  refine EV.call cl_14 rfl rfl rfl (m_153 w p1 (kI 0) (kI 5)) ?_
  rintro _ _ _ ⟨rfl, rfl, rfl⟩
  refine EV.z_eq cl_14 rfl (fun h1 => ?_) (fun h1 => ?_)
  · skip
    refine EV.steps cl_14 1 (q2 := (19, [some (.ref 17), some (.int p1)], [.int (kI 0)], SH, w)) rfl ?_
    refine EV.ret cl_14 rfl rfl rfl ?_
    exact ⟨(by simp only [F_14_17, if_pos h1]), rfl, rfl⟩
  · skip
    refine EV.steps cl_14 3 (q2 := (14, [some (.ref 17), some (.int p1)], [.int p1, .ref 19], SH, w)) rfl ?_
    refine EV.iaload cl_14 rfl rfl (by decide) (by first | rfl | exact ix_153 (by assumption) (by decide) | exact ix2_153 (by assumption) (by assumption) (by decide) (by decide) (by decide) (by decide) | exact ix_157 (by assumption) (by decide)) ?_
    refine EV.steps cl_14 1 (q2 := (19, [some (.ref 17), some (.int p1)], [.int (w 19 p1.toNatClampNeg)], SH, w)) rfl ?_
    refine EV.ret cl_14 rfl rfl rfl ?_
    exact ⟨(by simp only [F_14_17, if_neg h1]), rfl, rfl⟩
theorem cl_16 : RCT[16]? = some rc_16 := rfl
def G_16_7 (p1 : Int32) (p2 : Int32) (p3 : Int32) (w : Wd) : Wd := (if (F_153 p1 (kI 0) (kI 5) w) = 0 then w else (if (F_153 p2 (kI 0) (kI 5) w) = 0 then w else (up2 (up2 (up2 w 9 p2.toNatClampNeg ((w 9 p2.toNatClampNeg) - (w 8 ((p1 * (kI 6)) + p2).toNatClampNeg))) 8 ((p1 * (kI 6)) + p2).toNatClampNeg (if (kI 0) < (if ((w 8 ((p1 * (kI 6)) + p2).toNatClampNeg) + p3) < (kI 9999) then ((w 8 ((p1 * (kI 6)) + p2).toNatClampNeg) + p3) else (kI 9999)) then (if ((w 8 ((p1 * (kI 6)) + p2).toNatClampNeg) + p3) < (kI 9999) then ((w 8 ((p1 * (kI 6)) + p2).toNatClampNeg) + p3) else (kI 9999)) else (kI 0))) 9 p2.toNatClampNeg (((w 9 p2.toNatClampNeg) - (w 8 ((p1 * (kI 6)) + p2).toNatClampNeg)) + (if (kI 0) < (if ((w 8 ((p1 * (kI 6)) + p2).toNatClampNeg) + p3) < (kI 9999) then ((w 8 ((p1 * (kI 6)) + p2).toNatClampNeg) + p3) else (kI 9999)) then (if ((w 8 ((p1 * (kI 6)) + p2).toNatClampNeg) + p3) < (kI 9999) then ((w 8 ((p1 * (kI 6)) + p2).toNatClampNeg) + p3) else (kI 9999)) else (kI 0))))))
theorem m_16_7 {X : Scr} {d : Nat} (w : Wd) (p1 : Int32) (p2 : Int32) (p3 : Int32) : CV X (d + 2) 16 [.ref 7, .int p1, .int p2, .int p3] SH w (fun r s1 w1 => r = none ∧ s1 = SH ∧ w1 = G_16_7 p1 p2 p3 w) := by
  refine CV.of rfl ?_
  refine EV.steps cl_16 3 (q2 := (3, [some (.ref 7), some (.int p1), some (.int p2), some (.int p3), none], [.int (kI 5), .int (kI 0), .int p1], SH, w)) rfl ?_
  refine EV.call cl_16 rfl rfl rfl (m_153 w p1 (kI 0) (kI 5)) ?_
  rintro _ _ _ ⟨rfl, rfl, rfl⟩
  refine EV.z_eq cl_16 rfl (fun h1 => ?_) (fun h1 => ?_)
  · skip
    refine EV.ret cl_16 rfl rfl rfl ?_
    exact ⟨rfl, rfl, (by simp only [G_16_7, if_pos h1])⟩
  · skip
    refine EV.steps cl_16 3 (q2 := (12, [some (.ref 7), some (.int p1), some (.int p2), some (.int p3), none], [.int (kI 5), .int (kI 0), .int p2], SH, w)) rfl ?_
    refine EV.call cl_16 rfl rfl rfl (m_153 w p2 (kI 0) (kI 5)) ?_
    rintro _ _ _ ⟨rfl, rfl, rfl⟩
    refine EV.z_eq cl_16 rfl (fun h2 => ?_) (fun h2 => ?_)
    · skip
      refine EV.ret cl_16 rfl rfl rfl ?_
      exact ⟨rfl, rfl, (by simp only [G_16_7, if_neg h1, if_pos h2])⟩
    · skip
      refine EV.steps cl_16 10 (q2 := (32, [some (.ref 7), some (.int p1), some (.int p2), some (.int p3), some (.int ((p1 * (kI 6)) + p2))], [.int p2, .ref 9, .int p2, .ref 9], SH, w)) rfl ?_
      refine EV.iaload cl_16 rfl rfl (by decide) (by first | rfl | exact ix_153 (by assumption) (by decide) | exact ix2_153 (by assumption) (by assumption) (by decide) (by decide) (by decide) (by decide) | exact ix_157 (by assumption) (by decide)) ?_
      refine EV.steps cl_16 3 (q2 := (39, [some (.ref 7), some (.int p1), some (.int p2), some (.int p3), some (.int ((p1 * (kI 6)) + p2))], [.int ((p1 * (kI 6)) + p2), .ref 8, .int (w 9 p2.toNatClampNeg), .int p2, .ref 9], SH, w)) rfl ?_
      refine EV.iaload cl_16 rfl rfl (by decide) (by first | rfl | exact ix_153 (by assumption) (by decide) | exact ix2_153 (by assumption) (by assumption) (by decide) (by decide) (by decide) (by decide) | exact ix_157 (by assumption) (by decide)) ?_
      refine EV.steps cl_16 1 (q2 := (41, [some (.ref 7), some (.int p1), some (.int p2), some (.int p3), some (.int ((p1 * (kI 6)) + p2))], [.int ((w 9 p2.toNatClampNeg) - (w 8 ((p1 * (kI 6)) + p2).toNatClampNeg)), .int p2, .ref 9], SH, w)) rfl ?_
      refine EV.iastore cl_16 rfl rfl (by decide) (by first | rfl | exact ix_153 (by assumption) (by decide) | exact ix2_153 (by assumption) (by assumption) (by decide) (by decide) (by decide) (by decide) | exact ix_157 (by assumption) (by decide)) ?_
      refine EV.steps cl_16 8 (q2 := (58, [some (.ref 7), some (.int p1), some (.int p2), some (.int p3), some (.int ((p1 * (kI 6)) + p2))], [.int ((p1 * (kI 6)) + p2), .ref 8, .int (kI 9999), .int (kI 0), .int ((p1 * (kI 6)) + p2), .ref 8], SH, (up2 w 9 p2.toNatClampNeg ((w 9 p2.toNatClampNeg) - (w 8 ((p1 * (kI 6)) + p2).toNatClampNeg))))) rfl ?_
      refine EV.iaload cl_16 rfl rfl (by decide) (by first | rfl | exact ix_153 (by assumption) (by decide) | exact ix2_153 (by assumption) (by assumption) (by decide) (by decide) (by decide) (by decide) | exact ix_157 (by assumption) (by decide)) ?_
      refine EV.steps cl_16 4 (q2 := (67, [some (.ref 7), some (.int p1), some (.int p2), some (.int p3), some (.int ((p1 * (kI 6)) + p2))], [.int (if (kI 0) < (if ((w 8 ((p1 * (kI 6)) + p2).toNatClampNeg) + p3) < (kI 9999) then ((w 8 ((p1 * (kI 6)) + p2).toNatClampNeg) + p3) else (kI 9999)) then (if ((w 8 ((p1 * (kI 6)) + p2).toNatClampNeg) + p3) < (kI 9999) then ((w 8 ((p1 * (kI 6)) + p2).toNatClampNeg) + p3) else (kI 9999)) else (kI 0)), .int ((p1 * (kI 6)) + p2), .ref 8], SH, (up2 w 9 p2.toNatClampNeg ((w 9 p2.toNatClampNeg) - (w 8 ((p1 * (kI 6)) + p2).toNatClampNeg))))) rfl ?_
      refine EV.iastore cl_16 rfl rfl (by decide) (by first | rfl | exact ix_153 (by assumption) (by decide) | exact ix2_153 (by assumption) (by assumption) (by decide) (by decide) (by decide) (by decide) | exact ix_157 (by assumption) (by decide)) ?_
      refine EV.steps cl_16 4 (q2 := (74, [some (.ref 7), some (.int p1), some (.int p2), some (.int p3), some (.int ((p1 * (kI 6)) + p2))], [.int p2, .ref 9, .int p2, .ref 9], SH, (up2 (up2 w 9 p2.toNatClampNeg ((w 9 p2.toNatClampNeg) - (w 8 ((p1 * (kI 6)) + p2).toNatClampNeg))) 8 ((p1 * (kI 6)) + p2).toNatClampNeg (if (kI 0) < (if ((w 8 ((p1 * (kI 6)) + p2).toNatClampNeg) + p3) < (kI 9999) then ((w 8 ((p1 * (kI 6)) + p2).toNatClampNeg) + p3) else (kI 9999)) then (if ((w 8 ((p1 * (kI 6)) + p2).toNatClampNeg) + p3) < (kI 9999) then ((w 8 ((p1 * (kI 6)) + p2).toNatClampNeg) + p3) else (kI 9999)) else (kI 0))))) rfl ?_
      refine EV.iaload cl_16 rfl rfl (by decide) (by first | rfl | exact ix_153 (by assumption) (by decide) | exact ix2_153 (by assumption) (by assumption) (by decide) (by decide) (by decide) (by decide) | exact ix_157 (by assumption) (by decide)) ?_
      refine EV.steps cl_16 3 (q2 := (81, [some (.ref 7), some (.int p1), some (.int p2), some (.int p3), some (.int ((p1 * (kI 6)) + p2))], [.int ((p1 * (kI 6)) + p2), .ref 8, .int ((w 9 p2.toNatClampNeg) - (w 8 ((p1 * (kI 6)) + p2).toNatClampNeg)), .int p2, .ref 9], SH, (up2 (up2 w 9 p2.toNatClampNeg ((w 9 p2.toNatClampNeg) - (w 8 ((p1 * (kI 6)) + p2).toNatClampNeg))) 8 ((p1 * (kI 6)) + p2).toNatClampNeg (if (kI 0) < (if ((w 8 ((p1 * (kI 6)) + p2).toNatClampNeg) + p3) < (kI 9999) then ((w 8 ((p1 * (kI 6)) + p2).toNatClampNeg) + p3) else (kI 9999)) then (if ((w 8 ((p1 * (kI 6)) + p2).toNatClampNeg) + p3) < (kI 9999) then ((w 8 ((p1 * (kI 6)) + p2).toNatClampNeg) + p3) else (kI 9999)) else (kI 0))))) rfl ?_
      refine EV.iaload cl_16 rfl rfl (by decide) (by first | rfl | exact ix_153 (by assumption) (by decide) | exact ix2_153 (by assumption) (by assumption) (by decide) (by decide) (by decide) (by decide) | exact ix_157 (by assumption) (by decide)) ?_
      refine EV.steps cl_16 1 (q2 := (83, [some (.ref 7), some (.int p1), some (.int p2), some (.int p3), some (.int ((p1 * (kI 6)) + p2))], [.int (((w 9 p2.toNatClampNeg) - (w 8 ((p1 * (kI 6)) + p2).toNatClampNeg)) + (if (kI 0) < (if ((w 8 ((p1 * (kI 6)) + p2).toNatClampNeg) + p3) < (kI 9999) then ((w 8 ((p1 * (kI 6)) + p2).toNatClampNeg) + p3) else (kI 9999)) then (if ((w 8 ((p1 * (kI 6)) + p2).toNatClampNeg) + p3) < (kI 9999) then ((w 8 ((p1 * (kI 6)) + p2).toNatClampNeg) + p3) else (kI 9999)) else (kI 0))), .int p2, .ref 9], SH, (up2 (up2 w 9 p2.toNatClampNeg ((w 9 p2.toNatClampNeg) - (w 8 ((p1 * (kI 6)) + p2).toNatClampNeg))) 8 ((p1 * (kI 6)) + p2).toNatClampNeg (if (kI 0) < (if ((w 8 ((p1 * (kI 6)) + p2).toNatClampNeg) + p3) < (kI 9999) then ((w 8 ((p1 * (kI 6)) + p2).toNatClampNeg) + p3) else (kI 9999)) then (if ((w 8 ((p1 * (kI 6)) + p2).toNatClampNeg) + p3) < (kI 9999) then ((w 8 ((p1 * (kI 6)) + p2).toNatClampNeg) + p3) else (kI 9999)) else (kI 0))))) rfl ?_
      refine EV.iastore cl_16 rfl rfl (by decide) (by first | rfl | exact ix_153 (by assumption) (by decide) | exact ix2_153 (by assumption) (by assumption) (by decide) (by decide) (by decide) (by decide) | exact ix_157 (by assumption) (by decide)) ?_
      refine EV.ret cl_16 rfl rfl rfl ?_
      exact ⟨rfl, rfl, (by simp only [G_16_7, if_neg h1, if_neg h2])⟩
def G_16_12 (p1 : Int32) (p2 : Int32) (p3 : Int32) (w : Wd) : Wd := (if (F_153 p1 (kI 0) (kI 5) w) = 0 then w else (if (F_153 p2 (kI 0) (kI 5) w) = 0 then w else (up2 (up2 (up2 w 14 p2.toNatClampNeg ((w 14 p2.toNatClampNeg) - (w 13 ((p1 * (kI 6)) + p2).toNatClampNeg))) 13 ((p1 * (kI 6)) + p2).toNatClampNeg (if (kI 0) < (if ((w 13 ((p1 * (kI 6)) + p2).toNatClampNeg) + p3) < (kI 9999) then ((w 13 ((p1 * (kI 6)) + p2).toNatClampNeg) + p3) else (kI 9999)) then (if ((w 13 ((p1 * (kI 6)) + p2).toNatClampNeg) + p3) < (kI 9999) then ((w 13 ((p1 * (kI 6)) + p2).toNatClampNeg) + p3) else (kI 9999)) else (kI 0))) 14 p2.toNatClampNeg (((w 14 p2.toNatClampNeg) - (w 13 ((p1 * (kI 6)) + p2).toNatClampNeg)) + (if (kI 0) < (if ((w 13 ((p1 * (kI 6)) + p2).toNatClampNeg) + p3) < (kI 9999) then ((w 13 ((p1 * (kI 6)) + p2).toNatClampNeg) + p3) else (kI 9999)) then (if ((w 13 ((p1 * (kI 6)) + p2).toNatClampNeg) + p3) < (kI 9999) then ((w 13 ((p1 * (kI 6)) + p2).toNatClampNeg) + p3) else (kI 9999)) else (kI 0))))))
theorem m_16_12 {X : Scr} {d : Nat} (w : Wd) (p1 : Int32) (p2 : Int32) (p3 : Int32) : CV X (d + 2) 16 [.ref 12, .int p1, .int p2, .int p3] SH w (fun r s1 w1 => r = none ∧ s1 = SH ∧ w1 = G_16_12 p1 p2 p3 w) := by
  refine CV.of rfl ?_
  refine EV.steps cl_16 3 (q2 := (3, [some (.ref 12), some (.int p1), some (.int p2), some (.int p3), none], [.int (kI 5), .int (kI 0), .int p1], SH, w)) rfl ?_
  refine EV.call cl_16 rfl rfl rfl (m_153 w p1 (kI 0) (kI 5)) ?_
  rintro _ _ _ ⟨rfl, rfl, rfl⟩
  refine EV.z_eq cl_16 rfl (fun h1 => ?_) (fun h1 => ?_)
  · skip
    refine EV.ret cl_16 rfl rfl rfl ?_
    exact ⟨rfl, rfl, (by simp only [G_16_12, if_pos h1])⟩
  · skip
    refine EV.steps cl_16 3 (q2 := (12, [some (.ref 12), some (.int p1), some (.int p2), some (.int p3), none], [.int (kI 5), .int (kI 0), .int p2], SH, w)) rfl ?_
    refine EV.call cl_16 rfl rfl rfl (m_153 w p2 (kI 0) (kI 5)) ?_
    rintro _ _ _ ⟨rfl, rfl, rfl⟩
    refine EV.z_eq cl_16 rfl (fun h2 => ?_) (fun h2 => ?_)
    · skip
      refine EV.ret cl_16 rfl rfl rfl ?_
      exact ⟨rfl, rfl, (by simp only [G_16_12, if_neg h1, if_pos h2])⟩
    · skip
      refine EV.steps cl_16 10 (q2 := (32, [some (.ref 12), some (.int p1), some (.int p2), some (.int p3), some (.int ((p1 * (kI 6)) + p2))], [.int p2, .ref 14, .int p2, .ref 14], SH, w)) rfl ?_
      refine EV.iaload cl_16 rfl rfl (by decide) (by first | rfl | exact ix_153 (by assumption) (by decide) | exact ix2_153 (by assumption) (by assumption) (by decide) (by decide) (by decide) (by decide) | exact ix_157 (by assumption) (by decide)) ?_
      refine EV.steps cl_16 3 (q2 := (39, [some (.ref 12), some (.int p1), some (.int p2), some (.int p3), some (.int ((p1 * (kI 6)) + p2))], [.int ((p1 * (kI 6)) + p2), .ref 13, .int (w 14 p2.toNatClampNeg), .int p2, .ref 14], SH, w)) rfl ?_
      refine EV.iaload cl_16 rfl rfl (by decide) (by first | rfl | exact ix_153 (by assumption) (by decide) | exact ix2_153 (by assumption) (by assumption) (by decide) (by decide) (by decide) (by decide) | exact ix_157 (by assumption) (by decide)) ?_
      refine EV.steps cl_16 1 (q2 := (41, [some (.ref 12), some (.int p1), some (.int p2), some (.int p3), some (.int ((p1 * (kI 6)) + p2))], [.int ((w 14 p2.toNatClampNeg) - (w 13 ((p1 * (kI 6)) + p2).toNatClampNeg)), .int p2, .ref 14], SH, w)) rfl ?_
      refine EV.iastore cl_16 rfl rfl (by decide) (by first | rfl | exact ix_153 (by assumption) (by decide) | exact ix2_153 (by assumption) (by assumption) (by decide) (by decide) (by decide) (by decide) | exact ix_157 (by assumption) (by decide)) ?_
      refine EV.steps cl_16 8 (q2 := (58, [some (.ref 12), some (.int p1), some (.int p2), some (.int p3), some (.int ((p1 * (kI 6)) + p2))], [.int ((p1 * (kI 6)) + p2), .ref 13, .int (kI 9999), .int (kI 0), .int ((p1 * (kI 6)) + p2), .ref 13], SH, (up2 w 14 p2.toNatClampNeg ((w 14 p2.toNatClampNeg) - (w 13 ((p1 * (kI 6)) + p2).toNatClampNeg))))) rfl ?_
      refine EV.iaload cl_16 rfl rfl (by decide) (by first | rfl | exact ix_153 (by assumption) (by decide) | exact ix2_153 (by assumption) (by assumption) (by decide) (by decide) (by decide) (by decide) | exact ix_157 (by assumption) (by decide)) ?_
      refine EV.steps cl_16 4 (q2 := (67, [some (.ref 12), some (.int p1), some (.int p2), some (.int p3), some (.int ((p1 * (kI 6)) + p2))], [.int (if (kI 0) < (if ((w 13 ((p1 * (kI 6)) + p2).toNatClampNeg) + p3) < (kI 9999) then ((w 13 ((p1 * (kI 6)) + p2).toNatClampNeg) + p3) else (kI 9999)) then (if ((w 13 ((p1 * (kI 6)) + p2).toNatClampNeg) + p3) < (kI 9999) then ((w 13 ((p1 * (kI 6)) + p2).toNatClampNeg) + p3) else (kI 9999)) else (kI 0)), .int ((p1 * (kI 6)) + p2), .ref 13], SH, (up2 w 14 p2.toNatClampNeg ((w 14 p2.toNatClampNeg) - (w 13 ((p1 * (kI 6)) + p2).toNatClampNeg))))) rfl ?_
      refine EV.iastore cl_16 rfl rfl (by decide) (by first | rfl | exact ix_153 (by assumption) (by decide) | exact ix2_153 (by assumption) (by assumption) (by decide) (by decide) (by decide) (by decide) | exact ix_157 (by assumption) (by decide)) ?_
      refine EV.steps cl_16 4 (q2 := (74, [some (.ref 12), some (.int p1), some (.int p2), some (.int p3), some (.int ((p1 * (kI 6)) + p2))], [.int p2, .ref 14, .int p2, .ref 14], SH, (up2 (up2 w 14 p2.toNatClampNeg ((w 14 p2.toNatClampNeg) - (w 13 ((p1 * (kI 6)) + p2).toNatClampNeg))) 13 ((p1 * (kI 6)) + p2).toNatClampNeg (if (kI 0) < (if ((w 13 ((p1 * (kI 6)) + p2).toNatClampNeg) + p3) < (kI 9999) then ((w 13 ((p1 * (kI 6)) + p2).toNatClampNeg) + p3) else (kI 9999)) then (if ((w 13 ((p1 * (kI 6)) + p2).toNatClampNeg) + p3) < (kI 9999) then ((w 13 ((p1 * (kI 6)) + p2).toNatClampNeg) + p3) else (kI 9999)) else (kI 0))))) rfl ?_
      refine EV.iaload cl_16 rfl rfl (by decide) (by first | rfl | exact ix_153 (by assumption) (by decide) | exact ix2_153 (by assumption) (by assumption) (by decide) (by decide) (by decide) (by decide) | exact ix_157 (by assumption) (by decide)) ?_
      refine EV.steps cl_16 3 (q2 := (81, [some (.ref 12), some (.int p1), some (.int p2), some (.int p3), some (.int ((p1 * (kI 6)) + p2))], [.int ((p1 * (kI 6)) + p2), .ref 13, .int ((w 14 p2.toNatClampNeg) - (w 13 ((p1 * (kI 6)) + p2).toNatClampNeg)), .int p2, .ref 14], SH, (up2 (up2 w 14 p2.toNatClampNeg ((w 14 p2.toNatClampNeg) - (w 13 ((p1 * (kI 6)) + p2).toNatClampNeg))) 13 ((p1 * (kI 6)) + p2).toNatClampNeg (if (kI 0) < (if ((w 13 ((p1 * (kI 6)) + p2).toNatClampNeg) + p3) < (kI 9999) then ((w 13 ((p1 * (kI 6)) + p2).toNatClampNeg) + p3) else (kI 9999)) then (if ((w 13 ((p1 * (kI 6)) + p2).toNatClampNeg) + p3) < (kI 9999) then ((w 13 ((p1 * (kI 6)) + p2).toNatClampNeg) + p3) else (kI 9999)) else (kI 0))))) rfl ?_
      refine EV.iaload cl_16 rfl rfl (by decide) (by first | rfl | exact ix_153 (by assumption) (by decide) | exact ix2_153 (by assumption) (by assumption) (by decide) (by decide) (by decide) (by decide) | exact ix_157 (by assumption) (by decide)) ?_
      refine EV.steps cl_16 1 (q2 := (83, [some (.ref 12), some (.int p1), some (.int p2), some (.int p3), some (.int ((p1 * (kI 6)) + p2))], [.int (((w 14 p2.toNatClampNeg) - (w 13 ((p1 * (kI 6)) + p2).toNatClampNeg)) + (if (kI 0) < (if ((w 13 ((p1 * (kI 6)) + p2).toNatClampNeg) + p3) < (kI 9999) then ((w 13 ((p1 * (kI 6)) + p2).toNatClampNeg) + p3) else (kI 9999)) then (if ((w 13 ((p1 * (kI 6)) + p2).toNatClampNeg) + p3) < (kI 9999) then ((w 13 ((p1 * (kI 6)) + p2).toNatClampNeg) + p3) else (kI 9999)) else (kI 0))), .int p2, .ref 14], SH, (up2 (up2 w 14 p2.toNatClampNeg ((w 14 p2.toNatClampNeg) - (w 13 ((p1 * (kI 6)) + p2).toNatClampNeg))) 13 ((p1 * (kI 6)) + p2).toNatClampNeg (if (kI 0) < (if ((w 13 ((p1 * (kI 6)) + p2).toNatClampNeg) + p3) < (kI 9999) then ((w 13 ((p1 * (kI 6)) + p2).toNatClampNeg) + p3) else (kI 9999)) then (if ((w 13 ((p1 * (kI 6)) + p2).toNatClampNeg) + p3) < (kI 9999) then ((w 13 ((p1 * (kI 6)) + p2).toNatClampNeg) + p3) else (kI 9999)) else (kI 0))))) rfl ?_
      refine EV.iastore cl_16 rfl rfl (by decide) (by first | rfl | exact ix_153 (by assumption) (by decide) | exact ix2_153 (by assumption) (by assumption) (by decide) (by decide) (by decide) (by decide) | exact ix_157 (by assumption) (by decide)) ?_
      refine EV.ret cl_16 rfl rfl rfl ?_
      exact ⟨rfl, rfl, (by simp only [G_16_12, if_neg h1, if_neg h2])⟩
def G_16_17 (p1 : Int32) (p2 : Int32) (p3 : Int32) (w : Wd) : Wd := (if (F_153 p1 (kI 0) (kI 5) w) = 0 then w else (if (F_153 p2 (kI 0) (kI 5) w) = 0 then w else (up2 (up2 (up2 w 19 p2.toNatClampNeg ((w 19 p2.toNatClampNeg) - (w 18 ((p1 * (kI 6)) + p2).toNatClampNeg))) 18 ((p1 * (kI 6)) + p2).toNatClampNeg (if (kI 0) < (if ((w 18 ((p1 * (kI 6)) + p2).toNatClampNeg) + p3) < (kI 9999) then ((w 18 ((p1 * (kI 6)) + p2).toNatClampNeg) + p3) else (kI 9999)) then (if ((w 18 ((p1 * (kI 6)) + p2).toNatClampNeg) + p3) < (kI 9999) then ((w 18 ((p1 * (kI 6)) + p2).toNatClampNeg) + p3) else (kI 9999)) else (kI 0))) 19 p2.toNatClampNeg (((w 19 p2.toNatClampNeg) - (w 18 ((p1 * (kI 6)) + p2).toNatClampNeg)) + (if (kI 0) < (if ((w 18 ((p1 * (kI 6)) + p2).toNatClampNeg) + p3) < (kI 9999) then ((w 18 ((p1 * (kI 6)) + p2).toNatClampNeg) + p3) else (kI 9999)) then (if ((w 18 ((p1 * (kI 6)) + p2).toNatClampNeg) + p3) < (kI 9999) then ((w 18 ((p1 * (kI 6)) + p2).toNatClampNeg) + p3) else (kI 9999)) else (kI 0))))))
theorem m_16_17 {X : Scr} {d : Nat} (w : Wd) (p1 : Int32) (p2 : Int32) (p3 : Int32) : CV X (d + 2) 16 [.ref 17, .int p1, .int p2, .int p3] SH w (fun r s1 w1 => r = none ∧ s1 = SH ∧ w1 = G_16_17 p1 p2 p3 w) := by
  refine CV.of rfl ?_
  refine EV.steps cl_16 3 (q2 := (3, [some (.ref 17), some (.int p1), some (.int p2), some (.int p3), none], [.int (kI 5), .int (kI 0), .int p1], SH, w)) rfl ?_
  refine EV.call cl_16 rfl rfl rfl (m_153 w p1 (kI 0) (kI 5)) ?_
  rintro _ _ _ ⟨rfl, rfl, rfl⟩
  refine EV.z_eq cl_16 rfl (fun h1 => ?_) (fun h1 => ?_)
  · skip
    refine EV.ret cl_16 rfl rfl rfl ?_
    exact ⟨rfl, rfl, (by simp only [G_16_17, if_pos h1])⟩
  · skip
    refine EV.steps cl_16 3 (q2 := (12, [some (.ref 17), some (.int p1), some (.int p2), some (.int p3), none], [.int (kI 5), .int (kI 0), .int p2], SH, w)) rfl ?_
    refine EV.call cl_16 rfl rfl rfl (m_153 w p2 (kI 0) (kI 5)) ?_
    rintro _ _ _ ⟨rfl, rfl, rfl⟩
    refine EV.z_eq cl_16 rfl (fun h2 => ?_) (fun h2 => ?_)
    · skip
      refine EV.ret cl_16 rfl rfl rfl ?_
      exact ⟨rfl, rfl, (by simp only [G_16_17, if_neg h1, if_pos h2])⟩
    · skip
      refine EV.steps cl_16 10 (q2 := (32, [some (.ref 17), some (.int p1), some (.int p2), some (.int p3), some (.int ((p1 * (kI 6)) + p2))], [.int p2, .ref 19, .int p2, .ref 19], SH, w)) rfl ?_
      refine EV.iaload cl_16 rfl rfl (by decide) (by first | rfl | exact ix_153 (by assumption) (by decide) | exact ix2_153 (by assumption) (by assumption) (by decide) (by decide) (by decide) (by decide) | exact ix_157 (by assumption) (by decide)) ?_
      refine EV.steps cl_16 3 (q2 := (39, [some (.ref 17), some (.int p1), some (.int p2), some (.int p3), some (.int ((p1 * (kI 6)) + p2))], [.int ((p1 * (kI 6)) + p2), .ref 18, .int (w 19 p2.toNatClampNeg), .int p2, .ref 19], SH, w)) rfl ?_
      refine EV.iaload cl_16 rfl rfl (by decide) (by first | rfl | exact ix_153 (by assumption) (by decide) | exact ix2_153 (by assumption) (by assumption) (by decide) (by decide) (by decide) (by decide) | exact ix_157 (by assumption) (by decide)) ?_
      refine EV.steps cl_16 1 (q2 := (41, [some (.ref 17), some (.int p1), some (.int p2), some (.int p3), some (.int ((p1 * (kI 6)) + p2))], [.int ((w 19 p2.toNatClampNeg) - (w 18 ((p1 * (kI 6)) + p2).toNatClampNeg)), .int p2, .ref 19], SH, w)) rfl ?_
      refine EV.iastore cl_16 rfl rfl (by decide) (by first | rfl | exact ix_153 (by assumption) (by decide) | exact ix2_153 (by assumption) (by assumption) (by decide) (by decide) (by decide) (by decide) | exact ix_157 (by assumption) (by decide)) ?_
      refine EV.steps cl_16 8 (q2 := (58, [some (.ref 17), some (.int p1), some (.int p2), some (.int p3), some (.int ((p1 * (kI 6)) + p2))], [.int ((p1 * (kI 6)) + p2), .ref 18, .int (kI 9999), .int (kI 0), .int ((p1 * (kI 6)) + p2), .ref 18], SH, (up2 w 19 p2.toNatClampNeg ((w 19 p2.toNatClampNeg) - (w 18 ((p1 * (kI 6)) + p2).toNatClampNeg))))) rfl ?_
      refine EV.iaload cl_16 rfl rfl (by decide) (by first | rfl | exact ix_153 (by assumption) (by decide) | exact ix2_153 (by assumption) (by assumption) (by decide) (by decide) (by decide) (by decide) | exact ix_157 (by assumption) (by decide)) ?_
      refine EV.steps cl_16 4 (q2 := (67, [some (.ref 17), some (.int p1), some (.int p2), some (.int p3), some (.int ((p1 * (kI 6)) + p2))], [.int (if (kI 0) < (if ((w 18 ((p1 * (kI 6)) + p2).toNatClampNeg) + p3) < (kI 9999) then ((w 18 ((p1 * (kI 6)) + p2).toNatClampNeg) + p3) else (kI 9999)) then (if ((w 18 ((p1 * (kI 6)) + p2).toNatClampNeg) + p3) < (kI 9999) then ((w 18 ((p1 * (kI 6)) + p2).toNatClampNeg) + p3) else (kI 9999)) else (kI 0)), .int ((p1 * (kI 6)) + p2), .ref 18], SH, (up2 w 19 p2.toNatClampNeg ((w 19 p2.toNatClampNeg) - (w 18 ((p1 * (kI 6)) + p2).toNatClampNeg))))) rfl ?_
      refine EV.iastore cl_16 rfl rfl (by decide) (by first | rfl | exact ix_153 (by assumption) (by decide) | exact ix2_153 (by assumption) (by assumption) (by decide) (by decide) (by decide) (by decide) | exact ix_157 (by assumption) (by decide)) ?_
      refine EV.steps cl_16 4 (q2 := (74, [some (.ref 17), some (.int p1), some (.int p2), some (.int p3), some (.int ((p1 * (kI 6)) + p2))], [.int p2, .ref 19, .int p2, .ref 19], SH, (up2 (up2 w 19 p2.toNatClampNeg ((w 19 p2.toNatClampNeg) - (w 18 ((p1 * (kI 6)) + p2).toNatClampNeg))) 18 ((p1 * (kI 6)) + p2).toNatClampNeg (if (kI 0) < (if ((w 18 ((p1 * (kI 6)) + p2).toNatClampNeg) + p3) < (kI 9999) then ((w 18 ((p1 * (kI 6)) + p2).toNatClampNeg) + p3) else (kI 9999)) then (if ((w 18 ((p1 * (kI 6)) + p2).toNatClampNeg) + p3) < (kI 9999) then ((w 18 ((p1 * (kI 6)) + p2).toNatClampNeg) + p3) else (kI 9999)) else (kI 0))))) rfl ?_
      refine EV.iaload cl_16 rfl rfl (by decide) (by first | rfl | exact ix_153 (by assumption) (by decide) | exact ix2_153 (by assumption) (by assumption) (by decide) (by decide) (by decide) (by decide) | exact ix_157 (by assumption) (by decide)) ?_
      refine EV.steps cl_16 3 (q2 := (81, [some (.ref 17), some (.int p1), some (.int p2), some (.int p3), some (.int ((p1 * (kI 6)) + p2))], [.int ((p1 * (kI 6)) + p2), .ref 18, .int ((w 19 p2.toNatClampNeg) - (w 18 ((p1 * (kI 6)) + p2).toNatClampNeg)), .int p2, .ref 19], SH, (up2 (up2 w 19 p2.toNatClampNeg ((w 19 p2.toNatClampNeg) - (w 18 ((p1 * (kI 6)) + p2).toNatClampNeg))) 18 ((p1 * (kI 6)) + p2).toNatClampNeg (if (kI 0) < (if ((w 18 ((p1 * (kI 6)) + p2).toNatClampNeg) + p3) < (kI 9999) then ((w 18 ((p1 * (kI 6)) + p2).toNatClampNeg) + p3) else (kI 9999)) then (if ((w 18 ((p1 * (kI 6)) + p2).toNatClampNeg) + p3) < (kI 9999) then ((w 18 ((p1 * (kI 6)) + p2).toNatClampNeg) + p3) else (kI 9999)) else (kI 0))))) rfl ?_
      refine EV.iaload cl_16 rfl rfl (by decide) (by first | rfl | exact ix_153 (by assumption) (by decide) | exact ix2_153 (by assumption) (by assumption) (by decide) (by decide) (by decide) (by decide) | exact ix_157 (by assumption) (by decide)) ?_
      refine EV.steps cl_16 1 (q2 := (83, [some (.ref 17), some (.int p1), some (.int p2), some (.int p3), some (.int ((p1 * (kI 6)) + p2))], [.int (((w 19 p2.toNatClampNeg) - (w 18 ((p1 * (kI 6)) + p2).toNatClampNeg)) + (if (kI 0) < (if ((w 18 ((p1 * (kI 6)) + p2).toNatClampNeg) + p3) < (kI 9999) then ((w 18 ((p1 * (kI 6)) + p2).toNatClampNeg) + p3) else (kI 9999)) then (if ((w 18 ((p1 * (kI 6)) + p2).toNatClampNeg) + p3) < (kI 9999) then ((w 18 ((p1 * (kI 6)) + p2).toNatClampNeg) + p3) else (kI 9999)) else (kI 0))), .int p2, .ref 19], SH, (up2 (up2 w 19 p2.toNatClampNeg ((w 19 p2.toNatClampNeg) - (w 18 ((p1 * (kI 6)) + p2).toNatClampNeg))) 18 ((p1 * (kI 6)) + p2).toNatClampNeg (if (kI 0) < (if ((w 18 ((p1 * (kI 6)) + p2).toNatClampNeg) + p3) < (kI 9999) then ((w 18 ((p1 * (kI 6)) + p2).toNatClampNeg) + p3) else (kI 9999)) then (if ((w 18 ((p1 * (kI 6)) + p2).toNatClampNeg) + p3) < (kI 9999) then ((w 18 ((p1 * (kI 6)) + p2).toNatClampNeg) + p3) else (kI 9999)) else (kI 0))))) rfl ?_
      refine EV.iastore cl_16 rfl rfl (by decide) (by first | rfl | exact ix_153 (by assumption) (by decide) | exact ix2_153 (by assumption) (by assumption) (by decide) (by decide) (by decide) (by decide) | exact ix_157 (by assumption) (by decide)) ?_
      refine EV.ret cl_16 rfl rfl rfl ?_
      exact ⟨rfl, rfl, (by simp only [G_16_17, if_neg h1, if_neg h2])⟩
theorem cl_17 : RCT[17]? = some rc_17 := rfl
def G_17_7 (p1 : Int32) (p2 : Int32) (w : Wd) : Wd := (if (F_153 p1 (kI 0) (kI 5) w) = 0 then w else (if (F_153 (w 7 4) (kI 0) (kI 11) w) = 0 then w else (up2 w 10 ((p1 * (kI 12)) + (w 7 4)).toNatClampNeg (if ((w 10 ((p1 * (kI 12)) + (w 7 4)).toNatClampNeg) + p2) < (kI 9999) then ((w 10 ((p1 * (kI 12)) + (w 7 4)).toNatClampNeg) + p2) else (kI 9999)))))
theorem m_17_7 {X : Scr} {d : Nat} (w : Wd) (p1 : Int32) (p2 : Int32) : CV X (d + 2) 17 [.ref 7, .int p1, .int p2] SH w (fun r s1 w1 => r = none ∧ s1 = SH ∧ w1 = G_17_7 p1 p2 w) := by
  refine CV.of rfl ?_
  refine EV.steps cl_17 3 (q2 := (3, [some (.ref 7), some (.int p1), some (.int p2), none], [.int (kI 5), .int (kI 0), .int p1], SH, w)) rfl ?_
  refine EV.call cl_17 rfl rfl rfl (m_153 w p1 (kI 0) (kI 5)) ?_
  rintro _ _ _ ⟨rfl, rfl, rfl⟩
  refine EV.z_eq cl_17 rfl (fun h1 => ?_) (fun h1 => ?_)
  · skip
    refine EV.ret cl_17 rfl rfl rfl ?_
    exact ⟨rfl, rfl, (by simp only [G_17_7, if_pos h1])⟩
  · skip
    refine EV.steps cl_17 4 (q2 := (16, [some (.ref 7), some (.int p1), some (.int p2), none], [.int (kI 11), .int (kI 0), .int (w 7 4)], SH, w)) rfl ?_
    refine EV.call cl_17 rfl rfl rfl (m_153 w (w 7 4) (kI 0) (kI 11)) ?_
    rintro _ _ _ ⟨rfl, rfl, rfl⟩
    refine EV.z_eq cl_17 rfl (fun h2 => ?_) (fun h2 => ?_)
    · skip
      refine EV.ret cl_17 rfl rfl rfl ?_
      exact ⟨rfl, rfl, (by simp only [G_17_7, if_neg h1, if_pos h2])⟩
    · skip
      refine EV.steps cl_17 14 (q2 := (45, [some (.ref 7), some (.int p1), some (.int p2), some (.int ((p1 * (kI 12)) + (w 7 4)))], [.int ((p1 * (kI 12)) + (w 7 4)), .ref 10, .int (kI 9999), .int ((p1 * (kI 12)) + (w 7 4)), .ref 10], SH, w)) rfl ?_
      refine EV.iaload cl_17 rfl rfl (by decide) (by first | rfl | exact ix_153 (by assumption) (by decide) | exact ix2_153 (by assumption) (by assumption) (by decide) (by decide) (by decide) (by decide) | exact ix_157 (by assumption) (by decide)) ?_
      refine EV.steps cl_17 3 (q2 := (51, [some (.ref 7), some (.int p1), some (.int p2), some (.int ((p1 * (kI 12)) + (w 7 4)))], [.int (if ((w 10 ((p1 * (kI 12)) + (w 7 4)).toNatClampNeg) + p2) < (kI 9999) then ((w 10 ((p1 * (kI 12)) + (w 7 4)).toNatClampNeg) + p2) else (kI 9999)), .int ((p1 * (kI 12)) + (w 7 4)), .ref 10], SH, w)) rfl ?_
      refine EV.iastore cl_17 rfl rfl (by decide) (by first | rfl | exact ix_153 (by assumption) (by decide) | exact ix2_153 (by assumption) (by assumption) (by decide) (by decide) (by decide) (by decide) | exact ix_157 (by assumption) (by decide)) ?_
      refine EV.ret cl_17 rfl rfl rfl ?_
      exact ⟨rfl, rfl, (by simp only [G_17_7, if_neg h1, if_neg h2])⟩
def G_17_12 (p1 : Int32) (p2 : Int32) (w : Wd) : Wd := (if (F_153 p1 (kI 0) (kI 5) w) = 0 then w else (if (F_153 (w 12 4) (kI 0) (kI 11) w) = 0 then w else (up2 w 15 ((p1 * (kI 12)) + (w 12 4)).toNatClampNeg (if ((w 15 ((p1 * (kI 12)) + (w 12 4)).toNatClampNeg) + p2) < (kI 9999) then ((w 15 ((p1 * (kI 12)) + (w 12 4)).toNatClampNeg) + p2) else (kI 9999)))))
theorem m_17_12 {X : Scr} {d : Nat} (w : Wd) (p1 : Int32) (p2 : Int32) : CV X (d + 2) 17 [.ref 12, .int p1, .int p2] SH w (fun r s1 w1 => r = none ∧ s1 = SH ∧ w1 = G_17_12 p1 p2 w) := by
  refine CV.of rfl ?_
  refine EV.steps cl_17 3 (q2 := (3, [some (.ref 12), some (.int p1), some (.int p2), none], [.int (kI 5), .int (kI 0), .int p1], SH, w)) rfl ?_
  refine EV.call cl_17 rfl rfl rfl (m_153 w p1 (kI 0) (kI 5)) ?_
  rintro _ _ _ ⟨rfl, rfl, rfl⟩
  refine EV.z_eq cl_17 rfl (fun h1 => ?_) (fun h1 => ?_)
  · skip
    refine EV.ret cl_17 rfl rfl rfl ?_
    exact ⟨rfl, rfl, (by simp only [G_17_12, if_pos h1])⟩
  · skip
    refine EV.steps cl_17 4 (q2 := (16, [some (.ref 12), some (.int p1), some (.int p2), none], [.int (kI 11), .int (kI 0), .int (w 12 4)], SH, w)) rfl ?_
    refine EV.call cl_17 rfl rfl rfl (m_153 w (w 12 4) (kI 0) (kI 11)) ?_
    rintro _ _ _ ⟨rfl, rfl, rfl⟩
    refine EV.z_eq cl_17 rfl (fun h2 => ?_) (fun h2 => ?_)
    · skip
      refine EV.ret cl_17 rfl rfl rfl ?_
      exact ⟨rfl, rfl, (by simp only [G_17_12, if_neg h1, if_pos h2])⟩
    · skip
      refine EV.steps cl_17 14 (q2 := (45, [some (.ref 12), some (.int p1), some (.int p2), some (.int ((p1 * (kI 12)) + (w 12 4)))], [.int ((p1 * (kI 12)) + (w 12 4)), .ref 15, .int (kI 9999), .int ((p1 * (kI 12)) + (w 12 4)), .ref 15], SH, w)) rfl ?_
      refine EV.iaload cl_17 rfl rfl (by decide) (by first | rfl | exact ix_153 (by assumption) (by decide) | exact ix2_153 (by assumption) (by assumption) (by decide) (by decide) (by decide) (by decide) | exact ix_157 (by assumption) (by decide)) ?_
      refine EV.steps cl_17 3 (q2 := (51, [some (.ref 12), some (.int p1), some (.int p2), some (.int ((p1 * (kI 12)) + (w 12 4)))], [.int (if ((w 15 ((p1 * (kI 12)) + (w 12 4)).toNatClampNeg) + p2) < (kI 9999) then ((w 15 ((p1 * (kI 12)) + (w 12 4)).toNatClampNeg) + p2) else (kI 9999)), .int ((p1 * (kI 12)) + (w 12 4)), .ref 15], SH, w)) rfl ?_
      refine EV.iastore cl_17 rfl rfl (by decide) (by first | rfl | exact ix_153 (by assumption) (by decide) | exact ix2_153 (by assumption) (by assumption) (by decide) (by decide) (by decide) (by decide) | exact ix_157 (by assumption) (by decide)) ?_
      refine EV.ret cl_17 rfl rfl rfl ?_
      exact ⟨rfl, rfl, (by simp only [G_17_12, if_neg h1, if_neg h2])⟩
def G_17_17 (p1 : Int32) (p2 : Int32) (w : Wd) : Wd := (if (F_153 p1 (kI 0) (kI 5) w) = 0 then w else (if (F_153 (w 17 4) (kI 0) (kI 11) w) = 0 then w else (up2 w 20 ((p1 * (kI 12)) + (w 17 4)).toNatClampNeg (if ((w 20 ((p1 * (kI 12)) + (w 17 4)).toNatClampNeg) + p2) < (kI 9999) then ((w 20 ((p1 * (kI 12)) + (w 17 4)).toNatClampNeg) + p2) else (kI 9999)))))
theorem m_17_17 {X : Scr} {d : Nat} (w : Wd) (p1 : Int32) (p2 : Int32) : CV X (d + 2) 17 [.ref 17, .int p1, .int p2] SH w (fun r s1 w1 => r = none ∧ s1 = SH ∧ w1 = G_17_17 p1 p2 w) := by
  refine CV.of rfl ?_
  refine EV.steps cl_17 3 (q2 := (3, [some (.ref 17), some (.int p1), some (.int p2), none], [.int (kI 5), .int (kI 0), .int p1], SH, w)) rfl ?_
  refine EV.call cl_17 rfl rfl rfl (m_153 w p1 (kI 0) (kI 5)) ?_
  rintro _ _ _ ⟨rfl, rfl, rfl⟩
  refine EV.z_eq cl_17 rfl (fun h1 => ?_) (fun h1 => ?_)
  · skip
    refine EV.ret cl_17 rfl rfl rfl ?_
    exact ⟨rfl, rfl, (by simp only [G_17_17, if_pos h1])⟩
  · skip
    refine EV.steps cl_17 4 (q2 := (16, [some (.ref 17), some (.int p1), some (.int p2), none], [.int (kI 11), .int (kI 0), .int (w 17 4)], SH, w)) rfl ?_
    refine EV.call cl_17 rfl rfl rfl (m_153 w (w 17 4) (kI 0) (kI 11)) ?_
    rintro _ _ _ ⟨rfl, rfl, rfl⟩
    refine EV.z_eq cl_17 rfl (fun h2 => ?_) (fun h2 => ?_)
    · skip
      refine EV.ret cl_17 rfl rfl rfl ?_
      exact ⟨rfl, rfl, (by simp only [G_17_17, if_neg h1, if_pos h2])⟩
    · skip
      refine EV.steps cl_17 14 (q2 := (45, [some (.ref 17), some (.int p1), some (.int p2), some (.int ((p1 * (kI 12)) + (w 17 4)))], [.int ((p1 * (kI 12)) + (w 17 4)), .ref 20, .int (kI 9999), .int ((p1 * (kI 12)) + (w 17 4)), .ref 20], SH, w)) rfl ?_
      refine EV.iaload cl_17 rfl rfl (by decide) (by first | rfl | exact ix_153 (by assumption) (by decide) | exact ix2_153 (by assumption) (by assumption) (by decide) (by decide) (by decide) (by decide) | exact ix_157 (by assumption) (by decide)) ?_
      refine EV.steps cl_17 3 (q2 := (51, [some (.ref 17), some (.int p1), some (.int p2), some (.int ((p1 * (kI 12)) + (w 17 4)))], [.int (if ((w 20 ((p1 * (kI 12)) + (w 17 4)).toNatClampNeg) + p2) < (kI 9999) then ((w 20 ((p1 * (kI 12)) + (w 17 4)).toNatClampNeg) + p2) else (kI 9999)), .int ((p1 * (kI 12)) + (w 17 4)), .ref 20], SH, w)) rfl ?_
      refine EV.iastore cl_17 rfl rfl (by decide) (by first | rfl | exact ix_153 (by assumption) (by decide) | exact ix2_153 (by assumption) (by assumption) (by decide) (by decide) (by decide) (by decide) | exact ix_157 (by assumption) (by decide)) ?_
      refine EV.ret cl_17 rfl rfl rfl ?_
      exact ⟨rfl, rfl, (by simp only [G_17_17, if_neg h1, if_neg h2])⟩
theorem cl_37 : RCT[37]? = some rc_37 := rfl
def F_37_95 (p1 : Int32) (w : Wd) : Int32 := (if (F_153 p1 (kI 0) (kI 11) w) = 0 then (kI 0) else (w 101 p1.toNatClampNeg))
theorem m_37_95 {X : Scr} {d : Nat} (w : Wd) (p1 : Int32) : CV X (d + 2) 37 [.ref 95, .int p1] SH w (fun r s1 w1 => r = some (.int (F_37_95 p1 w)) ∧ s1 = SH ∧ w1 = w) := by
  refine CV.of rfl ?_
  refine EV.steps cl_37 3 (q2 := (4, [some (.ref 95), some (.int p1)], [.int (kI 11), .int (kI 0), .int p1], SH, w)) rfl ?_
  refine EV.call cl_37 rfl rfl rfl (m_153 w p1 (kI 0) (kI 11)) ?_
  rintro _ _ _ ⟨rfl, rfl, rfl⟩
  refine EV.z_eq cl_37 rfl (fun h1 => ?_) (fun h1 => ?_)
  · skip
    refine EV.steps cl_37 1 (q2 := (20, [some (.ref 95), some (.int p1)], [.int (kI 0)], SH, w)) rfl ?_
    refine EV.ret cl_37 rfl rfl rfl ?_
    exact ⟨(by simp only [F_37_95, if_pos h1]), rfl, rfl⟩
  · skip
    refine EV.steps cl_37 3 (q2 := (15, [some (.ref 95), some (.int p1)], [.int p1, .ref 101], SH, w)) rfl ?_
    refine EV.iaload cl_37 rfl rfl (by decide) (by first | rfl | exact ix_153 (by assumption) (by decide) | exact ix2_153 (by assumption) (by assumption) (by decide) (by decide) (by decide) (by decide) | exact ix_157 (by assumption) (by decide)) ?_
    refine EV.steps cl_37 1 (q2 := (20, [some (.ref 95), some (.int p1)], [.int (w 101 p1.toNatClampNeg)], SH, w)) rfl ?_
    refine EV.ret cl_37 rfl rfl rfl ?_
    exact ⟨(by simp only [F_37_95, if_neg h1]), rfl, rfl⟩
theorem cl_41 : RCT[41]? = some rc_41 := rfl
def F_41_95 (p1 : Int32) (w : Wd) : Int32 := (if (F_153 p1 (kI 0) (kI 11) w) = 0 then (kI 0) else (w 99 p1.toNatClampNeg))
theorem m_41_95 {X : Scr} {d : Nat} (w : Wd) (p1 : Int32) : CV X (d + 2) 41 [.ref 95, .int p1] SH w (fun r s1 w1 => r = some (.int (F_41_95 p1 w)) ∧ s1 = SH ∧ w1 = w) := by
  refine CV.of rfl ?_
  refine EV.steps cl_41 3 (q2 := (4, [some (.ref 95), some (.int p1)], [.int (kI 11), .int (kI 0), .int p1], SH, w)) rfl ?_
  refine EV.call cl_41 rfl rfl rfl (m_153 w p1 (kI 0) (kI 11)) ?_
  rintro _ _ _ ⟨rfl, rfl, rfl⟩
  refine EV.z_eq cl_41 rfl (fun h1 => ?_) (fun h1 => ?_)
  · skip
    refine EV.steps cl_41 1 (q2 := (20, [some (.ref 95), some (.int p1)], [.int (kI 0)], SH, w)) rfl ?_
    refine EV.ret cl_41 rfl rfl rfl ?_
    exact ⟨(by simp only [F_41_95, if_pos h1]), rfl, rfl⟩
  · skip
    refine EV.steps cl_41 3 (q2 := (15, [some (.ref 95), some (.int p1)], [.int p1, .ref 99], SH, w)) rfl ?_
    refine EV.iaload cl_41 rfl rfl (by decide) (by first | rfl | exact ix_153 (by assumption) (by decide) | exact ix2_153 (by assumption) (by assumption) (by decide) (by decide) (by decide) (by decide) | exact ix_157 (by assumption) (by decide)) ?_
    refine EV.steps cl_41 1 (q2 := (20, [some (.ref 95), some (.int p1)], [.int (w 99 p1.toNatClampNeg)], SH, w)) rfl ?_
    refine EV.ret cl_41 rfl rfl rfl ?_
    exact ⟨(by simp only [F_41_95, if_neg h1]), rfl, rfl⟩
theorem cl_42 : RCT[42]? = some rc_42 := rfl
def F_42_95 (p1 : Int32) (p2 : Int32) (w : Wd) : Int32 := (if (F_153 p1 (kI 0) (kI 12) w) = 0 then (kI 0) else (if (F_153 p2 (kI 0) (kI 11) w) = 0 then (kI 0) else (w 100 ((p1 * (kI 12)) + p2).toNatClampNeg)))
theorem m_42_95 {X : Scr} {d : Nat} (w : Wd) (p1 : Int32) (p2 : Int32) : CV X (d + 2) 42 [.ref 95, .int p1, .int p2] SH w (fun r s1 w1 => r = some (.int (F_42_95 p1 p2 w)) ∧ s1 = SH ∧ w1 = w) := by
  refine CV.of rfl ?_
  refine EV.steps cl_42 3 (q2 := (4, [some (.ref 95), some (.int p1), some (.int p2)], [.int (kI 12), .int (kI 0), .int p1], SH, w)) rfl ?_
  refine EV.call cl_42 rfl rfl rfl (m_153 w p1 (kI 0) (kI 12)) ?_
  rintro _ _ _ ⟨rfl, rfl, rfl⟩
  refine EV.z_eq cl_42 rfl (fun h1 => ?_) (fun h1 => ?_)
  · skip
    refine EV.steps cl_42 1 (q2 := (35, [some (.ref 95), some (.int p1), some (.int p2)], [.int (kI 0)], SH, w)) rfl ?_
    refine EV.ret cl_42 rfl rfl rfl ?_
    exact ⟨(by simp only [F_42_95, if_pos h1]), rfl, rfl⟩
  · skip
    refine EV.steps cl_42 3 (q2 := (14, [some (.ref 95), some (.int p1), some (.int p2)], [.int (kI 11), .int (kI 0), .int p2], SH, w)) rfl ?_
    refine EV.call cl_42 rfl rfl rfl (m_153 w p2 (kI 0) (kI 11)) ?_
    rintro _ _ _ ⟨rfl, rfl, rfl⟩
    refine EV.z_eq cl_42 rfl (fun h2 => ?_) (fun h2 => ?_)
    · skip
      refine EV.steps cl_42 1 (q2 := (35, [some (.ref 95), some (.int p1), some (.int p2)], [.int (kI 0)], SH, w)) rfl ?_
      refine EV.ret cl_42 rfl rfl rfl ?_
      exact ⟨(by simp only [F_42_95, if_neg h1, if_pos h2]), rfl, rfl⟩
    · skip
      refine EV.steps cl_42 7 (q2 := (30, [some (.ref 95), some (.int p1), some (.int p2)], [.int ((p1 * (kI 12)) + p2), .ref 100], SH, w)) rfl ?_
      refine EV.iaload cl_42 rfl rfl (by decide) (by first | rfl | exact ix_153 (by assumption) (by decide) | exact ix2_153 (by assumption) (by assumption) (by decide) (by decide) (by decide) (by decide) | exact ix_157 (by assumption) (by decide)) ?_
      refine EV.steps cl_42 1 (q2 := (35, [some (.ref 95), some (.int p1), some (.int p2)], [.int (w 100 ((p1 * (kI 12)) + p2).toNatClampNeg)], SH, w)) rfl ?_
      refine EV.ret cl_42 rfl rfl rfl ?_
      exact ⟨(by simp only [F_42_95, if_neg h1, if_neg h2]), rfl, rfl⟩
theorem cl_40 : RCT[40]? = some rc_40 := rfl
def F_40_95 (p1 : Int32) (p2 : Int32) (w : Wd) : Int32 := (if (F_153 p1 (kI 0) (kI 11) w) = 0 then ((if 0 ≤ ((kI 0) - (F_41_95 p2 w)) then ((kI 0) - (F_41_95 p2 w)) else 0 - ((kI 0) - (F_41_95 p2 w))) + (F_42_95 (p1 + (kI 1)) p2 w)) else ((if 0 ≤ ((w 98 p1.toNatClampNeg) - (F_41_95 p2 w)) then ((w 98 p1.toNatClampNeg) - (F_41_95 p2 w)) else 0 - ((w 98 p1.toNatClampNeg) - (F_41_95 p2 w))) + (F_42_95 (p1 + (kI 1)) p2 w)))
theorem m_40_95 {X : Scr} {d : Nat} (w : Wd) (p1 : Int32) (p2 : Int32) : CV X (d + 3) 40 [.ref 95, .int p1, .int p2] SH w (fun r s1 w1 => r = some (.int (F_40_95 p1 p2 w)) ∧ s1 = SH ∧ w1 = w) := by
  refine CV.of rfl ?_
  refine EV.steps cl_40 3 (q2 := (4, [some (.ref 95), some (.int p1), some (.int p2), none], [.int (kI 11), .int (kI 0), .int p1], SH, w)) rfl ?_
  refine EV.call cl_40 rfl rfl rfl (m_153 w p1 (kI 0) (kI 11)) ?_
  rintro _ _ _ ⟨rfl, rfl, rfl⟩
  refine EV.z_eq cl_40 rfl (fun h1 => ?_) (fun h1 => ?_)
  · skip
    refine EV.steps cl_40 5 (q2 := (24, [some (.ref 95), some (.int p1), some (.int p2), some (.int (kI 0))], [.int p2, .ref 95, .int (kI 0)], SH, w)) rfl ?_
    refine EV.call cl_40 rfl rfl rfl (m_41_95 w p2) ?_
    rintro _ _ _ ⟨rfl, rfl, rfl⟩
    refine EV.steps cl_40 7 (q2 := (36, [some (.ref 95), some (.int p1), some (.int p2), some (.int (kI 0))], [.int p2, .int (p1 + (kI 1)), .ref 95, .int (if 0 ≤ ((kI 0) - (F_41_95 p2 w)) then ((kI 0) - (F_41_95 p2 w)) else 0 - ((kI 0) - (F_41_95 p2 w)))], SH, w)) rfl ?_
    refine EV.call cl_40 rfl rfl rfl (m_42_95 w (p1 + (kI 1)) p2) ?_
    rintro _ _ _ ⟨rfl, rfl, rfl⟩
    refine EV.steps cl_40 1 (q2 := (40, [some (.ref 95), some (.int p1), some (.int p2), some (.int (kI 0))], [.int ((if 0 ≤ ((kI 0) - (F_41_95 p2 w)) then ((kI 0) - (F_41_95 p2 w)) else 0 - ((kI 0) - (F_41_95 p2 w))) + (F_42_95 (p1 + (kI 1)) p2 w))], SH, w)) rfl ?_
    refine EV.ret cl_40 rfl rfl rfl ?_
    exact ⟨(by simp only [F_40_95, if_pos h1]), rfl, rfl⟩
  · skip
    refine EV.steps cl_40 3 (q2 := (15, [some (.ref 95), some (.int p1), some (.int p2), none], [.int p1, .ref 98], SH, w)) rfl ?_
    refine EV.iaload cl_40 rfl rfl (by decide) (by first | rfl | exact ix_153 (by assumption) (by decide) | exact ix2_153 (by assumption) (by assumption) (by decide) (by decide) (by decide) (by decide) | exact ix_157 (by assumption) (by decide)) ?_
    refine EV.steps cl_40 5 (q2 := (24, [some (.ref 95), some (.int p1), some (.int p2), some (.int (w 98 p1.toNatClampNeg))], [.int p2, .ref 95, .int (w 98 p1.toNatClampNeg)], SH, w)) rfl ?_
    refine EV.call cl_40 rfl rfl rfl (m_41_95 w p2) ?_
    rintro _ _ _ ⟨rfl, rfl, rfl⟩
    refine EV.steps cl_40 7 (q2 := (36, [some (.ref 95), some (.int p1), some (.int p2), some (.int (w 98 p1.toNatClampNeg))], [.int p2, .int (p1 + (kI 1)), .ref 95, .int (if 0 ≤ ((w 98 p1.toNatClampNeg) - (F_41_95 p2 w)) then ((w 98 p1.toNatClampNeg) - (F_41_95 p2 w)) else 0 - ((w 98 p1.toNatClampNeg) - (F_41_95 p2 w)))], SH, w)) rfl ?_
    refine EV.call cl_40 rfl rfl rfl (m_42_95 w (p1 + (kI 1)) p2) ?_
    rintro _ _ _ ⟨rfl, rfl, rfl⟩
    refine EV.steps cl_40 1 (q2 := (40, [some (.ref 95), some (.int p1), some (.int p2), some (.int (w 98 p1.toNatClampNeg))], [.int ((if 0 ≤ ((w 98 p1.toNatClampNeg) - (F_41_95 p2 w)) then ((w 98 p1.toNatClampNeg) - (F_41_95 p2 w)) else 0 - ((w 98 p1.toNatClampNeg) - (F_41_95 p2 w))) + (F_42_95 (p1 + (kI 1)) p2 w))], SH, w)) rfl ?_
    refine EV.ret cl_40 rfl rfl rfl ?_
    exact ⟨(by simp only [F_40_95, if_neg h1]), rfl, rfl⟩
theorem cl_47 : RCT[47]? = some rc_47 := rfl
def F_47_84 (p1 : Int32) (w : Wd) : Int32 := (if p1 < 0 then (kI 0) else (if (kI 12) ≤ p1 then (kI 0) else (w 85 p1.toNatClampNeg)))
theorem m_47_84 {X : Scr} {d : Nat} (w : Wd) (p1 : Int32) : CV X (d + 1) 47 [.ref 84, .int p1] SH w (fun r s1 w1 => r = some (.int (F_47_84 p1 w)) ∧ s1 = SH ∧ w1 = w) := by
  refine CV.of rfl ?_
  refine EV.steps cl_47 1 (q2 := (1, [some (.ref 84), some (.int p1)], [.int p1], SH, w)) rfl ?_
  refine EV.z_lt cl_47 rfl (fun h1 => ?_) (fun h1 => ?_)
  · skip
    refine EV.steps cl_47 1 (q2 := (20, [some (.ref 84), some (.int p1)], [.int (kI 0)], SH, w)) rfl ?_
    refine EV.ret cl_47 rfl rfl rfl ?_
    exact ⟨(by simp only [F_47_84, if_pos h1]), rfl, rfl⟩
  · skip
    refine EV.steps cl_47 2 (q2 := (7, [some (.ref 84), some (.int p1)], [.int (kI 12), .int p1], SH, w)) rfl ?_
    refine EV.i_ge cl_47 rfl (fun h2 => ?_) (fun h2 => ?_)
    · skip
      refine EV.steps cl_47 1 (q2 := (20, [some (.ref 84), some (.int p1)], [.int (kI 0)], SH, w)) rfl ?_
      refine EV.ret cl_47 rfl rfl rfl ?_
      exact ⟨(by simp only [F_47_84, if_neg h1, if_pos h2]), rfl, rfl⟩
    · skip
      refine EV.steps cl_47 3 (q2 := (15, [some (.ref 84), some (.int p1)], [.int p1, .ref 85], SH, w)) rfl ?_
      refine EV.iaload cl_47 rfl rfl (by decide) (by first | rfl | exact ix_153 (by assumption) (by decide) | exact ix2_153 (by assumption) (by assumption) (by decide) (by decide) (by decide) (by decide) | exact ix_157 (by assumption) (by decide)) ?_
      refine EV.steps cl_47 1 (q2 := (20, [some (.ref 84), some (.int p1)], [.int (w 85 p1.toNatClampNeg)], SH, w)) rfl ?_
      refine EV.ret cl_47 rfl rfl rfl ?_
      exact ⟨(by simp only [F_47_84, if_neg h1, if_neg h2]), rfl, rfl⟩
theorem cl_48 : RCT[48]? = some rc_48 := rfl
def F_48 (p1 : Int32) (p2 : Int32) (w : Wd) : Int32 := (if p2 = 0 then (if p1 = (kI 47) then (kI 1) else (if p1 = (kI 37) then (kI 1) else (kI 0))) else (kI 0))
theorem m_48 {X : Scr} {d : Nat} (w : Wd) (p1 : Int32) (p2 : Int32) : CV X (d + 1) 48 [.int p1, .int p2] SH w (fun r s1 w1 => r = some (.int (F_48 p1 p2 w)) ∧ s1 = SH ∧ w1 = w) := by
  refine CV.of rfl ?_
  refine EV.steps cl_48 1 (q2 := (1, [some (.int p1), some (.int p2)], [.int p2], SH, w)) rfl ?_
  refine EV.z_ne cl_48 rfl (fun h1 => ?_) (fun h1 => ?_)
  · skip
    refine EV.steps cl_48 1 (q2 := (21, [some (.int p1), some (.int p2)], [.int (kI 0)], SH, w)) rfl ?_
    refine EV.ret cl_48 rfl rfl rfl ?_
    exact ⟨(by simp only [F_48, if_pos h1]), rfl, rfl⟩
  · skip
    refine EV.steps cl_48 2 (q2 := (7, [some (.int p1), some (.int p2)], [.int (kI 47), .int p1], SH, w)) rfl ?_
    refine EV.i_eq cl_48 rfl (fun h2 => ?_) (fun h2 => ?_)
    · skip
      refine EV.steps cl_48 2 (q2 := (21, [some (.int p1), some (.int p2)], [.int (kI 1)], SH, w)) rfl ?_
      refine EV.ret cl_48 rfl rfl rfl ?_
      exact ⟨(by simp only [F_48, if_neg h1, if_pos h2]), rfl, rfl⟩
    · skip
      refine EV.steps cl_48 2 (q2 := (13, [some (.int p1), some (.int p2)], [.int (kI 37), .int p1], SH, w)) rfl ?_
      refine EV.i_ne cl_48 rfl (fun h3 => ?_) (fun h3 => ?_)
      · skip
        refine EV.steps cl_48 1 (q2 := (21, [some (.int p1), some (.int p2)], [.int (kI 0)], SH, w)) rfl ?_
        refine EV.ret cl_48 rfl rfl rfl ?_
        exact ⟨(by simp only [F_48, if_neg h1, if_neg h2, if_pos h3]), rfl, rfl⟩
      · skip
        refine EV.steps cl_48 2 (q2 := (21, [some (.int p1), some (.int p2)], [.int (kI 1)], SH, w)) rfl ?_
        refine EV.ret cl_48 rfl rfl rfl ?_
        exact ⟨(by simp only [F_48, if_neg h1, if_neg h2, if_neg h3]), rfl, rfl⟩
theorem cl_51 : RCT[51]? = some rc_51 := rfl
def F_51_3 (p1 : Int32) (w : Wd) : Int32 := (if (F_153 p1 (kI 0) (kI 5) w) = 0 then (kI 0) else (if (F_154 (w 3 3) p1 w) = 0 then (kI 0) else (kI 1)))
theorem m_51_3 {X : Scr} {d : Nat} (w : Wd) (p1 : Int32) : CV X (d + 2) 51 [.ref 3, .int p1] SH w (fun r s1 w1 => r = some (.int (F_51_3 p1 w)) ∧ s1 = SH ∧ w1 = w) := by
  refine CV.of rfl ?_
  refine EV.steps cl_51 3 (q2 := (3, [some (.ref 3), some (.int p1)], [.int (kI 5), .int (kI 0), .int p1], SH, w)) rfl ?_
  refine EV.call cl_51 rfl rfl rfl (m_153 w p1 (kI 0) (kI 5)) ?_
  rintro _ _ _ ⟨rfl, rfl, rfl⟩
  refine EV.z_eq cl_51 rfl (fun h1 => ?_) (fun h1 => ?_)
  · skip
    refine EV.steps cl_51 1 (q2 := (25, [some (.ref 3), some (.int p1)], [.int (kI 0)], SH, w)) rfl ?_
    refine EV.ret cl_51 rfl rfl rfl ?_
    exact ⟨(by simp only [F_51_3, if_pos h1]), rfl, rfl⟩
  · skip
    refine EV.steps cl_51 3 (q2 := (14, [some (.ref 3), some (.int p1)], [.int p1, .int (w 3 3)], SH, w)) rfl ?_
    refine EV.call cl_51 rfl rfl rfl (m_154 w (w 3 3) p1) ?_
    rintro _ _ _ ⟨rfl, rfl, rfl⟩
    refine EV.z_eq cl_51 rfl (fun h2 => ?_) (fun h2 => ?_)
    · skip
      refine EV.steps cl_51 1 (q2 := (25, [some (.ref 3), some (.int p1)], [.int (kI 0)], SH, w)) rfl ?_
      refine EV.ret cl_51 rfl rfl rfl ?_
      exact ⟨(by simp only [F_51_3, if_neg h1, if_pos h2]), rfl, rfl⟩
    · skip
      refine EV.steps cl_51 2 (q2 := (25, [some (.ref 3), some (.int p1)], [.int (kI 1)], SH, w)) rfl ?_
      refine EV.ret cl_51 rfl rfl rfl ?_
      exact ⟨(by simp only [F_51_3, if_neg h1, if_neg h2]), rfl, rfl⟩
theorem cl_52 : RCT[52]? = some rc_52 := rfl
def F_52_3 (p1 : Int32) (w : Wd) : Int32 := (if (F_153 p1 (kI 0) (kI 5) w) = 0 then (kI 0) else (if (F_154 (w 3 4) p1 w) = 0 then (kI 0) else (kI 1)))
theorem m_52_3 {X : Scr} {d : Nat} (w : Wd) (p1 : Int32) : CV X (d + 2) 52 [.ref 3, .int p1] SH w (fun r s1 w1 => r = some (.int (F_52_3 p1 w)) ∧ s1 = SH ∧ w1 = w) := by
  refine CV.of rfl ?_
  refine EV.steps cl_52 3 (q2 := (3, [some (.ref 3), some (.int p1)], [.int (kI 5), .int (kI 0), .int p1], SH, w)) rfl ?_
  refine EV.call cl_52 rfl rfl rfl (m_153 w p1 (kI 0) (kI 5)) ?_
  rintro _ _ _ ⟨rfl, rfl, rfl⟩
  refine EV.z_eq cl_52 rfl (fun h1 => ?_) (fun h1 => ?_)
  · skip
    refine EV.steps cl_52 1 (q2 := (25, [some (.ref 3), some (.int p1)], [.int (kI 0)], SH, w)) rfl ?_
    refine EV.ret cl_52 rfl rfl rfl ?_
    exact ⟨(by simp only [F_52_3, if_pos h1]), rfl, rfl⟩
  · skip
    refine EV.steps cl_52 3 (q2 := (14, [some (.ref 3), some (.int p1)], [.int p1, .int (w 3 4)], SH, w)) rfl ?_
    refine EV.call cl_52 rfl rfl rfl (m_154 w (w 3 4) p1) ?_
    rintro _ _ _ ⟨rfl, rfl, rfl⟩
    refine EV.z_eq cl_52 rfl (fun h2 => ?_) (fun h2 => ?_)
    · skip
      refine EV.steps cl_52 1 (q2 := (25, [some (.ref 3), some (.int p1)], [.int (kI 0)], SH, w)) rfl ?_
      refine EV.ret cl_52 rfl rfl rfl ?_
      exact ⟨(by simp only [F_52_3, if_neg h1, if_pos h2]), rfl, rfl⟩
    · skip
      refine EV.steps cl_52 2 (q2 := (25, [some (.ref 3), some (.int p1)], [.int (kI 1)], SH, w)) rfl ?_
      refine EV.ret cl_52 rfl rfl rfl ?_
      exact ⟨(by simp only [F_52_3, if_neg h1, if_neg h2]), rfl, rfl⟩
theorem cl_53 : RCT[53]? = some rc_53 := rfl
def F_53_3 (p1 : Int32) (w : Wd) : Int32 := (if (F_153 p1 (kI 0) (kI 5) w) = 0 then (kI 0) else (w 4 p1.toNatClampNeg))
theorem m_53_3 {X : Scr} {d : Nat} (w : Wd) (p1 : Int32) : CV X (d + 2) 53 [.ref 3, .int p1] SH w (fun r s1 w1 => r = some (.int (F_53_3 p1 w)) ∧ s1 = SH ∧ w1 = w) := by
  refine CV.of rfl ?_
  refine EV.steps cl_53 3 (q2 := (3, [some (.ref 3), some (.int p1)], [.int (kI 5), .int (kI 0), .int p1], SH, w)) rfl ?_
  refine EV.call cl_53 rfl rfl rfl (m_153 w p1 (kI 0) (kI 5)) ?_
  rintro _ _ _ ⟨rfl, rfl, rfl⟩
  refine EV.z_eq cl_53 rfl (fun h1 => ?_) (fun h1 => ?_)
  · skip
    refine EV.steps cl_53 1 (q2 := (19, [some (.ref 3), some (.int p1)], [.int (kI 0)], SH, w)) rfl ?_
    refine EV.ret cl_53 rfl rfl rfl ?_
    exact ⟨(by simp only [F_53_3, if_pos h1]), rfl, rfl⟩
  · skip
    refine EV.steps cl_53 3 (q2 := (14, [some (.ref 3), some (.int p1)], [.int p1, .ref 4], SH, w)) rfl ?_
    refine EV.iaload cl_53 rfl rfl (by decide) (by first | rfl | exact ix_153 (by assumption) (by decide) | exact ix2_153 (by assumption) (by assumption) (by decide) (by decide) (by decide) (by decide) | exact ix_157 (by assumption) (by decide)) ?_
    refine EV.steps cl_53 1 (q2 := (19, [some (.ref 3), some (.int p1)], [.int (w 4 p1.toNatClampNeg)], SH, w)) rfl ?_
    refine EV.ret cl_53 rfl rfl rfl ?_
    exact ⟨(by simp only [F_53_3, if_neg h1]), rfl, rfl⟩
theorem cl_54 : RCT[54]? = some rc_54 := rfl
def F_54_3 (p1 : Int32) (w : Wd) : Int32 := (if (F_153 p1 (kI 0) (kI 5) w) = 0 then (kI 0) else (w 5 p1.toNatClampNeg))
theorem m_54_3 {X : Scr} {d : Nat} (w : Wd) (p1 : Int32) : CV X (d + 2) 54 [.ref 3, .int p1] SH w (fun r s1 w1 => r = some (.int (F_54_3 p1 w)) ∧ s1 = SH ∧ w1 = w) := by
  refine CV.of rfl ?_
  refine EV.steps cl_54 3 (q2 := (3, [some (.ref 3), some (.int p1)], [.int (kI 5), .int (kI 0), .int p1], SH, w)) rfl ?_
  refine EV.call cl_54 rfl rfl rfl (m_153 w p1 (kI 0) (kI 5)) ?_
  rintro _ _ _ ⟨rfl, rfl, rfl⟩
  refine EV.z_eq cl_54 rfl (fun h1 => ?_) (fun h1 => ?_)
  · skip
    refine EV.steps cl_54 1 (q2 := (19, [some (.ref 3), some (.int p1)], [.int (kI 0)], SH, w)) rfl ?_
    refine EV.ret cl_54 rfl rfl rfl ?_
    exact ⟨(by simp only [F_54_3, if_pos h1]), rfl, rfl⟩
  · skip
    refine EV.steps cl_54 3 (q2 := (14, [some (.ref 3), some (.int p1)], [.int p1, .ref 5], SH, w)) rfl ?_
    refine EV.iaload cl_54 rfl rfl (by decide) (by first | rfl | exact ix_153 (by assumption) (by decide) | exact ix2_153 (by assumption) (by assumption) (by decide) (by decide) (by decide) (by decide) | exact ix_157 (by assumption) (by decide)) ?_
    refine EV.steps cl_54 1 (q2 := (19, [some (.ref 3), some (.int p1)], [.int (w 5 p1.toNatClampNeg)], SH, w)) rfl ?_
    refine EV.ret cl_54 rfl rfl rfl ?_
    exact ⟨(by simp only [F_54_3, if_neg h1]), rfl, rfl⟩
theorem cl_55 : RCT[55]? = some rc_55 := rfl
def F_55_3 (p1 : Int32) (w : Wd) : Int32 := (if (F_153 p1 (kI 0) (kI 5) w) = 0 then (kI 0) else (w 6 p1.toNatClampNeg))
theorem m_55_3 {X : Scr} {d : Nat} (w : Wd) (p1 : Int32) : CV X (d + 2) 55 [.ref 3, .int p1] SH w (fun r s1 w1 => r = some (.int (F_55_3 p1 w)) ∧ s1 = SH ∧ w1 = w) := by
  refine CV.of rfl ?_
  refine EV.steps cl_55 3 (q2 := (3, [some (.ref 3), some (.int p1)], [.int (kI 5), .int (kI 0), .int p1], SH, w)) rfl ?_
  refine EV.call cl_55 rfl rfl rfl (m_153 w p1 (kI 0) (kI 5)) ?_
  rintro _ _ _ ⟨rfl, rfl, rfl⟩
  refine EV.z_eq cl_55 rfl (fun h1 => ?_) (fun h1 => ?_)
  · skip
    refine EV.steps cl_55 1 (q2 := (19, [some (.ref 3), some (.int p1)], [.int (kI 0)], SH, w)) rfl ?_
    refine EV.ret cl_55 rfl rfl rfl ?_
    exact ⟨(by simp only [F_55_3, if_pos h1]), rfl, rfl⟩
  · skip
    refine EV.steps cl_55 3 (q2 := (14, [some (.ref 3), some (.int p1)], [.int p1, .ref 6], SH, w)) rfl ?_
    refine EV.iaload cl_55 rfl rfl (by decide) (by first | rfl | exact ix_153 (by assumption) (by decide) | exact ix2_153 (by assumption) (by assumption) (by decide) (by decide) (by decide) (by decide) | exact ix_157 (by assumption) (by decide)) ?_
    refine EV.steps cl_55 1 (q2 := (19, [some (.ref 3), some (.int p1)], [.int (w 6 p1.toNatClampNeg)], SH, w)) rfl ?_
    refine EV.ret cl_55 rfl rfl rfl ?_
    exact ⟨(by simp only [F_55_3, if_neg h1]), rfl, rfl⟩
theorem cl_56 : RCT[56]? = some rc_56 := rfl
def G_56_3 (p1 : Int32) (p2 : Int32) (p3 : Int32) (w : Wd) : Wd := (if (F_153 p1 (kI 0) (kI 5) w) = 0 then w else (if p3 = 0 then (up2 w 6 p1.toNatClampNeg ((w 6 p1.toNatClampNeg) &&& (((kI 1) <<< (p2 &&& 31)) ^^^ (kI (-1))))) else (up2 w 6 p1.toNatClampNeg ((w 6 p1.toNatClampNeg) ||| ((kI 1) <<< (p2 &&& 31))))))
theorem m_56_3 {X : Scr} {d : Nat} (w : Wd) (p1 : Int32) (p2 : Int32) (p3 : Int32) : CV X (d + 2) 56 [.ref 3, .int p1, .int p2, .int p3] SH w (fun r s1 w1 => r = none ∧ s1 = SH ∧ w1 = G_56_3 p1 p2 p3 w) := by
  refine CV.of rfl ?_
  refine EV.steps cl_56 3 (q2 := (3, [some (.ref 3), some (.int p1), some (.int p2), some (.int p3)], [.int (kI 5), .int (kI 0), .int p1], SH, w)) rfl ?_
  refine EV.call cl_56 rfl rfl rfl (m_153 w p1 (kI 0) (kI 5)) ?_
  rintro _ _ _ ⟨rfl, rfl, rfl⟩
  refine EV.z_eq cl_56 rfl (fun h1 => ?_) (fun h1 => ?_)
  · skip
    refine EV.ret cl_56 rfl rfl rfl ?_
    exact ⟨rfl, rfl, (by simp only [G_56_3, if_pos h1])⟩
  · skip
    refine EV.steps cl_56 4 (q2 := (15, [some (.ref 3), some (.int p1), some (.int p2), some (.int p3)], [.int p3, .int p1, .ref 6], SH, w)) rfl ?_
    refine EV.z_eq cl_56 rfl (fun h2 => ?_) (fun h2 => ?_)
    · skip
      refine EV.steps cl_56 3 (q2 := (36, [some (.ref 3), some (.int p1), some (.int p2), some (.int p3)], [.int p1, .ref 6, .int p1, .ref 6], SH, w)) rfl ?_
      refine EV.iaload cl_56 rfl rfl (by decide) (by first | rfl | exact ix_153 (by assumption) (by decide) | exact ix2_153 (by assumption) (by assumption) (by decide) (by decide) (by decide) (by decide) | exact ix_157 (by assumption) (by decide)) ?_
      refine EV.steps cl_56 6 (q2 := (43, [some (.ref 3), some (.int p1), some (.int p2), some (.int p3)], [.int ((w 6 p1.toNatClampNeg) &&& (((kI 1) <<< (p2 &&& 31)) ^^^ (kI (-1)))), .int p1, .ref 6], SH, w)) rfl ?_
      refine EV.iastore cl_56 rfl rfl (by decide) (by first | rfl | exact ix_153 (by assumption) (by decide) | exact ix2_153 (by assumption) (by assumption) (by decide) (by decide) (by decide) (by decide) | exact ix_157 (by assumption) (by decide)) ?_
      refine EV.ret cl_56 rfl rfl rfl ?_
      exact ⟨rfl, rfl, (by simp only [G_56_3, if_neg h1, if_pos h2])⟩
    · skip
      refine EV.steps cl_56 3 (q2 := (23, [some (.ref 3), some (.int p1), some (.int p2), some (.int p3)], [.int p1, .ref 6, .int p1, .ref 6], SH, w)) rfl ?_
      refine EV.iaload cl_56 rfl rfl (by decide) (by first | rfl | exact ix_153 (by assumption) (by decide) | exact ix2_153 (by assumption) (by assumption) (by decide) (by decide) (by decide) (by decide) | exact ix_157 (by assumption) (by decide)) ?_
      refine EV.steps cl_56 5 (q2 := (43, [some (.ref 3), some (.int p1), some (.int p2), some (.int p3)], [.int ((w 6 p1.toNatClampNeg) ||| ((kI 1) <<< (p2 &&& 31))), .int p1, .ref 6], SH, w)) rfl ?_
      refine EV.iastore cl_56 rfl rfl (by decide) (by first | rfl | exact ix_153 (by assumption) (by decide) | exact ix2_153 (by assumption) (by assumption) (by decide) (by decide) (by decide) (by decide) | exact ix_157 (by assumption) (by decide)) ?_
      refine EV.ret cl_56 rfl rfl rfl ?_
      exact ⟨rfl, rfl, (by simp only [G_56_3, if_neg h1, if_neg h2])⟩
theorem cl_107 : RCT[107]? = some rc_107 := rfl
def G_107_1 (p1 : Int32) (w : Wd) : Wd := (up2 (up2 (up2 w 1 2 p1) 1 3 (kI 0)) 1 4 (kI 0))
theorem m_107_1 {X : Scr} {d : Nat} (w : Wd) (p1 : Int32) : CV X (d + 1) 107 [.ref 1, .int p1] SH w (fun r s1 w1 => r = none ∧ s1 = SH ∧ w1 = G_107_1 p1 w) := by
  refine CV.of rfl ?_
  refine EV.steps cl_107 9 (q2 := (15, [some (.ref 1), some (.int p1)], [], SH, (up2 (up2 (up2 w 1 2 p1) 1 3 (kI 0)) 1 4 (kI 0)))) rfl ?_
  refine EV.ret cl_107 rfl rfl rfl ?_
  exact ⟨rfl, rfl, rfl⟩
theorem cl_77 : RCT[77]? = some rc_77 := rfl
def G_77_29  (w : Wd) : Wd := (up2 (up2 w 29 6 (kI 0)) 29 7 (kI 0))
theorem m_77_29 {X : Scr} {d : Nat} (w : Wd)  : CV X (d + 1) 77 [.ref 29] SH w (fun r s1 w1 => r = none ∧ s1 = SH ∧ w1 = G_77_29 w) := by
  refine CV.of rfl ?_
  refine EV.steps cl_77 6 (q2 := (10, [some (.ref 29)], [], SH, (up2 (up2 w 29 6 (kI 0)) 29 7 (kI 0)))) rfl ?_
  refine EV.ret cl_77 rfl rfl rfl ?_
  exact ⟨rfl, rfl, rfl⟩
theorem cl_80 : RCT[80]? = some rc_80 := rfl
def G_80_29 (p1 : Int32) (w : Wd) : Wd := (if (Int32.ofNat 16) ≤ (w 29 7) then w else (up2 (up2 (up2 w 32 (w 29 7).toNatClampNeg p1) 33 (w 29 7).toNatClampNeg (w 29 6)) 34 (w 29 7).toNatClampNeg (w 29 6)))
theorem m_80_29 {X : Scr} {d : Nat} (w : Wd) (p1 : Int32) : CV X (d + 1) 80 [.ref 29, .int p1] SH w (fun r s1 w1 => r = none ∧ s1 = SH ∧ w1 = G_80_29 p1 w) := by
  refine CV.of rfl ?_
  refine EV.steps cl_80 5 (q2 := (9, [some (.ref 29), some (.int p1)], [.int (Int32.ofNat 16), .int (w 29 7)], SH, w)) rfl ?_
  refine EV.i_ge cl_80 rfl (fun h1 => ?_) (fun h1 => ?_)
  · skip
    refine EV.ret cl_80 rfl rfl rfl ?_
    exact ⟨rfl, rfl, (by simp only [G_80_29, if_pos h1])⟩
  · skip
    refine EV.steps cl_80 5 (q2 := (21, [some (.ref 29), some (.int p1)], [.int p1, .int (w 29 7), .ref 32], SH, w)) rfl ?_
    refine EV.iastore cl_80 rfl rfl (by decide) (by first | rfl | exact ix_153 (by assumption) (by decide) | exact ix2_153 (by assumption) (by assumption) (by decide) (by decide) (by decide) (by decide) | exact ix_157 (by assumption) (by decide)) ?_
    refine EV.steps cl_80 6 (q2 := (34, [some (.ref 29), some (.int p1)], [.int (w 29 6), .int (w 29 7), .ref 33], SH, (up2 w 32 (w 29 7).toNatClampNeg p1))) rfl ?_
    refine EV.iastore cl_80 rfl rfl (by decide) (by first | rfl | exact ix_153 (by assumption) (by decide) | exact ix2_153 (by assumption) (by assumption) (by decide) (by decide) (by decide) (by decide) | exact ix_157 (by assumption) (by decide)) ?_
    refine EV.steps cl_80 6 (q2 := (47, [some (.ref 29), some (.int p1)], [.int (w 29 6), .int (w 29 7), .ref 34], SH, (up2 (up2 w 32 (w 29 7).toNatClampNeg p1) 33 (w 29 7).toNatClampNeg (w 29 6)))) rfl ?_
    refine EV.iastore cl_80 rfl rfl (by decide) (by first | rfl | exact ix_153 (by assumption) (by decide) | exact ix2_153 (by assumption) (by assumption) (by decide) (by decide) (by decide) (by decide) | exact ix_157 (by assumption) (by decide)) ?_
    refine EV.ret cl_80 rfl rfl rfl ?_
    exact ⟨rfl, rfl, (by simp only [G_80_29, if_neg h1])⟩
theorem cl_106 : RCT[106]? = some rc_106 := rfl
def F_106_1 (p1 : Int32) (w : Wd) : Int32 := (if p1 < 0 then (kI (-1)) else (if (w 1 1) ≤ p1 then (kI (-1)) else (w 2 p1.toNatClampNeg)))
theorem m_106_1 {X : Scr} {d : Nat} (w : Wd) (p1 : Int32) : CV X (d + 1) 106 [.ref 1, .int p1] SH w (fun r s1 w1 => r = some (.int (F_106_1 p1 w)) ∧ s1 = SH ∧ w1 = w) := by
  refine CV.of rfl ?_
  refine EV.steps cl_106 1 (q2 := (1, [some (.ref 1), some (.int p1)], [.int p1], SH, w)) rfl ?_
  refine EV.z_lt cl_106 rfl (fun h1 => ?_) (fun h1 => ?_)
  · skip
    refine EV.steps cl_106 1 (q2 := (22, [some (.ref 1), some (.int p1)], [.int (kI (-1))], SH, w)) rfl ?_
    refine EV.ret cl_106 rfl rfl rfl ?_
    exact ⟨(by simp only [F_106_1, if_pos h1]), rfl, rfl⟩
  · skip
    refine EV.steps cl_106 3 (q2 := (9, [some (.ref 1), some (.int p1)], [.int (w 1 1), .int p1], SH, w)) rfl ?_
    refine EV.i_ge cl_106 rfl (fun h2 => ?_) (fun h2 => ?_)
    · skip
      refine EV.steps cl_106 1 (q2 := (22, [some (.ref 1), some (.int p1)], [.int (kI (-1))], SH, w)) rfl ?_
      refine EV.ret cl_106 rfl rfl rfl ?_
      exact ⟨(by simp only [F_106_1, if_neg h1, if_pos h2]), rfl, rfl⟩
    · skip
      refine EV.steps cl_106 3 (q2 := (17, [some (.ref 1), some (.int p1)], [.int p1, .ref 2], SH, w)) rfl ?_
      refine EV.iaload cl_106 rfl rfl (by decide) (by first | rfl | exact ix_153 (by assumption) (by decide) | exact ix2_153 (by assumption) (by assumption) (by decide) (by decide) (by decide) (by decide) | exact ix_157 (by assumption) (by decide)) ?_
      refine EV.steps cl_106 1 (q2 := (22, [some (.ref 1), some (.int p1)], [.int (w 2 p1.toNatClampNeg)], SH, w)) rfl ?_
      refine EV.ret cl_106 rfl rfl rfl ?_
      exact ⟨(by simp only [F_106_1, if_neg h1, if_neg h2]), rfl, rfl⟩
theorem cl_110 : RCT[110]? = some rc_110 := rfl
def F_110_1  (w : Wd) : Int32 := (if (w 1 2) ≤ (w 1 3) then (kI (-1)) else (F_106_1 (w 1 3) w))
theorem m_110_1 {X : Scr} {d : Nat} (w : Wd)  : CV X (d + 2) 110 [.ref 1] SH w (fun r s1 w1 => r = some (.int (F_110_1 w)) ∧ s1 = SH ∧ w1 = w) := by
  refine CV.of rfl ?_
  refine EV.steps cl_110 4 (q2 := (8, [some (.ref 1)], [.int (w 1 2), .int (w 1 3)], SH, w)) rfl ?_
  refine EV.i_ge cl_110 rfl (fun h1 => ?_) (fun h1 => ?_)
  · skip
    refine EV.steps cl_110 1 (q2 := (23, [some (.ref 1)], [.int (kI (-1))], SH, w)) rfl ?_
    refine EV.ret cl_110 rfl rfl rfl ?_
    exact ⟨(by simp only [F_110_1, if_pos h1]), rfl, rfl⟩
  · skip
    refine EV.steps cl_110 3 (q2 := (16, [some (.ref 1)], [.int (w 1 3), .ref 1], SH, w)) rfl ?_
    refine EV.call cl_110 rfl rfl rfl (m_106_1 w (w 1 3)) ?_
    rintro _ _ _ ⟨rfl, rfl, rfl⟩
    refine EV.steps cl_110 1 (q2 := (23, [some (.ref 1)], [.int (F_106_1 (w 1 3) w)], SH, w)) rfl ?_
    refine EV.ret cl_110 rfl rfl rfl ?_
    exact ⟨(by simp only [F_110_1, if_neg h1]), rfl, rfl⟩
theorem cl_112 : RCT[112]? = some rc_112 := rfl
def G_112_1  (w : Wd) : Wd := (up2 w 1 3 ((w 1 3) + (kI 1)))
theorem m_112_1 {X : Scr} {d : Nat} (w : Wd)  : CV X (d + 1) 112 [.ref 1] SH w (fun r s1 w1 => r = none ∧ s1 = SH ∧ w1 = G_112_1 w) := by
  refine CV.of rfl ?_
  refine EV.steps cl_112 6 (q2 := (10, [some (.ref 1)], [], SH, (up2 w 1 3 ((w 1 3) + (kI 1))))) rfl ?_
  refine EV.ret cl_112 rfl rfl rfl ?_
  exact ⟨rfl, rfl, rfl⟩
theorem cl_81 : RCT[81]? = some rc_81 := rfl
def G_81_29  (w : Wd) : Wd := (if (Int32.ofNat 16) ≤ (w 29 7) then w else (up2 w 34 (w 29 7).toNatClampNeg (w 29 6)))
theorem m_81_29 {X : Scr} {d : Nat} (w : Wd)  : CV X (d + 1) 81 [.ref 29] SH w (fun r s1 w1 => r = none ∧ s1 = SH ∧ w1 = G_81_29 w) := by
  refine CV.of rfl ?_
  refine EV.steps cl_81 5 (q2 := (9, [some (.ref 29)], [.int (Int32.ofNat 16), .int (w 29 7)], SH, w)) rfl ?_
  refine EV.i_ge cl_81 rfl (fun h1 => ?_) (fun h1 => ?_)
  · skip
    refine EV.ret cl_81 rfl rfl rfl ?_
    exact ⟨rfl, rfl, (by simp only [G_81_29, if_pos h1])⟩
  · skip
    refine EV.steps cl_81 6 (q2 := (24, [some (.ref 29)], [.int (w 29 6), .int (w 29 7), .ref 34], SH, w)) rfl ?_
    refine EV.iastore cl_81 rfl rfl (by decide) (by first | rfl | exact ix_153 (by assumption) (by decide) | exact ix2_153 (by assumption) (by assumption) (by decide) (by decide) (by decide) (by decide) | exact ix_157 (by assumption) (by decide)) ?_
    refine EV.ret cl_81 rfl rfl rfl ?_
    exact ⟨rfl, rfl, (by simp only [G_81_29, if_neg h1])⟩
theorem cl_73 : RCT[73]? = some rc_73 := rfl
def F_73 (p1 : Int32) (w : Wd) : Int32 := (if p1 = (kI 43) then (kI 1) else (if p1 = (kI 45) then (kI 1) else (kI 0)))
theorem m_73 {X : Scr} {d : Nat} (w : Wd) (p1 : Int32) : CV X (d + 1) 73 [.int p1] SH w (fun r s1 w1 => r = some (.int (F_73 p1 w)) ∧ s1 = SH ∧ w1 = w) := by
  refine CV.of rfl ?_
  refine EV.steps cl_73 2 (q2 := (3, [some (.int p1)], [.int (kI 43), .int p1], SH, w)) rfl ?_
  refine EV.i_eq cl_73 rfl (fun h1 => ?_) (fun h1 => ?_)
  · skip
    refine EV.steps cl_73 2 (q2 := (17, [some (.int p1)], [.int (kI 1)], SH, w)) rfl ?_
    refine EV.ret cl_73 rfl rfl rfl ?_
    exact ⟨(by simp only [F_73, if_pos h1]), rfl, rfl⟩
  · skip
    refine EV.steps cl_73 2 (q2 := (9, [some (.int p1)], [.int (kI 45), .int p1], SH, w)) rfl ?_
    refine EV.i_ne cl_73 rfl (fun h2 => ?_) (fun h2 => ?_)
    · skip
      refine EV.steps cl_73 1 (q2 := (17, [some (.int p1)], [.int (kI 0)], SH, w)) rfl ?_
      refine EV.ret cl_73 rfl rfl rfl ?_
      exact ⟨(by simp only [F_73, if_neg h1, if_pos h2]), rfl, rfl⟩
    · skip
      refine EV.steps cl_73 2 (q2 := (17, [some (.int p1)], [.int (kI 1)], SH, w)) rfl ?_
      refine EV.ret cl_73 rfl rfl rfl ?_
      exact ⟨(by simp only [F_73, if_neg h1, if_neg h2]), rfl, rfl⟩
theorem cl_74 : RCT[74]? = some rc_74 := rfl
def F_74 (p1 : Int32) (w : Wd) : Int32 := (if p1 = (kI 42) then (kI 1) else (if p1 = (kI 47) then (kI 1) else (if p1 = (kI 37) then (kI 1) else (kI 0))))
theorem m_74 {X : Scr} {d : Nat} (w : Wd) (p1 : Int32) : CV X (d + 1) 74 [.int p1] SH w (fun r s1 w1 => r = some (.int (F_74 p1 w)) ∧ s1 = SH ∧ w1 = w) := by
  refine CV.of rfl ?_
  refine EV.steps cl_74 2 (q2 := (3, [some (.int p1)], [.int (kI 42), .int p1], SH, w)) rfl ?_
  refine EV.i_eq cl_74 rfl (fun h1 => ?_) (fun h1 => ?_)
  · skip
    refine EV.steps cl_74 2 (q2 := (23, [some (.int p1)], [.int (kI 1)], SH, w)) rfl ?_
    refine EV.ret cl_74 rfl rfl rfl ?_
    exact ⟨(by simp only [F_74, if_pos h1]), rfl, rfl⟩
  · skip
    refine EV.steps cl_74 2 (q2 := (9, [some (.int p1)], [.int (kI 47), .int p1], SH, w)) rfl ?_
    refine EV.i_eq cl_74 rfl (fun h2 => ?_) (fun h2 => ?_)
    · skip
      refine EV.steps cl_74 2 (q2 := (23, [some (.int p1)], [.int (kI 1)], SH, w)) rfl ?_
      refine EV.ret cl_74 rfl rfl rfl ?_
      exact ⟨(by simp only [F_74, if_neg h1, if_pos h2]), rfl, rfl⟩
    · skip
      refine EV.steps cl_74 2 (q2 := (15, [some (.int p1)], [.int (kI 37), .int p1], SH, w)) rfl ?_
      refine EV.i_ne cl_74 rfl (fun h3 => ?_) (fun h3 => ?_)
      · skip
        refine EV.steps cl_74 1 (q2 := (23, [some (.int p1)], [.int (kI 0)], SH, w)) rfl ?_
        refine EV.ret cl_74 rfl rfl rfl ?_
        exact ⟨(by simp only [F_74, if_neg h1, if_neg h2, if_pos h3]), rfl, rfl⟩
      · skip
        refine EV.steps cl_74 2 (q2 := (23, [some (.int p1)], [.int (kI 1)], SH, w)) rfl ?_
        refine EV.ret cl_74 rfl rfl rfl ?_
        exact ⟨(by simp only [F_74, if_neg h1, if_neg h2, if_neg h3]), rfl, rfl⟩
def G_77_22  (w : Wd) : Wd := (up2 (up2 w 22 6 (kI 0)) 22 7 (kI 0))
theorem m_77_22 {X : Scr} {d : Nat} (w : Wd)  : CV X (d + 1) 77 [.ref 22] SH w (fun r s1 w1 => r = none ∧ s1 = SH ∧ w1 = G_77_22 w) := by
  refine CV.of rfl ?_
  refine EV.steps cl_77 6 (q2 := (10, [some (.ref 22)], [], SH, (up2 (up2 w 22 6 (kI 0)) 22 7 (kI 0)))) rfl ?_
  refine EV.ret cl_77 rfl rfl rfl ?_
  exact ⟨rfl, rfl, rfl⟩
def G_77_37  (w : Wd) : Wd := (up2 (up2 w 37 6 (kI 0)) 37 7 (kI 0))
theorem m_77_37 {X : Scr} {d : Nat} (w : Wd)  : CV X (d + 1) 77 [.ref 37] SH w (fun r s1 w1 => r = none ∧ s1 = SH ∧ w1 = G_77_37 w) := by
  refine CV.of rfl ?_
  refine EV.steps cl_77 6 (q2 := (10, [some (.ref 37)], [], SH, (up2 (up2 w 37 6 (kI 0)) 37 7 (kI 0)))) rfl ?_
  refine EV.ret cl_77 rfl rfl rfl ?_
  exact ⟨rfl, rfl, rfl⟩
def G_77_44  (w : Wd) : Wd := (up2 (up2 w 44 6 (kI 0)) 44 7 (kI 0))
theorem m_77_44 {X : Scr} {d : Nat} (w : Wd)  : CV X (d + 1) 77 [.ref 44] SH w (fun r s1 w1 => r = none ∧ s1 = SH ∧ w1 = G_77_44 w) := by
  refine CV.of rfl ?_
  refine EV.steps cl_77 6 (q2 := (10, [some (.ref 44)], [], SH, (up2 (up2 w 44 6 (kI 0)) 44 7 (kI 0)))) rfl ?_
  refine EV.ret cl_77 rfl rfl rfl ?_
  exact ⟨rfl, rfl, rfl⟩
def G_77_51  (w : Wd) : Wd := (up2 (up2 w 51 6 (kI 0)) 51 7 (kI 0))
theorem m_77_51 {X : Scr} {d : Nat} (w : Wd)  : CV X (d + 1) 77 [.ref 51] SH w (fun r s1 w1 => r = none ∧ s1 = SH ∧ w1 = G_77_51 w) := by
  refine CV.of rfl ?_
  refine EV.steps cl_77 6 (q2 := (10, [some (.ref 51)], [], SH, (up2 (up2 w 51 6 (kI 0)) 51 7 (kI 0)))) rfl ?_
  refine EV.ret cl_77 rfl rfl rfl ?_
  exact ⟨rfl, rfl, rfl⟩
def G_77_58  (w : Wd) : Wd := (up2 (up2 w 58 6 (kI 0)) 58 7 (kI 0))
theorem m_77_58 {X : Scr} {d : Nat} (w : Wd)  : CV X (d + 1) 77 [.ref 58] SH w (fun r s1 w1 => r = none ∧ s1 = SH ∧ w1 = G_77_58 w) := by
  refine CV.of rfl ?_
  refine EV.steps cl_77 6 (q2 := (10, [some (.ref 58)], [], SH, (up2 (up2 w 58 6 (kI 0)) 58 7 (kI 0)))) rfl ?_
  refine EV.ret cl_77 rfl rfl rfl ?_
  exact ⟨rfl, rfl, rfl⟩
def G_77_65  (w : Wd) : Wd := (up2 (up2 w 65 6 (kI 0)) 65 7 (kI 0))
theorem m_77_65 {X : Scr} {d : Nat} (w : Wd)  : CV X (d + 1) 77 [.ref 65] SH w (fun r s1 w1 => r = none ∧ s1 = SH ∧ w1 = G_77_65 w) := by
  refine CV.of rfl ?_
  refine EV.steps cl_77 6 (q2 := (10, [some (.ref 65)], [], SH, (up2 (up2 w 65 6 (kI 0)) 65 7 (kI 0)))) rfl ?_
  refine EV.ret cl_77 rfl rfl rfl ?_
  exact ⟨rfl, rfl, rfl⟩
def G_77_72  (w : Wd) : Wd := (up2 (up2 w 72 6 (kI 0)) 72 7 (kI 0))
theorem m_77_72 {X : Scr} {d : Nat} (w : Wd)  : CV X (d + 1) 77 [.ref 72] SH w (fun r s1 w1 => r = none ∧ s1 = SH ∧ w1 = G_77_72 w) := by
  refine CV.of rfl ?_
  refine EV.steps cl_77 6 (q2 := (10, [some (.ref 72)], [], SH, (up2 (up2 w 72 6 (kI 0)) 72 7 (kI 0)))) rfl ?_
  refine EV.ret cl_77 rfl rfl rfl ?_
  exact ⟨rfl, rfl, rfl⟩
theorem cl_78 : RCT[78]? = some rc_78 := rfl
def F_78_22 (p1 : Int32) (p2 : Int32) (w : Wd) : Int32 := (if (w 22 6) < (Int32.ofNat 240) then (((w 22 6) + (kI 1)) - (kI 1)) else (w 22 6))
def G_78_22 (p1 : Int32) (p2 : Int32) (w : Wd) : Wd := (if (w 22 6) < (Int32.ofNat 240) then (up2 (up2 (up2 w 23 (w 22 6).toNatClampNeg p1) 24 (w 22 6).toNatClampNeg p2) 22 6 ((w 22 6) + (kI 1))) else w)
theorem m_78_22 {X : Scr} {d : Nat} (w : Wd) (p1 : Int32) (p2 : Int32) : CV X (d + 1) 78 [.ref 22, .int p1, .int p2] SH w (fun r s1 w1 => r = some (.int (F_78_22 p1 p2 w)) ∧ s1 = SH ∧ w1 = G_78_22 p1 p2 w) := by
  refine CV.of rfl ?_
  refine EV.steps cl_78 5 (q2 := (9, [some (.ref 22), some (.int p1), some (.int p2)], [.int (Int32.ofNat 240), .int (w 22 6)], SH, w)) rfl ?_
  refine EV.i_lt cl_78 rfl (fun h1 => ?_) (fun h1 => ?_)
  · skip
    refine EV.steps cl_78 5 (q2 := (26, [some (.ref 22), some (.int p1), some (.int p2)], [.int p1, .int (w 22 6), .ref 23], SH, w)) rfl ?_
    refine EV.iastore cl_78 rfl rfl (by decide) (by first | rfl | exact ix_153 (by assumption) (by decide) | exact ix2_153 (by assumption) (by assumption) (by decide) (by decide) (by decide) (by decide) | exact ix_157 (by assumption) (by decide)) ?_
    refine EV.steps cl_78 5 (q2 := (36, [some (.ref 22), some (.int p1), some (.int p2)], [.int p2, .int (w 22 6), .ref 24], SH, (up2 w 23 (w 22 6).toNatClampNeg p1))) rfl ?_
    refine EV.iastore cl_78 rfl rfl (by decide) (by first | rfl | exact ix_153 (by assumption) (by decide) | exact ix2_153 (by assumption) (by assumption) (by decide) (by decide) (by decide) (by decide) | exact ix_157 (by assumption) (by decide)) ?_
    refine EV.steps cl_78 10 (q2 := (53, [some (.ref 22), some (.int p1), some (.int p2)], [.int (((w 22 6) + (kI 1)) - (kI 1))], SH, (up2 (up2 (up2 w 23 (w 22 6).toNatClampNeg p1) 24 (w 22 6).toNatClampNeg p2) 22 6 ((w 22 6) + (kI 1))))) rfl ?_
    refine EV.ret cl_78 rfl rfl rfl ?_
    exact ⟨(by simp only [F_78_22, if_pos h1]), rfl, (by simp only [G_78_22, if_pos h1])⟩
  · skip
    refine EV.steps cl_78 2 (q2 := (16, [some (.ref 22), some (.int p1), some (.int p2)], [.int (w 22 6)], SH, w)) rfl ?_
    refine EV.ret cl_78 rfl rfl rfl ?_
    exact ⟨(by simp only [F_78_22, if_neg h1]), rfl, (by simp only [G_78_22, if_neg h1])⟩
def F_78_29 (p1 : Int32) (p2 : Int32) (w : Wd) : Int32 := (if (w 29 6) < (Int32.ofNat 240) then (((w 29 6) + (kI 1)) - (kI 1)) else (w 29 6))
def G_78_29 (p1 : Int32) (p2 : Int32) (w : Wd) : Wd := (if (w 29 6) < (Int32.ofNat 240) then (up2 (up2 (up2 w 30 (w 29 6).toNatClampNeg p1) 31 (w 29 6).toNatClampNeg p2) 29 6 ((w 29 6) + (kI 1))) else w)
theorem m_78_29 {X : Scr} {d : Nat} (w : Wd) (p1 : Int32) (p2 : Int32) : CV X (d + 1) 78 [.ref 29, .int p1, .int p2] SH w (fun r s1 w1 => r = some (.int (F_78_29 p1 p2 w)) ∧ s1 = SH ∧ w1 = G_78_29 p1 p2 w) := by
  refine CV.of rfl ?_
  refine EV.steps cl_78 5 (q2 := (9, [some (.ref 29), some (.int p1), some (.int p2)], [.int (Int32.ofNat 240), .int (w 29 6)], SH, w)) rfl ?_
  refine EV.i_lt cl_78 rfl (fun h1 => ?_) (fun h1 => ?_)
  · skip
    refine EV.steps cl_78 5 (q2 := (26, [some (.ref 29), some (.int p1), some (.int p2)], [.int p1, .int (w 29 6), .ref 30], SH, w)) rfl ?_
    refine EV.iastore cl_78 rfl rfl (by decide) (by first | rfl | exact ix_153 (by assumption) (by decide) | exact ix2_153 (by assumption) (by assumption) (by decide) (by decide) (by decide) (by decide) | exact ix_157 (by assumption) (by decide)) ?_
    refine EV.steps cl_78 5 (q2 := (36, [some (.ref 29), some (.int p1), some (.int p2)], [.int p2, .int (w 29 6), .ref 31], SH, (up2 w 30 (w 29 6).toNatClampNeg p1))) rfl ?_
    refine EV.iastore cl_78 rfl rfl (by decide) (by first | rfl | exact ix_153 (by assumption) (by decide) | exact ix2_153 (by assumption) (by assumption) (by decide) (by decide) (by decide) (by decide) | exact ix_157 (by assumption) (by decide)) ?_
    refine EV.steps cl_78 10 (q2 := (53, [some (.ref 29), some (.int p1), some (.int p2)], [.int (((w 29 6) + (kI 1)) - (kI 1))], SH, (up2 (up2 (up2 w 30 (w 29 6).toNatClampNeg p1) 31 (w 29 6).toNatClampNeg p2) 29 6 ((w 29 6) + (kI 1))))) rfl ?_
    refine EV.ret cl_78 rfl rfl rfl ?_
    exact ⟨(by simp only [F_78_29, if_pos h1]), rfl, (by simp only [G_78_29, if_pos h1])⟩
  · skip
    refine EV.steps cl_78 2 (q2 := (16, [some (.ref 29), some (.int p1), some (.int p2)], [.int (w 29 6)], SH, w)) rfl ?_
    refine EV.ret cl_78 rfl rfl rfl ?_
    exact ⟨(by simp only [F_78_29, if_neg h1]), rfl, (by simp only [G_78_29, if_neg h1])⟩
def F_78_37 (p1 : Int32) (p2 : Int32) (w : Wd) : Int32 := (if (w 37 6) < (Int32.ofNat 80) then (((w 37 6) + (kI 1)) - (kI 1)) else (w 37 6))
def G_78_37 (p1 : Int32) (p2 : Int32) (w : Wd) : Wd := (if (w 37 6) < (Int32.ofNat 80) then (up2 (up2 (up2 w 38 (w 37 6).toNatClampNeg p1) 39 (w 37 6).toNatClampNeg p2) 37 6 ((w 37 6) + (kI 1))) else w)
theorem m_78_37 {X : Scr} {d : Nat} (w : Wd) (p1 : Int32) (p2 : Int32) : CV X (d + 1) 78 [.ref 37, .int p1, .int p2] SH w (fun r s1 w1 => r = some (.int (F_78_37 p1 p2 w)) ∧ s1 = SH ∧ w1 = G_78_37 p1 p2 w) := by
  refine CV.of rfl ?_
  refine EV.steps cl_78 5 (q2 := (9, [some (.ref 37), some (.int p1), some (.int p2)], [.int (Int32.ofNat 80), .int (w 37 6)], SH, w)) rfl ?_
  refine EV.i_lt cl_78 rfl (fun h1 => ?_) (fun h1 => ?_)
  · skip
    refine EV.steps cl_78 5 (q2 := (26, [some (.ref 37), some (.int p1), some (.int p2)], [.int p1, .int (w 37 6), .ref 38], SH, w)) rfl ?_
    refine EV.iastore cl_78 rfl rfl (by decide) (by first | rfl | exact ix_153 (by assumption) (by decide) | exact ix2_153 (by assumption) (by assumption) (by decide) (by decide) (by decide) (by decide) | exact ix_157 (by assumption) (by decide)) ?_
    refine EV.steps cl_78 5 (q2 := (36, [some (.ref 37), some (.int p1), some (.int p2)], [.int p2, .int (w 37 6), .ref 39], SH, (up2 w 38 (w 37 6).toNatClampNeg p1))) rfl ?_
    refine EV.iastore cl_78 rfl rfl (by decide) (by first | rfl | exact ix_153 (by assumption) (by decide) | exact ix2_153 (by assumption) (by assumption) (by decide) (by decide) (by decide) (by decide) | exact ix_157 (by assumption) (by decide)) ?_
    refine EV.steps cl_78 10 (q2 := (53, [some (.ref 37), some (.int p1), some (.int p2)], [.int (((w 37 6) + (kI 1)) - (kI 1))], SH, (up2 (up2 (up2 w 38 (w 37 6).toNatClampNeg p1) 39 (w 37 6).toNatClampNeg p2) 37 6 ((w 37 6) + (kI 1))))) rfl ?_
    refine EV.ret cl_78 rfl rfl rfl ?_
    exact ⟨(by simp only [F_78_37, if_pos h1]), rfl, (by simp only [G_78_37, if_pos h1])⟩
  · skip
    refine EV.steps cl_78 2 (q2 := (16, [some (.ref 37), some (.int p1), some (.int p2)], [.int (w 37 6)], SH, w)) rfl ?_
    refine EV.ret cl_78 rfl rfl rfl ?_
    exact ⟨(by simp only [F_78_37, if_neg h1]), rfl, (by simp only [G_78_37, if_neg h1])⟩
def F_78_44 (p1 : Int32) (p2 : Int32) (w : Wd) : Int32 := (if (w 44 6) < (Int32.ofNat 80) then (((w 44 6) + (kI 1)) - (kI 1)) else (w 44 6))
def G_78_44 (p1 : Int32) (p2 : Int32) (w : Wd) : Wd := (if (w 44 6) < (Int32.ofNat 80) then (up2 (up2 (up2 w 45 (w 44 6).toNatClampNeg p1) 46 (w 44 6).toNatClampNeg p2) 44 6 ((w 44 6) + (kI 1))) else w)
theorem m_78_44 {X : Scr} {d : Nat} (w : Wd) (p1 : Int32) (p2 : Int32) : CV X (d + 1) 78 [.ref 44, .int p1, .int p2] SH w (fun r s1 w1 => r = some (.int (F_78_44 p1 p2 w)) ∧ s1 = SH ∧ w1 = G_78_44 p1 p2 w) := by
  refine CV.of rfl ?_
  refine EV.steps cl_78 5 (q2 := (9, [some (.ref 44), some (.int p1), some (.int p2)], [.int (Int32.ofNat 80), .int (w 44 6)], SH, w)) rfl ?_
  refine EV.i_lt cl_78 rfl (fun h1 => ?_) (fun h1 => ?_)
  · skip
    refine EV.steps cl_78 5 (q2 := (26, [some (.ref 44), some (.int p1), some (.int p2)], [.int p1, .int (w 44 6), .ref 45], SH, w)) rfl ?_
    refine EV.iastore cl_78 rfl rfl (by decide) (by first | rfl | exact ix_153 (by assumption) (by decide) | exact ix2_153 (by assumption) (by assumption) (by decide) (by decide) (by decide) (by decide) | exact ix_157 (by assumption) (by decide)) ?_
    refine EV.steps cl_78 5 (q2 := (36, [some (.ref 44), some (.int p1), some (.int p2)], [.int p2, .int (w 44 6), .ref 46], SH, (up2 w 45 (w 44 6).toNatClampNeg p1))) rfl ?_
    refine EV.iastore cl_78 rfl rfl (by decide) (by first | rfl | exact ix_153 (by assumption) (by decide) | exact ix2_153 (by assumption) (by assumption) (by decide) (by decide) (by decide) (by decide) | exact ix_157 (by assumption) (by decide)) ?_
    refine EV.steps cl_78 10 (q2 := (53, [some (.ref 44), some (.int p1), some (.int p2)], [.int (((w 44 6) + (kI 1)) - (kI 1))], SH, (up2 (up2 (up2 w 45 (w 44 6).toNatClampNeg p1) 46 (w 44 6).toNatClampNeg p2) 44 6 ((w 44 6) + (kI 1))))) rfl ?_
    refine EV.ret cl_78 rfl rfl rfl ?_
    exact ⟨(by simp only [F_78_44, if_pos h1]), rfl, (by simp only [G_78_44, if_pos h1])⟩
  · skip
    refine EV.steps cl_78 2 (q2 := (16, [some (.ref 44), some (.int p1), some (.int p2)], [.int (w 44 6)], SH, w)) rfl ?_
    refine EV.ret cl_78 rfl rfl rfl ?_
    exact ⟨(by simp only [F_78_44, if_neg h1]), rfl, (by simp only [G_78_44, if_neg h1])⟩
def F_78_51 (p1 : Int32) (p2 : Int32) (w : Wd) : Int32 := (if (w 51 6) < (Int32.ofNat 80) then (((w 51 6) + (kI 1)) - (kI 1)) else (w 51 6))
def G_78_51 (p1 : Int32) (p2 : Int32) (w : Wd) : Wd := (if (w 51 6) < (Int32.ofNat 80) then (up2 (up2 (up2 w 52 (w 51 6).toNatClampNeg p1) 53 (w 51 6).toNatClampNeg p2) 51 6 ((w 51 6) + (kI 1))) else w)
theorem m_78_51 {X : Scr} {d : Nat} (w : Wd) (p1 : Int32) (p2 : Int32) : CV X (d + 1) 78 [.ref 51, .int p1, .int p2] SH w (fun r s1 w1 => r = some (.int (F_78_51 p1 p2 w)) ∧ s1 = SH ∧ w1 = G_78_51 p1 p2 w) := by
  refine CV.of rfl ?_
  refine EV.steps cl_78 5 (q2 := (9, [some (.ref 51), some (.int p1), some (.int p2)], [.int (Int32.ofNat 80), .int (w 51 6)], SH, w)) rfl ?_
  refine EV.i_lt cl_78 rfl (fun h1 => ?_) (fun h1 => ?_)
  · skip
    refine EV.steps cl_78 5 (q2 := (26, [some (.ref 51), some (.int p1), some (.int p2)], [.int p1, .int (w 51 6), .ref 52], SH, w)) rfl ?_
    refine EV.iastore cl_78 rfl rfl (by decide) (by first | rfl | exact ix_153 (by assumption) (by decide) | exact ix2_153 (by assumption) (by assumption) (by decide) (by decide) (by decide) (by decide) | exact ix_157 (by assumption) (by decide)) ?_
    refine EV.steps cl_78 5 (q2 := (36, [some (.ref 51), some (.int p1), some (.int p2)], [.int p2, .int (w 51 6), .ref 53], SH, (up2 w 52 (w 51 6).toNatClampNeg p1))) rfl ?_
    refine EV.iastore cl_78 rfl rfl (by decide) (by first | rfl | exact ix_153 (by assumption) (by decide) | exact ix2_153 (by assumption) (by assumption) (by decide) (by decide) (by decide) (by decide) | exact ix_157 (by assumption) (by decide)) ?_
    refine EV.steps cl_78 10 (q2 := (53, [some (.ref 51), some (.int p1), some (.int p2)], [.int (((w 51 6) + (kI 1)) - (kI 1))], SH, (up2 (up2 (up2 w 52 (w 51 6).toNatClampNeg p1) 53 (w 51 6).toNatClampNeg p2) 51 6 ((w 51 6) + (kI 1))))) rfl ?_
    refine EV.ret cl_78 rfl rfl rfl ?_
    exact ⟨(by simp only [F_78_51, if_pos h1]), rfl, (by simp only [G_78_51, if_pos h1])⟩
  · skip
    refine EV.steps cl_78 2 (q2 := (16, [some (.ref 51), some (.int p1), some (.int p2)], [.int (w 51 6)], SH, w)) rfl ?_
    refine EV.ret cl_78 rfl rfl rfl ?_
    exact ⟨(by simp only [F_78_51, if_neg h1]), rfl, (by simp only [G_78_51, if_neg h1])⟩
def F_78_58 (p1 : Int32) (p2 : Int32) (w : Wd) : Int32 := (if (w 58 6) < (Int32.ofNat 80) then (((w 58 6) + (kI 1)) - (kI 1)) else (w 58 6))
def G_78_58 (p1 : Int32) (p2 : Int32) (w : Wd) : Wd := (if (w 58 6) < (Int32.ofNat 80) then (up2 (up2 (up2 w 59 (w 58 6).toNatClampNeg p1) 60 (w 58 6).toNatClampNeg p2) 58 6 ((w 58 6) + (kI 1))) else w)
theorem m_78_58 {X : Scr} {d : Nat} (w : Wd) (p1 : Int32) (p2 : Int32) : CV X (d + 1) 78 [.ref 58, .int p1, .int p2] SH w (fun r s1 w1 => r = some (.int (F_78_58 p1 p2 w)) ∧ s1 = SH ∧ w1 = G_78_58 p1 p2 w) := by
  refine CV.of rfl ?_
  refine EV.steps cl_78 5 (q2 := (9, [some (.ref 58), some (.int p1), some (.int p2)], [.int (Int32.ofNat 80), .int (w 58 6)], SH, w)) rfl ?_
  refine EV.i_lt cl_78 rfl (fun h1 => ?_) (fun h1 => ?_)
  · skip
    refine EV.steps cl_78 5 (q2 := (26, [some (.ref 58), some (.int p1), some (.int p2)], [.int p1, .int (w 58 6), .ref 59], SH, w)) rfl ?_
    refine EV.iastore cl_78 rfl rfl (by decide) (by first | rfl | exact ix_153 (by assumption) (by decide) | exact ix2_153 (by assumption) (by assumption) (by decide) (by decide) (by decide) (by decide) | exact ix_157 (by assumption) (by decide)) ?_
    refine EV.steps cl_78 5 (q2 := (36, [some (.ref 58), some (.int p1), some (.int p2)], [.int p2, .int (w 58 6), .ref 60], SH, (up2 w 59 (w 58 6).toNatClampNeg p1))) rfl ?_
    refine EV.iastore cl_78 rfl rfl (by decide) (by first | rfl | exact ix_153 (by assumption) (by decide) | exact ix2_153 (by assumption) (by assumption) (by decide) (by decide) (by decide) (by decide) | exact ix_157 (by assumption) (by decide)) ?_
    refine EV.steps cl_78 10 (q2 := (53, [some (.ref 58), some (.int p1), some (.int p2)], [.int (((w 58 6) + (kI 1)) - (kI 1))], SH, (up2 (up2 (up2 w 59 (w 58 6).toNatClampNeg p1) 60 (w 58 6).toNatClampNeg p2) 58 6 ((w 58 6) + (kI 1))))) rfl ?_
    refine EV.ret cl_78 rfl rfl rfl ?_
    exact ⟨(by simp only [F_78_58, if_pos h1]), rfl, (by simp only [G_78_58, if_pos h1])⟩
  · skip
    refine EV.steps cl_78 2 (q2 := (16, [some (.ref 58), some (.int p1), some (.int p2)], [.int (w 58 6)], SH, w)) rfl ?_
    refine EV.ret cl_78 rfl rfl rfl ?_
    exact ⟨(by simp only [F_78_58, if_neg h1]), rfl, (by simp only [G_78_58, if_neg h1])⟩
def F_78_65 (p1 : Int32) (p2 : Int32) (w : Wd) : Int32 := (if (w 65 6) < (Int32.ofNat 80) then (((w 65 6) + (kI 1)) - (kI 1)) else (w 65 6))
def G_78_65 (p1 : Int32) (p2 : Int32) (w : Wd) : Wd := (if (w 65 6) < (Int32.ofNat 80) then (up2 (up2 (up2 w 66 (w 65 6).toNatClampNeg p1) 67 (w 65 6).toNatClampNeg p2) 65 6 ((w 65 6) + (kI 1))) else w)
theorem m_78_65 {X : Scr} {d : Nat} (w : Wd) (p1 : Int32) (p2 : Int32) : CV X (d + 1) 78 [.ref 65, .int p1, .int p2] SH w (fun r s1 w1 => r = some (.int (F_78_65 p1 p2 w)) ∧ s1 = SH ∧ w1 = G_78_65 p1 p2 w) := by
  refine CV.of rfl ?_
  refine EV.steps cl_78 5 (q2 := (9, [some (.ref 65), some (.int p1), some (.int p2)], [.int (Int32.ofNat 80), .int (w 65 6)], SH, w)) rfl ?_
  refine EV.i_lt cl_78 rfl (fun h1 => ?_) (fun h1 => ?_)
  · skip
    refine EV.steps cl_78 5 (q2 := (26, [some (.ref 65), some (.int p1), some (.int p2)], [.int p1, .int (w 65 6), .ref 66], SH, w)) rfl ?_
    refine EV.iastore cl_78 rfl rfl (by decide) (by first | rfl | exact ix_153 (by assumption) (by decide) | exact ix2_153 (by assumption) (by assumption) (by decide) (by decide) (by decide) (by decide) | exact ix_157 (by assumption) (by decide)) ?_
    refine EV.steps cl_78 5 (q2 := (36, [some (.ref 65), some (.int p1), some (.int p2)], [.int p2, .int (w 65 6), .ref 67], SH, (up2 w 66 (w 65 6).toNatClampNeg p1))) rfl ?_
    refine EV.iastore cl_78 rfl rfl (by decide) (by first | rfl | exact ix_153 (by assumption) (by decide) | exact ix2_153 (by assumption) (by assumption) (by decide) (by decide) (by decide) (by decide) | exact ix_157 (by assumption) (by decide)) ?_
    refine EV.steps cl_78 10 (q2 := (53, [some (.ref 65), some (.int p1), some (.int p2)], [.int (((w 65 6) + (kI 1)) - (kI 1))], SH, (up2 (up2 (up2 w 66 (w 65 6).toNatClampNeg p1) 67 (w 65 6).toNatClampNeg p2) 65 6 ((w 65 6) + (kI 1))))) rfl ?_
    refine EV.ret cl_78 rfl rfl rfl ?_
    exact ⟨(by simp only [F_78_65, if_pos h1]), rfl, (by simp only [G_78_65, if_pos h1])⟩
  · skip
    refine EV.steps cl_78 2 (q2 := (16, [some (.ref 65), some (.int p1), some (.int p2)], [.int (w 65 6)], SH, w)) rfl ?_
    refine EV.ret cl_78 rfl rfl rfl ?_
    exact ⟨(by simp only [F_78_65, if_neg h1]), rfl, (by simp only [G_78_65, if_neg h1])⟩
def F_78_72 (p1 : Int32) (p2 : Int32) (w : Wd) : Int32 := (if (w 72 6) < (Int32.ofNat 80) then (((w 72 6) + (kI 1)) - (kI 1)) else (w 72 6))
def G_78_72 (p1 : Int32) (p2 : Int32) (w : Wd) : Wd := (if (w 72 6) < (Int32.ofNat 80) then (up2 (up2 (up2 w 73 (w 72 6).toNatClampNeg p1) 74 (w 72 6).toNatClampNeg p2) 72 6 ((w 72 6) + (kI 1))) else w)
theorem m_78_72 {X : Scr} {d : Nat} (w : Wd) (p1 : Int32) (p2 : Int32) : CV X (d + 1) 78 [.ref 72, .int p1, .int p2] SH w (fun r s1 w1 => r = some (.int (F_78_72 p1 p2 w)) ∧ s1 = SH ∧ w1 = G_78_72 p1 p2 w) := by
  refine CV.of rfl ?_
  refine EV.steps cl_78 5 (q2 := (9, [some (.ref 72), some (.int p1), some (.int p2)], [.int (Int32.ofNat 80), .int (w 72 6)], SH, w)) rfl ?_
  refine EV.i_lt cl_78 rfl (fun h1 => ?_) (fun h1 => ?_)
  · skip
    refine EV.steps cl_78 5 (q2 := (26, [some (.ref 72), some (.int p1), some (.int p2)], [.int p1, .int (w 72 6), .ref 73], SH, w)) rfl ?_
    refine EV.iastore cl_78 rfl rfl (by decide) (by first | rfl | exact ix_153 (by assumption) (by decide) | exact ix2_153 (by assumption) (by assumption) (by decide) (by decide) (by decide) (by decide) | exact ix_157 (by assumption) (by decide)) ?_
    refine EV.steps cl_78 5 (q2 := (36, [some (.ref 72), some (.int p1), some (.int p2)], [.int p2, .int (w 72 6), .ref 74], SH, (up2 w 73 (w 72 6).toNatClampNeg p1))) rfl ?_
    refine EV.iastore cl_78 rfl rfl (by decide) (by first | rfl | exact ix_153 (by assumption) (by decide) | exact ix2_153 (by assumption) (by assumption) (by decide) (by decide) (by decide) (by decide) | exact ix_157 (by assumption) (by decide)) ?_
    refine EV.steps cl_78 10 (q2 := (53, [some (.ref 72), some (.int p1), some (.int p2)], [.int (((w 72 6) + (kI 1)) - (kI 1))], SH, (up2 (up2 (up2 w 73 (w 72 6).toNatClampNeg p1) 74 (w 72 6).toNatClampNeg p2) 72 6 ((w 72 6) + (kI 1))))) rfl ?_
    refine EV.ret cl_78 rfl rfl rfl ?_
    exact ⟨(by simp only [F_78_72, if_pos h1]), rfl, (by simp only [G_78_72, if_pos h1])⟩
  · skip
    refine EV.steps cl_78 2 (q2 := (16, [some (.ref 72), some (.int p1), some (.int p2)], [.int (w 72 6)], SH, w)) rfl ?_
    refine EV.ret cl_78 rfl rfl rfl ?_
    exact ⟨(by simp only [F_78_72, if_neg h1]), rfl, (by simp only [G_78_72, if_neg h1])⟩
theorem cl_79 : RCT[79]? = some rc_79 := rfl
def G_79_22 (p1 : Int32) (w : Wd) : Wd := (if (F_153 p1 (kI 0) ((w 22 6) - (kI 1)) w) = 0 then w else (up2 w 24 p1.toNatClampNeg (w 22 6)))
theorem m_79_22 {X : Scr} {d : Nat} (w : Wd) (p1 : Int32) : CV X (d + 2) 79 [.ref 22, .int p1] SH w (fun r s1 w1 => r = none ∧ s1 = SH ∧ w1 = G_79_22 p1 w) := by
  refine CV.of rfl ?_
  refine EV.steps cl_79 6 (q2 := (8, [some (.ref 22), some (.int p1)], [.int ((w 22 6) - (kI 1)), .int (kI 0), .int p1], SH, w)) rfl ?_
  refine EV.call cl_79 rfl rfl rfl (m_153 w p1 (kI 0) ((w 22 6) - (kI 1))) ?_
  rintro _ _ _ ⟨rfl, rfl, rfl⟩
  refine EV.z_eq cl_79 rfl (fun h1 => ?_) (fun h1 => ?_)
  · skip
    refine EV.ret cl_79 rfl rfl rfl ?_
    exact ⟨rfl, rfl, (by simp only [G_79_22, if_pos h1])⟩
  · skip
    refine EV.steps cl_79 5 (q2 := (23, [some (.ref 22), some (.int p1)], [.int (w 22 6), .int p1, .ref 24], SH, w)) rfl ?_
    refine EV.iastore cl_79 rfl rfl (by decide) (by first | rfl | exact ix_153 (by assumption) (by decide) | exact ix2_153 (by assumption) (by assumption) (by decide) (by decide) (by decide) (by decide) | exact ix_157 (by assumption) (by decide)) ?_
    refine EV.ret cl_79 rfl rfl rfl ?_
    exact ⟨rfl, rfl, (by simp only [G_79_22, if_neg h1])⟩
def G_79_29 (p1 : Int32) (w : Wd) : Wd := (if (F_153 p1 (kI 0) ((w 29 6) - (kI 1)) w) = 0 then w else (up2 w 31 p1.toNatClampNeg (w 29 6)))
theorem m_79_29 {X : Scr} {d : Nat} (w : Wd) (p1 : Int32) : CV X (d + 2) 79 [.ref 29, .int p1] SH w (fun r s1 w1 => r = none ∧ s1 = SH ∧ w1 = G_79_29 p1 w) := by
  refine CV.of rfl ?_
  refine EV.steps cl_79 6 (q2 := (8, [some (.ref 29), some (.int p1)], [.int ((w 29 6) - (kI 1)), .int (kI 0), .int p1], SH, w)) rfl ?_
  refine EV.call cl_79 rfl rfl rfl (m_153 w p1 (kI 0) ((w 29 6) - (kI 1))) ?_
  rintro _ _ _ ⟨rfl, rfl, rfl⟩
  refine EV.z_eq cl_79 rfl (fun h1 => ?_) (fun h1 => ?_)
  · skip
    refine EV.ret cl_79 rfl rfl rfl ?_
    exact ⟨rfl, rfl, (by simp only [G_79_29, if_pos h1])⟩
  · skip
    refine EV.steps cl_79 5 (q2 := (23, [some (.ref 29), some (.int p1)], [.int (w 29 6), .int p1, .ref 31], SH, w)) rfl ?_
    refine EV.iastore cl_79 rfl rfl (by decide) (by first | rfl | exact ix_153 (by assumption) (by decide) | exact ix2_153 (by assumption) (by assumption) (by decide) (by decide) (by decide) (by decide) | exact ix_157 (by assumption) (by decide)) ?_
    refine EV.ret cl_79 rfl rfl rfl ?_
    exact ⟨rfl, rfl, (by simp only [G_79_29, if_neg h1])⟩
def G_79_37 (p1 : Int32) (w : Wd) : Wd := (if (F_153 p1 (kI 0) ((w 37 6) - (kI 1)) w) = 0 then w else (up2 w 39 p1.toNatClampNeg (w 37 6)))
theorem m_79_37 {X : Scr} {d : Nat} (w : Wd) (p1 : Int32) : CV X (d + 2) 79 [.ref 37, .int p1] SH w (fun r s1 w1 => r = none ∧ s1 = SH ∧ w1 = G_79_37 p1 w) := by
  refine CV.of rfl ?_
  refine EV.steps cl_79 6 (q2 := (8, [some (.ref 37), some (.int p1)], [.int ((w 37 6) - (kI 1)), .int (kI 0), .int p1], SH, w)) rfl ?_
  refine EV.call cl_79 rfl rfl rfl (m_153 w p1 (kI 0) ((w 37 6) - (kI 1))) ?_
  rintro _ _ _ ⟨rfl, rfl, rfl⟩
  refine EV.z_eq cl_79 rfl (fun h1 => ?_) (fun h1 => ?_)
  · skip
    refine EV.ret cl_79 rfl rfl rfl ?_
    exact ⟨rfl, rfl, (by simp only [G_79_37, if_pos h1])⟩
  · skip
    refine EV.steps cl_79 5 (q2 := (23, [some (.ref 37), some (.int p1)], [.int (w 37 6), .int p1, .ref 39], SH, w)) rfl ?_
    refine EV.iastore cl_79 rfl rfl (by decide) (by first | rfl | exact ix_153 (by assumption) (by decide) | exact ix2_153 (by assumption) (by assumption) (by decide) (by decide) (by decide) (by decide) | exact ix_157 (by assumption) (by decide)) ?_
    refine EV.ret cl_79 rfl rfl rfl ?_
    exact ⟨rfl, rfl, (by simp only [G_79_37, if_neg h1])⟩
def G_79_44 (p1 : Int32) (w : Wd) : Wd := (if (F_153 p1 (kI 0) ((w 44 6) - (kI 1)) w) = 0 then w else (up2 w 46 p1.toNatClampNeg (w 44 6)))
theorem m_79_44 {X : Scr} {d : Nat} (w : Wd) (p1 : Int32) : CV X (d + 2) 79 [.ref 44, .int p1] SH w (fun r s1 w1 => r = none ∧ s1 = SH ∧ w1 = G_79_44 p1 w) := by
  refine CV.of rfl ?_
  refine EV.steps cl_79 6 (q2 := (8, [some (.ref 44), some (.int p1)], [.int ((w 44 6) - (kI 1)), .int (kI 0), .int p1], SH, w)) rfl ?_
  refine EV.call cl_79 rfl rfl rfl (m_153 w p1 (kI 0) ((w 44 6) - (kI 1))) ?_
  rintro _ _ _ ⟨rfl, rfl, rfl⟩
  refine EV.z_eq cl_79 rfl (fun h1 => ?_) (fun h1 => ?_)
  · skip
    refine EV.ret cl_79 rfl rfl rfl ?_
    exact ⟨rfl, rfl, (by simp only [G_79_44, if_pos h1])⟩
  · skip
    refine EV.steps cl_79 5 (q2 := (23, [some (.ref 44), some (.int p1)], [.int (w 44 6), .int p1, .ref 46], SH, w)) rfl ?_
    refine EV.iastore cl_79 rfl rfl (by decide) (by first | rfl | exact ix_153 (by assumption) (by decide) | exact ix2_153 (by assumption) (by assumption) (by decide) (by decide) (by decide) (by decide) | exact ix_157 (by assumption) (by decide)) ?_
    refine EV.ret cl_79 rfl rfl rfl ?_
    exact ⟨rfl, rfl, (by simp only [G_79_44, if_neg h1])⟩
def G_79_51 (p1 : Int32) (w : Wd) : Wd := (if (F_153 p1 (kI 0) ((w 51 6) - (kI 1)) w) = 0 then w else (up2 w 53 p1.toNatClampNeg (w 51 6)))
theorem m_79_51 {X : Scr} {d : Nat} (w : Wd) (p1 : Int32) : CV X (d + 2) 79 [.ref 51, .int p1] SH w (fun r s1 w1 => r = none ∧ s1 = SH ∧ w1 = G_79_51 p1 w) := by
  refine CV.of rfl ?_
  refine EV.steps cl_79 6 (q2 := (8, [some (.ref 51), some (.int p1)], [.int ((w 51 6) - (kI 1)), .int (kI 0), .int p1], SH, w)) rfl ?_
  refine EV.call cl_79 rfl rfl rfl (m_153 w p1 (kI 0) ((w 51 6) - (kI 1))) ?_
  rintro _ _ _ ⟨rfl, rfl, rfl⟩
  refine EV.z_eq cl_79 rfl (fun h1 => ?_) (fun h1 => ?_)
  · skip
    refine EV.ret cl_79 rfl rfl rfl ?_
    exact ⟨rfl, rfl, (by simp only [G_79_51, if_pos h1])⟩
  · skip
    refine EV.steps cl_79 5 (q2 := (23, [some (.ref 51), some (.int p1)], [.int (w 51 6), .int p1, .ref 53], SH, w)) rfl ?_
    refine EV.iastore cl_79 rfl rfl (by decide) (by first | rfl | exact ix_153 (by assumption) (by decide) | exact ix2_153 (by assumption) (by assumption) (by decide) (by decide) (by decide) (by decide) | exact ix_157 (by assumption) (by decide)) ?_
    refine EV.ret cl_79 rfl rfl rfl ?_
    exact ⟨rfl, rfl, (by simp only [G_79_51, if_neg h1])⟩
def G_79_58 (p1 : Int32) (w : Wd) : Wd := (if (F_153 p1 (kI 0) ((w 58 6) - (kI 1)) w) = 0 then w else (up2 w 60 p1.toNatClampNeg (w 58 6)))
theorem m_79_58 {X : Scr} {d : Nat} (w : Wd) (p1 : Int32) : CV X (d + 2) 79 [.ref 58, .int p1] SH w (fun r s1 w1 => r = none ∧ s1 = SH ∧ w1 = G_79_58 p1 w) := by
  refine CV.of rfl ?_
  refine EV.steps cl_79 6 (q2 := (8, [some (.ref 58), some (.int p1)], [.int ((w 58 6) - (kI 1)), .int (kI 0), .int p1], SH, w)) rfl ?_
  refine EV.call cl_79 rfl rfl rfl (m_153 w p1 (kI 0) ((w 58 6) - (kI 1))) ?_
  rintro _ _ _ ⟨rfl, rfl, rfl⟩
  refine EV.z_eq cl_79 rfl (fun h1 => ?_) (fun h1 => ?_)
  · skip
    refine EV.ret cl_79 rfl rfl rfl ?_
    exact ⟨rfl, rfl, (by simp only [G_79_58, if_pos h1])⟩
  · skip
    refine EV.steps cl_79 5 (q2 := (23, [some (.ref 58), some (.int p1)], [.int (w 58 6), .int p1, .ref 60], SH, w)) rfl ?_
    refine EV.iastore cl_79 rfl rfl (by decide) (by first | rfl | exact ix_153 (by assumption) (by decide) | exact ix2_153 (by assumption) (by assumption) (by decide) (by decide) (by decide) (by decide) | exact ix_157 (by assumption) (by decide)) ?_
    refine EV.ret cl_79 rfl rfl rfl ?_
    exact ⟨rfl, rfl, (by simp only [G_79_58, if_neg h1])⟩
def G_79_65 (p1 : Int32) (w : Wd) : Wd := (if (F_153 p1 (kI 0) ((w 65 6) - (kI 1)) w) = 0 then w else (up2 w 67 p1.toNatClampNeg (w 65 6)))
theorem m_79_65 {X : Scr} {d : Nat} (w : Wd) (p1 : Int32) : CV X (d + 2) 79 [.ref 65, .int p1] SH w (fun r s1 w1 => r = none ∧ s1 = SH ∧ w1 = G_79_65 p1 w) := by
  refine CV.of rfl ?_
  refine EV.steps cl_79 6 (q2 := (8, [some (.ref 65), some (.int p1)], [.int ((w 65 6) - (kI 1)), .int (kI 0), .int p1], SH, w)) rfl ?_
  refine EV.call cl_79 rfl rfl rfl (m_153 w p1 (kI 0) ((w 65 6) - (kI 1))) ?_
  rintro _ _ _ ⟨rfl, rfl, rfl⟩
  refine EV.z_eq cl_79 rfl (fun h1 => ?_) (fun h1 => ?_)
  · skip
    refine EV.ret cl_79 rfl rfl rfl ?_
    exact ⟨rfl, rfl, (by simp only [G_79_65, if_pos h1])⟩
  · skip
    refine EV.steps cl_79 5 (q2 := (23, [some (.ref 65), some (.int p1)], [.int (w 65 6), .int p1, .ref 67], SH, w)) rfl ?_
    refine EV.iastore cl_79 rfl rfl (by decide) (by first | rfl | exact ix_153 (by assumption) (by decide) | exact ix2_153 (by assumption) (by assumption) (by decide) (by decide) (by decide) (by decide) | exact ix_157 (by assumption) (by decide)) ?_
    refine EV.ret cl_79 rfl rfl rfl ?_
    exact ⟨rfl, rfl, (by simp only [G_79_65, if_neg h1])⟩
def G_79_72 (p1 : Int32) (w : Wd) : Wd := (if (F_153 p1 (kI 0) ((w 72 6) - (kI 1)) w) = 0 then w else (up2 w 74 p1.toNatClampNeg (w 72 6)))
theorem m_79_72 {X : Scr} {d : Nat} (w : Wd) (p1 : Int32) : CV X (d + 2) 79 [.ref 72, .int p1] SH w (fun r s1 w1 => r = none ∧ s1 = SH ∧ w1 = G_79_72 p1 w) := by
  refine CV.of rfl ?_
  refine EV.steps cl_79 6 (q2 := (8, [some (.ref 72), some (.int p1)], [.int ((w 72 6) - (kI 1)), .int (kI 0), .int p1], SH, w)) rfl ?_
  refine EV.call cl_79 rfl rfl rfl (m_153 w p1 (kI 0) ((w 72 6) - (kI 1))) ?_
  rintro _ _ _ ⟨rfl, rfl, rfl⟩
  refine EV.z_eq cl_79 rfl (fun h1 => ?_) (fun h1 => ?_)
  · skip
    refine EV.ret cl_79 rfl rfl rfl ?_
    exact ⟨rfl, rfl, (by simp only [G_79_72, if_pos h1])⟩
  · skip
    refine EV.steps cl_79 5 (q2 := (23, [some (.ref 72), some (.int p1)], [.int (w 72 6), .int p1, .ref 74], SH, w)) rfl ?_
    refine EV.iastore cl_79 rfl rfl (by decide) (by first | rfl | exact ix_153 (by assumption) (by decide) | exact ix2_153 (by assumption) (by assumption) (by decide) (by decide) (by decide) (by decide) | exact ix_157 (by assumption) (by decide)) ?_
    refine EV.ret cl_79 rfl rfl rfl ?_
    exact ⟨rfl, rfl, (by simp only [G_79_72, if_neg h1])⟩
def G_80_22 (p1 : Int32) (w : Wd) : Wd := (if (Int32.ofNat 16) ≤ (w 22 7) then w else (up2 (up2 (up2 w 25 (w 22 7).toNatClampNeg p1) 26 (w 22 7).toNatClampNeg (w 22 6)) 27 (w 22 7).toNatClampNeg (w 22 6)))
theorem m_80_22 {X : Scr} {d : Nat} (w : Wd) (p1 : Int32) : CV X (d + 1) 80 [.ref 22, .int p1] SH w (fun r s1 w1 => r = none ∧ s1 = SH ∧ w1 = G_80_22 p1 w) := by
  refine CV.of rfl ?_
  refine EV.steps cl_80 5 (q2 := (9, [some (.ref 22), some (.int p1)], [.int (Int32.ofNat 16), .int (w 22 7)], SH, w)) rfl ?_
  refine EV.i_ge cl_80 rfl (fun h1 => ?_) (fun h1 => ?_)
  · skip
    refine EV.ret cl_80 rfl rfl rfl ?_
    exact ⟨rfl, rfl, (by simp only [G_80_22, if_pos h1])⟩
  · skip
    refine EV.steps cl_80 5 (q2 := (21, [some (.ref 22), some (.int p1)], [.int p1, .int (w 22 7), .ref 25], SH, w)) rfl ?_
    refine EV.iastore cl_80 rfl rfl (by decide) (by first | rfl | exact ix_153 (by assumption) (by decide) | exact ix2_153 (by assumption) (by assumption) (by decide) (by decide) (by decide) (by decide) | exact ix_157 (by assumption) (by decide)) ?_
    refine EV.steps cl_80 6 (q2 := (34, [some (.ref 22), some (.int p1)], [.int (w 22 6), .int (w 22 7), .ref 26], SH, (up2 w 25 (w 22 7).toNatClampNeg p1))) rfl ?_
    refine EV.iastore cl_80 rfl rfl (by decide) (by first | rfl | exact ix_153 (by assumption) (by decide) | exact ix2_153 (by assumption) (by assumption) (by decide) (by decide) (by decide) (by decide) | exact ix_157 (by assumption) (by decide)) ?_
    refine EV.steps cl_80 6 (q2 := (47, [some (.ref 22), some (.int p1)], [.int (w 22 6), .int (w 22 7), .ref 27], SH, (up2 (up2 w 25 (w 22 7).toNatClampNeg p1) 26 (w 22 7).toNatClampNeg (w 22 6)))) rfl ?_
    refine EV.iastore cl_80 rfl rfl (by decide) (by first | rfl | exact ix_153 (by assumption) (by decide) | exact ix2_153 (by assumption) (by assumption) (by decide) (by decide) (by decide) (by decide) | exact ix_157 (by assumption) (by decide)) ?_
    refine EV.ret cl_80 rfl rfl rfl ?_
    exact ⟨rfl, rfl, (by simp only [G_80_22, if_neg h1])⟩
def G_80_37 (p1 : Int32) (w : Wd) : Wd := (if (Int32.ofNat 1) ≤ (w 37 7) then w else (up2 (up2 (up2 w 40 (w 37 7).toNatClampNeg p1) 41 (w 37 7).toNatClampNeg (w 37 6)) 42 (w 37 7).toNatClampNeg (w 37 6)))
theorem m_80_37 {X : Scr} {d : Nat} (w : Wd) (p1 : Int32) : CV X (d + 1) 80 [.ref 37, .int p1] SH w (fun r s1 w1 => r = none ∧ s1 = SH ∧ w1 = G_80_37 p1 w) := by
  refine CV.of rfl ?_
  refine EV.steps cl_80 5 (q2 := (9, [some (.ref 37), some (.int p1)], [.int (Int32.ofNat 1), .int (w 37 7)], SH, w)) rfl ?_
  refine EV.i_ge cl_80 rfl (fun h1 => ?_) (fun h1 => ?_)
  · skip
    refine EV.ret cl_80 rfl rfl rfl ?_
    exact ⟨rfl, rfl, (by simp only [G_80_37, if_pos h1])⟩
  · skip
    refine EV.steps cl_80 5 (q2 := (21, [some (.ref 37), some (.int p1)], [.int p1, .int (w 37 7), .ref 40], SH, w)) rfl ?_
    refine EV.iastore cl_80 rfl rfl (by decide) (by first | rfl | exact ix_153 (by assumption) (by decide) | exact ix2_153 (by assumption) (by assumption) (by decide) (by decide) (by decide) (by decide) | exact ix_157 (by assumption) (by decide)) ?_
    refine EV.steps cl_80 6 (q2 := (34, [some (.ref 37), some (.int p1)], [.int (w 37 6), .int (w 37 7), .ref 41], SH, (up2 w 40 (w 37 7).toNatClampNeg p1))) rfl ?_
    refine EV.iastore cl_80 rfl rfl (by decide) (by first | rfl | exact ix_153 (by assumption) (by decide) | exact ix2_153 (by assumption) (by assumption) (by decide) (by decide) (by decide) (by decide) | exact ix_157 (by assumption) (by decide)) ?_
    refine EV.steps cl_80 6 (q2 := (47, [some (.ref 37), some (.int p1)], [.int (w 37 6), .int (w 37 7), .ref 42], SH, (up2 (up2 w 40 (w 37 7).toNatClampNeg p1) 41 (w 37 7).toNatClampNeg (w 37 6)))) rfl ?_
    refine EV.iastore cl_80 rfl rfl (by decide) (by first | rfl | exact ix_153 (by assumption) (by decide) | exact ix2_153 (by assumption) (by assumption) (by decide) (by decide) (by decide) (by decide) | exact ix_157 (by assumption) (by decide)) ?_
    refine EV.ret cl_80 rfl rfl rfl ?_
    exact ⟨rfl, rfl, (by simp only [G_80_37, if_neg h1])⟩
def G_80_44 (p1 : Int32) (w : Wd) : Wd := (if (Int32.ofNat 1) ≤ (w 44 7) then w else (up2 (up2 (up2 w 47 (w 44 7).toNatClampNeg p1) 48 (w 44 7).toNatClampNeg (w 44 6)) 49 (w 44 7).toNatClampNeg (w 44 6)))
theorem m_80_44 {X : Scr} {d : Nat} (w : Wd) (p1 : Int32) : CV X (d + 1) 80 [.ref 44, .int p1] SH w (fun r s1 w1 => r = none ∧ s1 = SH ∧ w1 = G_80_44 p1 w) := by
  refine CV.of rfl ?_
  refine EV.steps cl_80 5 (q2 := (9, [some (.ref 44), some (.int p1)], [.int (Int32.ofNat 1), .int (w 44 7)], SH, w)) rfl ?_
  refine EV.i_ge cl_80 rfl (fun h1 => ?_) (fun h1 => ?_)
  · skip
    refine EV.ret cl_80 rfl rfl rfl ?_
    exact ⟨rfl, rfl, (by simp only [G_80_44, if_pos h1])⟩
  · skip
    refine EV.steps cl_80 5 (q2 := (21, [some (.ref 44), some (.int p1)], [.int p1, .int (w 44 7), .ref 47], SH, w)) rfl ?_
    refine EV.iastore cl_80 rfl rfl (by decide) (by first | rfl | exact ix_153 (by assumption) (by decide) | exact ix2_153 (by assumption) (by assumption) (by decide) (by decide) (by decide) (by decide) | exact ix_157 (by assumption) (by decide)) ?_
    refine EV.steps cl_80 6 (q2 := (34, [some (.ref 44), some (.int p1)], [.int (w 44 6), .int (w 44 7), .ref 48], SH, (up2 w 47 (w 44 7).toNatClampNeg p1))) rfl ?_
    refine EV.iastore cl_80 rfl rfl (by decide) (by first | rfl | exact ix_153 (by assumption) (by decide) | exact ix2_153 (by assumption) (by assumption) (by decide) (by decide) (by decide) (by decide) | exact ix_157 (by assumption) (by decide)) ?_
    refine EV.steps cl_80 6 (q2 := (47, [some (.ref 44), some (.int p1)], [.int (w 44 6), .int (w 44 7), .ref 49], SH, (up2 (up2 w 47 (w 44 7).toNatClampNeg p1) 48 (w 44 7).toNatClampNeg (w 44 6)))) rfl ?_
    refine EV.iastore cl_80 rfl rfl (by decide) (by first | rfl | exact ix_153 (by assumption) (by decide) | exact ix2_153 (by assumption) (by assumption) (by decide) (by decide) (by decide) (by decide) | exact ix_157 (by assumption) (by decide)) ?_
    refine EV.ret cl_80 rfl rfl rfl ?_
    exact ⟨rfl, rfl, (by simp only [G_80_44, if_neg h1])⟩
def G_80_51 (p1 : Int32) (w : Wd) : Wd := (if (Int32.ofNat 1) ≤ (w 51 7) then w else (up2 (up2 (up2 w 54 (w 51 7).toNatClampNeg p1) 55 (w 51 7).toNatClampNeg (w 51 6)) 56 (w 51 7).toNatClampNeg (w 51 6)))
theorem m_80_51 {X : Scr} {d : Nat} (w : Wd) (p1 : Int32) : CV X (d + 1) 80 [.ref 51, .int p1] SH w (fun r s1 w1 => r = none ∧ s1 = SH ∧ w1 = G_80_51 p1 w) := by
  refine CV.of rfl ?_
  refine EV.steps cl_80 5 (q2 := (9, [some (.ref 51), some (.int p1)], [.int (Int32.ofNat 1), .int (w 51 7)], SH, w)) rfl ?_
  refine EV.i_ge cl_80 rfl (fun h1 => ?_) (fun h1 => ?_)
  · skip
    refine EV.ret cl_80 rfl rfl rfl ?_
    exact ⟨rfl, rfl, (by simp only [G_80_51, if_pos h1])⟩
  · skip
    refine EV.steps cl_80 5 (q2 := (21, [some (.ref 51), some (.int p1)], [.int p1, .int (w 51 7), .ref 54], SH, w)) rfl ?_
    refine EV.iastore cl_80 rfl rfl (by decide) (by first | rfl | exact ix_153 (by assumption) (by decide) | exact ix2_153 (by assumption) (by assumption) (by decide) (by decide) (by decide) (by decide) | exact ix_157 (by assumption) (by decide)) ?_
    refine EV.steps cl_80 6 (q2 := (34, [some (.ref 51), some (.int p1)], [.int (w 51 6), .int (w 51 7), .ref 55], SH, (up2 w 54 (w 51 7).toNatClampNeg p1))) rfl ?_
    refine EV.iastore cl_80 rfl rfl (by decide) (by first | rfl | exact ix_153 (by assumption) (by decide) | exact ix2_153 (by assumption) (by assumption) (by decide) (by decide) (by decide) (by decide) | exact ix_157 (by assumption) (by decide)) ?_
    refine EV.steps cl_80 6 (q2 := (47, [some (.ref 51), some (.int p1)], [.int (w 51 6), .int (w 51 7), .ref 56], SH, (up2 (up2 w 54 (w 51 7).toNatClampNeg p1) 55 (w 51 7).toNatClampNeg (w 51 6)))) rfl ?_
    refine EV.iastore cl_80 rfl rfl (by decide) (by first | rfl | exact ix_153 (by assumption) (by decide) | exact ix2_153 (by assumption) (by assumption) (by decide) (by decide) (by decide) (by decide) | exact ix_157 (by assumption) (by decide)) ?_
    refine EV.ret cl_80 rfl rfl rfl ?_
    exact ⟨rfl, rfl, (by simp only [G_80_51, if_neg h1])⟩
def G_80_58 (p1 : Int32) (w : Wd) : Wd := (if (Int32.ofNat 1) ≤ (w 58 7) then w else (up2 (up2 (up2 w 61 (w 58 7).toNatClampNeg p1) 62 (w 58 7).toNatClampNeg (w 58 6)) 63 (w 58 7).toNatClampNeg (w 58 6)))
theorem m_80_58 {X : Scr} {d : Nat} (w : Wd) (p1 : Int32) : CV X (d + 1) 80 [.ref 58, .int p1] SH w (fun r s1 w1 => r = none ∧ s1 = SH ∧ w1 = G_80_58 p1 w) := by
  refine CV.of rfl ?_
  refine EV.steps cl_80 5 (q2 := (9, [some (.ref 58), some (.int p1)], [.int (Int32.ofNat 1), .int (w 58 7)], SH, w)) rfl ?_
  refine EV.i_ge cl_80 rfl (fun h1 => ?_) (fun h1 => ?_)
  · skip
    refine EV.ret cl_80 rfl rfl rfl ?_
    exact ⟨rfl, rfl, (by simp only [G_80_58, if_pos h1])⟩
  · skip
    refine EV.steps cl_80 5 (q2 := (21, [some (.ref 58), some (.int p1)], [.int p1, .int (w 58 7), .ref 61], SH, w)) rfl ?_
    refine EV.iastore cl_80 rfl rfl (by decide) (by first | rfl | exact ix_153 (by assumption) (by decide) | exact ix2_153 (by assumption) (by assumption) (by decide) (by decide) (by decide) (by decide) | exact ix_157 (by assumption) (by decide)) ?_
    refine EV.steps cl_80 6 (q2 := (34, [some (.ref 58), some (.int p1)], [.int (w 58 6), .int (w 58 7), .ref 62], SH, (up2 w 61 (w 58 7).toNatClampNeg p1))) rfl ?_
    refine EV.iastore cl_80 rfl rfl (by decide) (by first | rfl | exact ix_153 (by assumption) (by decide) | exact ix2_153 (by assumption) (by assumption) (by decide) (by decide) (by decide) (by decide) | exact ix_157 (by assumption) (by decide)) ?_
    refine EV.steps cl_80 6 (q2 := (47, [some (.ref 58), some (.int p1)], [.int (w 58 6), .int (w 58 7), .ref 63], SH, (up2 (up2 w 61 (w 58 7).toNatClampNeg p1) 62 (w 58 7).toNatClampNeg (w 58 6)))) rfl ?_
    refine EV.iastore cl_80 rfl rfl (by decide) (by first | rfl | exact ix_153 (by assumption) (by decide) | exact ix2_153 (by assumption) (by assumption) (by decide) (by decide) (by decide) (by decide) | exact ix_157 (by assumption) (by decide)) ?_
    refine EV.ret cl_80 rfl rfl rfl ?_
    exact ⟨rfl, rfl, (by simp only [G_80_58, if_neg h1])⟩
def G_80_65 (p1 : Int32) (w : Wd) : Wd := (if (Int32.ofNat 1) ≤ (w 65 7) then w else (up2 (up2 (up2 w 68 (w 65 7).toNatClampNeg p1) 69 (w 65 7).toNatClampNeg (w 65 6)) 70 (w 65 7).toNatClampNeg (w 65 6)))
theorem m_80_65 {X : Scr} {d : Nat} (w : Wd) (p1 : Int32) : CV X (d + 1) 80 [.ref 65, .int p1] SH w (fun r s1 w1 => r = none ∧ s1 = SH ∧ w1 = G_80_65 p1 w) := by
  refine CV.of rfl ?_
  refine EV.steps cl_80 5 (q2 := (9, [some (.ref 65), some (.int p1)], [.int (Int32.ofNat 1), .int (w 65 7)], SH, w)) rfl ?_
  refine EV.i_ge cl_80 rfl (fun h1 => ?_) (fun h1 => ?_)
  · skip
    refine EV.ret cl_80 rfl rfl rfl ?_
    exact ⟨rfl, rfl, (by simp only [G_80_65, if_pos h1])⟩
  · skip
    refine EV.steps cl_80 5 (q2 := (21, [some (.ref 65), some (.int p1)], [.int p1, .int (w 65 7), .ref 68], SH, w)) rfl ?_
    refine EV.iastore cl_80 rfl rfl (by decide) (by first | rfl | exact ix_153 (by assumption) (by decide) | exact ix2_153 (by assumption) (by assumption) (by decide) (by decide) (by decide) (by decide) | exact ix_157 (by assumption) (by decide)) ?_
    refine EV.steps cl_80 6 (q2 := (34, [some (.ref 65), some (.int p1)], [.int (w 65 6), .int (w 65 7), .ref 69], SH, (up2 w 68 (w 65 7).toNatClampNeg p1))) rfl ?_
    refine EV.iastore cl_80 rfl rfl (by decide) (by first | rfl | exact ix_153 (by assumption) (by decide) | exact ix2_153 (by assumption) (by assumption) (by decide) (by decide) (by decide) (by decide) | exact ix_157 (by assumption) (by decide)) ?_
    refine EV.steps cl_80 6 (q2 := (47, [some (.ref 65), some (.int p1)], [.int (w 65 6), .int (w 65 7), .ref 70], SH, (up2 (up2 w 68 (w 65 7).toNatClampNeg p1) 69 (w 65 7).toNatClampNeg (w 65 6)))) rfl ?_
    refine EV.iastore cl_80 rfl rfl (by decide) (by first | rfl | exact ix_153 (by assumption) (by decide) | exact ix2_153 (by assumption) (by assumption) (by decide) (by decide) (by decide) (by decide) | exact ix_157 (by assumption) (by decide)) ?_
    refine EV.ret cl_80 rfl rfl rfl ?_
    exact ⟨rfl, rfl, (by simp only [G_80_65, if_neg h1])⟩
def G_80_72 (p1 : Int32) (w : Wd) : Wd := (if (Int32.ofNat 1) ≤ (w 72 7) then w else (up2 (up2 (up2 w 75 (w 72 7).toNatClampNeg p1) 76 (w 72 7).toNatClampNeg (w 72 6)) 77 (w 72 7).toNatClampNeg (w 72 6)))
theorem m_80_72 {X : Scr} {d : Nat} (w : Wd) (p1 : Int32) : CV X (d + 1) 80 [.ref 72, .int p1] SH w (fun r s1 w1 => r = none ∧ s1 = SH ∧ w1 = G_80_72 p1 w) := by
  refine CV.of rfl ?_
  refine EV.steps cl_80 5 (q2 := (9, [some (.ref 72), some (.int p1)], [.int (Int32.ofNat 1), .int (w 72 7)], SH, w)) rfl ?_
  refine EV.i_ge cl_80 rfl (fun h1 => ?_) (fun h1 => ?_)
  · skip
    refine EV.ret cl_80 rfl rfl rfl ?_
    exact ⟨rfl, rfl, (by simp only [G_80_72, if_pos h1])⟩
  · skip
    refine EV.steps cl_80 5 (q2 := (21, [some (.ref 72), some (.int p1)], [.int p1, .int (w 72 7), .ref 75], SH, w)) rfl ?_
    refine EV.iastore cl_80 rfl rfl (by decide) (by first | rfl | exact ix_153 (by assumption) (by decide) | exact ix2_153 (by assumption) (by assumption) (by decide) (by decide) (by decide) (by decide) | exact ix_157 (by assumption) (by decide)) ?_
    refine EV.steps cl_80 6 (q2 := (34, [some (.ref 72), some (.int p1)], [.int (w 72 6), .int (w 72 7), .ref 76], SH, (up2 w 75 (w 72 7).toNatClampNeg p1))) rfl ?_
    refine EV.iastore cl_80 rfl rfl (by decide) (by first | rfl | exact ix_153 (by assumption) (by decide) | exact ix2_153 (by assumption) (by assumption) (by decide) (by decide) (by decide) (by decide) | exact ix_157 (by assumption) (by decide)) ?_
    refine EV.steps cl_80 6 (q2 := (47, [some (.ref 72), some (.int p1)], [.int (w 72 6), .int (w 72 7), .ref 77], SH, (up2 (up2 w 75 (w 72 7).toNatClampNeg p1) 76 (w 72 7).toNatClampNeg (w 72 6)))) rfl ?_
    refine EV.iastore cl_80 rfl rfl (by decide) (by first | rfl | exact ix_153 (by assumption) (by decide) | exact ix2_153 (by assumption) (by assumption) (by decide) (by decide) (by decide) (by decide) | exact ix_157 (by assumption) (by decide)) ?_
    refine EV.ret cl_80 rfl rfl rfl ?_
    exact ⟨rfl, rfl, (by simp only [G_80_72, if_neg h1])⟩
def G_81_22  (w : Wd) : Wd := (if (Int32.ofNat 16) ≤ (w 22 7) then w else (up2 w 27 (w 22 7).toNatClampNeg (w 22 6)))
theorem m_81_22 {X : Scr} {d : Nat} (w : Wd)  : CV X (d + 1) 81 [.ref 22] SH w (fun r s1 w1 => r = none ∧ s1 = SH ∧ w1 = G_81_22 w) := by
  refine CV.of rfl ?_
  refine EV.steps cl_81 5 (q2 := (9, [some (.ref 22)], [.int (Int32.ofNat 16), .int (w 22 7)], SH, w)) rfl ?_
  refine EV.i_ge cl_81 rfl (fun h1 => ?_) (fun h1 => ?_)
  · skip
    refine EV.ret cl_81 rfl rfl rfl ?_
    exact ⟨rfl, rfl, (by simp only [G_81_22, if_pos h1])⟩
  · skip
    refine EV.steps cl_81 6 (q2 := (24, [some (.ref 22)], [.int (w 22 6), .int (w 22 7), .ref 27], SH, w)) rfl ?_
    refine EV.iastore cl_81 rfl rfl (by decide) (by first | rfl | exact ix_153 (by assumption) (by decide) | exact ix2_153 (by assumption) (by assumption) (by decide) (by decide) (by decide) (by decide) | exact ix_157 (by assumption) (by decide)) ?_
    refine EV.ret cl_81 rfl rfl rfl ?_
    exact ⟨rfl, rfl, (by simp only [G_81_22, if_neg h1])⟩
def G_81_37  (w : Wd) : Wd := (if (Int32.ofNat 1) ≤ (w 37 7) then w else (up2 w 42 (w 37 7).toNatClampNeg (w 37 6)))
theorem m_81_37 {X : Scr} {d : Nat} (w : Wd)  : CV X (d + 1) 81 [.ref 37] SH w (fun r s1 w1 => r = none ∧ s1 = SH ∧ w1 = G_81_37 w) := by
  refine CV.of rfl ?_
  refine EV.steps cl_81 5 (q2 := (9, [some (.ref 37)], [.int (Int32.ofNat 1), .int (w 37 7)], SH, w)) rfl ?_
  refine EV.i_ge cl_81 rfl (fun h1 => ?_) (fun h1 => ?_)
  · skip
    refine EV.ret cl_81 rfl rfl rfl ?_
    exact ⟨rfl, rfl, (by simp only [G_81_37, if_pos h1])⟩
  · skip
    refine EV.steps cl_81 6 (q2 := (24, [some (.ref 37)], [.int (w 37 6), .int (w 37 7), .ref 42], SH, w)) rfl ?_
    refine EV.iastore cl_81 rfl rfl (by decide) (by first | rfl | exact ix_153 (by assumption) (by decide) | exact ix2_153 (by assumption) (by assumption) (by decide) (by decide) (by decide) (by decide) | exact ix_157 (by assumption) (by decide)) ?_
    refine EV.ret cl_81 rfl rfl rfl ?_
    exact ⟨rfl, rfl, (by simp only [G_81_37, if_neg h1])⟩
def G_81_44  (w : Wd) : Wd := (if (Int32.ofNat 1) ≤ (w 44 7) then w else (up2 w 49 (w 44 7).toNatClampNeg (w 44 6)))
theorem m_81_44 {X : Scr} {d : Nat} (w : Wd)  : CV X (d + 1) 81 [.ref 44] SH w (fun r s1 w1 => r = none ∧ s1 = SH ∧ w1 = G_81_44 w) := by
  refine CV.of rfl ?_
  refine EV.steps cl_81 5 (q2 := (9, [some (.ref 44)], [.int (Int32.ofNat 1), .int (w 44 7)], SH, w)) rfl ?_
  refine EV.i_ge cl_81 rfl (fun h1 => ?_) (fun h1 => ?_)
  · skip
    refine EV.ret cl_81 rfl rfl rfl ?_
    exact ⟨rfl, rfl, (by simp only [G_81_44, if_pos h1])⟩
  · skip
    refine EV.steps cl_81 6 (q2 := (24, [some (.ref 44)], [.int (w 44 6), .int (w 44 7), .ref 49], SH, w)) rfl ?_
    refine EV.iastore cl_81 rfl rfl (by decide) (by first | rfl | exact ix_153 (by assumption) (by decide) | exact ix2_153 (by assumption) (by assumption) (by decide) (by decide) (by decide) (by decide) | exact ix_157 (by assumption) (by decide)) ?_
    refine EV.ret cl_81 rfl rfl rfl ?_
    exact ⟨rfl, rfl, (by simp only [G_81_44, if_neg h1])⟩
def G_81_51  (w : Wd) : Wd := (if (Int32.ofNat 1) ≤ (w 51 7) then w else (up2 w 56 (w 51 7).toNatClampNeg (w 51 6)))
theorem m_81_51 {X : Scr} {d : Nat} (w : Wd)  : CV X (d + 1) 81 [.ref 51] SH w (fun r s1 w1 => r = none ∧ s1 = SH ∧ w1 = G_81_51 w) := by
  refine CV.of rfl ?_
  refine EV.steps cl_81 5 (q2 := (9, [some (.ref 51)], [.int (Int32.ofNat 1), .int (w 51 7)], SH, w)) rfl ?_
  refine EV.i_ge cl_81 rfl (fun h1 => ?_) (fun h1 => ?_)
  · skip
    refine EV.ret cl_81 rfl rfl rfl ?_
    exact ⟨rfl, rfl, (by simp only [G_81_51, if_pos h1])⟩
  · skip
    refine EV.steps cl_81 6 (q2 := (24, [some (.ref 51)], [.int (w 51 6), .int (w 51 7), .ref 56], SH, w)) rfl ?_
    refine EV.iastore cl_81 rfl rfl (by decide) (by first | rfl | exact ix_153 (by assumption) (by decide) | exact ix2_153 (by assumption) (by assumption) (by decide) (by decide) (by decide) (by decide) | exact ix_157 (by assumption) (by decide)) ?_
    refine EV.ret cl_81 rfl rfl rfl ?_
    exact ⟨rfl, rfl, (by simp only [G_81_51, if_neg h1])⟩
def G_81_58  (w : Wd) : Wd := (if (Int32.ofNat 1) ≤ (w 58 7) then w else (up2 w 63 (w 58 7).toNatClampNeg (w 58 6)))
theorem m_81_58 {X : Scr} {d : Nat} (w : Wd)  : CV X (d + 1) 81 [.ref 58] SH w (fun r s1 w1 => r = none ∧ s1 = SH ∧ w1 = G_81_58 w) := by
  refine CV.of rfl ?_
  refine EV.steps cl_81 5 (q2 := (9, [some (.ref 58)], [.int (Int32.ofNat 1), .int (w 58 7)], SH, w)) rfl ?_
  refine EV.i_ge cl_81 rfl (fun h1 => ?_) (fun h1 => ?_)
  · skip
    refine EV.ret cl_81 rfl rfl rfl ?_
    exact ⟨rfl, rfl, (by simp only [G_81_58, if_pos h1])⟩
  · skip
    refine EV.steps cl_81 6 (q2 := (24, [some (.ref 58)], [.int (w 58 6), .int (w 58 7), .ref 63], SH, w)) rfl ?_
    refine EV.iastore cl_81 rfl rfl (by decide) (by first | rfl | exact ix_153 (by assumption) (by decide) | exact ix2_153 (by assumption) (by assumption) (by decide) (by decide) (by decide) (by decide) | exact ix_157 (by assumption) (by decide)) ?_
    refine EV.ret cl_81 rfl rfl rfl ?_
    exact ⟨rfl, rfl, (by simp only [G_81_58, if_neg h1])⟩
def G_81_65  (w : Wd) : Wd := (if (Int32.ofNat 1) ≤ (w 65 7) then w else (up2 w 70 (w 65 7).toNatClampNeg (w 65 6)))
theorem m_81_65 {X : Scr} {d : Nat} (w : Wd)  : CV X (d + 1) 81 [.ref 65] SH w (fun r s1 w1 => r = none ∧ s1 = SH ∧ w1 = G_81_65 w) := by
  refine CV.of rfl ?_
  refine EV.steps cl_81 5 (q2 := (9, [some (.ref 65)], [.int (Int32.ofNat 1), .int (w 65 7)], SH, w)) rfl ?_
  refine EV.i_ge cl_81 rfl (fun h1 => ?_) (fun h1 => ?_)
  · skip
    refine EV.ret cl_81 rfl rfl rfl ?_
    exact ⟨rfl, rfl, (by simp only [G_81_65, if_pos h1])⟩
  · skip
    refine EV.steps cl_81 6 (q2 := (24, [some (.ref 65)], [.int (w 65 6), .int (w 65 7), .ref 70], SH, w)) rfl ?_
    refine EV.iastore cl_81 rfl rfl (by decide) (by first | rfl | exact ix_153 (by assumption) (by decide) | exact ix2_153 (by assumption) (by assumption) (by decide) (by decide) (by decide) (by decide) | exact ix_157 (by assumption) (by decide)) ?_
    refine EV.ret cl_81 rfl rfl rfl ?_
    exact ⟨rfl, rfl, (by simp only [G_81_65, if_neg h1])⟩
def G_81_72  (w : Wd) : Wd := (if (Int32.ofNat 1) ≤ (w 72 7) then w else (up2 w 77 (w 72 7).toNatClampNeg (w 72 6)))
theorem m_81_72 {X : Scr} {d : Nat} (w : Wd)  : CV X (d + 1) 81 [.ref 72] SH w (fun r s1 w1 => r = none ∧ s1 = SH ∧ w1 = G_81_72 w) := by
  refine CV.of rfl ?_
  refine EV.steps cl_81 5 (q2 := (9, [some (.ref 72)], [.int (Int32.ofNat 1), .int (w 72 7)], SH, w)) rfl ?_
  refine EV.i_ge cl_81 rfl (fun h1 => ?_) (fun h1 => ?_)
  · skip
    refine EV.ret cl_81 rfl rfl rfl ?_
    exact ⟨rfl, rfl, (by simp only [G_81_72, if_pos h1])⟩
  · skip
    refine EV.steps cl_81 6 (q2 := (24, [some (.ref 72)], [.int (w 72 6), .int (w 72 7), .ref 77], SH, w)) rfl ?_
    refine EV.iastore cl_81 rfl rfl (by decide) (by first | rfl | exact ix_153 (by assumption) (by decide) | exact ix2_153 (by assumption) (by assumption) (by decide) (by decide) (by decide) (by decide) | exact ix_157 (by assumption) (by decide)) ?_
    refine EV.ret cl_81 rfl rfl rfl ?_
    exact ⟨rfl, rfl, (by simp only [G_81_72, if_neg h1])⟩
theorem cl_82 : RCT[82]? = some rc_82 := rfl
def G_82_22  (w : Wd) : Wd := (if (Int32.ofNat 16) ≤ (w 22 7) then w else (up2 (up2 w 28 (w 22 7).toNatClampNeg (w 22 6)) 22 7 ((w 22 7) + (kI 1))))
theorem m_82_22 {X : Scr} {d : Nat} (w : Wd)  : CV X (d + 1) 82 [.ref 22] SH w (fun r s1 w1 => r = none ∧ s1 = SH ∧ w1 = G_82_22 w) := by
  refine CV.of rfl ?_
  refine EV.steps cl_82 5 (q2 := (9, [some (.ref 22)], [.int (Int32.ofNat 16), .int (w 22 7)], SH, w)) rfl ?_
  refine EV.i_ge cl_82 rfl (fun h1 => ?_) (fun h1 => ?_)
  · skip
    refine EV.ret cl_82 rfl rfl rfl ?_
    exact ⟨rfl, rfl, (by simp only [G_82_22, if_pos h1])⟩
  · skip
    refine EV.steps cl_82 6 (q2 := (24, [some (.ref 22)], [.int (w 22 6), .int (w 22 7), .ref 28], SH, w)) rfl ?_
    refine EV.iastore cl_82 rfl rfl (by decide) (by first | rfl | exact ix_153 (by assumption) (by decide) | exact ix2_153 (by assumption) (by assumption) (by decide) (by decide) (by decide) (by decide) | exact ix_157 (by assumption) (by decide)) ?_
    refine EV.steps cl_82 6 (q2 := (35, [some (.ref 22)], [], SH, (up2 (up2 w 28 (w 22 7).toNatClampNeg (w 22 6)) 22 7 ((w 22 7) + (kI 1))))) rfl ?_
    refine EV.ret cl_82 rfl rfl rfl ?_
    exact ⟨rfl, rfl, (by simp only [G_82_22, if_neg h1])⟩
def G_82_29  (w : Wd) : Wd := (if (Int32.ofNat 16) ≤ (w 29 7) then w else (up2 (up2 w 35 (w 29 7).toNatClampNeg (w 29 6)) 29 7 ((w 29 7) + (kI 1))))
theorem m_82_29 {X : Scr} {d : Nat} (w : Wd)  : CV X (d + 1) 82 [.ref 29] SH w (fun r s1 w1 => r = none ∧ s1 = SH ∧ w1 = G_82_29 w) := by
  refine CV.of rfl ?_
  refine EV.steps cl_82 5 (q2 := (9, [some (.ref 29)], [.int (Int32.ofNat 16), .int (w 29 7)], SH, w)) rfl ?_
  refine EV.i_ge cl_82 rfl (fun h1 => ?_) (fun h1 => ?_)
  · skip
    refine EV.ret cl_82 rfl rfl rfl ?_
    exact ⟨rfl, rfl, (by simp only [G_82_29, if_pos h1])⟩
  · skip
    refine EV.steps cl_82 6 (q2 := (24, [some (.ref 29)], [.int (w 29 6), .int (w 29 7), .ref 35], SH, w)) rfl ?_
    refine EV.iastore cl_82 rfl rfl (by decide) (by first | rfl | exact ix_153 (by assumption) (by decide) | exact ix2_153 (by assumption) (by assumption) (by decide) (by decide) (by decide) (by decide) | exact ix_157 (by assumption) (by decide)) ?_
    refine EV.steps cl_82 6 (q2 := (35, [some (.ref 29)], [], SH, (up2 (up2 w 35 (w 29 7).toNatClampNeg (w 29 6)) 29 7 ((w 29 7) + (kI 1))))) rfl ?_
    refine EV.ret cl_82 rfl rfl rfl ?_
    exact ⟨rfl, rfl, (by simp only [G_82_29, if_neg h1])⟩
def G_82_37  (w : Wd) : Wd := (if (Int32.ofNat 1) ≤ (w 37 7) then w else (up2 (up2 w 43 (w 37 7).toNatClampNeg (w 37 6)) 37 7 ((w 37 7) + (kI 1))))
theorem m_82_37 {X : Scr} {d : Nat} (w : Wd)  : CV X (d + 1) 82 [.ref 37] SH w (fun r s1 w1 => r = none ∧ s1 = SH ∧ w1 = G_82_37 w) := by
  refine CV.of rfl ?_
  refine EV.steps cl_82 5 (q2 := (9, [some (.ref 37)], [.int (Int32.ofNat 1), .int (w 37 7)], SH, w)) rfl ?_
  refine EV.i_ge cl_82 rfl (fun h1 => ?_) (fun h1 => ?_)
  · skip
    refine EV.ret cl_82 rfl rfl rfl ?_
    exact ⟨rfl, rfl, (by simp only [G_82_37, if_pos h1])⟩
  · skip
    refine EV.steps cl_82 6 (q2 := (24, [some (.ref 37)], [.int (w 37 6), .int (w 37 7), .ref 43], SH, w)) rfl ?_
    refine EV.iastore cl_82 rfl rfl (by decide) (by first | rfl | exact ix_153 (by assumption) (by decide) | exact ix2_153 (by assumption) (by assumption) (by decide) (by decide) (by decide) (by decide) | exact ix_157 (by assumption) (by decide)) ?_
    refine EV.steps cl_82 6 (q2 := (35, [some (.ref 37)], [], SH, (up2 (up2 w 43 (w 37 7).toNatClampNeg (w 37 6)) 37 7 ((w 37 7) + (kI 1))))) rfl ?_
    refine EV.ret cl_82 rfl rfl rfl ?_
    exact ⟨rfl, rfl, (by simp only [G_82_37, if_neg h1])⟩
def G_82_44  (w : Wd) : Wd := (if (Int32.ofNat 1) ≤ (w 44 7) then w else (up2 (up2 w 50 (w 44 7).toNatClampNeg (w 44 6)) 44 7 ((w 44 7) + (kI 1))))
theorem m_82_44 {X : Scr} {d : Nat} (w : Wd)  : CV X (d + 1) 82 [.ref 44] SH w (fun r s1 w1 => r = none ∧ s1 = SH ∧ w1 = G_82_44 w) := by
  refine CV.of rfl ?_
  refine EV.steps cl_82 5 (q2 := (9, [some (.ref 44)], [.int (Int32.ofNat 1), .int (w 44 7)], SH, w)) rfl ?_
  refine EV.i_ge cl_82 rfl (fun h1 => ?_) (fun h1 => ?_)
  · skip
    refine EV.ret cl_82 rfl rfl rfl ?_
    exact ⟨rfl, rfl, (by simp only [G_82_44, if_pos h1])⟩
  · skip
    refine EV.steps cl_82 6 (q2 := (24, [some (.ref 44)], [.int (w 44 6), .int (w 44 7), .ref 50], SH, w)) rfl ?_
    refine EV.iastore cl_82 rfl rfl (by decide) (by first | rfl | exact ix_153 (by assumption) (by decide) | exact ix2_153 (by assumption) (by assumption) (by decide) (by decide) (by decide) (by decide) | exact ix_157 (by assumption) (by decide)) ?_
    refine EV.steps cl_82 6 (q2 := (35, [some (.ref 44)], [], SH, (up2 (up2 w 50 (w 44 7).toNatClampNeg (w 44 6)) 44 7 ((w 44 7) + (kI 1))))) rfl ?_
    refine EV.ret cl_82 rfl rfl rfl ?_
    exact ⟨rfl, rfl, (by simp only [G_82_44, if_neg h1])⟩
def G_82_51  (w : Wd) : Wd := (if (Int32.ofNat 1) ≤ (w 51 7) then w else (up2 (up2 w 57 (w 51 7).toNatClampNeg (w 51 6)) 51 7 ((w 51 7) + (kI 1))))
theorem m_82_51 {X : Scr} {d : Nat} (w : Wd)  : CV X (d + 1) 82 [.ref 51] SH w (fun r s1 w1 => r = none ∧ s1 = SH ∧ w1 = G_82_51 w) := by
  refine CV.of rfl ?_
  refine EV.steps cl_82 5 (q2 := (9, [some (.ref 51)], [.int (Int32.ofNat 1), .int (w 51 7)], SH, w)) rfl ?_
  refine EV.i_ge cl_82 rfl (fun h1 => ?_) (fun h1 => ?_)
  · skip
    refine EV.ret cl_82 rfl rfl rfl ?_
    exact ⟨rfl, rfl, (by simp only [G_82_51, if_pos h1])⟩
  · skip
    refine EV.steps cl_82 6 (q2 := (24, [some (.ref 51)], [.int (w 51 6), .int (w 51 7), .ref 57], SH, w)) rfl ?_
    refine EV.iastore cl_82 rfl rfl (by decide) (by first | rfl | exact ix_153 (by assumption) (by decide) | exact ix2_153 (by assumption) (by assumption) (by decide) (by decide) (by decide) (by decide) | exact ix_157 (by assumption) (by decide)) ?_
    refine EV.steps cl_82 6 (q2 := (35, [some (.ref 51)], [], SH, (up2 (up2 w 57 (w 51 7).toNatClampNeg (w 51 6)) 51 7 ((w 51 7) + (kI 1))))) rfl ?_
    refine EV.ret cl_82 rfl rfl rfl ?_
    exact ⟨rfl, rfl, (by simp only [G_82_51, if_neg h1])⟩
def G_82_58  (w : Wd) : Wd := (if (Int32.ofNat 1) ≤ (w 58 7) then w else (up2 (up2 w 64 (w 58 7).toNatClampNeg (w 58 6)) 58 7 ((w 58 7) + (kI 1))))
theorem m_82_58 {X : Scr} {d : Nat} (w : Wd)  : CV X (d + 1) 82 [.ref 58] SH w (fun r s1 w1 => r = none ∧ s1 = SH ∧ w1 = G_82_58 w) := by
  refine CV.of rfl ?_
  refine EV.steps cl_82 5 (q2 := (9, [some (.ref 58)], [.int (Int32.ofNat 1), .int (w 58 7)], SH, w)) rfl ?_
  refine EV.i_ge cl_82 rfl (fun h1 => ?_) (fun h1 => ?_)
  · skip
    refine EV.ret cl_82 rfl rfl rfl ?_
    exact ⟨rfl, rfl, (by simp only [G_82_58, if_pos h1])⟩
  · skip
    refine EV.steps cl_82 6 (q2 := (24, [some (.ref 58)], [.int (w 58 6), .int (w 58 7), .ref 64], SH, w)) rfl ?_
    refine EV.iastore cl_82 rfl rfl (by decide) (by first | rfl | exact ix_153 (by assumption) (by decide) | exact ix2_153 (by assumption) (by assumption) (by decide) (by decide) (by decide) (by decide) | exact ix_157 (by assumption) (by decide)) ?_
    refine EV.steps cl_82 6 (q2 := (35, [some (.ref 58)], [], SH, (up2 (up2 w 64 (w 58 7).toNatClampNeg (w 58 6)) 58 7 ((w 58 7) + (kI 1))))) rfl ?_
    refine EV.ret cl_82 rfl rfl rfl ?_
    exact ⟨rfl, rfl, (by simp only [G_82_58, if_neg h1])⟩
def G_82_65  (w : Wd) : Wd := (if (Int32.ofNat 1) ≤ (w 65 7) then w else (up2 (up2 w 71 (w 65 7).toNatClampNeg (w 65 6)) 65 7 ((w 65 7) + (kI 1))))
theorem m_82_65 {X : Scr} {d : Nat} (w : Wd)  : CV X (d + 1) 82 [.ref 65] SH w (fun r s1 w1 => r = none ∧ s1 = SH ∧ w1 = G_82_65 w) := by
  refine CV.of rfl ?_
  refine EV.steps cl_82 5 (q2 := (9, [some (.ref 65)], [.int (Int32.ofNat 1), .int (w 65 7)], SH, w)) rfl ?_
  refine EV.i_ge cl_82 rfl (fun h1 => ?_) (fun h1 => ?_)
  · skip
    refine EV.ret cl_82 rfl rfl rfl ?_
    exact ⟨rfl, rfl, (by simp only [G_82_65, if_pos h1])⟩
  · skip
    refine EV.steps cl_82 6 (q2 := (24, [some (.ref 65)], [.int (w 65 6), .int (w 65 7), .ref 71], SH, w)) rfl ?_
    refine EV.iastore cl_82 rfl rfl (by decide) (by first | rfl | exact ix_153 (by assumption) (by decide) | exact ix2_153 (by assumption) (by assumption) (by decide) (by decide) (by decide) (by decide) | exact ix_157 (by assumption) (by decide)) ?_
    refine EV.steps cl_82 6 (q2 := (35, [some (.ref 65)], [], SH, (up2 (up2 w 71 (w 65 7).toNatClampNeg (w 65 6)) 65 7 ((w 65 7) + (kI 1))))) rfl ?_
    refine EV.ret cl_82 rfl rfl rfl ?_
    exact ⟨rfl, rfl, (by simp only [G_82_65, if_neg h1])⟩
def G_82_72  (w : Wd) : Wd := (if (Int32.ofNat 1) ≤ (w 72 7) then w else (up2 (up2 w 78 (w 72 7).toNatClampNeg (w 72 6)) 72 7 ((w 72 7) + (kI 1))))
theorem m_82_72 {X : Scr} {d : Nat} (w : Wd)  : CV X (d + 1) 82 [.ref 72] SH w (fun r s1 w1 => r = none ∧ s1 = SH ∧ w1 = G_82_72 w) := by
  refine CV.of rfl ?_
  refine EV.steps cl_82 5 (q2 := (9, [some (.ref 72)], [.int (Int32.ofNat 1), .int (w 72 7)], SH, w)) rfl ?_
  refine EV.i_ge cl_82 rfl (fun h1 => ?_) (fun h1 => ?_)
  · skip
    refine EV.ret cl_82 rfl rfl rfl ?_
    exact ⟨rfl, rfl, (by simp only [G_82_72, if_pos h1])⟩
  · skip
    refine EV.steps cl_82 6 (q2 := (24, [some (.ref 72)], [.int (w 72 6), .int (w 72 7), .ref 78], SH, w)) rfl ?_
    refine EV.iastore cl_82 rfl rfl (by decide) (by first | rfl | exact ix_153 (by assumption) (by decide) | exact ix2_153 (by assumption) (by assumption) (by decide) (by decide) (by decide) (by decide) | exact ix_157 (by assumption) (by decide)) ?_
    refine EV.steps cl_82 6 (q2 := (35, [some (.ref 72)], [], SH, (up2 (up2 w 78 (w 72 7).toNatClampNeg (w 72 6)) 72 7 ((w 72 7) + (kI 1))))) rfl ?_
    refine EV.ret cl_82 rfl rfl rfl ?_
    exact ⟨rfl, rfl, (by simp only [G_82_72, if_neg h1])⟩
theorem cl_83 : RCT[83]? = some rc_83 := rfl
def F_83_22 (p1 : Int32) (w : Wd) : Int32 := (if (F_153 p1 (kI 0) ((w 22 7) - (kI 1)) w) = 0 then (kI (-1)) else (w 25 p1.toNatClampNeg))
theorem m_83_22 {X : Scr} {d : Nat} (w : Wd) (p1 : Int32) : CV X (d + 2) 83 [.ref 22, .int p1] SH w (fun r s1 w1 => r = some (.int (F_83_22 p1 w)) ∧ s1 = SH ∧ w1 = w) := by
  refine CV.of rfl ?_
  refine EV.steps cl_83 6 (q2 := (8, [some (.ref 22), some (.int p1)], [.int ((w 22 7) - (kI 1)), .int (kI 0), .int p1], SH, w)) rfl ?_
  refine EV.call cl_83 rfl rfl rfl (m_153 w p1 (kI 0) ((w 22 7) - (kI 1))) ?_
  rintro _ _ _ ⟨rfl, rfl, rfl⟩
  refine EV.z_eq cl_83 rfl (fun h1 => ?_) (fun h1 => ?_)
  · skip
    refine EV.steps cl_83 1 (q2 := (24, [some (.ref 22), some (.int p1)], [.int (kI (-1))], SH, w)) rfl ?_
    refine EV.ret cl_83 rfl rfl rfl ?_
    exact ⟨(by simp only [F_83_22, if_pos h1]), rfl, rfl⟩
  · skip
    refine EV.steps cl_83 3 (q2 := (19, [some (.ref 22), some (.int p1)], [.int p1, .ref 25], SH, w)) rfl ?_
    refine EV.iaload cl_83 rfl rfl (by decide) (by first | rfl | exact ix_153 (by assumption) (by decide) | exact ix2_153 (by assumption) (by assumption) (by decide) (by decide) (by decide) (by decide) | exact ix_157 (by assumption) (by decide)) ?_
    refine EV.steps cl_83 1 (q2 := (24, [some (.ref 22), some (.int p1)], [.int (w 25 p1.toNatClampNeg)], SH, w)) rfl ?_
    refine EV.ret cl_83 rfl rfl rfl ?_
    exact ⟨(by simp only [F_83_22, if_neg h1]), rfl, rfl⟩
def F_83_29 (p1 : Int32) (w : Wd) : Int32 := (if (F_153 p1 (kI 0) ((w 29 7) - (kI 1)) w) = 0 then (kI (-1)) else (w 32 p1.toNatClampNeg))
theorem m_83_29 {X : Scr} {d : Nat} (w : Wd) (p1 : Int32) : CV X (d + 2) 83 [.ref 29, .int p1] SH w (fun r s1 w1 => r = some (.int (F_83_29 p1 w)) ∧ s1 = SH ∧ w1 = w) := by
  refine CV.of rfl ?_
  refine EV.steps cl_83 6 (q2 := (8, [some (.ref 29), some (.int p1)], [.int ((w 29 7) - (kI 1)), .int (kI 0), .int p1], SH, w)) rfl ?_
  refine EV.call cl_83 rfl rfl rfl (m_153 w p1 (kI 0) ((w 29 7) - (kI 1))) ?_
  rintro _ _ _ ⟨rfl, rfl, rfl⟩
  refine EV.z_eq cl_83 rfl (fun h1 => ?_) (fun h1 => ?_)
  · skip
    refine EV.steps cl_83 1 (q2 := (24, [some (.ref 29), some (.int p1)], [.int (kI (-1))], SH, w)) rfl ?_
    refine EV.ret cl_83 rfl rfl rfl ?_
    exact ⟨(by simp only [F_83_29, if_pos h1]), rfl, rfl⟩
  · skip
    refine EV.steps cl_83 3 (q2 := (19, [some (.ref 29), some (.int p1)], [.int p1, .ref 32], SH, w)) rfl ?_
    refine EV.iaload cl_83 rfl rfl (by decide) (by first | rfl | exact ix_153 (by assumption) (by decide) | exact ix2_153 (by assumption) (by assumption) (by decide) (by decide) (by decide) (by decide) | exact ix_157 (by assumption) (by decide)) ?_
    refine EV.steps cl_83 1 (q2 := (24, [some (.ref 29), some (.int p1)], [.int (w 32 p1.toNatClampNeg)], SH, w)) rfl ?_
    refine EV.ret cl_83 rfl rfl rfl ?_
    exact ⟨(by simp only [F_83_29, if_neg h1]), rfl, rfl⟩
def F_83_37 (p1 : Int32) (w : Wd) : Int32 := (if (F_153 p1 (kI 0) ((w 37 7) - (kI 1)) w) = 0 then (kI (-1)) else (w 40 p1.toNatClampNeg))
theorem m_83_37 {X : Scr} {d : Nat} (w : Wd) (p1 : Int32) : CV X (d + 2) 83 [.ref 37, .int p1] SH w (fun r s1 w1 => r = some (.int (F_83_37 p1 w)) ∧ s1 = SH ∧ w1 = w) := by
  refine CV.of rfl ?_
  refine EV.steps cl_83 6 (q2 := (8, [some (.ref 37), some (.int p1)], [.int ((w 37 7) - (kI 1)), .int (kI 0), .int p1], SH, w)) rfl ?_
  refine EV.call cl_83 rfl rfl rfl (m_153 w p1 (kI 0) ((w 37 7) - (kI 1))) ?_
  rintro _ _ _ ⟨rfl, rfl, rfl⟩
  refine EV.z_eq cl_83 rfl (fun h1 => ?_) (fun h1 => ?_)
  · skip
    refine EV.steps cl_83 1 (q2 := (24, [some (.ref 37), some (.int p1)], [.int (kI (-1))], SH, w)) rfl ?_
    refine EV.ret cl_83 rfl rfl rfl ?_
    exact ⟨(by simp only [F_83_37, if_pos h1]), rfl, rfl⟩
  · skip
    refine EV.steps cl_83 3 (q2 := (19, [some (.ref 37), some (.int p1)], [.int p1, .ref 40], SH, w)) rfl ?_
    refine EV.iaload cl_83 rfl rfl (by decide) (by first | rfl | exact ix_153 (by assumption) (by decide) | exact ix2_153 (by assumption) (by assumption) (by decide) (by decide) (by decide) (by decide) | exact ix_157 (by assumption) (by decide)) ?_
    refine EV.steps cl_83 1 (q2 := (24, [some (.ref 37), some (.int p1)], [.int (w 40 p1.toNatClampNeg)], SH, w)) rfl ?_
    refine EV.ret cl_83 rfl rfl rfl ?_
    exact ⟨(by simp only [F_83_37, if_neg h1]), rfl, rfl⟩
def F_83_44 (p1 : Int32) (w : Wd) : Int32 := (if (F_153 p1 (kI 0) ((w 44 7) - (kI 1)) w) = 0 then (kI (-1)) else (w 47 p1.toNatClampNeg))
theorem m_83_44 {X : Scr} {d : Nat} (w : Wd) (p1 : Int32) : CV X (d + 2) 83 [.ref 44, .int p1] SH w (fun r s1 w1 => r = some (.int (F_83_44 p1 w)) ∧ s1 = SH ∧ w1 = w) := by
  refine CV.of rfl ?_
  refine EV.steps cl_83 6 (q2 := (8, [some (.ref 44), some (.int p1)], [.int ((w 44 7) - (kI 1)), .int (kI 0), .int p1], SH, w)) rfl ?_
  refine EV.call cl_83 rfl rfl rfl (m_153 w p1 (kI 0) ((w 44 7) - (kI 1))) ?_
  rintro _ _ _ ⟨rfl, rfl, rfl⟩
  refine EV.z_eq cl_83 rfl (fun h1 => ?_) (fun h1 => ?_)
  · skip
    refine EV.steps cl_83 1 (q2 := (24, [some (.ref 44), some (.int p1)], [.int (kI (-1))], SH, w)) rfl ?_
    refine EV.ret cl_83 rfl rfl rfl ?_
    exact ⟨(by simp only [F_83_44, if_pos h1]), rfl, rfl⟩
  · skip
    refine EV.steps cl_83 3 (q2 := (19, [some (.ref 44), some (.int p1)], [.int p1, .ref 47], SH, w)) rfl ?_
    refine EV.iaload cl_83 rfl rfl (by decide) (by first | rfl | exact ix_153 (by assumption) (by decide) | exact ix2_153 (by assumption) (by assumption) (by decide) (by decide) (by decide) (by decide) | exact ix_157 (by assumption) (by decide)) ?_
    refine EV.steps cl_83 1 (q2 := (24, [some (.ref 44), some (.int p1)], [.int (w 47 p1.toNatClampNeg)], SH, w)) rfl ?_
    refine EV.ret cl_83 rfl rfl rfl ?_
    exact ⟨(by simp only [F_83_44, if_neg h1]), rfl, rfl⟩
def F_83_51 (p1 : Int32) (w : Wd) : Int32 := (if (F_153 p1 (kI 0) ((w 51 7) - (kI 1)) w) = 0 then (kI (-1)) else (w 54 p1.toNatClampNeg))
theorem m_83_51 {X : Scr} {d : Nat} (w : Wd) (p1 : Int32) : CV X (d + 2) 83 [.ref 51, .int p1] SH w (fun r s1 w1 => r = some (.int (F_83_51 p1 w)) ∧ s1 = SH ∧ w1 = w) := by
  refine CV.of rfl ?_
  refine EV.steps cl_83 6 (q2 := (8, [some (.ref 51), some (.int p1)], [.int ((w 51 7) - (kI 1)), .int (kI 0), .int p1], SH, w)) rfl ?_
  refine EV.call cl_83 rfl rfl rfl (m_153 w p1 (kI 0) ((w 51 7) - (kI 1))) ?_
  rintro _ _ _ ⟨rfl, rfl, rfl⟩
  refine EV.z_eq cl_83 rfl (fun h1 => ?_) (fun h1 => ?_)
  · skip
    refine EV.steps cl_83 1 (q2 := (24, [some (.ref 51), some (.int p1)], [.int (kI (-1))], SH, w)) rfl ?_
    refine EV.ret cl_83 rfl rfl rfl ?_
    exact ⟨(by simp only [F_83_51, if_pos h1]), rfl, rfl⟩
  · skip
    refine EV.steps cl_83 3 (q2 := (19, [some (.ref 51), some (.int p1)], [.int p1, .ref 54], SH, w)) rfl ?_
    refine EV.iaload cl_83 rfl rfl (by decide) (by first | rfl | exact ix_153 (by assumption) (by decide) | exact ix2_153 (by assumption) (by assumption) (by decide) (by decide) (by decide) (by decide) | exact ix_157 (by assumption) (by decide)) ?_
    refine EV.steps cl_83 1 (q2 := (24, [some (.ref 51), some (.int p1)], [.int (w 54 p1.toNatClampNeg)], SH, w)) rfl ?_
    refine EV.ret cl_83 rfl rfl rfl ?_
    exact ⟨(by simp only [F_83_51, if_neg h1]), rfl, rfl⟩
def F_83_58 (p1 : Int32) (w : Wd) : Int32 := (if (F_153 p1 (kI 0) ((w 58 7) - (kI 1)) w) = 0 then (kI (-1)) else (w 61 p1.toNatClampNeg))
theorem m_83_58 {X : Scr} {d : Nat} (w : Wd) (p1 : Int32) : CV X (d + 2) 83 [.ref 58, .int p1] SH w (fun r s1 w1 => r = some (.int (F_83_58 p1 w)) ∧ s1 = SH ∧ w1 = w) := by
  refine CV.of rfl ?_
  refine EV.steps cl_83 6 (q2 := (8, [some (.ref 58), some (.int p1)], [.int ((w 58 7) - (kI 1)), .int (kI 0), .int p1], SH, w)) rfl ?_
  refine EV.call cl_83 rfl rfl rfl (m_153 w p1 (kI 0) ((w 58 7) - (kI 1))) ?_
  rintro _ _ _ ⟨rfl, rfl, rfl⟩
  refine EV.z_eq cl_83 rfl (fun h1 => ?_) (fun h1 => ?_)
  · skip
    refine EV.steps cl_83 1 (q2 := (24, [some (.ref 58), some (.int p1)], [.int (kI (-1))], SH, w)) rfl ?_
    refine EV.ret cl_83 rfl rfl rfl ?_
    exact ⟨(by simp only [F_83_58, if_pos h1]), rfl, rfl⟩
  · skip
    refine EV.steps cl_83 3 (q2 := (19, [some (.ref 58), some (.int p1)], [.int p1, .ref 61], SH, w)) rfl ?_
    refine EV.iaload cl_83 rfl rfl (by decide) (by first | rfl | exact ix_153 (by assumption) (by decide) | exact ix2_153 (by assumption) (by assumption) (by decide) (by decide) (by decide) (by decide) | exact ix_157 (by assumption) (by decide)) ?_
    refine EV.steps cl_83 1 (q2 := (24, [some (.ref 58), some (.int p1)], [.int (w 61 p1.toNatClampNeg)], SH, w)) rfl ?_
    refine EV.ret cl_83 rfl rfl rfl ?_
    exact ⟨(by simp only [F_83_58, if_neg h1]), rfl, rfl⟩
def F_83_65 (p1 : Int32) (w : Wd) : Int32 := (if (F_153 p1 (kI 0) ((w 65 7) - (kI 1)) w) = 0 then (kI (-1)) else (w 68 p1.toNatClampNeg))
theorem m_83_65 {X : Scr} {d : Nat} (w : Wd) (p1 : Int32) : CV X (d + 2) 83 [.ref 65, .int p1] SH w (fun r s1 w1 => r = some (.int (F_83_65 p1 w)) ∧ s1 = SH ∧ w1 = w) := by
  refine CV.of rfl ?_
  refine EV.steps cl_83 6 (q2 := (8, [some (.ref 65), some (.int p1)], [.int ((w 65 7) - (kI 1)), .int (kI 0), .int p1], SH, w)) rfl ?_
  refine EV.call cl_83 rfl rfl rfl (m_153 w p1 (kI 0) ((w 65 7) - (kI 1))) ?_
  rintro _ _ _ ⟨rfl, rfl, rfl⟩
  refine EV.z_eq cl_83 rfl (fun h1 => ?_) (fun h1 => ?_)
  · skip
    refine EV.steps cl_83 1 (q2 := (24, [some (.ref 65), some (.int p1)], [.int (kI (-1))], SH, w)) rfl ?_
    refine EV.ret cl_83 rfl rfl rfl ?_
    exact ⟨(by simp only [F_83_65, if_pos h1]), rfl, rfl⟩
  · skip
    refine EV.steps cl_83 3 (q2 := (19, [some (.ref 65), some (.int p1)], [.int p1, .ref 68], SH, w)) rfl ?_
    refine EV.iaload cl_83 rfl rfl (by decide) (by first | rfl | exact ix_153 (by assumption) (by decide) | exact ix2_153 (by assumption) (by assumption) (by decide) (by decide) (by decide) (by decide) | exact ix_157 (by assumption) (by decide)) ?_
    refine EV.steps cl_83 1 (q2 := (24, [some (.ref 65), some (.int p1)], [.int (w 68 p1.toNatClampNeg)], SH, w)) rfl ?_
    refine EV.ret cl_83 rfl rfl rfl ?_
    exact ⟨(by simp only [F_83_65, if_neg h1]), rfl, rfl⟩
def F_83_72 (p1 : Int32) (w : Wd) : Int32 := (if (F_153 p1 (kI 0) ((w 72 7) - (kI 1)) w) = 0 then (kI (-1)) else (w 75 p1.toNatClampNeg))
theorem m_83_72 {X : Scr} {d : Nat} (w : Wd) (p1 : Int32) : CV X (d + 2) 83 [.ref 72, .int p1] SH w (fun r s1 w1 => r = some (.int (F_83_72 p1 w)) ∧ s1 = SH ∧ w1 = w) := by
  refine CV.of rfl ?_
  refine EV.steps cl_83 6 (q2 := (8, [some (.ref 72), some (.int p1)], [.int ((w 72 7) - (kI 1)), .int (kI 0), .int p1], SH, w)) rfl ?_
  refine EV.call cl_83 rfl rfl rfl (m_153 w p1 (kI 0) ((w 72 7) - (kI 1))) ?_
  rintro _ _ _ ⟨rfl, rfl, rfl⟩
  refine EV.z_eq cl_83 rfl (fun h1 => ?_) (fun h1 => ?_)
  · skip
    refine EV.steps cl_83 1 (q2 := (24, [some (.ref 72), some (.int p1)], [.int (kI (-1))], SH, w)) rfl ?_
    refine EV.ret cl_83 rfl rfl rfl ?_
    exact ⟨(by simp only [F_83_72, if_pos h1]), rfl, rfl⟩
  · skip
    refine EV.steps cl_83 3 (q2 := (19, [some (.ref 72), some (.int p1)], [.int p1, .ref 75], SH, w)) rfl ?_
    refine EV.iaload cl_83 rfl rfl (by decide) (by first | rfl | exact ix_153 (by assumption) (by decide) | exact ix2_153 (by assumption) (by assumption) (by decide) (by decide) (by decide) (by decide) | exact ix_157 (by assumption) (by decide)) ?_
    refine EV.steps cl_83 1 (q2 := (24, [some (.ref 72), some (.int p1)], [.int (w 75 p1.toNatClampNeg)], SH, w)) rfl ?_
    refine EV.ret cl_83 rfl rfl rfl ?_
    exact ⟨(by simp only [F_83_72, if_neg h1]), rfl, rfl⟩
theorem cl_115 : RCT[115]? = some rc_115 := rfl
def F_115_1 (p1 : Int32) (w : Wd) : Int32 := (kI 0)
def G_115_1 (p1 : Int32) (w : Wd) : Wd := (up2 w 1 4 (((kI (-1000)) * p1) - (w 1 3)))
theorem m_115_1 {X : Scr} {d : Nat} (w : Wd) (p1 : Int32) : CV X (d + 1) 115 [.ref 1, .int p1] SH w (fun r s1 w1 => r = some (.int (F_115_1 p1 w)) ∧ s1 = SH ∧ w1 = G_115_1 p1 w) := by
  refine CV.of rfl ?_
  refine EV.steps cl_115 9 (q2 := (15, [some (.ref 1), some (.int p1)], [.int (kI 0)], SH, (up2 w 1 4 (((kI (-1000)) * p1) - (w 1 3))))) rfl ?_
  refine EV.ret cl_115 rfl rfl rfl ?_
  exact ⟨rfl, rfl, rfl⟩
theorem cl_90 : RCT[90]? = some rc_90 := rfl
def F_90_89 (p1 : Int32) (w : Wd) : Int32 := (if (F_153 p1 (kI 0) (kI 5) w) = 0 then (kI 0) else (w 90 p1.toNatClampNeg))
theorem m_90_89 {X : Scr} {d : Nat} (w : Wd) (p1 : Int32) : CV X (d + 2) 90 [.ref 89, .int p1] SH w (fun r s1 w1 => r = some (.int (F_90_89 p1 w)) ∧ s1 = SH ∧ w1 = w) := by
  refine CV.of rfl ?_
  refine EV.steps cl_90 3 (q2 := (3, [some (.ref 89), some (.int p1)], [.int (kI 5), .int (kI 0), .int p1], SH, w)) rfl ?_
  refine EV.call cl_90 rfl rfl rfl (m_153 w p1 (kI 0) (kI 5)) ?_
  rintro _ _ _ ⟨rfl, rfl, rfl⟩
  refine EV.z_eq cl_90 rfl (fun h1 => ?_) (fun h1 => ?_)
  · skip
    refine EV.steps cl_90 1 (q2 := (19, [some (.ref 89), some (.int p1)], [.int (kI 0)], SH, w)) rfl ?_
    refine EV.ret cl_90 rfl rfl rfl ?_
    exact ⟨(by simp only [F_90_89, if_pos h1]), rfl, rfl⟩
  · skip
    refine EV.steps cl_90 3 (q2 := (14, [some (.ref 89), some (.int p1)], [.int p1, .ref 90], SH, w)) rfl ?_
    refine EV.iaload cl_90 rfl rfl (by decide) (by first | rfl | exact ix_153 (by assumption) (by decide) | exact ix2_153 (by assumption) (by assumption) (by decide) (by decide) (by decide) (by decide) | exact ix_157 (by assumption) (by decide)) ?_
    refine EV.steps cl_90 1 (q2 := (19, [some (.ref 89), some (.int p1)], [.int (w 90 p1.toNatClampNeg)], SH, w)) rfl ?_
    refine EV.ret cl_90 rfl rfl rfl ?_
    exact ⟨(by simp only [F_90_89, if_neg h1]), rfl, rfl⟩
theorem cl_105 : RCT[105]? = some rc_105 := rfl
def F_105_1 (p1 : Int32) (p2 : Int32) (p3 : Int32) (w : Wd) : Int32 := (if (F_153 p1 p2 p3 w) = 0 then (kI 0) else (if (w 1 1) < p1 then (kI 0) else (kI 1)))
theorem m_105_1 {X : Scr} {d : Nat} (w : Wd) (p1 : Int32) (p2 : Int32) (p3 : Int32) : CV X (d + 2) 105 [.ref 1, .int p1, .int p2, .int p3] SH w (fun r s1 w1 => r = some (.int (F_105_1 p1 p2 p3 w)) ∧ s1 = SH ∧ w1 = w) := by
  refine CV.of rfl ?_
  refine EV.steps cl_105 3 (q2 := (3, [some (.ref 1), some (.int p1), some (.int p2), some (.int p3)], [.int p3, .int p2, .int p1], SH, w)) rfl ?_
  refine EV.call cl_105 rfl rfl rfl (m_153 w p1 p2 p3) ?_
  rintro _ _ _ ⟨rfl, rfl, rfl⟩
  refine EV.z_eq cl_105 rfl (fun h1 => ?_) (fun h1 => ?_)
  · skip
    refine EV.steps cl_105 1 (q2 := (22, [some (.ref 1), some (.int p1), some (.int p2), some (.int p3)], [.int (kI 0)], SH, w)) rfl ?_
    refine EV.ret cl_105 rfl rfl rfl ?_
    exact ⟨(by simp only [F_105_1, if_pos h1]), rfl, rfl⟩
  · skip
    refine EV.steps cl_105 3 (q2 := (14, [some (.ref 1), some (.int p1), some (.int p2), some (.int p3)], [.int (w 1 1), .int p1], SH, w)) rfl ?_
    refine EV.i_gt cl_105 rfl (fun h2 => ?_) (fun h2 => ?_)
    · skip
      refine EV.steps cl_105 1 (q2 := (22, [some (.ref 1), some (.int p1), some (.int p2), some (.int p3)], [.int (kI 0)], SH, w)) rfl ?_
      refine EV.ret cl_105 rfl rfl rfl ?_
      exact ⟨(by simp only [F_105_1, if_neg h1, if_pos h2]), rfl, rfl⟩
    · skip
      refine EV.steps cl_105 2 (q2 := (22, [some (.ref 1), some (.int p1), some (.int p2), some (.int p3)], [.int (kI 1)], SH, w)) rfl ?_
      refine EV.ret cl_105 rfl rfl rfl ?_
      exact ⟨(by simp only [F_105_1, if_neg h1, if_neg h2]), rfl, rfl⟩
theorem cl_108 : RCT[108]? = some rc_108 := rfl
def F_108_1  (w : Wd) : Int32 := (w 1 4)
def G_108_1  (w : Wd) : Wd := (up2 w 1 1 (kI 0))
theorem m_108_1 {X : Scr} {d : Nat} (w : Wd)  : CV X (d + 1) 108 [.ref 1] SH w (fun r s1 w1 => r = some (.int (F_108_1 w)) ∧ s1 = SH ∧ w1 = G_108_1 w) := by
  refine CV.of rfl ?_
  refine EV.steps cl_108 5 (q2 := (9, [some (.ref 1)], [.int (w 1 4)], SH, (up2 w 1 1 (kI 0)))) rfl ?_
  refine EV.ret cl_108 rfl rfl rfl ?_
  exact ⟨rfl, rfl, rfl⟩
theorem cl_109 : RCT[109]? = some rc_109 := rfl
def F_109_1  (w : Wd) : Int32 := (if (w 1 3) < (w 1 2) then (kI 0) else (kI 1))
theorem m_109_1 {X : Scr} {d : Nat} (w : Wd)  : CV X (d + 1) 109 [.ref 1] SH w (fun r s1 w1 => r = some (.int (F_109_1 w)) ∧ s1 = SH ∧ w1 = w) := by
  refine CV.of rfl ?_
  refine EV.steps cl_109 4 (q2 := (8, [some (.ref 1)], [.int (w 1 2), .int (w 1 3)], SH, w)) rfl ?_
  refine EV.i_lt cl_109 rfl (fun h1 => ?_) (fun h1 => ?_)
  · skip
    refine EV.steps cl_109 1 (q2 := (16, [some (.ref 1)], [.int (kI 0)], SH, w)) rfl ?_
    refine EV.ret cl_109 rfl rfl rfl ?_
    exact ⟨(by simp only [F_109_1, if_pos h1]), rfl, rfl⟩
  · skip
    refine EV.steps cl_109 2 (q2 := (16, [some (.ref 1)], [.int (kI 1)], SH, w)) rfl ?_
    refine EV.ret cl_109 rfl rfl rfl ?_
    exact ⟨(by simp only [F_109_1, if_neg h1]), rfl, rfl⟩
theorem cl_111 : RCT[111]? = some rc_111 := rfl
def F_111_1  (w : Wd) : Int32 := (F_153 (F_110_1 w) (kI 48) (kI 57) w)
theorem m_111_1 {X : Scr} {d : Nat} (w : Wd)  : CV X (d + 3) 111 [.ref 1] SH w (fun r s1 w1 => r = some (.int (F_111_1 w)) ∧ s1 = SH ∧ w1 = w) := by
  refine CV.of rfl ?_
  refine EV.steps cl_111 1 (q2 := (1, [some (.ref 1)], [.ref 1], SH, w)) rfl ?_
  refine EV.call cl_111 rfl rfl rfl (m_110_1 w ) ?_
  rintro _ _ _ ⟨rfl, rfl, rfl⟩
  refine EV.steps cl_111 2 (q2 := (8, [some (.ref 1)], [.int (kI 57), .int (kI 48), .int (F_110_1 w)], SH, w)) rfl ?_
  refine EV.call cl_111 rfl rfl rfl (m_153 w (F_110_1 w) (kI 48) (kI 57)) ?_
  rintro _ _ _ ⟨rfl, rfl, rfl⟩
  refine EV.ret cl_111 rfl rfl (by rb) ?_
  exact ⟨rfl, rfl, rfl⟩
theorem cl_113 : RCT[113]? = some rc_113 := rfl
def F_113_1 (p1 : Int32) (w : Wd) : Int32 := (if (F_110_1 w) = p1 then (kI 1) else (F_115_1 (kI 1) w))
def G_113_1 (p1 : Int32) (w : Wd) : Wd := (if (F_110_1 w) = p1 then (up2 w 1 3 ((w 1 3) + (kI 1))) else (G_115_1 (kI 1) w))
theorem m_113_1 {X : Scr} {d : Nat} (w : Wd) (p1 : Int32) : CV X (d + 3) 113 [.ref 1, .int p1] SH w (fun r s1 w1 => r = some (.int (F_113_1 p1 w)) ∧ s1 = SH ∧ w1 = G_113_1 p1 w) := by
  refine CV.of rfl ?_
  refine EV.steps cl_113 1 (q2 := (1, [some (.ref 1), some (.int p1)], [.ref 1], SH, w)) rfl ?_
  refine EV.call cl_113 rfl rfl rfl (m_110_1 w ) ?_
  rintro _ _ _ ⟨rfl, rfl, rfl⟩
  refine EV.steps cl_113 1 (q2 := (5, [some (.ref 1), some (.int p1)], [.int p1, .int (F_110_1 w)], SH, w)) rfl ?_
  refine EV.i_eq cl_113 rfl (fun h1 => ?_) (fun h1 => ?_)
  · skip
    refine EV.steps cl_113 7 (q2 := (25, [some (.ref 1), some (.int p1)], [.int (kI 1)], SH, (up2 w 1 3 ((w 1 3) + (kI 1))))) rfl ?_
    refine EV.ret cl_113 rfl rfl rfl ?_
    exact ⟨(by simp only [F_113_1, if_pos h1]), rfl, (by simp only [G_113_1, if_pos h1])⟩
  · skip
    refine EV.steps cl_113 2 (q2 := (10, [some (.ref 1), some (.int p1)], [.int (kI 1), .ref 1], SH, w)) rfl ?_
    refine EV.call cl_113 rfl rfl rfl (m_115_1 w (kI 1)) ?_
    rintro _ _ _ ⟨rfl, rfl, rfl⟩
    refine EV.ret cl_113 rfl rfl (by rb) ?_
    exact ⟨(by simp only [F_113_1, if_neg h1]), rfl, (by simp only [G_113_1, if_neg h1])⟩
theorem cl_117 : RCT[117]? = some rc_117 := rfl
def F_117_0 (p1 : Int32) (p2 : Int32) (w : Wd) : Int32 := (if (F_153 p1 (kI 0) (kI 5) w) = 0 then (kI 0) else (if (F_153 p2 (kI 0) (kI 9999) w) = 0 then (kI 0) else (kI 1)))
def G_117_0 (p1 : Int32) (p2 : Int32) (w : Wd) : Wd := (if (F_153 p1 (kI 0) (kI 5) w) = 0 then w else (if (F_153 p2 (kI 0) (kI 9999) w) = 0 then w else (up2 (up2 w 4 p1.toNatClampNeg p2) 3 3 ((w 3 3) ||| ((kI 1) <<< (p1 &&& 31))))))
theorem m_117_0 {X : Scr} {d : Nat} (w : Wd) (p1 : Int32) (p2 : Int32) : CV X (d + 2) 117 [.ref 0, .int p1, .int p2] SH w (fun r s1 w1 => r = some (.int (F_117_0 p1 p2 w)) ∧ s1 = SH ∧ w1 = G_117_0 p1 p2 w) := by
  refine CV.of rfl ?_
  refine EV.steps cl_117 3 (q2 := (3, [some (.ref 0), some (.int p1), some (.int p2)], [.int (kI 5), .int (kI 0), .int p1], SH, w)) rfl ?_
  refine EV.call cl_117 rfl rfl rfl (m_153 w p1 (kI 0) (kI 5)) ?_
  rintro _ _ _ ⟨rfl, rfl, rfl⟩
  refine EV.z_eq cl_117 rfl (fun h1 => ?_) (fun h1 => ?_)
  · skip
    refine EV.steps cl_117 1 (q2 := (21, [some (.ref 0), some (.int p1), some (.int p2)], [.int (kI 0)], SH, w)) rfl ?_
    refine EV.ret cl_117 rfl rfl rfl ?_
    exact ⟨(by simp only [F_117_0, if_pos h1]), rfl, (by simp only [G_117_0, if_pos h1])⟩
  · skip
    refine EV.steps cl_117 3 (q2 := (14, [some (.ref 0), some (.int p1), some (.int p2)], [.int (kI 9999), .int (kI 0), .int p2], SH, w)) rfl ?_
    refine EV.call cl_117 rfl rfl rfl (m_153 w p2 (kI 0) (kI 9999)) ?_
    rintro _ _ _ ⟨rfl, rfl, rfl⟩
    refine EV.z_ne cl_117 rfl (fun h2 => ?_) (fun h2 => ?_)
    · skip
      refine EV.steps cl_117 5 (q2 := (31, [some (.ref 0), some (.int p1), some (.int p2)], [.int p2, .int p1, .ref 4], SH, w)) rfl ?_
      refine EV.iastore cl_117 rfl rfl (by decide) (by first | rfl | exact ix_153 (by assumption) (by decide) | exact ix2_153 (by assumption) (by assumption) (by decide) (by decide) (by decide) (by decide) | exact ix_157 (by assumption) (by decide)) ?_
      refine EV.steps cl_117 10 (q2 := (48, [some (.ref 0), some (.int p1), some (.int p2)], [.int (kI 1)], SH, (up2 (up2 w 4 p1.toNatClampNeg p2) 3 3 ((w 3 3) ||| ((kI 1) <<< (p1 &&& 31)))))) rfl ?_
      refine EV.ret cl_117 rfl rfl rfl ?_
      exact ⟨(by simp only [F_117_0, if_neg h1, if_pos h2]), rfl, (by simp only [G_117_0, if_neg h1, if_pos h2])⟩
    · skip
      refine EV.steps cl_117 1 (q2 := (21, [some (.ref 0), some (.int p1), some (.int p2)], [.int (kI 0)], SH, w)) rfl ?_
      refine EV.ret cl_117 rfl rfl rfl ?_
      exact ⟨(by simp only [F_117_0, if_neg h1, if_neg h2]), rfl, (by simp only [G_117_0, if_neg h1, if_neg h2])⟩
theorem cl_118 : RCT[118]? = some rc_118 := rfl
def F_118_0 (p1 : Int32) (p2 : Int32) (p3 : Int32) (w : Wd) : Int32 := (if (F_51_3 p1 w) = 0 then (kI 0) else (if (F_51_3 p2 w) = 0 then (kI 0) else (if p1 = p2 then (kI 0) else (kI 1))))
def G_118_0 (p1 : Int32) (p2 : Int32) (p3 : Int32) (w : Wd) : Wd := (if (F_51_3 p1 w) = 0 then w else (if (F_51_3 p2 w) = 0 then w else (if p1 = p2 then w else (G_56_3 p2 p1 p3 (G_56_3 p1 p2 p3 w)))))
theorem m_118_0 {X : Scr} {d : Nat} (w : Wd) (p1 : Int32) (p2 : Int32) (p3 : Int32) : CV X (d + 3) 118 [.ref 0, .int p1, .int p2, .int p3] SH w (fun r s1 w1 => r = some (.int (F_118_0 p1 p2 p3 w)) ∧ s1 = SH ∧ w1 = G_118_0 p1 p2 p3 w) := by
  refine CV.of rfl ?_
  refine EV.steps cl_118 3 (q2 := (5, [some (.ref 0), some (.int p1), some (.int p2), some (.int p3)], [.int p1, .ref 3], SH, w)) rfl ?_
  refine EV.call cl_118 rfl rfl rfl (m_51_3 w p1) ?_
  rintro _ _ _ ⟨rfl, rfl, rfl⟩
  refine EV.z_eq cl_118 rfl (fun h1 => ?_) (fun h1 => ?_)
  · skip
    refine EV.steps cl_118 1 (q2 := (28, [some (.ref 0), some (.int p1), some (.int p2), some (.int p3)], [.int (kI 0)], SH, w)) rfl ?_
    refine EV.ret cl_118 rfl rfl rfl ?_
    exact ⟨(by simp only [F_118_0, if_pos h1]), rfl, (by simp only [G_118_0, if_pos h1])⟩
  · skip
    refine EV.steps cl_118 3 (q2 := (16, [some (.ref 0), some (.int p1), some (.int p2), some (.int p3)], [.int p2, .ref 3], SH, w)) rfl ?_
    refine EV.call cl_118 rfl rfl rfl (m_51_3 w p2) ?_
    rintro _ _ _ ⟨rfl, rfl, rfl⟩
    refine EV.z_eq cl_118 rfl (fun h2 => ?_) (fun h2 => ?_)
    · skip
      refine EV.steps cl_118 1 (q2 := (28, [some (.ref 0), some (.int p1), some (.int p2), some (.int p3)], [.int (kI 0)], SH, w)) rfl ?_
      refine EV.ret cl_118 rfl rfl rfl ?_
      exact ⟨(by simp only [F_118_0, if_neg h1, if_pos h2]), rfl, (by simp only [G_118_0, if_neg h1, if_pos h2])⟩
    · skip
      refine EV.steps cl_118 2 (q2 := (24, [some (.ref 0), some (.int p1), some (.int p2), some (.int p3)], [.int p2, .int p1], SH, w)) rfl ?_
      refine EV.i_ne cl_118 rfl (fun h3 => ?_) (fun h3 => ?_)
      · skip
        refine EV.steps cl_118 5 (q2 := (36, [some (.ref 0), some (.int p1), some (.int p2), some (.int p3)], [.int p3, .int p2, .int p1, .ref 3], SH, w)) rfl ?_
        refine EV.call cl_118 rfl rfl rfl (m_56_3 w p1 p2 p3) ?_
        rintro _ _ _ ⟨rfl, rfl, rfl⟩
        refine EV.steps cl_118 5 (q2 := (46, [some (.ref 0), some (.int p1), some (.int p2), some (.int p3)], [.int p3, .int p1, .int p2, .ref 3], SH, (G_56_3 p1 p2 p3 w))) rfl ?_
        refine EV.call cl_118 rfl rfl rfl (m_56_3 (G_56_3 p1 p2 p3 w) p2 p1 p3) ?_
        rintro _ _ _ ⟨rfl, rfl, rfl⟩
        refine EV.steps cl_118 1 (q2 := (50, [some (.ref 0), some (.int p1), some (.int p2), some (.int p3)], [.int (kI 1)], SH, (G_56_3 p2 p1 p3 (G_56_3 p1 p2 p3 w)))) rfl ?_
        refine EV.ret cl_118 rfl rfl rfl ?_
        exact ⟨(by simp only [F_118_0, if_neg h1, if_neg h2, if_pos h3]), rfl, (by simp only [G_118_0, if_neg h1, if_neg h2, if_pos h3])⟩
      · skip
        refine EV.steps cl_118 1 (q2 := (28, [some (.ref 0), some (.int p1), some (.int p2), some (.int p3)], [.int (kI 0)], SH, w)) rfl ?_
        refine EV.ret cl_118 rfl rfl rfl ?_
        exact ⟨(by simp only [F_118_0, if_neg h1, if_neg h2, if_neg h3]), rfl, (by simp only [G_118_0, if_neg h1, if_neg h2, if_neg h3])⟩
theorem cl_119 : RCT[119]? = some rc_119 := rfl
def F_119_0 (p1 : Int32) (p2 : Int32) (w : Wd) : Int32 := (if (F_153 p1 (kI 0) (kI 5) w) = 0 then (kI 0) else (if (F_153 p2 (kI 0) (kI 9999) w) = 0 then (kI 0) else (kI 1)))
def G_119_0 (p1 : Int32) (p2 : Int32) (w : Wd) : Wd := (if (F_153 p1 (kI 0) (kI 5) w) = 0 then w else (if (F_153 p2 (kI 0) (kI 9999) w) = 0 then w else (up2 (up2 w 5 p1.toNatClampNeg p2) 3 4 ((w 3 4) ||| ((kI 1) <<< (p1 &&& 31))))))
theorem m_119_0 {X : Scr} {d : Nat} (w : Wd) (p1 : Int32) (p2 : Int32) : CV X (d + 2) 119 [.ref 0, .int p1, .int p2] SH w (fun r s1 w1 => r = some (.int (F_119_0 p1 p2 w)) ∧ s1 = SH ∧ w1 = G_119_0 p1 p2 w) := by
  refine CV.of rfl ?_
  refine EV.steps cl_119 3 (q2 := (3, [some (.ref 0), some (.int p1), some (.int p2)], [.int (kI 5), .int (kI 0), .int p1], SH, w)) rfl ?_
  refine EV.call cl_119 rfl rfl rfl (m_153 w p1 (kI 0) (kI 5)) ?_
  rintro _ _ _ ⟨rfl, rfl, rfl⟩
  refine EV.z_eq cl_119 rfl (fun h1 => ?_) (fun h1 => ?_)
  · skip
    refine EV.steps cl_119 1 (q2 := (21, [some (.ref 0), some (.int p1), some (.int p2)], [.int (kI 0)], SH, w)) rfl ?_
    refine EV.ret cl_119 rfl rfl rfl ?_
    exact ⟨(by simp only [F_119_0, if_pos h1]), rfl, (by simp only [G_119_0, if_pos h1])⟩
  · skip
    refine EV.steps cl_119 3 (q2 := (14, [some (.ref 0), some (.int p1), some (.int p2)], [.int (kI 9999), .int (kI 0), .int p2], SH, w)) rfl ?_
    refine EV.call cl_119 rfl rfl rfl (m_153 w p2 (kI 0) (kI 9999)) ?_
    rintro _ _ _ ⟨rfl, rfl, rfl⟩
    refine EV.z_ne cl_119 rfl (fun h2 => ?_) (fun h2 => ?_)
    · skip
      refine EV.steps cl_119 5 (q2 := (31, [some (.ref 0), some (.int p1), some (.int p2)], [.int p2, .int p1, .ref 5], SH, w)) rfl ?_
      refine EV.iastore cl_119 rfl rfl (by decide) (by first | rfl | exact ix_153 (by assumption) (by decide) | exact ix2_153 (by assumption) (by assumption) (by decide) (by decide) (by decide) (by decide) | exact ix_157 (by assumption) (by decide)) ?_
      refine EV.steps cl_119 10 (q2 := (48, [some (.ref 0), some (.int p1), some (.int p2)], [.int (kI 1)], SH, (up2 (up2 w 5 p1.toNatClampNeg p2) 3 4 ((w 3 4) ||| ((kI 1) <<< (p1 &&& 31)))))) rfl ?_
      refine EV.ret cl_119 rfl rfl rfl ?_
      exact ⟨(by simp only [F_119_0, if_neg h1, if_pos h2]), rfl, (by simp only [G_119_0, if_neg h1, if_pos h2])⟩
    · skip
      refine EV.steps cl_119 1 (q2 := (21, [some (.ref 0), some (.int p1), some (.int p2)], [.int (kI 0)], SH, w)) rfl ?_
      refine EV.ret cl_119 rfl rfl rfl ?_
      exact ⟨(by simp only [F_119_0, if_neg h1, if_neg h2]), rfl, (by simp only [G_119_0, if_neg h1, if_neg h2])⟩
theorem cl_120 : RCT[120]? = some rc_120 := rfl
def F_120_0 (p1 : Int32) (w : Wd) : Int32 := (if (F_153 p1 (kI 0) (kI 9999) w) = 0 then (kI 0) else (kI 1))
def G_120_0 (p1 : Int32) (w : Wd) : Wd := (if (F_153 p1 (kI 0) (kI 9999) w) = 0 then w else (up2 (up2 w 3 5 p1) 7 6 p1))
theorem m_120_0 {X : Scr} {d : Nat} (w : Wd) (p1 : Int32) : CV X (d + 2) 120 [.ref 0, .int p1] SH w (fun r s1 w1 => r = some (.int (F_120_0 p1 w)) ∧ s1 = SH ∧ w1 = G_120_0 p1 w) := by
  refine CV.of rfl ?_
  refine EV.steps cl_120 3 (q2 := (5, [some (.ref 0), some (.int p1)], [.int (kI 9999), .int (kI 0), .int p1], SH, w)) rfl ?_
  refine EV.call cl_120 rfl rfl rfl (m_153 w p1 (kI 0) (kI 9999)) ?_
  rintro _ _ _ ⟨rfl, rfl, rfl⟩
  refine EV.z_ne cl_120 rfl (fun h1 => ?_) (fun h1 => ?_)
  · skip
    refine EV.steps cl_120 9 (q2 := (30, [some (.ref 0), some (.int p1)], [.int (kI 1)], SH, (up2 (up2 w 3 5 p1) 7 6 p1))) rfl ?_
    refine EV.ret cl_120 rfl rfl rfl ?_
    exact ⟨(by simp only [F_120_0, if_pos h1]), rfl, (by simp only [G_120_0, if_pos h1])⟩
  · skip
    refine EV.steps cl_120 1 (q2 := (12, [some (.ref 0), some (.int p1)], [.int (kI 0)], SH, w)) rfl ?_
    refine EV.ret cl_120 rfl rfl rfl ?_
    exact ⟨(by simp only [F_120_0, if_neg h1]), rfl, (by simp only [G_120_0, if_neg h1])⟩
theorem cl_126 : RCT[126]? = some rc_126 := rfl
def F_126_0 (p1 : Int32) (p2 : Int32) (w : Wd) : Int32 := (if (F_51_3 p1 w) = 0 then (kI (-1)) else (if (F_52_3 p2 w) = 0 then (kI (-1)) else (F_11_7 p1 p2 w)))
theorem m_126_0 {X : Scr} {d : Nat} (w : Wd) (p1 : Int32) (p2 : Int32) : CV X (d + 3) 126 [.ref 0, .int p1, .int p2] SH w (fun r s1 w1 => r = some (.int (F_126_0 p1 p2 w)) ∧ s1 = SH ∧ w1 = w) := by
  refine CV.of rfl ?_
  refine EV.steps cl_126 3 (q2 := (5, [some (.ref 0), some (.int p1), some (.int p2)], [.int p1, .ref 3], SH, w)) rfl ?_
  refine EV.call cl_126 rfl rfl rfl (m_51_3 w p1) ?_
  rintro _ _ _ ⟨rfl, rfl, rfl⟩
  refine EV.z_eq cl_126 rfl (fun h1 => ?_) (fun h1 => ?_)
  · skip
    refine EV.steps cl_126 1 (q2 := (23, [some (.ref 0), some (.int p1), some (.int p2)], [.int (kI (-1))], SH, w)) rfl ?_
    refine EV.ret cl_126 rfl rfl rfl ?_
    exact ⟨(by simp only [F_126_0, if_pos h1]), rfl, rfl⟩
  · skip
    refine EV.steps cl_126 3 (q2 := (16, [some (.ref 0), some (.int p1), some (.int p2)], [.int p2, .ref 3], SH, w)) rfl ?_
    refine EV.call cl_126 rfl rfl rfl (m_52_3 w p2) ?_
    rintro _ _ _ ⟨rfl, rfl, rfl⟩
    refine EV.z_ne cl_126 rfl (fun h2 => ?_) (fun h2 => ?_)
    · skip
      refine EV.steps cl_126 4 (q2 := (30, [some (.ref 0), some (.int p1), some (.int p2)], [.int p2, .int p1, .ref 7], SH, w)) rfl ?_
      refine EV.call cl_126 rfl rfl rfl (m_11_7 w p1 p2) ?_
      rintro _ _ _ ⟨rfl, rfl, rfl⟩
      refine EV.ret cl_126 rfl rfl rfl ?_
      exact ⟨(by simp only [F_126_0, if_neg h1, if_pos h2]), rfl, rfl⟩
    · skip
      refine EV.steps cl_126 1 (q2 := (23, [some (.ref 0), some (.int p1), some (.int p2)], [.int (kI (-1))], SH, w)) rfl ?_
      refine EV.ret cl_126 rfl rfl rfl ?_
      exact ⟨(by simp only [F_126_0, if_neg h1, if_neg h2]), rfl, rfl⟩
theorem cl_259 : RCT[259]? = some rc_259 := rfl
def F_259 (p1 : Int32) (w : Wd) : Int32 := ((((((((p1 - (((p1).toUInt32 >>> (((kI 1)).toUInt32 &&& Int32.toUInt32 31)).toInt32 &&& (kI 1431655765))) &&& (kI 858993459)) + ((((p1 - (((p1).toUInt32 >>> (((kI 1)).toUInt32 &&& Int32.toUInt32 31)).toInt32 &&& (kI 1431655765)))).toUInt32 >>> (((kI 2)).toUInt32 &&& Int32.toUInt32 31)).toInt32 &&& (kI 858993459))) + (((((p1 - (((p1).toUInt32 >>> (((kI 1)).toUInt32 &&& Int32.toUInt32 31)).toInt32 &&& (kI 1431655765))) &&& (kI 858993459)) + ((((p1 - (((p1).toUInt32 >>> (((kI 1)).toUInt32 &&& Int32.toUInt32 31)).toInt32 &&& (kI 1431655765)))).toUInt32 >>> (((kI 2)).toUInt32 &&& Int32.toUInt32 31)).toInt32 &&& (kI 858993459)))).toUInt32 >>> (((kI 4)).toUInt32 &&& Int32.toUInt32 31)).toInt32) &&& (kI 252645135)) + (((((((p1 - (((p1).toUInt32 >>> (((kI 1)).toUInt32 &&& Int32.toUInt32 31)).toInt32 &&& (kI 1431655765))) &&& (kI 858993459)) + ((((p1 - (((p1).toUInt32 >>> (((kI 1)).toUInt32 &&& Int32.toUInt32 31)).toInt32 &&& (kI 1431655765)))).toUInt32 >>> (((kI 2)).toUInt32 &&& Int32.toUInt32 31)).toInt32 &&& (kI 858993459))) + (((((p1 - (((p1).toUInt32 >>> (((kI 1)).toUInt32 &&& Int32.toUInt32 31)).toInt32 &&& (kI 1431655765))) &&& (kI 858993459)) + ((((p1 - (((p1).toUInt32 >>> (((kI 1)).toUInt32 &&& Int32.toUInt32 31)).toInt32 &&& (kI 1431655765)))).toUInt32 >>> (((kI 2)).toUInt32 &&& Int32.toUInt32 31)).toInt32 &&& (kI 858993459)))).toUInt32 >>> (((kI 4)).toUInt32 &&& Int32.toUInt32 31)).toInt32) &&& (kI 252645135))).toUInt32 >>> (((kI 8)).toUInt32 &&& Int32.toUInt32 31)).toInt32) + ((((((((p1 - (((p1).toUInt32 >>> (((kI 1)).toUInt32 &&& Int32.toUInt32 31)).toInt32 &&& (kI 1431655765))) &&& (kI 858993459)) + ((((p1 - (((p1).toUInt32 >>> (((kI 1)).toUInt32 &&& Int32.toUInt32 31)).toInt32 &&& (kI 1431655765)))).toUInt32 >>> (((kI 2)).toUInt32 &&& Int32.toUInt32 31)).toInt32 &&& (kI 858993459))) + (((((p1 - (((p1).toUInt32 >>> (((kI 1)).toUInt32 &&& Int32.toUInt32 31)).toInt32 &&& (kI 1431655765))) &&& (kI 858993459)) + ((((p1 - (((p1).toUInt32 >>> (((kI 1)).toUInt32 &&& Int32.toUInt32 31)).toInt32 &&& (kI 1431655765)))).toUInt32 >>> (((kI 2)).toUInt32 &&& Int32.toUInt32 31)).toInt32 &&& (kI 858993459)))).toUInt32 >>> (((kI 4)).toUInt32 &&& Int32.toUInt32 31)).toInt32) &&& (kI 252645135)) + (((((((p1 - (((p1).toUInt32 >>> (((kI 1)).toUInt32 &&& Int32.toUInt32 31)).toInt32 &&& (kI 1431655765))) &&& (kI 858993459)) + ((((p1 - (((p1).toUInt32 >>> (((kI 1)).toUInt32 &&& Int32.toUInt32 31)).toInt32 &&& (kI 1431655765)))).toUInt32 >>> (((kI 2)).toUInt32 &&& Int32.toUInt32 31)).toInt32 &&& (kI 858993459))) + (((((p1 - (((p1).toUInt32 >>> (((kI 1)).toUInt32 &&& Int32.toUInt32 31)).toInt32 &&& (kI 1431655765))) &&& (kI 858993459)) + ((((p1 - (((p1).toUInt32 >>> (((kI 1)).toUInt32 &&& Int32.toUInt32 31)).toInt32 &&& (kI 1431655765)))).toUInt32 >>> (((kI 2)).toUInt32 &&& Int32.toUInt32 31)).toInt32 &&& (kI 858993459)))).toUInt32 >>> (((kI 4)).toUInt32 &&& Int32.toUInt32 31)).toInt32) &&& (kI 252645135))).toUInt32 >>> (((kI 8)).toUInt32 &&& Int32.toUInt32 31)).toInt32)).toUInt32 >>> (((kI 16)).toUInt32 &&& Int32.toUInt32 31)).toInt32) &&& (kI 63))
theorem m_259 {X : Scr} {d : Nat} (w : Wd) (p1 : Int32) : CV X (d + 1) 259 [.int p1] SH w (fun r s1 w1 => r = some (.int (F_259 p1 w)) ∧ s1 = SH ∧ w1 = w) := by
  refine CV.of rfl ?_
  refine EV.steps cl_259 41 (q2 := (52, [some (.int (((((((p1 - (((p1).toUInt32 >>> (((kI 1)).toUInt32 &&& Int32.toUInt32 31)).toInt32 &&& (kI 1431655765))) &&& (kI 858993459)) + ((((p1 - (((p1).toUInt32 >>> (((kI 1)).toUInt32 &&& Int32.toUInt32 31)).toInt32 &&& (kI 1431655765)))).toUInt32 >>> (((kI 2)).toUInt32 &&& Int32.toUInt32 31)).toInt32 &&& (kI 858993459))) + (((((p1 - (((p1).toUInt32 >>> (((kI 1)).toUInt32 &&& Int32.toUInt32 31)).toInt32 &&& (kI 1431655765))) &&& (kI 858993459)) + ((((p1 - (((p1).toUInt32 >>> (((kI 1)).toUInt32 &&& Int32.toUInt32 31)).toInt32 &&& (kI 1431655765)))).toUInt32 >>> (((kI 2)).toUInt32 &&& Int32.toUInt32 31)).toInt32 &&& (kI 858993459)))).toUInt32 >>> (((kI 4)).toUInt32 &&& Int32.toUInt32 31)).toInt32) &&& (kI 252645135)) + (((((((p1 - (((p1).toUInt32 >>> (((kI 1)).toUInt32 &&& Int32.toUInt32 31)).toInt32 &&& (kI 1431655765))) &&& (kI 858993459)) + ((((p1 - (((p1).toUInt32 >>> (((kI 1)).toUInt32 &&& Int32.toUInt32 31)).toInt32 &&& (kI 1431655765)))).toUInt32 >>> (((kI 2)).toUInt32 &&& Int32.toUInt32 31)).toInt32 &&& (kI 858993459))) + (((((p1 - (((p1).toUInt32 >>> (((kI 1)).toUInt32 &&& Int32.toUInt32 31)).toInt32 &&& (kI 1431655765))) &&& (kI 858993459)) + ((((p1 - (((p1).toUInt32 >>> (((kI 1)).toUInt32 &&& Int32.toUInt32 31)).toInt32 &&& (kI 1431655765)))).toUInt32 >>> (((kI 2)).toUInt32 &&& Int32.toUInt32 31)).toInt32 &&& (kI 858993459)))).toUInt32 >>> (((kI 4)).toUInt32 &&& Int32.toUInt32 31)).toInt32) &&& (kI 252645135))).toUInt32 >>> (((kI 8)).toUInt32 &&& Int32.toUInt32 31)).toInt32) + ((((((((p1 - (((p1).toUInt32 >>> (((kI 1)).toUInt32 &&& Int32.toUInt32 31)).toInt32 &&& (kI 1431655765))) &&& (kI 858993459)) + ((((p1 - (((p1).toUInt32 >>> (((kI 1)).toUInt32 &&& Int32.toUInt32 31)).toInt32 &&& (kI 1431655765)))).toUInt32 >>> (((kI 2)).toUInt32 &&& Int32.toUInt32 31)).toInt32 &&& (kI 858993459))) + (((((p1 - (((p1).toUInt32 >>> (((kI 1)).toUInt32 &&& Int32.toUInt32 31)).toInt32 &&& (kI 1431655765))) &&& (kI 858993459)) + ((((p1 - (((p1).toUInt32 >>> (((kI 1)).toUInt32 &&& Int32.toUInt32 31)).toInt32 &&& (kI 1431655765)))).toUInt32 >>> (((kI 2)).toUInt32 &&& Int32.toUInt32 31)).toInt32 &&& (kI 858993459)))).toUInt32 >>> (((kI 4)).toUInt32 &&& Int32.toUInt32 31)).toInt32) &&& (kI 252645135)) + (((((((p1 - (((p1).toUInt32 >>> (((kI 1)).toUInt32 &&& Int32.toUInt32 31)).toInt32 &&& (kI 1431655765))) &&& (kI 858993459)) + ((((p1 - (((p1).toUInt32 >>> (((kI 1)).toUInt32 &&& Int32.toUInt32 31)).toInt32 &&& (kI 1431655765)))).toUInt32 >>> (((kI 2)).toUInt32 &&& Int32.toUInt32 31)).toInt32 &&& (kI 858993459))) + (((((p1 - (((p1).toUInt32 >>> (((kI 1)).toUInt32 &&& Int32.toUInt32 31)).toInt32 &&& (kI 1431655765))) &&& (kI 858993459)) + ((((p1 - (((p1).toUInt32 >>> (((kI 1)).toUInt32 &&& Int32.toUInt32 31)).toInt32 &&& (kI 1431655765)))).toUInt32 >>> (((kI 2)).toUInt32 &&& Int32.toUInt32 31)).toInt32 &&& (kI 858993459)))).toUInt32 >>> (((kI 4)).toUInt32 &&& Int32.toUInt32 31)).toInt32) &&& (kI 252645135))).toUInt32 >>> (((kI 8)).toUInt32 &&& Int32.toUInt32 31)).toInt32)).toUInt32 >>> (((kI 16)).toUInt32 &&& Int32.toUInt32 31)).toInt32))], [.int ((((((((p1 - (((p1).toUInt32 >>> (((kI 1)).toUInt32 &&& Int32.toUInt32 31)).toInt32 &&& (kI 1431655765))) &&& (kI 858993459)) + ((((p1 - (((p1).toUInt32 >>> (((kI 1)).toUInt32 &&& Int32.toUInt32 31)).toInt32 &&& (kI 1431655765)))).toUInt32 >>> (((kI 2)).toUInt32 &&& Int32.toUInt32 31)).toInt32 &&& (kI 858993459))) + (((((p1 - (((p1).toUInt32 >>> (((kI 1)).toUInt32 &&& Int32.toUInt32 31)).toInt32 &&& (kI 1431655765))) &&& (kI 858993459)) + ((((p1 - (((p1).toUInt32 >>> (((kI 1)).toUInt32 &&& Int32.toUInt32 31)).toInt32 &&& (kI 1431655765)))).toUInt32 >>> (((kI 2)).toUInt32 &&& Int32.toUInt32 31)).toInt32 &&& (kI 858993459)))).toUInt32 >>> (((kI 4)).toUInt32 &&& Int32.toUInt32 31)).toInt32) &&& (kI 252645135)) + (((((((p1 - (((p1).toUInt32 >>> (((kI 1)).toUInt32 &&& Int32.toUInt32 31)).toInt32 &&& (kI 1431655765))) &&& (kI 858993459)) + ((((p1 - (((p1).toUInt32 >>> (((kI 1)).toUInt32 &&& Int32.toUInt32 31)).toInt32 &&& (kI 1431655765)))).toUInt32 >>> (((kI 2)).toUInt32 &&& Int32.toUInt32 31)).toInt32 &&& (kI 858993459))) + (((((p1 - (((p1).toUInt32 >>> (((kI 1)).toUInt32 &&& Int32.toUInt32 31)).toInt32 &&& (kI 1431655765))) &&& (kI 858993459)) + ((((p1 - (((p1).toUInt32 >>> (((kI 1)).toUInt32 &&& Int32.toUInt32 31)).toInt32 &&& (kI 1431655765)))).toUInt32 >>> (((kI 2)).toUInt32 &&& Int32.toUInt32 31)).toInt32 &&& (kI 858993459)))).toUInt32 >>> (((kI 4)).toUInt32 &&& Int32.toUInt32 31)).toInt32) &&& (kI 252645135))).toUInt32 >>> (((kI 8)).toUInt32 &&& Int32.toUInt32 31)).toInt32) + ((((((((p1 - (((p1).toUInt32 >>> (((kI 1)).toUInt32 &&& Int32.toUInt32 31)).toInt32 &&& (kI 1431655765))) &&& (kI 858993459)) + ((((p1 - (((p1).toUInt32 >>> (((kI 1)).toUInt32 &&& Int32.toUInt32 31)).toInt32 &&& (kI 1431655765)))).toUInt32 >>> (((kI 2)).toUInt32 &&& Int32.toUInt32 31)).toInt32 &&& (kI 858993459))) + (((((p1 - (((p1).toUInt32 >>> (((kI 1)).toUInt32 &&& Int32.toUInt32 31)).toInt32 &&& (kI 1431655765))) &&& (kI 858993459)) + ((((p1 - (((p1).toUInt32 >>> (((kI 1)).toUInt32 &&& Int32.toUInt32 31)).toInt32 &&& (kI 1431655765)))).toUInt32 >>> (((kI 2)).toUInt32 &&& Int32.toUInt32 31)).toInt32 &&& (kI 858993459)))).toUInt32 >>> (((kI 4)).toUInt32 &&& Int32.toUInt32 31)).toInt32) &&& (kI 252645135)) + (((((((p1 - (((p1).toUInt32 >>> (((kI 1)).toUInt32 &&& Int32.toUInt32 31)).toInt32 &&& (kI 1431655765))) &&& (kI 858993459)) + ((((p1 - (((p1).toUInt32 >>> (((kI 1)).toUInt32 &&& Int32.toUInt32 31)).toInt32 &&& (kI 1431655765)))).toUInt32 >>> (((kI 2)).toUInt32 &&& Int32.toUInt32 31)).toInt32 &&& (kI 858993459))) + (((((p1 - (((p1).toUInt32 >>> (((kI 1)).toUInt32 &&& Int32.toUInt32 31)).toInt32 &&& (kI 1431655765))) &&& (kI 858993459)) + ((((p1 - (((p1).toUInt32 >>> (((kI 1)).toUInt32 &&& Int32.toUInt32 31)).toInt32 &&& (kI 1431655765)))).toUInt32 >>> (((kI 2)).toUInt32 &&& Int32.toUInt32 31)).toInt32 &&& (kI 858993459)))).toUInt32 >>> (((kI 4)).toUInt32 &&& Int32.toUInt32 31)).toInt32) &&& (kI 252645135))).toUInt32 >>> (((kI 8)).toUInt32 &&& Int32.toUInt32 31)).toInt32)).toUInt32 >>> (((kI 16)).toUInt32 &&& Int32.toUInt32 31)).toInt32) &&& (kI 63))], SH, w)) rfl ?_
  refine EV.ret cl_259 rfl rfl rfl ?_
  exact ⟨rfl, rfl, rfl⟩
theorem cl_155 : RCT[155]? = some rc_155 := rfl
def F_155 (p1 : Int32) (p2 : Int32) (p3 : Int32) (w : Wd) : Int32 := (if p1 = 0 then (kI 0) else (if (p1 &&& (p2 ^^^ (kI (-1)))) = 0 then (if p3 < (F_259 p1 w) then (kI 0) else (kI 1)) else (kI 0)))
theorem m_155 {X : Scr} {d : Nat} (w : Wd) (p1 : Int32) (p2 : Int32) (p3 : Int32) : CV X (d + 2) 155 [.int p1, .int p2, .int p3] SH w (fun r s1 w1 => r = some (.int (F_155 p1 p2 p3 w)) ∧ s1 = SH ∧ w1 = w) := by
  refine CV.of rfl ?_
  refine EV.steps cl_155 1 (q2 := (1, [some (.int p1), some (.int p2), some (.int p3)], [.int p1], SH, w)) rfl ?_
  refine EV.z_eq cl_155 rfl (fun h1 => ?_) (fun h1 => ?_)
  · skip
    refine EV.steps cl_155 1 (q2 := (25, [some (.int p1), some (.int p2), some (.int p3)], [.int (kI 0)], SH, w)) rfl ?_
    refine EV.ret cl_155 rfl rfl rfl ?_
    exact ⟨(by simp only [F_155, if_pos h1]), rfl, rfl⟩
  · skip
    refine EV.steps cl_155 5 (q2 := (9, [some (.int p1), some (.int p2), some (.int p3)], [.int (p1 &&& (p2 ^^^ (kI (-1))))], SH, w)) rfl ?_
    refine EV.z_ne cl_155 rfl (fun h2 => ?_) (fun h2 => ?_)
    · skip
      refine EV.steps cl_155 1 (q2 := (25, [some (.int p1), some (.int p2), some (.int p3)], [.int (kI 0)], SH, w)) rfl ?_
      refine EV.ret cl_155 rfl rfl rfl ?_
      exact ⟨(by simp only [F_155, if_neg h1, if_pos h2]), rfl, rfl⟩
    · skip
      refine EV.steps cl_155 1 (q2 := (13, [some (.int p1), some (.int p2), some (.int p3)], [.int p1], SH, w)) rfl ?_
      refine EV.call cl_155 rfl rfl rfl (m_259 w p1) ?_
      rintro _ _ _ ⟨rfl, rfl, rfl⟩
      refine EV.steps cl_155 1 (q2 := (17, [some (.int p1), some (.int p2), some (.int p3)], [.int p3, .int (F_259 p1 w)], SH, w)) rfl ?_
      refine EV.i_gt cl_155 rfl (fun h3 => ?_) (fun h3 => ?_)
      · skip
        refine EV.steps cl_155 1 (q2 := (25, [some (.int p1), some (.int p2), some (.int p3)], [.int (kI 0)], SH, w)) rfl ?_
        refine EV.ret cl_155 rfl rfl rfl ?_
        exact ⟨(by simp only [F_155, if_neg h1, if_neg h2, if_pos h3]), rfl, rfl⟩
      · skip
        refine EV.steps cl_155 2 (q2 := (25, [some (.int p1), some (.int p2), some (.int p3)], [.int (kI 1)], SH, w)) rfl ?_
        refine EV.ret cl_155 rfl rfl rfl ?_
        exact ⟨(by simp only [F_155, if_neg h1, if_neg h2, if_neg h3]), rfl, rfl⟩
theorem cl_135 : RCT[135]? = some rc_135 := rfl
def F_135_0 (p1 : Int32) (p2 : Int32) (p3 : Int32) (p4 : Int32) (p5 : Int32) (w : Wd) : Int32 := (if (F_153 p1 (kI 0) (kI 19) w) = 0 then (kI 0) else (if (F_153 p2 (kI 0) (kI 5) w) = 0 then (kI 0) else (if (F_153 p3 (kI 0) (kI 99) w) = 0 then (kI 0) else (if (F_153 p4 (kI 0) (kI 23) w) = 0 then (kI 0) else (if (F_153 p5 (kI 0) (kI 9) w) = 0 then (kI 0) else (kI 1))))))
def G_135_0 (p1 : Int32) (p2 : Int32) (p3 : Int32) (p4 : Int32) (p5 : Int32) (w : Wd) : Wd := (if (F_153 p1 (kI 0) (kI 19) w) = 0 then w else (if (F_153 p2 (kI 0) (kI 5) w) = 0 then w else (if (F_153 p3 (kI 0) (kI 99) w) = 0 then w else (if (F_153 p4 (kI 0) (kI 23) w) = 0 then w else (if (F_153 p5 (kI 0) (kI 9) w) = 0 then w else (up2 (up2 (up2 (up2 (up2 w 103 p1.toNatClampNeg p2) 104 p1.toNatClampNeg p3) 105 p1.toNatClampNeg p4) 106 p1.toNatClampNeg p5) 102 6 ((w 102 6) ||| ((kI 1) <<< (p1 &&& 31)))))))))
theorem m_135_0 {X : Scr} {d : Nat} (w : Wd) (p1 : Int32) (p2 : Int32) (p3 : Int32) (p4 : Int32) (p5 : Int32) : CV X (d + 2) 135 [.ref 0, .int p1, .int p2, .int p3, .int p4, .int p5] SH w (fun r s1 w1 => r = some (.int (F_135_0 p1 p2 p3 p4 p5 w)) ∧ s1 = SH ∧ w1 = G_135_0 p1 p2 p3 p4 p5 w) := by
  refine CV.of rfl ?_
  refine EV.steps cl_135 3 (q2 := (4, [some (.ref 0), some (.int p1), some (.int p2), some (.int p3), some (.int p4), some (.int p5)], [.int (kI 19), .int (kI 0), .int p1], SH, w)) rfl ?_
  refine EV.call cl_135 rfl rfl rfl (m_153 w p1 (kI 0) (kI 19)) ?_
  rintro _ _ _ ⟨rfl, rfl, rfl⟩
  refine EV.z_eq cl_135 rfl (fun h1 => ?_) (fun h1 => ?_)
  · skip
    refine EV.steps cl_135 1 (q2 := (20, [some (.ref 0), some (.int p1), some (.int p2), some (.int p3), some (.int p4), some (.int p5)], [.int (kI 0)], SH, w)) rfl ?_
    refine EV.ret cl_135 rfl rfl rfl ?_
    exact ⟨(by simp only [F_135_0, if_pos h1]), rfl, (by simp only [G_135_0, if_pos h1])⟩
  · skip
    refine EV.steps cl_135 3 (q2 := (13, [some (.ref 0), some (.int p1), some (.int p2), some (.int p3), some (.int p4), some (.int p5)], [.int (kI 5), .int (kI 0), .int p2], SH, w)) rfl ?_
    refine EV.call cl_135 rfl rfl rfl (m_153 w p2 (kI 0) (kI 5)) ?_
    rintro _ _ _ ⟨rfl, rfl, rfl⟩
    refine EV.z_ne cl_135 rfl (fun h2 => ?_) (fun h2 => ?_)
    · skip
      refine EV.steps cl_135 3 (q2 := (25, [some (.ref 0), some (.int p1), some (.int p2), some (.int p3), some (.int p4), some (.int p5)], [.int (kI 99), .int (kI 0), .int p3], SH, w)) rfl ?_
      refine EV.call cl_135 rfl rfl rfl (m_153 w p3 (kI 0) (kI 99)) ?_
      rintro _ _ _ ⟨rfl, rfl, rfl⟩
      refine EV.z_eq cl_135 rfl (fun h3 => ?_) (fun h3 => ?_)
      · skip
        refine EV.steps cl_135 1 (q2 := (54, [some (.ref 0), some (.int p1), some (.int p2), some (.int p3), some (.int p4), some (.int p5)], [.int (kI 0)], SH, w)) rfl ?_
        refine EV.ret cl_135 rfl rfl rfl ?_
        exact ⟨(by simp only [F_135_0, if_neg h1, if_pos h2, if_pos h3]), rfl, (by simp only [G_135_0, if_neg h1, if_pos h2, if_pos h3])⟩
      · skip
        refine EV.steps cl_135 3 (q2 := (36, [some (.ref 0), some (.int p1), some (.int p2), some (.int p3), some (.int p4), some (.int p5)], [.int (kI 23), .int (kI 0), .int p4], SH, w)) rfl ?_
        refine EV.call cl_135 rfl rfl rfl (m_153 w p4 (kI 0) (kI 23)) ?_
        rintro _ _ _ ⟨rfl, rfl, rfl⟩
        refine EV.z_eq cl_135 rfl (fun h4 => ?_) (fun h4 => ?_)
        · skip
          refine EV.steps cl_135 1 (q2 := (54, [some (.ref 0), some (.int p1), some (.int p2), some (.int p3), some (.int p4), some (.int p5)], [.int (kI 0)], SH, w)) rfl ?_
          refine EV.ret cl_135 rfl rfl rfl ?_
          exact ⟨(by simp only [F_135_0, if_neg h1, if_pos h2, if_neg h3, if_pos h4]), rfl, (by simp only [G_135_0, if_neg h1, if_pos h2, if_neg h3, if_pos h4])⟩
        · skip
          refine EV.steps cl_135 3 (q2 := (47, [some (.ref 0), some (.int p1), some (.int p2), some (.int p3), some (.int p4), some (.int p5)], [.int (kI 9), .int (kI 0), .int p5], SH, w)) rfl ?_
          refine EV.call cl_135 rfl rfl rfl (m_153 w p5 (kI 0) (kI 9)) ?_
          rintro _ _ _ ⟨rfl, rfl, rfl⟩
          refine EV.z_ne cl_135 rfl (fun h5 => ?_) (fun h5 => ?_)
          · skip
            refine EV.steps cl_135 5 (q2 := (64, [some (.ref 0), some (.int p1), some (.int p2), some (.int p3), some (.int p4), some (.int p5)], [.int p2, .int p1, .ref 103], SH, w)) rfl ?_
            refine EV.iastore cl_135 rfl rfl (by decide) (by first | rfl | exact ix_153 (by assumption) (by decide) | exact ix2_153 (by assumption) (by assumption) (by decide) (by decide) (by decide) (by decide) | exact ix_157 (by assumption) (by decide)) ?_
            refine EV.steps cl_135 5 (q2 := (74, [some (.ref 0), some (.int p1), some (.int p2), some (.int p3), some (.int p4), some (.int p5)], [.int p3, .int p1, .ref 104], SH, (up2 w 103 p1.toNatClampNeg p2))) rfl ?_
            refine EV.iastore cl_135 rfl rfl (by decide) (by first | rfl | exact ix_153 (by assumption) (by decide) | exact ix2_153 (by assumption) (by assumption) (by decide) (by decide) (by decide) (by decide) | exact ix_157 (by assumption) (by decide)) ?_
            refine EV.steps cl_135 5 (q2 := (85, [some (.ref 0), some (.int p1), some (.int p2), some (.int p3), some (.int p4), some (.int p5)], [.int p4, .int p1, .ref 105], SH, (up2 (up2 w 103 p1.toNatClampNeg p2) 104 p1.toNatClampNeg p3))) rfl ?_
            refine EV.iastore cl_135 rfl rfl (by decide) (by first | rfl | exact ix_153 (by assumption) (by decide) | exact ix2_153 (by assumption) (by assumption) (by decide) (by decide) (by decide) (by decide) | exact ix_157 (by assumption) (by decide)) ?_
            refine EV.steps cl_135 5 (q2 := (96, [some (.ref 0), some (.int p1), some (.int p2), some (.int p3), some (.int p4), some (.int p5)], [.int p5, .int p1, .ref 106], SH, (up2 (up2 (up2 w 103 p1.toNatClampNeg p2) 104 p1.toNatClampNeg p3) 105 p1.toNatClampNeg p4))) rfl ?_
            refine EV.iastore cl_135 rfl rfl (by decide) (by first | rfl | exact ix_153 (by assumption) (by decide) | exact ix2_153 (by assumption) (by assumption) (by decide) (by decide) (by decide) (by decide) | exact ix_157 (by assumption) (by decide)) ?_
            refine EV.steps cl_135 10 (q2 := (113, [some (.ref 0), some (.int p1), some (.int p2), some (.int p3), some (.int p4), some (.int p5)], [.int (kI 1)], SH, (up2 (up2 (up2 (up2 (up2 w 103 p1.toNatClampNeg p2) 104 p1.toNatClampNeg p3) 105 p1.toNatClampNeg p4) 106 p1.toNatClampNeg p5) 102 6 ((w 102 6) ||| ((kI 1) <<< (p1 &&& 31)))))) rfl ?_
            refine EV.ret cl_135 rfl rfl rfl ?_
            exact ⟨(by simp only [F_135_0, if_neg h1, if_pos h2, if_neg h3, if_neg h4, if_pos h5]), rfl, (by simp only [G_135_0, if_neg h1, if_pos h2, if_neg h3, if_neg h4, if_pos h5])⟩
          · skip
            refine EV.steps cl_135 1 (q2 := (54, [some (.ref 0), some (.int p1), some (.int p2), some (.int p3), some (.int p4), some (.int p5)], [.int (kI 0)], SH, w)) rfl ?_
            refine EV.ret cl_135 rfl rfl rfl ?_
            exact ⟨(by simp only [F_135_0, if_neg h1, if_pos h2, if_neg h3, if_neg h4, if_neg h5]), rfl, (by simp only [G_135_0, if_neg h1, if_pos h2, if_neg h3, if_neg h4, if_neg h5])⟩
    · skip
      refine EV.steps cl_135 1 (q2 := (20, [some (.ref 0), some (.int p1), some (.int p2), some (.int p3), some (.int p4), some (.int p5)], [.int (kI 0)], SH, w)) rfl ?_
      refine EV.ret cl_135 rfl rfl rfl ?_
      exact ⟨(by simp only [F_135_0, if_neg h1, if_neg h2]), rfl, (by simp only [G_135_0, if_neg h1, if_neg h2])⟩
theorem cl_141 : RCT[141]? = some rc_141 := rfl
def F_141_0 (p1 : Int32) (p2 : Int32) (w : Wd) : Int32 := (if (F_52_3 p1 w) = 0 then (kI (-1)) else (if (F_153 p2 (kI 0) (kI 7) w) = 0 then (kI (-1)) else (F_13_7 p1 p2 w)))
theorem m_141_0 {X : Scr} {d : Nat} (w : Wd) (p1 : Int32) (p2 : Int32) : CV X (d + 3) 141 [.ref 0, .int p1, .int p2] SH w (fun r s1 w1 => r = some (.int (F_141_0 p1 p2 w)) ∧ s1 = SH ∧ w1 = w) := by
  refine CV.of rfl ?_
  refine EV.steps cl_141 3 (q2 := (5, [some (.ref 0), some (.int p1), some (.int p2)], [.int p1, .ref 3], SH, w)) rfl ?_
  refine EV.call cl_141 rfl rfl rfl (m_52_3 w p1) ?_
  rintro _ _ _ ⟨rfl, rfl, rfl⟩
  refine EV.z_eq cl_141 rfl (fun h1 => ?_) (fun h1 => ?_)
  · skip
    refine EV.steps cl_141 1 (q2 := (22, [some (.ref 0), some (.int p1), some (.int p2)], [.int (kI (-1))], SH, w)) rfl ?_
    refine EV.ret cl_141 rfl rfl rfl ?_
    exact ⟨(by simp only [F_141_0, if_pos h1]), rfl, rfl⟩
  · skip
    refine EV.steps cl_141 3 (q2 := (15, [some (.ref 0), some (.int p1), some (.int p2)], [.int (kI 7), .int (kI 0), .int p2], SH, w)) rfl ?_
    refine EV.call cl_141 rfl rfl rfl (m_153 w p2 (kI 0) (kI 7)) ?_
    rintro _ _ _ ⟨rfl, rfl, rfl⟩
    refine EV.z_ne cl_141 rfl (fun h2 => ?_) (fun h2 => ?_)
    · skip
      refine EV.steps cl_141 4 (q2 := (29, [some (.ref 0), some (.int p1), some (.int p2)], [.int p2, .int p1, .ref 7], SH, w)) rfl ?_
      refine EV.call cl_141 rfl rfl rfl (m_13_7 w p1 p2) ?_
      rintro _ _ _ ⟨rfl, rfl, rfl⟩
      refine EV.ret cl_141 rfl rfl rfl ?_
      exact ⟨(by simp only [F_141_0, if_neg h1, if_pos h2]), rfl, rfl⟩
    · skip
      refine EV.steps cl_141 1 (q2 := (22, [some (.ref 0), some (.int p1), some (.int p2)], [.int (kI (-1))], SH, w)) rfl ?_
      refine EV.ret cl_141 rfl rfl rfl ?_
      exact ⟨(by simp only [F_141_0, if_neg h1, if_neg h2]), rfl, rfl⟩
theorem cl_146 : RCT[146]? = some rc_146 := rfl
def F_146_0 (p1 : Int32) (w : Wd) : Int32 := (if (F_153 p1 (kI 0) (kI 65535) w) = 0 then (kI 0) else (kI 1))
def G_146_0 (p1 : Int32) (w : Wd) : Wd := (if (F_153 p1 (kI 0) (kI 65535) w) = 0 then w else (up2 w 7 8 p1))
theorem m_146_0 {X : Scr} {d : Nat} (w : Wd) (p1 : Int32) : CV X (d + 2) 146 [.ref 0, .int p1] SH w (fun r s1 w1 => r = some (.int (F_146_0 p1 w)) ∧ s1 = SH ∧ w1 = G_146_0 p1 w) := by
  refine CV.of rfl ?_
  refine EV.steps cl_146 3 (q2 := (5, [some (.ref 0), some (.int p1)], [.int (kI 65535), .int (kI 0), .int p1], SH, w)) rfl ?_
  refine EV.call cl_146 rfl rfl rfl (m_153 w p1 (kI 0) (kI 65535)) ?_
  rintro _ _ _ ⟨rfl, rfl, rfl⟩
  refine EV.z_ne cl_146 rfl (fun h1 => ?_) (fun h1 => ?_)
  · skip
    refine EV.steps cl_146 5 (q2 := (22, [some (.ref 0), some (.int p1)], [.int (kI 1)], SH, (up2 w 7 8 p1))) rfl ?_
    refine EV.ret cl_146 rfl rfl rfl ?_
    exact ⟨(by simp only [F_146_0, if_pos h1]), rfl, (by simp only [G_146_0, if_pos h1])⟩
  · skip
    refine EV.steps cl_146 1 (q2 := (12, [some (.ref 0), some (.int p1)], [.int (kI 0)], SH, w)) rfl ?_
    refine EV.ret cl_146 rfl rfl rfl ?_
    exact ⟨(by simp only [F_146_0, if_neg h1]), rfl, (by simp only [G_146_0, if_neg h1])⟩
theorem cl_157 : RCT[157]? = some rc_157 := rfl
def F_157 (p1 : Int32) (p2 : Int32) (p3 : Int32) (w : Wd) : Int32 := (if p1 < p2 then (kI 0) else (if p3 < p1 then (kI 0) else (kI 1)))
theorem m_157 {X : Scr} {d : Nat} (w : Wd) (p1 : Int32) (p2 : Int32) (p3 : Int32) : CV X (d + 1) 157 [.int p1, .int p2, .int p3] SH w (fun r s1 w1 => r = some (.int (F_157 p1 p2 p3 w)) ∧ s1 = SH ∧ w1 = w) := by
  refine CV.of rfl ?_
  refine EV.steps cl_157 2 (q2 := (2, [some (.int p1), some (.int p2), some (.int p3)], [.int p2, .int p1], SH, w)) rfl ?_
  refine EV.i_lt cl_157 rfl (fun h1 => ?_) (fun h1 => ?_)
  · skip
    refine EV.steps cl_157 1 (q2 := (15, [some (.int p1), some (.int p2), some (.int p3)], [.int (kI 0)], SH, w)) rfl ?_
    refine EV.ret cl_157 rfl rfl rfl ?_
    exact ⟨(by simp only [F_157, if_pos h1]), rfl, rfl⟩
  · skip
    refine EV.steps cl_157 2 (q2 := (7, [some (.int p1), some (.int p2), some (.int p3)], [.int p3, .int p1], SH, w)) rfl ?_
    refine EV.i_gt cl_157 rfl (fun h2 => ?_) (fun h2 => ?_)
    · skip
      refine EV.steps cl_157 1 (q2 := (15, [some (.int p1), some (.int p2), some (.int p3)], [.int (kI 0)], SH, w)) rfl ?_
      refine EV.ret cl_157 rfl rfl rfl ?_
      exact ⟨(by simp only [F_157, if_neg h1, if_pos h2]), rfl, rfl⟩
    · skip
      refine EV.steps cl_157 2 (q2 := (15, [some (.int p1), some (.int p2), some (.int p3)], [.int (kI 1)], SH, w)) rfl ?_
      refine EV.ret cl_157 rfl rfl rfl ?_
      exact ⟨(by simp only [F_157, if_neg h1, if_neg h2]), rfl, rfl⟩
theorem wi_157 {p : Int32} {a b : Int} {w : Wd} (h : ¬ F_157 p (kI a) (kI b) w = 0) (ha : -1000000 ≤ a ∧ a ≤ 1000000) (hb : -1000000 ≤ b ∧ b ≤ 1000000) : a ≤ p.toInt ∧ p.toInt ≤ b := by
  unfold F_157 at h
  by_cases h1 : p < kI a
  · rw [if_pos h1] at h; exact absurd rfl h
  · rw [if_neg h1] at h
    by_cases h2 : kI b < p
    · rw [if_pos h2] at h; exact absurd rfl h
    · exact ⟨(le_kI ha.1 ha.2).1.mp (Int32.not_lt.mp h1), (le_kI hb.1 hb.2).2.mp (Int32.not_lt.mp h2)⟩
theorem ix_157 {p : Int32} {b : Int} {w : Wd} {n : Nat} (h : ¬ F_157 p (kI 0) (kI b) w = 0) (hb : 0 ≤ b ∧ b ≤ 1000000 ∧ b < n) : inB p n = true := by
  have h1 := wi_157 h (by omega) (by omega)
  exact inB_of h1.1 (by omega)
theorem ix2_157 {p q : Int32} {a b c : Int} {w w2 : Wd} {n : Nat} (h : ¬ F_157 p (kI 0) (kI a) w = 0) (h2 : ¬ F_157 q (kI 0) (kI b) w2 = 0) (ha : 0 ≤ a ∧ a ≤ 1000) (hb : 0 ≤ b ∧ b ≤ 1000) (hc : 0 ≤ c ∧ c ≤ 1000) (hn : a * c + b < n) : inB (p * kI c + q) n = true := by
  have h3 := wi_157 h (by omega) (by omega)
  have h4 := wi_157 h2 (by omega) (by omega)
  have h5 := toInt_lin (p := p) (q := q) (c := c) (by omega) (by omega) hc
  have h6 : p.toInt * c ≤ a * c := Int.mul_le_mul_of_nonneg_right h3.2 hc.1
  have h7 : 0 ≤ p.toInt * c := Int.mul_nonneg h3.1 hc.1
  exact inB_of (by omega) (by omega)
theorem cl_158 : RCT[158]? = some rc_158 := rfl
def F_158 (p1 : Int32) (p2 : Int32) (w : Wd) : Int32 := (if p2 ≤ p1 then p2 else p1)
theorem m_158 {X : Scr} {d : Nat} (w : Wd) (p1 : Int32) (p2 : Int32) : CV X (d + 1) 158 [.int p1, .int p2] SH w (fun r s1 w1 => r = some (.int (F_158 p1 p2 w)) ∧ s1 = SH ∧ w1 = w) := by
  refine CV.of rfl ?_
  refine EV.steps cl_158 2 (q2 := (2, [some (.int p1), some (.int p2)], [.int p2, .int p1], SH, w)) rfl ?_
  refine EV.i_ge cl_158 rfl (fun h1 => ?_) (fun h1 => ?_)
  · skip
    refine EV.steps cl_158 1 (q2 := (10, [some (.int p1), some (.int p2)], [.int p2], SH, w)) rfl ?_
    refine EV.ret cl_158 rfl rfl rfl ?_
    exact ⟨(by simp only [F_158, if_pos h1]), rfl, rfl⟩
  · skip
    refine EV.steps cl_158 2 (q2 := (10, [some (.int p1), some (.int p2)], [.int p1], SH, w)) rfl ?_
    refine EV.ret cl_158 rfl rfl rfl ?_
    exact ⟨(by simp only [F_158, if_neg h1]), rfl, rfl⟩
theorem cl_159 : RCT[159]? = some rc_159 := rfl
def F_159 (p1 : Int32) (p2 : Int32) (w : Wd) : Int32 := (if p1 ≤ p2 then p2 else p1)
theorem m_159 {X : Scr} {d : Nat} (w : Wd) (p1 : Int32) (p2 : Int32) : CV X (d + 1) 159 [.int p1, .int p2] SH w (fun r s1 w1 => r = some (.int (F_159 p1 p2 w)) ∧ s1 = SH ∧ w1 = w) := by
  refine CV.of rfl ?_
  refine EV.steps cl_159 2 (q2 := (2, [some (.int p1), some (.int p2)], [.int p2, .int p1], SH, w)) rfl ?_
  refine EV.i_le cl_159 rfl (fun h1 => ?_) (fun h1 => ?_)
  · skip
    refine EV.steps cl_159 1 (q2 := (10, [some (.int p1), some (.int p2)], [.int p2], SH, w)) rfl ?_
    refine EV.ret cl_159 rfl rfl rfl ?_
    exact ⟨(by simp only [F_159, if_pos h1]), rfl, rfl⟩
  · skip
    refine EV.steps cl_159 2 (q2 := (10, [some (.int p1), some (.int p2)], [.int p1], SH, w)) rfl ?_
    refine EV.ret cl_159 rfl rfl rfl ?_
    exact ⟨(by simp only [F_159, if_neg h1]), rfl, rfl⟩
theorem cl_160 : RCT[160]? = some rc_160 := rfl
def F_160 (p1 : Int32) (w : Wd) : Int32 := (if 0 ≤ p1 then p1 else (-p1))
theorem m_160 {X : Scr} {d : Nat} (w : Wd) (p1 : Int32) : CV X (d + 1) 160 [.int p1] SH w (fun r s1 w1 => r = some (.int (F_160 p1 w)) ∧ s1 = SH ∧ w1 = w) := by
  refine CV.of rfl ?_
  refine EV.steps cl_160 1 (q2 := (1, [some (.int p1)], [.int p1], SH, w)) rfl ?_
  refine EV.z_ge cl_160 rfl (fun h1 => ?_) (fun h1 => ?_)
  · skip
    refine EV.steps cl_160 1 (q2 := (10, [some (.int p1)], [.int p1], SH, w)) rfl ?_
    refine EV.ret cl_160 rfl rfl rfl ?_
    exact ⟨(by simp only [F_160, if_pos h1]), rfl, rfl⟩
  · skip
    refine EV.steps cl_160 3 (q2 := (10, [some (.int p1)], [.int (-p1)], SH, w)) rfl ?_
    refine EV.ret cl_160 rfl rfl rfl ?_
    exact ⟨(by simp only [F_160, if_neg h1]), rfl, rfl⟩
theorem cl_161 : RCT[161]? = some rc_161 := rfl
def F_161 (p1 : Int32) (p2 : Int32) (w : Wd) : Int32 := (if ((p1 >>> (p2 &&& 31)) &&& (kI 1)) = (kI 1) then (kI 1) else (kI 0))
theorem m_161 {X : Scr} {d : Nat} (w : Wd) (p1 : Int32) (p2 : Int32) : CV X (d + 1) 161 [.int p1, .int p2] SH w (fun r s1 w1 => r = some (.int (F_161 p1 p2 w)) ∧ s1 = SH ∧ w1 = w) := by
  refine CV.of rfl ?_
  refine EV.steps cl_161 6 (q2 := (6, [some (.int p1), some (.int p2)], [.int (kI 1), .int ((p1 >>> (p2 &&& 31)) &&& (kI 1))], SH, w)) rfl ?_
  refine EV.i_ne cl_161 rfl (fun h1 => ?_) (fun h1 => ?_)
  · skip
    refine EV.steps cl_161 1 (q2 := (14, [some (.int p1), some (.int p2)], [.int (kI 0)], SH, w)) rfl ?_
    refine EV.ret cl_161 rfl rfl rfl ?_
    exact ⟨(by simp only [F_161, if_pos h1]), rfl, rfl⟩
  · skip
    refine EV.steps cl_161 2 (q2 := (14, [some (.int p1), some (.int p2)], [.int (kI 1)], SH, w)) rfl ?_
    refine EV.ret cl_161 rfl rfl rfl ?_
    exact ⟨(by simp only [F_161, if_neg h1]), rfl, rfl⟩
theorem cl_164 : RCT[164]? = some rc_164 := rfl
def F_164_110 (p1 : Int32) (w : Wd) : Int32 := (if (F_157 p1 (kI 0) (kI 5) w) = 0 then (kI 0) else (if (F_161 (w 110 6) p1 w) = 0 then (kI 0) else (kI 1)))
theorem m_164_110 {X : Scr} {d : Nat} (w : Wd) (p1 : Int32) : CV X (d + 2) 164 [.ref 110, .int p1] SH w (fun r s1 w1 => r = some (.int (F_164_110 p1 w)) ∧ s1 = SH ∧ w1 = w) := by
  refine CV.of rfl ?_
  refine EV.steps cl_164 3 (q2 := (3, [some (.ref 110), some (.int p1)], [.int (kI 5), .int (kI 0), .int p1], SH, w)) rfl ?_
  refine EV.call cl_164 rfl rfl rfl (m_157 w p1 (kI 0) (kI 5)) ?_
  rintro _ _ _ ⟨rfl, rfl, rfl⟩
  refine EV.z_eq cl_164 rfl (fun h1 => ?_) (fun h1 => ?_)
  · skip
    refine EV.steps cl_164 1 (q2 := (25, [some (.ref 110), some (.int p1)], [.int (kI 0)], SH, w)) rfl ?_
    refine EV.ret cl_164 rfl rfl rfl ?_
    exact ⟨(by simp only [F_164_110, if_pos h1]), rfl, rfl⟩
  · skip
    refine EV.steps cl_164 3 (q2 := (14, [some (.ref 110), some (.int p1)], [.int p1, .int (w 110 6)], SH, w)) rfl ?_
    refine EV.call cl_164 rfl rfl rfl (m_161 w (w 110 6) p1) ?_
    rintro _ _ _ ⟨rfl, rfl, rfl⟩
    refine EV.z_eq cl_164 rfl (fun h2 => ?_) (fun h2 => ?_)
    · skip
      refine EV.steps cl_164 1 (q2 := (25, [some (.ref 110), some (.int p1)], [.int (kI 0)], SH, w)) rfl ?_
      refine EV.ret cl_164 rfl rfl rfl ?_
      exact ⟨(by simp only [F_164_110, if_neg h1, if_pos h2]), rfl, rfl⟩
    · skip
      refine EV.steps cl_164 2 (q2 := (25, [some (.ref 110), some (.int p1)], [.int (kI 1)], SH, w)) rfl ?_
      refine EV.ret cl_164 rfl rfl rfl ?_
      exact ⟨(by simp only [F_164_110, if_neg h1, if_neg h2]), rfl, rfl⟩
theorem cl_165 : RCT[165]? = some rc_165 := rfl
def F_165_110 (p1 : Int32) (w : Wd) : Int32 := (if (F_157 p1 (kI 0) (kI 5) w) = 0 then (kI 0) else (if (F_161 (w 110 7) p1 w) = 0 then (kI 0) else (kI 1)))
theorem m_165_110 {X : Scr} {d : Nat} (w : Wd) (p1 : Int32) : CV X (d + 2) 165 [.ref 110, .int p1] SH w (fun r s1 w1 => r = some (.int (F_165_110 p1 w)) ∧ s1 = SH ∧ w1 = w) := by
  refine CV.of rfl ?_
  refine EV.steps cl_165 3 (q2 := (3, [some (.ref 110), some (.int p1)], [.int (kI 5), .int (kI 0), .int p1], SH, w)) rfl ?_
  refine EV.call cl_165 rfl rfl rfl (m_157 w p1 (kI 0) (kI 5)) ?_
  rintro _ _ _ ⟨rfl, rfl, rfl⟩
  refine EV.z_eq cl_165 rfl (fun h1 => ?_) (fun h1 => ?_)
  · skip
    refine EV.steps cl_165 1 (q2 := (25, [some (.ref 110), some (.int p1)], [.int (kI 0)], SH, w)) rfl ?_
    refine EV.ret cl_165 rfl rfl rfl ?_
    exact ⟨(by simp only [F_165_110, if_pos h1]), rfl, rfl⟩
  · skip
    refine EV.steps cl_165 3 (q2 := (14, [some (.ref 110), some (.int p1)], [.int p1, .int (w 110 7)], SH, w)) rfl ?_
    refine EV.call cl_165 rfl rfl rfl (m_161 w (w 110 7) p1) ?_
    rintro _ _ _ ⟨rfl, rfl, rfl⟩
    refine EV.z_eq cl_165 rfl (fun h2 => ?_) (fun h2 => ?_)
    · skip
      refine EV.steps cl_165 1 (q2 := (25, [some (.ref 110), some (.int p1)], [.int (kI 0)], SH, w)) rfl ?_
      refine EV.ret cl_165 rfl rfl rfl ?_
      exact ⟨(by simp only [F_165_110, if_neg h1, if_pos h2]), rfl, rfl⟩
    · skip
      refine EV.steps cl_165 2 (q2 := (25, [some (.ref 110), some (.int p1)], [.int (kI 1)], SH, w)) rfl ?_
      refine EV.ret cl_165 rfl rfl rfl ?_
      exact ⟨(by simp only [F_165_110, if_neg h1, if_neg h2]), rfl, rfl⟩
theorem cl_166 : RCT[166]? = some rc_166 := rfl
def F_166_110 (p1 : Int32) (p2 : Int32) (w : Wd) : Int32 := (w 111 (((kI 0) + ((kI 6) * p1)) + p2).toNatClampNeg)
theorem m_166_110 {X : Scr} {d : Nat} (w : Wd) (p1 : Int32) (p2 : Int32) : CV X (d + 1) 166 [.ref 110, .int p1, .int p2] SH w (fun r s1 w1 => r = some (.int (F_166_110 p1 p2 w)) ∧ s1 = SH ∧ w1 = w) := by
  refine CV.of rfl ?_
  refine EV.steps cl_166 9 (q2 := (12, [some (.ref 110), some (.int p1), some (.int p2)], [.int (((kI 0) + ((kI 6) * p1)) + p2), .ref 111], SH, w)) rfl ?_
  refine EV.iaload cl_166 rfl rfl (by decide) (by first | rfl | exact ix_153 (by assumption) (by decide) | exact ix2_153 (by assumption) (by assumption) (by decide) (by decide) (by decide) (by decide) | exact ix_157 (by assumption) (by decide)) ?_
  refine EV.ret cl_166 rfl rfl rfl ?_
  exact ⟨rfl, rfl, rfl⟩
theorem cl_169 : RCT[169]? = some rc_169 := rfl
def F_169_110 (p1 : Int32) (p2 : Int32) (w : Wd) : Int32 := (if (F_157 p1 (kI 0) (kI 5) w) = 0 then (kI 0) else (if (F_157 p2 (kI 0) (kI 9999) w) = 0 then (kI 0) else (kI 1)))
def G_169_110 (p1 : Int32) (p2 : Int32) (w : Wd) : Wd := (if (F_157 p1 (kI 0) (kI 5) w) = 0 then w else (if (F_157 p2 (kI 0) (kI 9999) w) = 0 then w else (up2 (up2 w 110 6 ((w 110 6) ||| ((kI 1) <<< (p1 &&& 31)))) 114 p1.toNatClampNeg p2)))
theorem m_169_110 {X : Scr} {d : Nat} (w : Wd) (p1 : Int32) (p2 : Int32) : CV X (d + 2) 169 [.ref 110, .int p1, .int p2] SH w (fun r s1 w1 => r = some (.int (F_169_110 p1 p2 w)) ∧ s1 = SH ∧ w1 = G_169_110 p1 p2 w) := by
  refine CV.of rfl ?_
  refine EV.steps cl_169 3 (q2 := (3, [some (.ref 110), some (.int p1), some (.int p2)], [.int (kI 5), .int (kI 0), .int p1], SH, w)) rfl ?_
  refine EV.call cl_169 rfl rfl rfl (m_157 w p1 (kI 0) (kI 5)) ?_
  rintro _ _ _ ⟨rfl, rfl, rfl⟩
  refine EV.z_eq cl_169 rfl (fun h1 => ?_) (fun h1 => ?_)
  · skip
    refine EV.steps cl_169 1 (q2 := (21, [some (.ref 110), some (.int p1), some (.int p2)], [.int (kI 0)], SH, w)) rfl ?_
    refine EV.ret cl_169 rfl rfl rfl ?_
    exact ⟨(by simp only [F_169_110, if_pos h1]), rfl, (by simp only [G_169_110, if_pos h1])⟩
  · skip
    refine EV.steps cl_169 3 (q2 := (14, [some (.ref 110), some (.int p1), some (.int p2)], [.int (kI 9999), .int (kI 0), .int p2], SH, w)) rfl ?_
    refine EV.call cl_169 rfl rfl rfl (m_157 w p2 (kI 0) (kI 9999)) ?_
    rintro _ _ _ ⟨rfl, rfl, rfl⟩
    refine EV.z_ne cl_169 rfl (fun h2 => ?_) (fun h2 => ?_)
    · skip
      refine EV.steps cl_169 12 (q2 := (40, [some (.ref 110), some (.int p1), some (.int p2)], [.int p2, .int p1, .ref 114], SH, (up2 w 110 6 ((w 110 6) ||| ((kI 1) <<< (p1 &&& 31)))))) rfl ?_
      refine EV.iastore cl_169 rfl rfl (by decide) (by first | rfl | exact ix_153 (by assumption) (by decide) | exact ix2_153 (by assumption) (by assumption) (by decide) (by decide) (by decide) (by decide) | exact ix_157 (by assumption) (by decide)) ?_
      refine EV.steps cl_169 1 (q2 := (42, [some (.ref 110), some (.int p1), some (.int p2)], [.int (kI 1)], SH, (up2 (up2 w 110 6 ((w 110 6) ||| ((kI 1) <<< (p1 &&& 31)))) 114 p1.toNatClampNeg p2))) rfl ?_
      refine EV.ret cl_169 rfl rfl rfl ?_
      exact ⟨(by simp only [F_169_110, if_neg h1, if_pos h2]), rfl, (by simp only [G_169_110, if_neg h1, if_pos h2])⟩
    · skip
      refine EV.steps cl_169 1 (q2 := (21, [some (.ref 110), some (.int p1), some (.int p2)], [.int (kI 0)], SH, w)) rfl ?_
      refine EV.ret cl_169 rfl rfl rfl ?_
      exact ⟨(by simp only [F_169_110, if_neg h1, if_neg h2]), rfl, (by simp only [G_169_110, if_neg h1, if_neg h2])⟩
theorem cl_170 : RCT[170]? = some rc_170 := rfl
def F_170_110 (p1 : Int32) (p2 : Int32) (p3 : Int32) (w : Wd) : Int32 := (if (F_164_110 p1 w) = 0 then (kI 0) else (if (F_164_110 p2 w) = 0 then (kI 0) else (if p1 = p2 then (kI 0) else (kI 1))))
def G_170_110 (p1 : Int32) (p2 : Int32) (p3 : Int32) (w : Wd) : Wd := (if (F_164_110 p1 w) = 0 then w else (if (F_164_110 p2 w) = 0 then w else (if p1 = p2 then w else (if p3 = 0 then (if p3 = 0 then (up2 (up2 w 115 p1.toNatClampNeg ((w 115 p1.toNatClampNeg) &&& (((kI 1) <<< (p2 &&& 31)) ^^^ (kI (-1))))) 115 p2.toNatClampNeg (((up2 w 115 p1.toNatClampNeg ((w 115 p1.toNatClampNeg) &&& (((kI 1) <<< (p2 &&& 31)) ^^^ (kI (-1))))) 115 p2.toNatClampNeg) &&& (((kI 1) <<< (p1 &&& 31)) ^^^ (kI (-1))))) else (up2 (up2 w 115 p1.toNatClampNeg ((w 115 p1.toNatClampNeg) &&& (((kI 1) <<< (p2 &&& 31)) ^^^ (kI (-1))))) 115 p2.toNatClampNeg (((up2 w 115 p1.toNatClampNeg ((w 115 p1.toNatClampNeg) &&& (((kI 1) <<< (p2 &&& 31)) ^^^ (kI (-1))))) 115 p2.toNatClampNeg) ||| ((kI 1) <<< (p1 &&& 31))))) else (if p3 = 0 then (up2 (up2 w 115 p1.toNatClampNeg ((w 115 p1.toNatClampNeg) ||| ((kI 1) <<< (p2 &&& 31)))) 115 p2.toNatClampNeg (((up2 w 115 p1.toNatClampNeg ((w 115 p1.toNatClampNeg) ||| ((kI 1) <<< (p2 &&& 31)))) 115 p2.toNatClampNeg) &&& (((kI 1) <<< (p1 &&& 31)) ^^^ (kI (-1))))) else (up2 (up2 w 115 p1.toNatClampNeg ((w 115 p1.toNatClampNeg) ||| ((kI 1) <<< (p2 &&& 31)))) 115 p2.toNatClampNeg (((up2 w 115 p1.toNatClampNeg ((w 115 p1.toNatClampNeg) ||| ((kI 1) <<< (p2 &&& 31)))) 115 p2.toNatClampNeg) ||| ((kI 1) <<< (p1 &&& 31)))))))))
theorem m_170_110 {X : Scr} {d : Nat} (w : Wd) (p1 : Int32) (p2 : Int32) (p3 : Int32) : CV X (d + 3) 170 [.ref 110, .int p1, .int p2, .int p3] SH w (fun r s1 w1 => r = some (.int (F_170_110 p1 p2 p3 w)) ∧ s1 = SH ∧ w1 = G_170_110 p1 p2 p3 w) := by
  refine CV.of rfl ?_
  refine EV.steps cl_170 2 (q2 := (2, [some (.ref 110), some (.int p1), some (.int p2), some (.int p3)], [.int p1, .ref 110], SH, w)) rfl ?_
  refine EV.call cl_170 rfl rfl rfl (m_164_110 w p1) ?_
  rintro _ _ _ ⟨rfl, rfl, rfl⟩
  refine EV.z_eq cl_170 rfl (fun h1 => ?_) (fun h1 => ?_)
  · skip
    refine EV.steps cl_170 1 (q2 := (22, [some (.ref 110), some (.int p1), some (.int p2), some (.int p3)], [.int (kI 0)], SH, w)) rfl ?_
    refine EV.ret cl_170 rfl rfl rfl ?_
    exact ⟨(by simp only [F_170_110, if_pos h1]), rfl, (by simp only [G_170_110, if_pos h1])⟩
  · skip
    refine EV.steps cl_170 2 (q2 := (10, [some (.ref 110), some (.int p1), some (.int p2), some (.int p3)], [.int p2, .ref 110], SH, w)) rfl ?_
    refine EV.call cl_170 rfl rfl rfl (m_164_110 w p2) ?_
    rintro _ _ _ ⟨rfl, rfl, rfl⟩
    refine EV.z_eq cl_170 rfl (fun h2 => ?_) (fun h2 => ?_)
    · skip
      refine EV.steps cl_170 1 (q2 := (22, [some (.ref 110), some (.int p1), some (.int p2), some (.int p3)], [.int (kI 0)], SH, w)) rfl ?_
      refine EV.ret cl_170 rfl rfl rfl ?_
      exact ⟨(by simp only [F_170_110, if_neg h1, if_pos h2]), rfl, (by simp only [G_170_110, if_neg h1, if_pos h2])⟩
    · skip
      refine EV.steps cl_170 2 (q2 := (18, [some (.ref 110), some (.int p1), some (.int p2), some (.int p3)], [.int p2, .int p1], SH, w)) rfl ?_
      refine EV.i_ne cl_170 rfl (fun h3 => ?_) (fun h3 => ?_)
      · skip
        refine EV.steps cl_170 4 (q2 := (29, [some (.ref 110), some (.int p1), some (.int p2), some (.int p3)], [.int p3, .int p1, .ref 115], SH, w)) rfl ?_
        refine EV.z_eq cl_170 rfl (fun h4 => ?_) (fun h4 => ?_)
        · skip
          refine EV.steps cl_170 3 (q2 := (50, [some (.ref 110), some (.int p1), some (.int p2), some (.int p3)], [.int p1, .ref 115, .int p1, .ref 115], SH, w)) rfl ?_
          refine EV.iaload cl_170 rfl rfl (by decide) (by first | rfl | exact ix_153 (by assumption) (by decide) | exact ix2_153 (by assumption) (by assumption) (by decide) (by decide) (by decide) (by decide) | exact ix_157 (by assumption) (by decide)) ?_
          refine EV.steps cl_170 6 (q2 := (57, [some (.ref 110), some (.int p1), some (.int p2), some (.int p3)], [.int ((w 115 p1.toNatClampNeg) &&& (((kI 1) <<< (p2 &&& 31)) ^^^ (kI (-1)))), .int p1, .ref 115], SH, w)) rfl ?_
          refine EV.iastore cl_170 rfl rfl (by decide) (by first | rfl | exact ix_153 (by assumption) (by decide) | exact ix2_153 (by assumption) (by assumption) (by decide) (by decide) (by decide) (by decide) | exact ix_157 (by assumption) (by decide)) ?_
          refine EV.steps cl_170 4 (q2 := (64, [some (.ref 110), some (.int p1), some (.int p2), some (.int p3)], [.int p3, .int p2, .ref 115], SH, (up2 w 115 p1.toNatClampNeg ((w 115 p1.toNatClampNeg) &&& (((kI 1) <<< (p2 &&& 31)) ^^^ (kI (-1))))))) rfl ?_
          refine EV.z_eq cl_170 rfl (fun h5 => ?_) (fun h5 => ?_)
          · skip
            refine EV.steps cl_170 3 (q2 := (85, [some (.ref 110), some (.int p1), some (.int p2), some (.int p3)], [.int p2, .ref 115, .int p2, .ref 115], SH, (up2 w 115 p1.toNatClampNeg ((w 115 p1.toNatClampNeg) &&& (((kI 1) <<< (p2 &&& 31)) ^^^ (kI (-1))))))) rfl ?_
            refine EV.iaload cl_170 rfl rfl (by decide) (by first | rfl | exact ix_153 (by assumption) (by decide) | exact ix2_153 (by assumption) (by assumption) (by decide) (by decide) (by decide) (by decide) | exact ix_157 (by assumption) (by decide)) ?_
            refine EV.steps cl_170 6 (q2 := (92, [some (.ref 110), some (.int p1), some (.int p2), some (.int p3)], [.int (((up2 w 115 p1.toNatClampNeg ((w 115 p1.toNatClampNeg) &&& (((kI 1) <<< (p2 &&& 31)) ^^^ (kI (-1))))) 115 p2.toNatClampNeg) &&& (((kI 1) <<< (p1 &&& 31)) ^^^ (kI (-1)))), .int p2, .ref 115], SH, (up2 w 115 p1.toNatClampNeg ((w 115 p1.toNatClampNeg) &&& (((kI 1) <<< (p2 &&& 31)) ^^^ (kI (-1))))))) rfl ?_
            refine EV.iastore cl_170 rfl rfl (by decide) (by first | rfl | exact ix_153 (by assumption) (by decide) | exact ix2_153 (by assumption) (by assumption) (by decide) (by decide) (by decide) (by decide) | exact ix_157 (by assumption) (by decide)) ?_
            refine EV.steps cl_170 1 (q2 := (94, [some (.ref 110), some (.int p1), some (.int p2), some (.int p3)], [.int (kI 1)], SH, (up2 (up2 w 115 p1.toNatClampNeg ((w 115 p1.toNatClampNeg) &&& (((kI 1) <<< (p2 &&& 31)) ^^^ (kI (-1))))) 115 p2.toNatClampNeg (((up2 w 115 p1.toNatClampNeg ((w 115 p1.toNatClampNeg) &&& (((kI 1) <<< (p2 &&& 31)) ^^^ (kI (-1))))) 115 p2.toNatClampNeg) &&& (((kI 1) <<< (p1 &&& 31)) ^^^ (kI (-1))))))) rfl ?_
            refine EV.ret cl_170 rfl rfl rfl ?_
            exact ⟨(by simp only [F_170_110, if_neg h1, if_neg h2, if_pos h3, if_pos h4, if_pos h5]), rfl, (by simp only [G_170_110, if_neg h1, if_neg h2, if_pos h3, if_pos h4, if_pos h5])⟩
          · skip
            refine EV.steps cl_170 3 (q2 := (72, [some (.ref 110), some (.int p1), some (.int p2), some (.int p3)], [.int p2, .ref 115, .int p2, .ref 115], SH, (up2 w 115 p1.toNatClampNeg ((w 115 p1.toNatClampNeg) &&& (((kI 1) <<< (p2 &&& 31)) ^^^ (kI (-1))))))) rfl ?_
            refine EV.iaload cl_170 rfl rfl (by decide) (by first | rfl | exact ix_153 (by assumption) (by decide) | exact ix2_153 (by assumption) (by assumption) (by decide) (by decide) (by decide) (by decide) | exact ix_157 (by assumption) (by decide)) ?_
            refine EV.steps cl_170 5 (q2 := (92, [some (.ref 110), some (.int p1), some (.int p2), some (.int p3)], [.int (((up2 w 115 p1.toNatClampNeg ((w 115 p1.toNatClampNeg) &&& (((kI 1) <<< (p2 &&& 31)) ^^^ (kI (-1))))) 115 p2.toNatClampNeg) ||| ((kI 1) <<< (p1 &&& 31))), .int p2, .ref 115], SH, (up2 w 115 p1.toNatClampNeg ((w 115 p1.toNatClampNeg) &&& (((kI 1) <<< (p2 &&& 31)) ^^^ (kI (-1))))))) rfl ?_
            refine EV.iastore cl_170 rfl rfl (by decide) (by first | rfl | exact ix_153 (by assumption) (by decide) | exact ix2_153 (by assumption) (by assumption) (by decide) (by decide) (by decide) (by decide) | exact ix_157 (by assumption) (by decide)) ?_
            refine EV.steps cl_170 1 (q2 := (94, [some (.ref 110), some (.int p1), some (.int p2), some (.int p3)], [.int (kI 1)], SH, (up2 (up2 w 115 p1.toNatClampNeg ((w 115 p1.toNatClampNeg) &&& (((kI 1) <<< (p2 &&& 31)) ^^^ (kI (-1))))) 115 p2.toNatClampNeg (((up2 w 115 p1.toNatClampNeg ((w 115 p1.toNatClampNeg) &&& (((kI 1) <<< (p2 &&& 31)) ^^^ (kI (-1))))) 115 p2.toNatClampNeg) ||| ((kI 1) <<< (p1 &&& 31)))))) rfl ?_
            refine EV.ret cl_170 rfl rfl rfl ?_
            exact ⟨(by simp only [F_170_110, if_neg h1, if_neg h2, if_pos h3, if_pos h4, if_neg h5]), rfl, (by simp only [G_170_110, if_neg h1, if_neg h2, if_pos h3, if_pos h4, if_neg h5])⟩
        · skip
          refine EV.steps cl_170 3 (q2 := (37, [some (.ref 110), some (.int p1), some (.int p2), some (.int p3)], [.int p1, .ref 115, .int p1, .ref 115], SH, w)) rfl ?_
          refine EV.iaload cl_170 rfl rfl (by decide) (by first | rfl | exact ix_153 (by assumption) (by decide) | exact ix2_153 (by assumption) (by assumption) (by decide) (by decide) (by decide) (by decide) | exact ix_157 (by assumption) (by decide)) ?_
          refine EV.steps cl_170 5 (q2 := (57, [some (.ref 110), some (.int p1), some (.int p2), some (.int p3)], [.int ((w 115 p1.toNatClampNeg) ||| ((kI 1) <<< (p2 &&& 31))), .int p1, .ref 115], SH, w)) rfl ?_
          refine EV.iastore cl_170 rfl rfl (by decide) (by first | rfl | exact ix_153 (by assumption) (by decide) | exact ix2_153 (by assumption) (by assumption) (by decide) (by decide) (by decide) (by decide) | exact ix_157 (by assumption) (by decide)) ?_
          refine EV.steps cl_170 4 (q2 := (64, [some (.ref 110), some (.int p1), some (.int p2), some (.int p3)], [.int p3, .int p2, .ref 115], SH, (up2 w 115 p1.toNatClampNeg ((w 115 p1.toNatClampNeg) ||| ((kI 1) <<< (p2 &&& 31)))))) rfl ?_
          refine EV.z_eq cl_170 rfl (fun h6 => ?_) (fun h6 => ?_)
          · skip
            refine EV.steps cl_170 3 (q2 := (85, [some (.ref 110), some (.int p1), some (.int p2), some (.int p3)], [.int p2, .ref 115, .int p2, .ref 115], SH, (up2 w 115 p1.toNatClampNeg ((w 115 p1.toNatClampNeg) ||| ((kI 1) <<< (p2 &&& 31)))))) rfl ?_
            refine EV.iaload cl_170 rfl rfl (by decide) (by first | rfl | exact ix_153 (by assumption) (by decide) | exact ix2_153 (by assumption) (by assumption) (by decide) (by decide) (by decide) (by decide) | exact ix_157 (by assumption) (by decide)) ?_
            refine EV.steps cl_170 6 (q2 := (92, [some (.ref 110), some (.int p1), some (.int p2), some (.int p3)], [.int (((up2 w 115 p1.toNatClampNeg ((w 115 p1.toNatClampNeg) ||| ((kI 1) <<< (p2 &&& 31)))) 115 p2.toNatClampNeg) &&& (((kI 1) <<< (p1 &&& 31)) ^^^ (kI (-1)))), .int p2, .ref 115], SH, (up2 w 115 p1.toNatClampNeg ((w 115 p1.toNatClampNeg) ||| ((kI 1) <<< (p2 &&& 31)))))) rfl ?_
            refine EV.iastore cl_170 rfl rfl (by decide) (by first | rfl | exact ix_153 (by assumption) (by decide) | exact ix2_153 (by assumption) (by assumption) (by decide) (by decide) (by decide) (by decide) | exact ix_157 (by assumption) (by decide)) ?_
            refine EV.steps cl_170 1 (q2 := (94, [some (.ref 110), some (.int p1), some (.int p2), some (.int p3)], [.int (kI 1)], SH, (up2 (up2 w 115 p1.toNatClampNeg ((w 115 p1.toNatClampNeg) ||| ((kI 1) <<< (p2 &&& 31)))) 115 p2.toNatClampNeg (((up2 w 115 p1.toNatClampNeg ((w 115 p1.toNatClampNeg) ||| ((kI 1) <<< (p2 &&& 31)))) 115 p2.toNatClampNeg) &&& (((kI 1) <<< (p1 &&& 31)) ^^^ (kI (-1))))))) rfl ?_
            refine EV.ret cl_170 rfl rfl rfl ?_
            exact ⟨(by simp only [F_170_110, if_neg h1, if_neg h2, if_pos h3, if_neg h4, if_pos h6]), rfl, (by simp only [G_170_110, if_neg h1, if_neg h2, if_pos h3, if_neg h4, if_pos h6])⟩
          · skip
            refine EV.steps cl_170 3 (q2 := (72, [some (.ref 110), some (.int p1), some (.int p2), some (.int p3)], [.int p2, .ref 115, .int p2, .ref 115], SH, (up2 w 115 p1.toNatClampNeg ((w 115 p1.toNatClampNeg) ||| ((kI 1) <<< (p2 &&& 31)))))) rfl ?_
            refine EV.iaload cl_170 rfl rfl (by decide) (by first | rfl | exact ix_153 (by assumption) (by decide) | exact ix2_153 (by assumption) (by assumption) (by decide) (by decide) (by decide) (by decide) | exact ix_157 (by assumption) (by decide)) ?_
            refine EV.steps cl_170 5 (q2 := (92, [some (.ref 110), some (.int p1), some (.int p2), some (.int p3)], [.int (((up2 w 115 p1.toNatClampNeg ((w 115 p1.toNatClampNeg) ||| ((kI 1) <<< (p2 &&& 31)))) 115 p2.toNatClampNeg) ||| ((kI 1) <<< (p1 &&& 31))), .int p2, .ref 115], SH, (up2 w 115 p1.toNatClampNeg ((w 115 p1.toNatClampNeg) ||| ((kI 1) <<< (p2 &&& 31)))))) rfl ?_
            refine EV.iastore cl_170 rfl rfl (by decide) (by first | rfl | exact ix_153 (by assumption) (by decide) | exact ix2_153 (by assumption) (by assumption) (by decide) (by decide) (by decide) (by decide) | exact ix_157 (by assumption) (by decide)) ?_
            refine EV.steps cl_170 1 (q2 := (94, [some (.ref 110), some (.int p1), some (.int p2), some (.int p3)], [.int (kI 1)], SH, (up2 (up2 w 115 p1.toNatClampNeg ((w 115 p1.toNatClampNeg) ||| ((kI 1) <<< (p2 &&& 31)))) 115 p2.toNatClampNeg (((up2 w 115 p1.toNatClampNeg ((w 115 p1.toNatClampNeg) ||| ((kI 1) <<< (p2 &&& 31)))) 115 p2.toNatClampNeg) ||| ((kI 1) <<< (p1 &&& 31)))))) rfl ?_
            refine EV.ret cl_170 rfl rfl rfl ?_
            exact ⟨(by simp only [F_170_110, if_neg h1, if_neg h2, if_pos h3, if_neg h4, if_neg h6]), rfl, (by simp only [G_170_110, if_neg h1, if_neg h2, if_pos h3, if_neg h4, if_neg h6])⟩
      · skip
        refine EV.steps cl_170 1 (q2 := (22, [some (.ref 110), some (.int p1), some (.int p2), some (.int p3)], [.int (kI 0)], SH, w)) rfl ?_
        refine EV.ret cl_170 rfl rfl rfl ?_
        exact ⟨(by simp only [F_170_110, if_neg h1, if_neg h2, if_neg h3]), rfl, (by simp only [G_170_110, if_neg h1, if_neg h2, if_neg h3])⟩
theorem cl_171 : RCT[171]? = some rc_171 := rfl
def F_171_110 (p1 : Int32) (p2 : Int32) (w : Wd) : Int32 := (if (F_157 p1 (kI 0) (kI 5) w) = 0 then (kI 0) else (if (F_157 p2 (kI 0) (kI 9999) w) = 0 then (kI 0) else (kI 1)))
def G_171_110 (p1 : Int32) (p2 : Int32) (w : Wd) : Wd := (if (F_157 p1 (kI 0) (kI 5) w) = 0 then w else (if (F_157 p2 (kI 0) (kI 9999) w) = 0 then w else (up2 (up2 w 110 7 ((w 110 7) ||| ((kI 1) <<< (p1 &&& 31)))) 116 p1.toNatClampNeg p2)))
theorem m_171_110 {X : Scr} {d : Nat} (w : Wd) (p1 : Int32) (p2 : Int32) : CV X (d + 2) 171 [.ref 110, .int p1, .int p2] SH w (fun r s1 w1 => r = some (.int (F_171_110 p1 p2 w)) ∧ s1 = SH ∧ w1 = G_171_110 p1 p2 w) := by
  refine CV.of rfl ?_
  refine EV.steps cl_171 3 (q2 := (3, [some (.ref 110), some (.int p1), some (.int p2)], [.int (kI 5), .int (kI 0), .int p1], SH, w)) rfl ?_
  refine EV.call cl_171 rfl rfl rfl (m_157 w p1 (kI 0) (kI 5)) ?_
  rintro _ _ _ ⟨rfl, rfl, rfl⟩
  refine EV.z_eq cl_171 rfl (fun h1 => ?_) (fun h1 => ?_)
  · skip
    refine EV.steps cl_171 1 (q2 := (21, [some (.ref 110), some (.int p1), some (.int p2)], [.int (kI 0)], SH, w)) rfl ?_
    refine EV.ret cl_171 rfl rfl rfl ?_
    exact ⟨(by simp only [F_171_110, if_pos h1]), rfl, (by simp only [G_171_110, if_pos h1])⟩
  · skip
    refine EV.steps cl_171 3 (q2 := (14, [some (.ref 110), some (.int p1), some (.int p2)], [.int (kI 9999), .int (kI 0), .int p2], SH, w)) rfl ?_
    refine EV.call cl_171 rfl rfl rfl (m_157 w p2 (kI 0) (kI 9999)) ?_
    rintro _ _ _ ⟨rfl, rfl, rfl⟩
    refine EV.z_ne cl_171 rfl (fun h2 => ?_) (fun h2 => ?_)
    · skip
      refine EV.steps cl_171 12 (q2 := (40, [some (.ref 110), some (.int p1), some (.int p2)], [.int p2, .int p1, .ref 116], SH, (up2 w 110 7 ((w 110 7) ||| ((kI 1) <<< (p1 &&& 31)))))) rfl ?_
      refine EV.iastore cl_171 rfl rfl (by decide) (by first | rfl | exact ix_153 (by assumption) (by decide) | exact ix2_153 (by assumption) (by assumption) (by decide) (by decide) (by decide) (by decide) | exact ix_157 (by assumption) (by decide)) ?_
      refine EV.steps cl_171 1 (q2 := (42, [some (.ref 110), some (.int p1), some (.int p2)], [.int (kI 1)], SH, (up2 (up2 w 110 7 ((w 110 7) ||| ((kI 1) <<< (p1 &&& 31)))) 116 p1.toNatClampNeg p2))) rfl ?_
      refine EV.ret cl_171 rfl rfl rfl ?_
      exact ⟨(by simp only [F_171_110, if_neg h1, if_pos h2]), rfl, (by simp only [G_171_110, if_neg h1, if_pos h2])⟩
    · skip
      refine EV.steps cl_171 1 (q2 := (21, [some (.ref 110), some (.int p1), some (.int p2)], [.int (kI 0)], SH, w)) rfl ?_
      refine EV.ret cl_171 rfl rfl rfl ?_
      exact ⟨(by simp only [F_171_110, if_neg h1, if_neg h2]), rfl, (by simp only [G_171_110, if_neg h1, if_neg h2])⟩
theorem cl_172 : RCT[172]? = some rc_172 := rfl
def F_172_110 (p1 : Int32) (w : Wd) : Int32 := (if (F_157 p1 (kI 0) (kI 9999) w) = 0 then (kI 0) else (kI 1))
def G_172_110 (p1 : Int32) (w : Wd) : Wd := (if (F_157 p1 (kI 0) (kI 9999) w) = 0 then w else (up2 (up2 w 110 8 p1) 111 (kI 159).toNatClampNeg p1))
theorem m_172_110 {X : Scr} {d : Nat} (w : Wd) (p1 : Int32) : CV X (d + 2) 172 [.ref 110, .int p1] SH w (fun r s1 w1 => r = some (.int (F_172_110 p1 w)) ∧ s1 = SH ∧ w1 = G_172_110 p1 w) := by
  refine CV.of rfl ?_
  refine EV.steps cl_172 3 (q2 := (5, [some (.ref 110), some (.int p1)], [.int (kI 9999), .int (kI 0), .int p1], SH, w)) rfl ?_
  refine EV.call cl_172 rfl rfl rfl (m_157 w p1 (kI 0) (kI 9999)) ?_
  rintro _ _ _ ⟨rfl, rfl, rfl⟩
  refine EV.z_ne cl_172 rfl (fun h1 => ?_) (fun h1 => ?_)
  · skip
    refine EV.steps cl_172 7 (q2 := (26, [some (.ref 110), some (.int p1)], [.int p1, .int (kI 159), .ref 111], SH, (up2 w 110 8 p1))) rfl ?_
    refine EV.iastore cl_172 rfl rfl (by decide) (by first | rfl | exact ix_153 (by assumption) (by decide) | exact ix2_153 (by assumption) (by assumption) (by decide) (by decide) (by decide) (by decide) | exact ix_157 (by assumption) (by decide)) ?_
    refine EV.steps cl_172 1 (q2 := (28, [some (.ref 110), some (.int p1)], [.int (kI 1)], SH, (up2 (up2 w 110 8 p1) 111 (kI 159).toNatClampNeg p1))) rfl ?_
    refine EV.ret cl_172 rfl rfl rfl ?_
    exact ⟨(by simp only [F_172_110, if_pos h1]), rfl, (by simp only [G_172_110, if_pos h1])⟩
  · skip
    refine EV.steps cl_172 1 (q2 := (12, [some (.ref 110), some (.int p1)], [.int (kI 0)], SH, w)) rfl ?_
    refine EV.ret cl_172 rfl rfl rfl ?_
    exact ⟨(by simp only [F_172_110, if_neg h1]), rfl, (by simp only [G_172_110, if_neg h1])⟩
theorem cl_175 : RCT[175]? = some rc_175 := rfl
def F_175_110  (w : Wd) : Int32 := (if (w 110 12) ≤ (w 110 11) then (kI (-1)) else ((w 117 (w 110 11).toNatClampNeg) &&& (kI 255)))
theorem m_175_110 {X : Scr} {d : Nat} (w : Wd)  : CV X (d + 1) 175 [.ref 110] SH w (fun r s1 w1 => r = some (.int (F_175_110 w)) ∧ s1 = SH ∧ w1 = w) := by
  refine CV.of rfl ?_
  refine EV.steps cl_175 4 (q2 := (8, [some (.ref 110)], [.int (w 110 12), .int (w 110 11)], SH, w)) rfl ?_
  refine EV.i_ge cl_175 rfl (fun h1 => ?_) (fun h1 => ?_)
  · skip
    refine EV.steps cl_175 1 (q2 := (28, [some (.ref 110)], [.int (kI (-1))], SH, w)) rfl ?_
    refine EV.ret cl_175 rfl rfl rfl ?_
    exact ⟨(by simp only [F_175_110, if_pos h1]), rfl, rfl⟩
  · skip
    refine EV.steps cl_175 4 (q2 := (19, [some (.ref 110)], [.int (w 110 11), .ref 117], SH, w)) rfl ?_
    refine EV.baload cl_175 rfl rfl (by decide) (by first | rfl | exact ix_153 (by assumption) (by decide) | exact ix2_153 (by assumption) (by assumption) (by decide) (by decide) (by decide) (by decide) | exact ix_157 (by assumption) (by decide)) ?_
    refine EV.steps cl_175 3 (q2 := (28, [some (.ref 110)], [.int ((w 117 (w 110 11).toNatClampNeg) &&& (kI 255))], SH, w)) rfl ?_
    refine EV.ret cl_175 rfl rfl rfl ?_
    exact ⟨(by simp only [F_175_110, if_neg h1]), rfl, rfl⟩
theorem cl_176 : RCT[176]? = some rc_176 := rfl
def F_176_110  (w : Wd) : Int32 := (if (F_175_110 w) < (kI 48) then (kI 0) else (if (kI 57) < (F_175_110 w) then (kI 0) else (kI 1)))
theorem m_176_110 {X : Scr} {d : Nat} (w : Wd)  : CV X (d + 2) 176 [.ref 110] SH w (fun r s1 w1 => r = some (.int (F_176_110 w)) ∧ s1 = SH ∧ w1 = w) := by
  refine CV.of rfl ?_
  refine EV.steps cl_176 1 (q2 := (1, [some (.ref 110)], [.ref 110], SH, w)) rfl ?_
  refine EV.call cl_176 rfl rfl rfl (m_175_110 w ) ?_
  rintro _ _ _ ⟨rfl, rfl, rfl⟩
  refine EV.steps cl_176 1 (q2 := (6, [some (.ref 110)], [.int (kI 48), .int (F_175_110 w)], SH, w)) rfl ?_
  refine EV.i_lt cl_176 rfl (fun h1 => ?_) (fun h1 => ?_)
  · skip
    refine EV.steps cl_176 1 (q2 := (23, [some (.ref 110)], [.int (kI 0)], SH, w)) rfl ?_
    refine EV.ret cl_176 rfl rfl rfl ?_
    exact ⟨(by simp only [F_176_110, if_pos h1]), rfl, rfl⟩
  · skip
    refine EV.steps cl_176 1 (q2 := (10, [some (.ref 110)], [.ref 110], SH, w)) rfl ?_
    refine EV.call cl_176 rfl rfl rfl (m_175_110 w ) ?_
    rintro _ _ _ ⟨rfl, rfl, rfl⟩
    refine EV.steps cl_176 1 (q2 := (15, [some (.ref 110)], [.int (kI 57), .int (F_175_110 w)], SH, w)) rfl ?_
    refine EV.i_gt cl_176 rfl (fun h2 => ?_) (fun h2 => ?_)
    · skip
      refine EV.steps cl_176 1 (q2 := (23, [some (.ref 110)], [.int (kI 0)], SH, w)) rfl ?_
      refine EV.ret cl_176 rfl rfl rfl ?_
      exact ⟨(by simp only [F_176_110, if_neg h1, if_pos h2]), rfl, rfl⟩
    · skip
      refine EV.steps cl_176 2 (q2 := (23, [some (.ref 110)], [.int (kI 1)], SH, w)) rfl ?_
      refine EV.ret cl_176 rfl rfl rfl ?_
      exact ⟨(by simp only [F_176_110, if_neg h1, if_neg h2]), rfl, rfl⟩
theorem cl_177 : RCT[177]? = some rc_177 := rfl
def F_177_110 (p1 : Int32) (p2 : Int32) (w : Wd) : Int32 := (kI 0)
def G_177_110 (p1 : Int32) (p2 : Int32) (w : Wd) : Wd := (up2 w 110 13 (((kI (-1000)) * p1) - p2))
theorem m_177_110 {X : Scr} {d : Nat} (w : Wd) (p1 : Int32) (p2 : Int32) : CV X (d + 1) 177 [.ref 110, .int p1, .int p2] SH w (fun r s1 w1 => r = some (.int (F_177_110 p1 p2 w)) ∧ s1 = SH ∧ w1 = G_177_110 p1 p2 w) := by
  refine CV.of rfl ?_
  refine EV.steps cl_177 8 (q2 := (12, [some (.ref 110), some (.int p1), some (.int p2)], [.int (kI 0)], SH, (up2 w 110 13 (((kI (-1000)) * p1) - p2)))) rfl ?_
  refine EV.ret cl_177 rfl rfl rfl ?_
  exact ⟨rfl, rfl, rfl⟩
theorem cl_178 : RCT[178]? = some rc_178 := rfl
def F_178_110 (p1 : Int32) (w : Wd) : Int32 := (if (F_175_110 w) = p1 then (kI 1) else (F_177_110 (kI 1) (w 110 11) w))
def G_178_110 (p1 : Int32) (w : Wd) : Wd := (if (F_175_110 w) = p1 then (up2 w 110 11 ((w 110 11) + (kI 1))) else (G_177_110 (kI 1) (w 110 11) w))
theorem m_178_110 {X : Scr} {d : Nat} (w : Wd) (p1 : Int32) : CV X (d + 2) 178 [.ref 110, .int p1] SH w (fun r s1 w1 => r = some (.int (F_178_110 p1 w)) ∧ s1 = SH ∧ w1 = G_178_110 p1 w) := by
  refine CV.of rfl ?_
  refine EV.steps cl_178 1 (q2 := (1, [some (.ref 110), some (.int p1)], [.ref 110], SH, w)) rfl ?_
  refine EV.call cl_178 rfl rfl rfl (m_175_110 w ) ?_
  rintro _ _ _ ⟨rfl, rfl, rfl⟩
  refine EV.steps cl_178 1 (q2 := (5, [some (.ref 110), some (.int p1)], [.int p1, .int (F_175_110 w)], SH, w)) rfl ?_
  refine EV.i_eq cl_178 rfl (fun h1 => ?_) (fun h1 => ?_)
  · skip
    refine EV.steps cl_178 7 (q2 := (29, [some (.ref 110), some (.int p1)], [.int (kI 1)], SH, (up2 w 110 11 ((w 110 11) + (kI 1))))) rfl ?_
    refine EV.ret cl_178 rfl rfl rfl ?_
    exact ⟨(by simp only [F_178_110, if_pos h1]), rfl, (by simp only [G_178_110, if_pos h1])⟩
  · skip
    refine EV.steps cl_178 4 (q2 := (14, [some (.ref 110), some (.int p1)], [.int (w 110 11), .int (kI 1), .ref 110], SH, w)) rfl ?_
    refine EV.call cl_178 rfl rfl rfl (m_177_110 w (kI 1) (w 110 11)) ?_
    rintro _ _ _ ⟨rfl, rfl, rfl⟩
    refine EV.ret cl_178 rfl rfl (by rb) ?_
    exact ⟨(by simp only [F_178_110, if_neg h1]), rfl, (by simp only [G_178_110, if_neg h1])⟩
theorem cl_180 : RCT[180]? = some rc_180 := rfl
def G_180_110 (p1 : Int32) (p2 : Int32) (w : Wd) : Wd := (up2 (up2 w 118 (w 110 16).toNatClampNeg (((kI 1048576) * p1) + p2)) 110 16 ((w 110 16) + (kI 1)))
theorem m_180_110 {X : Scr} {d : Nat} (w : Wd) (p1 : Int32) (p2 : Int32) : CV X (d + 1) 180 [.ref 110, .int p1, .int p2] SH w (fun r s1 w1 => r = none ∧ s1 = SH ∧ w1 = G_180_110 p1 p2 w) := by
  refine CV.of rfl ?_
  refine EV.steps cl_180 9 (q2 := (14, [some (.ref 110), some (.int p1), some (.int p2)], [.int (((kI 1048576) * p1) + p2), .int (w 110 16), .ref 118], SH, w)) rfl ?_
  refine EV.iastore cl_180 rfl rfl (by decide) (by first | rfl | exact ix_153 (by assumption) (by decide) | exact ix2_153 (by assumption) (by assumption) (by decide) (by decide) (by decide) (by decide) | exact ix_157 (by assumption) (by decide)) ?_
  refine EV.steps cl_180 6 (q2 := (25, [some (.ref 110), some (.int p1), some (.int p2)], [], SH, (up2 (up2 w 118 (w 110 16).toNatClampNeg (((kI 1048576) * p1) + p2)) 110 16 ((w 110 16) + (kI 1))))) rfl ?_
  refine EV.ret cl_180 rfl rfl rfl ?_
  exact ⟨rfl, rfl, rfl⟩
theorem cl_181 : RCT[181]? = some rc_181 := rfl
def F_181_110 (p1 : Int32) (w : Wd) : Int32 := (if (w 110 15) = (kI 6) then (F_177_110 (kI 5) (w 110 11) w) else (kI 1))
def G_181_110 (p1 : Int32) (w : Wd) : Wd := (if (w 110 15) = (kI 6) then (G_177_110 (kI 5) (w 110 11) w) else (up2 (up2 (up2 (up2 w 110 15 ((w 110 15) + (kI 1))) 119 (w 110 17).toNatClampNeg ((kI 1048576) * p1)) 110 17 ((w 110 17) + (kI 1))) 110 11 ((w 110 11) + (kI 1))))
theorem m_181_110 {X : Scr} {d : Nat} (w : Wd) (p1 : Int32) : CV X (d + 2) 181 [.ref 110, .int p1] SH w (fun r s1 w1 => r = some (.int (F_181_110 p1 w)) ∧ s1 = SH ∧ w1 = G_181_110 p1 w) := by
  refine CV.of rfl ?_
  refine EV.steps cl_181 3 (q2 := (6, [some (.ref 110), some (.int p1)], [.int (kI 6), .int (w 110 15)], SH, w)) rfl ?_
  refine EV.i_ne cl_181 rfl (fun h1 => ?_) (fun h1 => ?_)
  · skip
    refine EV.steps cl_181 13 (q2 := (41, [some (.ref 110), some (.int p1)], [.int ((kI 1048576) * p1), .int (w 110 17), .ref 119], SH, (up2 w 110 15 ((w 110 15) + (kI 1))))) rfl ?_
    refine EV.iastore cl_181 rfl rfl (by decide) (by first | rfl | exact ix_153 (by assumption) (by decide) | exact ix2_153 (by assumption) (by assumption) (by decide) (by decide) (by decide) (by decide) | exact ix_157 (by assumption) (by decide)) ?_
    refine EV.steps cl_181 13 (q2 := (63, [some (.ref 110), some (.int p1)], [.int (kI 1)], SH, (up2 (up2 (up2 (up2 w 110 15 ((w 110 15) + (kI 1))) 119 (w 110 17).toNatClampNeg ((kI 1048576) * p1)) 110 17 ((w 110 17) + (kI 1))) 110 11 ((w 110 11) + (kI 1))))) rfl ?_
    refine EV.ret cl_181 rfl rfl rfl ?_
    exact ⟨(by simp only [F_181_110, if_pos h1]), rfl, (by simp only [G_181_110, if_pos h1])⟩
  · skip
    refine EV.steps cl_181 4 (q2 := (15, [some (.ref 110), some (.int p1)], [.int (w 110 11), .int (kI 5), .ref 110], SH, w)) rfl ?_
    refine EV.call cl_181 rfl rfl rfl (m_177_110 w (kI 5) (w 110 11)) ?_
    rintro _ _ _ ⟨rfl, rfl, rfl⟩
    refine EV.ret cl_181 rfl rfl (by rb) ?_
    exact ⟨(by simp only [F_181_110, if_neg h1]), rfl, (by simp only [G_181_110, if_neg h1])⟩
theorem cl_184 : RCT[184]? = some rc_184 := rfl
def F_184 (p1 : Int32) (w : Wd) : Int32 := (if p1 = (kI 43) then (kI 2) else (if p1 = (kI 45) then (kI 3) else (if p1 = (kI 42) then (kI 4) else (if p1 = (kI 47) then (kI 5) else (if p1 = (kI 37) then (kI 6) else (kI (-1)))))))
theorem m_184 {X : Scr} {d : Nat} (w : Wd) (p1 : Int32) : CV X (d + 1) 184 [.int p1] SH w (fun r s1 w1 => r = some (.int (F_184 p1 w)) ∧ s1 = SH ∧ w1 = w) := by
  refine CV.of rfl ?_
  refine EV.steps cl_184 2 (q2 := (3, [some (.int p1)], [.int (kI 43), .int p1], SH, w)) rfl ?_
  refine EV.i_ne cl_184 rfl (fun h1 => ?_) (fun h1 => ?_)
  · skip
    refine EV.steps cl_184 2 (q2 := (13, [some (.int p1)], [.int (kI 45), .int p1], SH, w)) rfl ?_
    refine EV.i_ne cl_184 rfl (fun h2 => ?_) (fun h2 => ?_)
    · skip
      refine EV.steps cl_184 2 (q2 := (23, [some (.int p1)], [.int (kI 42), .int p1], SH, w)) rfl ?_
      refine EV.i_ne cl_184 rfl (fun h3 => ?_) (fun h3 => ?_)
      · skip
        refine EV.steps cl_184 2 (q2 := (33, [some (.int p1)], [.int (kI 47), .int p1], SH, w)) rfl ?_
        refine EV.i_ne cl_184 rfl (fun h4 => ?_) (fun h4 => ?_)
        · skip
          refine EV.steps cl_184 2 (q2 := (43, [some (.int p1)], [.int (kI 37), .int p1], SH, w)) rfl ?_
          refine EV.i_ne cl_184 rfl (fun h5 => ?_) (fun h5 => ?_)
          · skip
            refine EV.steps cl_184 1 (q2 := (52, [some (.int p1)], [.int (kI (-1))], SH, w)) rfl ?_
            refine EV.ret cl_184 rfl rfl rfl ?_
            exact ⟨(by simp only [F_184, if_pos h1, if_pos h2, if_pos h3, if_pos h4, if_pos h5]), rfl, rfl⟩
          · skip
            refine EV.steps cl_184 2 (q2 := (52, [some (.int p1)], [.int (kI 6)], SH, w)) rfl ?_
            refine EV.ret cl_184 rfl rfl rfl ?_
            exact ⟨(by simp only [F_184, if_pos h1, if_pos h2, if_pos h3, if_pos h4, if_neg h5]), rfl, rfl⟩
        · skip
          refine EV.steps cl_184 2 (q2 := (52, [some (.int p1)], [.int (kI 5)], SH, w)) rfl ?_
          refine EV.ret cl_184 rfl rfl rfl ?_
          exact ⟨(by simp only [F_184, if_pos h1, if_pos h2, if_pos h3, if_neg h4]), rfl, rfl⟩
      · skip
        refine EV.steps cl_184 2 (q2 := (52, [some (.int p1)], [.int (kI 4)], SH, w)) rfl ?_
        refine EV.ret cl_184 rfl rfl rfl ?_
        exact ⟨(by simp only [F_184, if_pos h1, if_pos h2, if_neg h3]), rfl, rfl⟩
    · skip
      refine EV.steps cl_184 2 (q2 := (52, [some (.int p1)], [.int (kI 3)], SH, w)) rfl ?_
      refine EV.ret cl_184 rfl rfl rfl ?_
      exact ⟨(by simp only [F_184, if_pos h1, if_neg h2]), rfl, rfl⟩
  · skip
    refine EV.steps cl_184 2 (q2 := (52, [some (.int p1)], [.int (kI 2)], SH, w)) rfl ?_
    refine EV.ret cl_184 rfl rfl rfl ?_
    exact ⟨(by simp only [F_184, if_neg h1]), rfl, rfl⟩
theorem cl_191 : RCT[191]? = some rc_191 := rfl
def G_191_110 (p1 : Int32) (w : Wd) : Wd := (up2 (G_180_110 p1 (kI 0) (up2 (up2 w 119 (w 110 17).toNatClampNeg (((kI 1048576) * p1) + (w 110 16))) 110 17 ((w 110 17) + (kI 1)))) 110 11 (((G_180_110 p1 (kI 0) (up2 (up2 w 119 (w 110 17).toNatClampNeg (((kI 1048576) * p1) + (w 110 16))) 110 17 ((w 110 17) + (kI 1)))) 110 11) + (kI 1)))
theorem m_191_110 {X : Scr} {d : Nat} (w : Wd) (p1 : Int32) : CV X (d + 2) 191 [.ref 110, .int p1] SH w (fun r s1 w1 => r = none ∧ s1 = SH ∧ w1 = G_191_110 p1 w) := by
  refine CV.of rfl ?_
  refine EV.steps cl_191 10 (q2 := (17, [some (.ref 110), some (.int p1)], [.int (((kI 1048576) * p1) + (w 110 16)), .int (w 110 17), .ref 119], SH, w)) rfl ?_
  refine EV.iastore cl_191 rfl rfl (by decide) (by first | rfl | exact ix_153 (by assumption) (by decide) | exact ix2_153 (by assumption) (by assumption) (by decide) (by decide) (by decide) (by decide) | exact ix_157 (by assumption) (by decide)) ?_
  refine EV.steps cl_191 9 (q2 := (31, [some (.ref 110), some (.int p1)], [.int (kI 0), .int p1, .ref 110], SH, (up2 (up2 w 119 (w 110 17).toNatClampNeg (((kI 1048576) * p1) + (w 110 16))) 110 17 ((w 110 17) + (kI 1))))) rfl ?_
  refine EV.call cl_191 rfl rfl rfl (m_180_110 (up2 (up2 w 119 (w 110 17).toNatClampNeg (((kI 1048576) * p1) + (w 110 16))) 110 17 ((w 110 17) + (kI 1))) p1 (kI 0)) ?_
  rintro _ _ _ ⟨rfl, rfl, rfl⟩
  refine EV.steps cl_191 6 (q2 := (44, [some (.ref 110), some (.int p1)], [], SH, (up2 (G_180_110 p1 (kI 0) (up2 (up2 w 119 (w 110 17).toNatClampNeg (((kI 1048576) * p1) + (w 110 16))) 110 17 ((w 110 17) + (kI 1)))) 110 11 (((G_180_110 p1 (kI 0) (up2 (up2 w 119 (w 110 17).toNatClampNeg (((kI 1048576) * p1) + (w 110 16))) 110 17 ((w 110 17) + (kI 1)))) 110 11) + (kI 1))))) rfl ?_
  refine EV.ret cl_191 rfl rfl rfl ?_
  exact ⟨rfl, rfl, rfl⟩
theorem cl_195 : RCT[195]? = some rc_195 := rfl
def G_195_110 (p1 : Int32) (w : Wd) : Wd := (up2 (up2 (up2 (up2 (up2 (up2 w 110 11 (kI 0)) 110 12 p1) 110 16 (kI 0)) 110 18 (kI 0)) 110 15 (kI 0)) 110 17 (kI 0))
theorem m_195_110 {X : Scr} {d : Nat} (w : Wd) (p1 : Int32) : CV X (d + 1) 195 [.ref 110, .int p1] SH w (fun r s1 w1 => r = none ∧ s1 = SH ∧ w1 = G_195_110 p1 w) := by
  refine CV.of rfl ?_
  refine EV.steps cl_195 18 (q2 := (30, [some (.ref 110), some (.int p1)], [], SH, (up2 (up2 (up2 (up2 (up2 (up2 w 110 11 (kI 0)) 110 12 p1) 110 16 (kI 0)) 110 18 (kI 0)) 110 15 (kI 0)) 110 17 (kI 0)))) rfl ?_
  refine EV.ret cl_195 rfl rfl rfl ?_
  exact ⟨rfl, rfl, rfl⟩
theorem cl_206 : RCT[206]? = some rc_206 := rfl
def G_206_110 (p1 : Int32) (p2 : Int32) (w : Wd) : Wd := (up2 w 111 (((kI 0) + ((kI 6) * p1)) + p2).toNatClampNeg (F_158 (kI 9999) ((w 111 (((kI 0) + ((kI 6) * p1)) + p2).toNatClampNeg) + (kI 1)) w))
theorem m_206_110 {X : Scr} {d : Nat} (w : Wd) (p1 : Int32) (p2 : Int32) : CV X (d + 2) 206 [.ref 110, .int p1, .int p2] SH w (fun r s1 w1 => r = none ∧ s1 = SH ∧ w1 = G_206_110 p1 p2 w) := by
  refine CV.of rfl ?_
  refine EV.steps cl_206 15 (q2 := (22, [some (.ref 110), some (.int p1), some (.int p2), some (.int (((kI 0) + ((kI 6) * p1)) + p2))], [.int (((kI 0) + ((kI 6) * p1)) + p2), .ref 111, .int (kI 9999), .int (((kI 0) + ((kI 6) * p1)) + p2), .ref 111], SH, w)) rfl ?_
  refine EV.iaload cl_206 rfl rfl (by decide) (by first | rfl | exact ix_153 (by assumption) (by decide) | exact ix2_153 (by assumption) (by assumption) (by decide) (by decide) (by decide) (by decide) | exact ix_157 (by assumption) (by decide)) ?_
  refine EV.steps cl_206 2 (q2 := (25, [some (.ref 110), some (.int p1), some (.int p2), some (.int (((kI 0) + ((kI 6) * p1)) + p2))], [.int ((w 111 (((kI 0) + ((kI 6) * p1)) + p2).toNatClampNeg) + (kI 1)), .int (kI 9999), .int (((kI 0) + ((kI 6) * p1)) + p2), .ref 111], SH, w)) rfl ?_
  refine EV.call cl_206 rfl rfl rfl (m_158 w (kI 9999) ((w 111 (((kI 0) + ((kI 6) * p1)) + p2).toNatClampNeg) + (kI 1))) ?_
  rintro _ _ _ ⟨rfl, rfl, rfl⟩
  refine EV.iastore cl_206 rfl rfl (by decide) (by first | rfl | exact ix_153 (by assumption) (by decide) | exact ix2_153 (by assumption) (by assumption) (by decide) (by decide) (by decide) (by decide) | exact ix_157 (by assumption) (by decide)) ?_
  refine EV.ret cl_206 rfl rfl rfl ?_
  exact ⟨rfl, rfl, rfl⟩
theorem cl_214 : RCT[214]? = some rc_214 := rfl
def F_214_110 (p1 : Int32) (p2 : Int32) (w : Wd) : Int32 := (if (F_164_110 p1 w) = 0 then (kI (-1)) else (if (F_165_110 p2 w) = 0 then (kI (-1)) else (F_166_110 p1 p2 w)))
theorem m_214_110 {X : Scr} {d : Nat} (w : Wd) (p1 : Int32) (p2 : Int32) : CV X (d + 3) 214 [.ref 110, .int p1, .int p2] SH w (fun r s1 w1 => r = some (.int (F_214_110 p1 p2 w)) ∧ s1 = SH ∧ w1 = w) := by
  refine CV.of rfl ?_
  refine EV.steps cl_214 2 (q2 := (2, [some (.ref 110), some (.int p1), some (.int p2)], [.int p1, .ref 110], SH, w)) rfl ?_
  refine EV.call cl_214 rfl rfl rfl (m_164_110 w p1) ?_
  rintro _ _ _ ⟨rfl, rfl, rfl⟩
  refine EV.z_eq cl_214 rfl (fun h1 => ?_) (fun h1 => ?_)
  · skip
    refine EV.steps cl_214 1 (q2 := (26, [some (.ref 110), some (.int p1), some (.int p2)], [.int (kI (-1))], SH, w)) rfl ?_
    refine EV.ret cl_214 rfl rfl rfl ?_
    exact ⟨(by simp only [F_214_110, if_pos h1]), rfl, rfl⟩
  · skip
    refine EV.steps cl_214 2 (q2 := (10, [some (.ref 110), some (.int p1), some (.int p2)], [.int p2, .ref 110], SH, w)) rfl ?_
    refine EV.call cl_214 rfl rfl rfl (m_165_110 w p2) ?_
    rintro _ _ _ ⟨rfl, rfl, rfl⟩
    refine EV.z_eq cl_214 rfl (fun h2 => ?_) (fun h2 => ?_)
    · skip
      refine EV.steps cl_214 1 (q2 := (26, [some (.ref 110), some (.int p1), some (.int p2)], [.int (kI (-1))], SH, w)) rfl ?_
      refine EV.ret cl_214 rfl rfl rfl ?_
      exact ⟨(by simp only [F_214_110, if_neg h1, if_pos h2]), rfl, rfl⟩
    · skip
      refine EV.steps cl_214 3 (q2 := (19, [some (.ref 110), some (.int p1), some (.int p2)], [.int p2, .int p1, .ref 110], SH, w)) rfl ?_
      refine EV.call cl_214 rfl rfl rfl (m_166_110 w p1 p2) ?_
      rintro _ _ _ ⟨rfl, rfl, rfl⟩
      refine EV.steps cl_214 1 (q2 := (26, [some (.ref 110), some (.int p1), some (.int p2)], [.int (F_166_110 p1 p2 w)], SH, w)) rfl ?_
      refine EV.ret cl_214 rfl rfl rfl ?_
      exact ⟨(by simp only [F_214_110, if_neg h1, if_neg h2]), rfl, rfl⟩
theorem cl_219 : RCT[219]? = some rc_219 := rfl
def F_219_110 (p1 : Int32) (p2 : Int32) (w : Wd) : Int32 := (if p2 = (kI 1) then ((w 133 p1.toNatClampNeg) + (kI 1)) else (if p2 = (kI 2) then (((kI 2) * (w 133 p1.toNatClampNeg)) + (kI 1)) else (w 133 p1.toNatClampNeg)))
theorem m_219_110 {X : Scr} {d : Nat} (w : Wd) (p1 : Int32) (p2 : Int32) : CV X (d + 1) 219 [.ref 110, .int p1, .int p2] SH w (fun r s1 w1 => r = some (.int (F_219_110 p1 p2 w)) ∧ s1 = SH ∧ w1 = w) := by
  refine CV.of rfl ?_
  refine EV.steps cl_219 2 (q2 := (2, [some (.ref 110), some (.int p1), some (.int p2)], [.int (kI 1), .int p2], SH, w)) rfl ?_
  refine EV.i_ne cl_219 rfl (fun h1 => ?_) (fun h1 => ?_)
  · skip
    refine EV.steps cl_219 2 (q2 := (18, [some (.ref 110), some (.int p1), some (.int p2)], [.int (kI 2), .int p2], SH, w)) rfl ?_
    refine EV.i_ne cl_219 rfl (fun h2 => ?_) (fun h2 => ?_)
    · skip
      refine EV.steps cl_219 3 (q2 := (39, [some (.ref 110), some (.int p1), some (.int p2)], [.int p1, .ref 133], SH, w)) rfl ?_
      refine EV.iaload cl_219 rfl rfl (by decide) (by first | rfl | exact ix_153 (by assumption) (by decide) | exact ix2_153 (by assumption) (by assumption) (by decide) (by decide) (by decide) (by decide) | exact ix_157 (by assumption) (by decide)) ?_
      refine EV.ret cl_219 rfl rfl rfl ?_
      exact ⟨(by simp only [F_219_110, if_pos h1, if_pos h2]), rfl, rfl⟩
    · skip
      refine EV.steps cl_219 4 (q2 := (27, [some (.ref 110), some (.int p1), some (.int p2)], [.int p1, .ref 133, .int (kI 2)], SH, w)) rfl ?_
      refine EV.iaload cl_219 rfl rfl (by decide) (by first | rfl | exact ix_153 (by assumption) (by decide) | exact ix2_153 (by assumption) (by assumption) (by decide) (by decide) (by decide) (by decide) | exact ix_157 (by assumption) (by decide)) ?_
      refine EV.steps cl_219 4 (q2 := (40, [some (.ref 110), some (.int p1), some (.int p2)], [.int (((kI 2) * (w 133 p1.toNatClampNeg)) + (kI 1))], SH, w)) rfl ?_
      refine EV.ret cl_219 rfl rfl rfl ?_
      exact ⟨(by simp only [F_219_110, if_pos h1, if_neg h2]), rfl, rfl⟩
  · skip
    refine EV.steps cl_219 3 (q2 := (10, [some (.ref 110), some (.int p1), some (.int p2)], [.int p1, .ref 133], SH, w)) rfl ?_
    refine EV.iaload cl_219 rfl rfl (by decide) (by first | rfl | exact ix_153 (by assumption) (by decide) | exact ix2_153 (by assumption) (by assumption) (by decide) (by decide) (by decide) (by decide) | exact ix_157 (by assumption) (by decide)) ?_
    refine EV.steps cl_219 3 (q2 := (40, [some (.ref 110), some (.int p1), some (.int p2)], [.int ((w 133 p1.toNatClampNeg) + (kI 1))], SH, w)) rfl ?_
    refine EV.ret cl_219 rfl rfl rfl ?_
    exact ⟨(by simp only [F_219_110, if_neg h1]), rfl, rfl⟩
theorem cl_220 : RCT[220]? = some rc_220 := rfl
def F_220_110 (p1 : Int32) (p2 : Int32) (p3 : Int32) (w : Wd) : Int32 := (if (F_219_110 p1 p3 w) = 0 then (if (F_219_110 p1 p3 w) = 0 then (if (F_219_110 p2 p3 w) ≤ 0 then (kI 0) else (kI 1)) else (kI 0)) else (if (F_219_110 p2 p3 w) = 0 then (if (F_219_110 p1 p3 w) = 0 then (if (F_219_110 p2 p3 w) ≤ 0 then (kI 0) else (kI 1)) else (kI 0)) else (if ((w 114 p1.toNatClampNeg) * (F_219_110 p2 p3 w)) ≤ ((w 114 p2.toNatClampNeg) * (F_219_110 p1 p3 w)) then (kI 0) else (kI 1))))
theorem m_220_110 {X : Scr} {d : Nat} (w : Wd) (p1 : Int32) (p2 : Int32) (p3 : Int32) : CV X (d + 2) 220 [.ref 110, .int p1, .int p2, .int p3] SH w (fun r s1 w1 => r = some (.int (F_220_110 p1 p2 p3 w)) ∧ s1 = SH ∧ w1 = w) := by
  refine CV.of rfl ?_
  refine EV.steps cl_220 3 (q2 := (3, [some (.ref 110), some (.int p1), some (.int p2), some (.int p3), none, none], [.int p3, .int p1, .ref 110], SH, w)) rfl ?_
  refine EV.call cl_220 rfl rfl rfl (m_219_110 w p1 p3) ?_
  rintro _ _ _ ⟨rfl, rfl, rfl⟩
  refine EV.steps cl_220 4 (q2 := (11, [some (.ref 110), some (.int p1), some (.int p2), some (.int p3), some (.int (F_219_110 p1 p3 w)), none], [.int p3, .int p2, .ref 110], SH, w)) rfl ?_
  refine EV.call cl_220 rfl rfl rfl (m_219_110 w p2 p3) ?_
  rintro _ _ _ ⟨rfl, rfl, rfl⟩
  refine EV.steps cl_220 2 (q2 := (18, [some (.ref 110), some (.int p1), some (.int p2), some (.int p3), some (.int (F_219_110 p1 p3 w)), some (.int (F_219_110 p2 p3 w))], [.int (F_219_110 p1 p3 w)], SH, w)) rfl ?_
  refine EV.z_eq cl_220 rfl (fun h1 => ?_) (fun h1 => ?_)
  · skip
    refine EV.steps cl_220 1 (q2 := (28, [some (.ref 110), some (.int p1), some (.int p2), some (.int p3), some (.int (F_219_110 p1 p3 w)), some (.int (F_219_110 p2 p3 w))], [.int (F_219_110 p1 p3 w)], SH, w)) rfl ?_
    refine EV.z_ne cl_220 rfl (fun h2 => ?_) (fun h2 => ?_)
    · skip
      refine EV.steps cl_220 1 (q2 := (41, [some (.ref 110), some (.int p1), some (.int p2), some (.int p3), some (.int (F_219_110 p1 p3 w)), some (.int (F_219_110 p2 p3 w))], [.int (kI 0)], SH, w)) rfl ?_
      refine EV.ret cl_220 rfl rfl rfl ?_
      exact ⟨(by simp only [F_220_110, if_pos h1, if_pos h2]), rfl, rfl⟩
    · skip
      refine EV.steps cl_220 1 (q2 := (33, [some (.ref 110), some (.int p1), some (.int p2), some (.int p3), some (.int (F_219_110 p1 p3 w)), some (.int (F_219_110 p2 p3 w))], [.int (F_219_110 p2 p3 w)], SH, w)) rfl ?_
      refine EV.z_le cl_220 rfl (fun h3 => ?_) (fun h3 => ?_)
      · skip
        refine EV.steps cl_220 1 (q2 := (41, [some (.ref 110), some (.int p1), some (.int p2), some (.int p3), some (.int (F_219_110 p1 p3 w)), some (.int (F_219_110 p2 p3 w))], [.int (kI 0)], SH, w)) rfl ?_
        refine EV.ret cl_220 rfl rfl rfl ?_
        exact ⟨(by simp only [F_220_110, if_pos h1, if_neg h2, if_pos h3]), rfl, rfl⟩
      · skip
        refine EV.steps cl_220 2 (q2 := (41, [some (.ref 110), some (.int p1), some (.int p2), some (.int p3), some (.int (F_219_110 p1 p3 w)), some (.int (F_219_110 p2 p3 w))], [.int (kI 1)], SH, w)) rfl ?_
        refine EV.ret cl_220 rfl rfl rfl ?_
        exact ⟨(by simp only [F_220_110, if_pos h1, if_neg h2, if_neg h3]), rfl, rfl⟩
  · skip
    refine EV.steps cl_220 1 (q2 := (23, [some (.ref 110), some (.int p1), some (.int p2), some (.int p3), some (.int (F_219_110 p1 p3 w)), some (.int (F_219_110 p2 p3 w))], [.int (F_219_110 p2 p3 w)], SH, w)) rfl ?_
    refine EV.z_ne cl_220 rfl (fun h4 => ?_) (fun h4 => ?_)
    · skip
      refine EV.steps cl_220 3 (q2 := (47, [some (.ref 110), some (.int p1), some (.int p2), some (.int p3), some (.int (F_219_110 p1 p3 w)), some (.int (F_219_110 p2 p3 w))], [.int p1, .ref 114], SH, w)) rfl ?_
      refine EV.iaload cl_220 rfl rfl (by decide) (by first | rfl | exact ix_153 (by assumption) (by decide) | exact ix2_153 (by assumption) (by assumption) (by decide) (by decide) (by decide) (by decide) | exact ix_157 (by assumption) (by decide)) ?_
      refine EV.steps cl_220 5 (q2 := (56, [some (.ref 110), some (.int p1), some (.int p2), some (.int p3), some (.int (F_219_110 p1 p3 w)), some (.int (F_219_110 p2 p3 w))], [.int p2, .ref 114, .int ((w 114 p1.toNatClampNeg) * (F_219_110 p2 p3 w))], SH, w)) rfl ?_
      refine EV.iaload cl_220 rfl rfl (by decide) (by first | rfl | exact ix_153 (by assumption) (by decide) | exact ix2_153 (by assumption) (by assumption) (by decide) (by decide) (by decide) (by decide) | exact ix_157 (by assumption) (by decide)) ?_
      refine EV.steps cl_220 2 (q2 := (60, [some (.ref 110), some (.int p1), some (.int p2), some (.int p3), some (.int (F_219_110 p1 p3 w)), some (.int (F_219_110 p2 p3 w))], [.int ((w 114 p2.toNatClampNeg) * (F_219_110 p1 p3 w)), .int ((w 114 p1.toNatClampNeg) * (F_219_110 p2 p3 w))], SH, w)) rfl ?_
      refine EV.i_le cl_220 rfl (fun h5 => ?_) (fun h5 => ?_)
      · skip
        refine EV.steps cl_220 1 (q2 := (68, [some (.ref 110), some (.int p1), some (.int p2), some (.int p3), some (.int (F_219_110 p1 p3 w)), some (.int (F_219_110 p2 p3 w))], [.int (kI 0)], SH, w)) rfl ?_
        refine EV.ret cl_220 rfl rfl rfl ?_
        exact ⟨(by simp only [F_220_110, if_neg h1, if_pos h4, if_pos h5]), rfl, rfl⟩
      · skip
        refine EV.steps cl_220 2 (q2 := (68, [some (.ref 110), some (.int p1), some (.int p2), some (.int p3), some (.int (F_219_110 p1 p3 w)), some (.int (F_219_110 p2 p3 w))], [.int (kI 1)], SH, w)) rfl ?_
        refine EV.ret cl_220 rfl rfl rfl ?_
        exact ⟨(by simp only [F_220_110, if_neg h1, if_pos h4, if_neg h5]), rfl, rfl⟩
    · skip
      refine EV.steps cl_220 1 (q2 := (28, [some (.ref 110), some (.int p1), some (.int p2), some (.int p3), some (.int (F_219_110 p1 p3 w)), some (.int (F_219_110 p2 p3 w))], [.int (F_219_110 p1 p3 w)], SH, w)) rfl ?_
      refine EV.z_ne cl_220 rfl (fun h6 => ?_) (fun h6 => ?_)
      · skip
        refine EV.steps cl_220 1 (q2 := (41, [some (.ref 110), some (.int p1), some (.int p2), some (.int p3), some (.int (F_219_110 p1 p3 w)), some (.int (F_219_110 p2 p3 w))], [.int (kI 0)], SH, w)) rfl ?_
        refine EV.ret cl_220 rfl rfl rfl ?_
        exact ⟨(by simp only [F_220_110, if_neg h1, if_neg h4, if_pos h6]), rfl, rfl⟩
      · skip
        refine EV.steps cl_220 1 (q2 := (33, [some (.ref 110), some (.int p1), some (.int p2), some (.int p3), some (.int (F_219_110 p1 p3 w)), some (.int (F_219_110 p2 p3 w))], [.int (F_219_110 p2 p3 w)], SH, w)) rfl ?_
        refine EV.z_le cl_220 rfl (fun h7 => ?_) (fun h7 => ?_)
        · skip
          refine EV.steps cl_220 1 (q2 := (41, [some (.ref 110), some (.int p1), some (.int p2), some (.int p3), some (.int (F_219_110 p1 p3 w)), some (.int (F_219_110 p2 p3 w))], [.int (kI 0)], SH, w)) rfl ?_
          refine EV.ret cl_220 rfl rfl rfl ?_
          exact ⟨(by simp only [F_220_110, if_neg h1, if_neg h4, if_neg h6, if_pos h7]), rfl, rfl⟩
        · skip
          refine EV.steps cl_220 2 (q2 := (41, [some (.ref 110), some (.int p1), some (.int p2), some (.int p3), some (.int (F_219_110 p1 p3 w)), some (.int (F_219_110 p2 p3 w))], [.int (kI 1)], SH, w)) rfl ?_
          refine EV.ret cl_220 rfl rfl rfl ?_
          exact ⟨(by simp only [F_220_110, if_neg h1, if_neg h4, if_neg h6, if_neg h7]), rfl, rfl⟩
theorem cl_235 : RCT[235]? = some rc_235 := rfl
def F_235_110 (p1 : Int32) (p2 : Int32) (p3 : Int32) (p4 : Int32) (p5 : Int32) (w : Wd) : Int32 := (if (F_157 p1 (kI 0) (kI 19) w) = 0 then (kI 0) else (if (F_157 p2 (kI 0) (kI 5) w) = 0 then (kI 0) else (if (F_157 p3 (kI 0) (kI 99) w) = 0 then (kI 0) else (if (F_157 p4 (kI 0) (kI 23) w) = 0 then (kI 0) else (if (F_157 p5 (kI 0) (kI 9) w) = 0 then (kI 0) else (kI 1))))))
def G_235_110 (p1 : Int32) (p2 : Int32) (p3 : Int32) (p4 : Int32) (p5 : Int32) (w : Wd) : Wd := (if (F_157 p1 (kI 0) (kI 19) w) = 0 then w else (if (F_157 p2 (kI 0) (kI 5) w) = 0 then w else (if (F_157 p3 (kI 0) (kI 99) w) = 0 then w else (if (F_157 p4 (kI 0) (kI 23) w) = 0 then w else (if (F_157 p5 (kI 0) (kI 9) w) = 0 then w else (up2 (up2 (up2 (up2 (up2 w 110 56 ((w 110 56) ||| ((kI 1) <<< (p1 &&& 31)))) 140 p1.toNatClampNeg p2) 141 p1.toNatClampNeg p3) 142 p1.toNatClampNeg p4) 143 p1.toNatClampNeg p5))))))
theorem m_235_110 {X : Scr} {d : Nat} (w : Wd) (p1 : Int32) (p2 : Int32) (p3 : Int32) (p4 : Int32) (p5 : Int32) : CV X (d + 2) 235 [.ref 110, .int p1, .int p2, .int p3, .int p4, .int p5] SH w (fun r s1 w1 => r = some (.int (F_235_110 p1 p2 p3 p4 p5 w)) ∧ s1 = SH ∧ w1 = G_235_110 p1 p2 p3 p4 p5 w) := by
  refine CV.of rfl ?_
  refine EV.steps cl_235 3 (q2 := (4, [some (.ref 110), some (.int p1), some (.int p2), some (.int p3), some (.int p4), some (.int p5)], [.int (kI 19), .int (kI 0), .int p1], SH, w)) rfl ?_
  refine EV.call cl_235 rfl rfl rfl (m_157 w p1 (kI 0) (kI 19)) ?_
  rintro _ _ _ ⟨rfl, rfl, rfl⟩
  refine EV.z_eq cl_235 rfl (fun h1 => ?_) (fun h1 => ?_)
  · skip
    refine EV.steps cl_235 1 (q2 := (52, [some (.ref 110), some (.int p1), some (.int p2), some (.int p3), some (.int p4), some (.int p5)], [.int (kI 0)], SH, w)) rfl ?_
    refine EV.ret cl_235 rfl rfl rfl ?_
    exact ⟨(by simp only [F_235_110, if_pos h1]), rfl, (by simp only [G_235_110, if_pos h1])⟩
  · skip
    refine EV.steps cl_235 3 (q2 := (13, [some (.ref 110), some (.int p1), some (.int p2), some (.int p3), some (.int p4), some (.int p5)], [.int (kI 5), .int (kI 0), .int p2], SH, w)) rfl ?_
    refine EV.call cl_235 rfl rfl rfl (m_157 w p2 (kI 0) (kI 5)) ?_
    rintro _ _ _ ⟨rfl, rfl, rfl⟩
    refine EV.z_eq cl_235 rfl (fun h2 => ?_) (fun h2 => ?_)
    · skip
      refine EV.steps cl_235 1 (q2 := (52, [some (.ref 110), some (.int p1), some (.int p2), some (.int p3), some (.int p4), some (.int p5)], [.int (kI 0)], SH, w)) rfl ?_
      refine EV.ret cl_235 rfl rfl rfl ?_
      exact ⟨(by simp only [F_235_110, if_neg h1, if_pos h2]), rfl, (by simp only [G_235_110, if_neg h1, if_pos h2])⟩
    · skip
      refine EV.steps cl_235 3 (q2 := (23, [some (.ref 110), some (.int p1), some (.int p2), some (.int p3), some (.int p4), some (.int p5)], [.int (kI 99), .int (kI 0), .int p3], SH, w)) rfl ?_
      refine EV.call cl_235 rfl rfl rfl (m_157 w p3 (kI 0) (kI 99)) ?_
      rintro _ _ _ ⟨rfl, rfl, rfl⟩
      refine EV.z_eq cl_235 rfl (fun h3 => ?_) (fun h3 => ?_)
      · skip
        refine EV.steps cl_235 1 (q2 := (52, [some (.ref 110), some (.int p1), some (.int p2), some (.int p3), some (.int p4), some (.int p5)], [.int (kI 0)], SH, w)) rfl ?_
        refine EV.ret cl_235 rfl rfl rfl ?_
        exact ⟨(by simp only [F_235_110, if_neg h1, if_neg h2, if_pos h3]), rfl, (by simp only [G_235_110, if_neg h1, if_neg h2, if_pos h3])⟩
      · skip
        refine EV.steps cl_235 3 (q2 := (34, [some (.ref 110), some (.int p1), some (.int p2), some (.int p3), some (.int p4), some (.int p5)], [.int (kI 23), .int (kI 0), .int p4], SH, w)) rfl ?_
        refine EV.call cl_235 rfl rfl rfl (m_157 w p4 (kI 0) (kI 23)) ?_
        rintro _ _ _ ⟨rfl, rfl, rfl⟩
        refine EV.z_eq cl_235 rfl (fun h4 => ?_) (fun h4 => ?_)
        · skip
          refine EV.steps cl_235 1 (q2 := (52, [some (.ref 110), some (.int p1), some (.int p2), some (.int p3), some (.int p4), some (.int p5)], [.int (kI 0)], SH, w)) rfl ?_
          refine EV.ret cl_235 rfl rfl rfl ?_
          exact ⟨(by simp only [F_235_110, if_neg h1, if_neg h2, if_neg h3, if_pos h4]), rfl, (by simp only [G_235_110, if_neg h1, if_neg h2, if_neg h3, if_pos h4])⟩
        · skip
          refine EV.steps cl_235 3 (q2 := (45, [some (.ref 110), some (.int p1), some (.int p2), some (.int p3), some (.int p4), some (.int p5)], [.int (kI 9), .int (kI 0), .int p5], SH, w)) rfl ?_
          refine EV.call cl_235 rfl rfl rfl (m_157 w p5 (kI 0) (kI 9)) ?_
          rintro _ _ _ ⟨rfl, rfl, rfl⟩
          refine EV.z_ne cl_235 rfl (fun h5 => ?_) (fun h5 => ?_)
          · skip
            refine EV.steps cl_235 12 (q2 := (71, [some (.ref 110), some (.int p1), some (.int p2), some (.int p3), some (.int p4), some (.int p5)], [.int p2, .int p1, .ref 140], SH, (up2 w 110 56 ((w 110 56) ||| ((kI 1) <<< (p1 &&& 31)))))) rfl ?_
            refine EV.iastore cl_235 rfl rfl (by decide) (by first | rfl | exact ix_153 (by assumption) (by decide) | exact ix2_153 (by assumption) (by assumption) (by decide) (by decide) (by decide) (by decide) | exact ix_157 (by assumption) (by decide)) ?_
            refine EV.steps cl_235 4 (q2 := (78, [some (.ref 110), some (.int p1), some (.int p2), some (.int p3), some (.int p4), some (.int p5)], [.int p3, .int p1, .ref 141], SH, (up2 (up2 w 110 56 ((w 110 56) ||| ((kI 1) <<< (p1 &&& 31)))) 140 p1.toNatClampNeg p2))) rfl ?_
            refine EV.iastore cl_235 rfl rfl (by decide) (by first | rfl | exact ix_153 (by assumption) (by decide) | exact ix2_153 (by assumption) (by assumption) (by decide) (by decide) (by decide) (by decide) | exact ix_157 (by assumption) (by decide)) ?_
            refine EV.steps cl_235 4 (q2 := (86, [some (.ref 110), some (.int p1), some (.int p2), some (.int p3), some (.int p4), some (.int p5)], [.int p4, .int p1, .ref 142], SH, (up2 (up2 (up2 w 110 56 ((w 110 56) ||| ((kI 1) <<< (p1 &&& 31)))) 140 p1.toNatClampNeg p2) 141 p1.toNatClampNeg p3))) rfl ?_
            refine EV.iastore cl_235 rfl rfl (by decide) (by first | rfl | exact ix_153 (by assumption) (by decide) | exact ix2_153 (by assumption) (by assumption) (by decide) (by decide) (by decide) (by decide) | exact ix_157 (by assumption) (by decide)) ?_
            refine EV.steps cl_235 4 (q2 := (94, [some (.ref 110), some (.int p1), some (.int p2), some (.int p3), some (.int p4), some (.int p5)], [.int p5, .int p1, .ref 143], SH, (up2 (up2 (up2 (up2 w 110 56 ((w 110 56) ||| ((kI 1) <<< (p1 &&& 31)))) 140 p1.toNatClampNeg p2) 141 p1.toNatClampNeg p3) 142 p1.toNatClampNeg p4))) rfl ?_
            refine EV.iastore cl_235 rfl rfl (by decide) (by first | rfl | exact ix_153 (by assumption) (by decide) | exact ix2_153 (by assumption) (by assumption) (by decide) (by decide) (by decide) (by decide) | exact ix_157 (by assumption) (by decide)) ?_
            refine EV.steps cl_235 1 (q2 := (96, [some (.ref 110), some (.int p1), some (.int p2), some (.int p3), some (.int p4), some (.int p5)], [.int (kI 1)], SH, (up2 (up2 (up2 (up2 (up2 w 110 56 ((w 110 56) ||| ((kI 1) <<< (p1 &&& 31)))) 140 p1.toNatClampNeg p2) 141 p1.toNatClampNeg p3) 142 p1.toNatClampNeg p4) 143 p1.toNatClampNeg p5))) rfl ?_
            refine EV.ret cl_235 rfl rfl rfl ?_
            exact ⟨(by simp only [F_235_110, if_neg h1, if_neg h2, if_neg h3, if_neg h4, if_pos h5]), rfl, (by simp only [G_235_110, if_neg h1, if_neg h2, if_neg h3, if_neg h4, if_pos h5])⟩
          · skip
            refine EV.steps cl_235 1 (q2 := (52, [some (.ref 110), some (.int p1), some (.int p2), some (.int p3), some (.int p4), some (.int p5)], [.int (kI 0)], SH, w)) rfl ?_
            refine EV.ret cl_235 rfl rfl rfl ?_
            exact ⟨(by simp only [F_235_110, if_neg h1, if_neg h2, if_neg h3, if_neg h4, if_neg h5]), rfl, (by simp only [G_235_110, if_neg h1, if_neg h2, if_neg h3, if_neg h4, if_neg h5])⟩
theorem cl_244 : RCT[244]? = some rc_244 := rfl
def F_244_110 (p1 : Int32) (p2 : Int32) (w : Wd) : Int32 := (if (F_165_110 p1 w) = 0 then (kI (-1)) else (if (F_157 p2 (kI 0) (kI 7) w) = 0 then (kI (-1)) else (w 111 (((kI 108) + ((kI 8) * p1)) + p2).toNatClampNeg)))
theorem m_244_110 {X : Scr} {d : Nat} (w : Wd) (p1 : Int32) (p2 : Int32) : CV X (d + 3) 244 [.ref 110, .int p1, .int p2] SH w (fun r s1 w1 => r = some (.int (F_244_110 p1 p2 w)) ∧ s1 = SH ∧ w1 = w) := by
  refine CV.of rfl ?_
  refine EV.steps cl_244 2 (q2 := (2, [some (.ref 110), some (.int p1), some (.int p2)], [.int p1, .ref 110], SH, w)) rfl ?_
  refine EV.call cl_244 rfl rfl rfl (m_165_110 w p1) ?_
  rintro _ _ _ ⟨rfl, rfl, rfl⟩
  refine EV.z_eq cl_244 rfl (fun h1 => ?_) (fun h1 => ?_)
  · skip
    refine EV.steps cl_244 1 (q2 := (36, [some (.ref 110), some (.int p1), some (.int p2)], [.int (kI (-1))], SH, w)) rfl ?_
    refine EV.ret cl_244 rfl rfl rfl ?_
    exact ⟨(by simp only [F_244_110, if_pos h1]), rfl, rfl⟩
  · skip
    refine EV.steps cl_244 3 (q2 := (12, [some (.ref 110), some (.int p1), some (.int p2)], [.int (kI 7), .int (kI 0), .int p2], SH, w)) rfl ?_
    refine EV.call cl_244 rfl rfl rfl (m_157 w p2 (kI 0) (kI 7)) ?_
    rintro _ _ _ ⟨rfl, rfl, rfl⟩
    refine EV.z_eq cl_244 rfl (fun h2 => ?_) (fun h2 => ?_)
    · skip
      refine EV.steps cl_244 1 (q2 := (36, [some (.ref 110), some (.int p1), some (.int p2)], [.int (kI (-1))], SH, w)) rfl ?_
      refine EV.ret cl_244 rfl rfl rfl ?_
      exact ⟨(by simp only [F_244_110, if_neg h1, if_pos h2]), rfl, rfl⟩
    · skip
      refine EV.steps cl_244 9 (q2 := (31, [some (.ref 110), some (.int p1), some (.int p2)], [.int (((kI 108) + ((kI 8) * p1)) + p2), .ref 111], SH, w)) rfl ?_
      refine EV.iaload cl_244 rfl rfl (by decide) (by first | rfl | exact ix_153 (by assumption) (by decide) | exact ix2_153 (by assumption) (by assumption) (by decide) (by decide) (by decide) (by decide) | exact ix_157 (by assumption) (by decide)) ?_
      refine EV.steps cl_244 1 (q2 := (36, [some (.ref 110), some (.int p1), some (.int p2)], [.int (w 111 (((kI 108) + ((kI 8) * p1)) + p2).toNatClampNeg)], SH, w)) rfl ?_
      refine EV.ret cl_244 rfl rfl rfl ?_
      exact ⟨(by simp only [F_244_110, if_neg h1, if_neg h2]), rfl, rfl⟩
theorem cl_246 : RCT[246]? = some rc_246 := rfl
def F_246_110 (p1 : Int32) (p2 : Int32) (w : Wd) : Int32 := (if (F_161 (w 110 56) p1 w) = 0 then (kI 0) else (if (F_161 (w 110 56) p2 w) = 0 then (kI 0) else (if (w 140 p1.toNatClampNeg) = (w 140 p2.toNatClampNeg) then (if (w 143 p1.toNatClampNeg) = (w 143 p2.toNatClampNeg) then (if (w 141 p1.toNatClampNeg) = (w 141 p2.toNatClampNeg) then (if (F_160 ((w 142 p1.toNatClampNeg) - (w 142 p2.toNatClampNeg)) w) = (kI 1) then (kI 1) else (if (F_160 ((w 142 p1.toNatClampNeg) - (w 142 p2.toNatClampNeg)) w) = (kI 23) then (kI 1) else (kI 0))) else (kI 0)) else (kI 0)) else (kI 0))))
theorem m_246_110 {X : Scr} {d : Nat} (w : Wd) (p1 : Int32) (p2 : Int32) : CV X (d + 2) 246 [.ref 110, .int p1, .int p2] SH w (fun r s1 w1 => r = some (.int (F_246_110 p1 p2 w)) ∧ s1 = SH ∧ w1 = w) := by
  refine CV.of rfl ?_
  refine EV.steps cl_246 3 (q2 := (5, [some (.ref 110), some (.int p1), some (.int p2), none], [.int p1, .int (w 110 56)], SH, w)) rfl ?_
  refine EV.call cl_246 rfl rfl rfl (m_161 w (w 110 56) p1) ?_
  rintro _ _ _ ⟨rfl, rfl, rfl⟩
  refine EV.z_eq cl_246 rfl (fun h1 => ?_) (fun h1 => ?_)
  · skip
    refine EV.steps cl_246 1 (q2 := (68, [some (.ref 110), some (.int p1), some (.int p2), none], [.int (kI 0)], SH, w)) rfl ?_
    refine EV.ret cl_246 rfl rfl rfl ?_
    exact ⟨(by simp only [F_246_110, if_pos h1]), rfl, rfl⟩
  · skip
    refine EV.steps cl_246 3 (q2 := (16, [some (.ref 110), some (.int p1), some (.int p2), none], [.int p2, .int (w 110 56)], SH, w)) rfl ?_
    refine EV.call cl_246 rfl rfl rfl (m_161 w (w 110 56) p2) ?_
    rintro _ _ _ ⟨rfl, rfl, rfl⟩
    refine EV.z_eq cl_246 rfl (fun h2 => ?_) (fun h2 => ?_)
    · skip
      refine EV.steps cl_246 1 (q2 := (68, [some (.ref 110), some (.int p1), some (.int p2), none], [.int (kI 0)], SH, w)) rfl ?_
      refine EV.ret cl_246 rfl rfl rfl ?_
      exact ⟨(by simp only [F_246_110, if_neg h1, if_pos h2]), rfl, rfl⟩
    · skip
      refine EV.steps cl_246 3 (q2 := (27, [some (.ref 110), some (.int p1), some (.int p2), none], [.int p1, .ref 140], SH, w)) rfl ?_
      refine EV.iaload cl_246 rfl rfl (by decide) (by first | rfl | exact ix_153 (by assumption) (by decide) | exact ix2_153 (by assumption) (by assumption) (by decide) (by decide) (by decide) (by decide) | exact ix_157 (by assumption) (by decide)) ?_
      refine EV.steps cl_246 3 (q2 := (33, [some (.ref 110), some (.int p1), some (.int p2), none], [.int p2, .ref 140, .int (w 140 p1.toNatClampNeg)], SH, w)) rfl ?_
      refine EV.iaload cl_246 rfl rfl (by decide) (by first | rfl | exact ix_153 (by assumption) (by decide) | exact ix2_153 (by assumption) (by assumption) (by decide) (by decide) (by decide) (by decide) | exact ix_157 (by assumption) (by decide)) ?_
      refine EV.i_ne cl_246 rfl (fun h3 => ?_) (fun h3 => ?_)
      · skip
        refine EV.steps cl_246 1 (q2 := (68, [some (.ref 110), some (.int p1), some (.int p2), none], [.int (kI 0)], SH, w)) rfl ?_
        refine EV.ret cl_246 rfl rfl rfl ?_
        exact ⟨(by simp only [F_246_110, if_neg h1, if_neg h2, if_pos h3]), rfl, rfl⟩
      · skip
        refine EV.steps cl_246 3 (q2 := (42, [some (.ref 110), some (.int p1), some (.int p2), none], [.int p1, .ref 143], SH, w)) rfl ?_
        refine EV.iaload cl_246 rfl rfl (by decide) (by first | rfl | exact ix_153 (by assumption) (by decide) | exact ix2_153 (by assumption) (by assumption) (by decide) (by decide) (by decide) (by decide) | exact ix_157 (by assumption) (by decide)) ?_
        refine EV.steps cl_246 3 (q2 := (48, [some (.ref 110), some (.int p1), some (.int p2), none], [.int p2, .ref 143, .int (w 143 p1.toNatClampNeg)], SH, w)) rfl ?_
        refine EV.iaload cl_246 rfl rfl (by decide) (by first | rfl | exact ix_153 (by assumption) (by decide) | exact ix2_153 (by assumption) (by assumption) (by decide) (by decide) (by decide) (by decide) | exact ix_157 (by assumption) (by decide)) ?_
        refine EV.i_ne cl_246 rfl (fun h4 => ?_) (fun h4 => ?_)
        · skip
          refine EV.steps cl_246 1 (q2 := (68, [some (.ref 110), some (.int p1), some (.int p2), none], [.int (kI 0)], SH, w)) rfl ?_
          refine EV.ret cl_246 rfl rfl rfl ?_
          exact ⟨(by simp only [F_246_110, if_neg h1, if_neg h2, if_neg h3, if_pos h4]), rfl, rfl⟩
        · skip
          refine EV.steps cl_246 3 (q2 := (57, [some (.ref 110), some (.int p1), some (.int p2), none], [.int p1, .ref 141], SH, w)) rfl ?_
          refine EV.iaload cl_246 rfl rfl (by decide) (by first | rfl | exact ix_153 (by assumption) (by decide) | exact ix2_153 (by assumption) (by assumption) (by decide) (by decide) (by decide) (by decide) | exact ix_157 (by assumption) (by decide)) ?_
          refine EV.steps cl_246 3 (q2 := (63, [some (.ref 110), some (.int p1), some (.int p2), none], [.int p2, .ref 141, .int (w 141 p1.toNatClampNeg)], SH, w)) rfl ?_
          refine EV.iaload cl_246 rfl rfl (by decide) (by first | rfl | exact ix_153 (by assumption) (by decide) | exact ix2_153 (by assumption) (by assumption) (by decide) (by decide) (by decide) (by decide) | exact ix_157 (by assumption) (by decide)) ?_
          refine EV.i_eq cl_246 rfl (fun h5 => ?_) (fun h5 => ?_)
          · skip
            refine EV.steps cl_246 3 (q2 := (74, [some (.ref 110), some (.int p1), some (.int p2), none], [.int p1, .ref 142], SH, w)) rfl ?_
            refine EV.iaload cl_246 rfl rfl (by decide) (by first | rfl | exact ix_153 (by assumption) (by decide) | exact ix2_153 (by assumption) (by assumption) (by decide) (by decide) (by decide) (by decide) | exact ix_157 (by assumption) (by decide)) ?_
            refine EV.steps cl_246 3 (q2 := (80, [some (.ref 110), some (.int p1), some (.int p2), none], [.int p2, .ref 142, .int (w 142 p1.toNatClampNeg)], SH, w)) rfl ?_
            refine EV.iaload cl_246 rfl rfl (by decide) (by first | rfl | exact ix_153 (by assumption) (by decide) | exact ix2_153 (by assumption) (by assumption) (by decide) (by decide) (by decide) (by decide) | exact ix_157 (by assumption) (by decide)) ?_
            refine EV.steps cl_246 1 (q2 := (82, [some (.ref 110), some (.int p1), some (.int p2), none], [.int ((w 142 p1.toNatClampNeg) - (w 142 p2.toNatClampNeg))], SH, w)) rfl ?_
            refine EV.call cl_246 rfl rfl rfl (m_160 w ((w 142 p1.toNatClampNeg) - (w 142 p2.toNatClampNeg))) ?_
            rintro _ _ _ ⟨rfl, rfl, rfl⟩
            refine EV.steps cl_246 3 (q2 := (88, [some (.ref 110), some (.int p1), some (.int p2), some (.int (F_160 ((w 142 p1.toNatClampNeg) - (w 142 p2.toNatClampNeg)) w))], [.int (kI 1), .int (F_160 ((w 142 p1.toNatClampNeg) - (w 142 p2.toNatClampNeg)) w)], SH, w)) rfl ?_
            refine EV.i_eq cl_246 rfl (fun h6 => ?_) (fun h6 => ?_)
            · skip
              refine EV.steps cl_246 2 (q2 := (102, [some (.ref 110), some (.int p1), some (.int p2), some (.int (F_160 ((w 142 p1.toNatClampNeg) - (w 142 p2.toNatClampNeg)) w))], [.int (kI 1)], SH, w)) rfl ?_
              refine EV.ret cl_246 rfl rfl rfl ?_
              exact ⟨(by simp only [F_246_110, if_neg h1, if_neg h2, if_neg h3, if_neg h4, if_pos h5, if_pos h6]), rfl, rfl⟩
            · skip
              refine EV.steps cl_246 2 (q2 := (94, [some (.ref 110), some (.int p1), some (.int p2), some (.int (F_160 ((w 142 p1.toNatClampNeg) - (w 142 p2.toNatClampNeg)) w))], [.int (kI 23), .int (F_160 ((w 142 p1.toNatClampNeg) - (w 142 p2.toNatClampNeg)) w)], SH, w)) rfl ?_
              refine EV.i_ne cl_246 rfl (fun h7 => ?_) (fun h7 => ?_)
              · skip
                refine EV.steps cl_246 1 (q2 := (102, [some (.ref 110), some (.int p1), some (.int p2), some (.int (F_160 ((w 142 p1.toNatClampNeg) - (w 142 p2.toNatClampNeg)) w))], [.int (kI 0)], SH, w)) rfl ?_
                refine EV.ret cl_246 rfl rfl rfl ?_
                exact ⟨(by simp only [F_246_110, if_neg h1, if_neg h2, if_neg h3, if_neg h4, if_pos h5, if_neg h6, if_pos h7]), rfl, rfl⟩
              · skip
                refine EV.steps cl_246 2 (q2 := (102, [some (.ref 110), some (.int p1), some (.int p2), some (.int (F_160 ((w 142 p1.toNatClampNeg) - (w 142 p2.toNatClampNeg)) w))], [.int (kI 1)], SH, w)) rfl ?_
                refine EV.ret cl_246 rfl rfl rfl ?_
                exact ⟨(by simp only [F_246_110, if_neg h1, if_neg h2, if_neg h3, if_neg h4, if_pos h5, if_neg h6, if_neg h7]), rfl, rfl⟩
          · skip
            refine EV.steps cl_246 1 (q2 := (68, [some (.ref 110), some (.int p1), some (.int p2), none], [.int (kI 0)], SH, w)) rfl ?_
            refine EV.ret cl_246 rfl rfl rfl ?_
            exact ⟨(by simp only [F_246_110, if_neg h1, if_neg h2, if_neg h3, if_neg h4, if_neg h5]), rfl, rfl⟩
theorem cl_253 : RCT[253]? = some rc_253 := rfl
def F_253_110 (p1 : Int32) (w : Wd) : Int32 := (if (F_157 p1 (kI 0) (kI 65535) w) = 0 then (kI 0) else (kI 1))
def G_253_110 (p1 : Int32) (w : Wd) : Wd := (if (F_157 p1 (kI 0) (kI 65535) w) = 0 then w else (up2 w 111 (kI 161).toNatClampNeg p1))
theorem m_253_110 {X : Scr} {d : Nat} (w : Wd) (p1 : Int32) : CV X (d + 2) 253 [.ref 110, .int p1] SH w (fun r s1 w1 => r = some (.int (F_253_110 p1 w)) ∧ s1 = SH ∧ w1 = G_253_110 p1 w) := by
  refine CV.of rfl ?_
  refine EV.steps cl_253 3 (q2 := (5, [some (.ref 110), some (.int p1)], [.int (kI 65535), .int (kI 0), .int p1], SH, w)) rfl ?_
  refine EV.call cl_253 rfl rfl rfl (m_157 w p1 (kI 0) (kI 65535)) ?_
  rintro _ _ _ ⟨rfl, rfl, rfl⟩
  refine EV.z_ne cl_253 rfl (fun h1 => ?_) (fun h1 => ?_)
  · skip
    refine EV.steps cl_253 4 (q2 := (21, [some (.ref 110), some (.int p1)], [.int p1, .int (kI 161), .ref 111], SH, w)) rfl ?_
    refine EV.iastore cl_253 rfl rfl (by decide) (by first | rfl | exact ix_153 (by assumption) (by decide) | exact ix2_153 (by assumption) (by assumption) (by decide) (by decide) (by decide) (by decide) | exact ix_157 (by assumption) (by decide)) ?_
    refine EV.steps cl_253 1 (q2 := (23, [some (.ref 110), some (.int p1)], [.int (kI 1)], SH, (up2 w 111 (kI 161).toNatClampNeg p1))) rfl ?_
    refine EV.ret cl_253 rfl rfl rfl ?_
    exact ⟨(by simp only [F_253_110, if_pos h1]), rfl, (by simp only [G_253_110, if_pos h1])⟩
  · skip
    refine EV.steps cl_253 1 (q2 := (12, [some (.ref 110), some (.int p1)], [.int (kI 0)], SH, w)) rfl ?_
    refine EV.ret cl_253 rfl rfl rfl ?_
    exact ⟨(by simp only [F_253_110, if_neg h1]), rfl, (by simp only [G_253_110, if_neg h1])⟩
