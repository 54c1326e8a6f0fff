set_option maxRecDepth 20000 in
theorem cl_153 : RCT[153]? = some rc_153 := rfl
def F_153 (p1 : Int32) (p2 : Int32) (p3 : Int32) (w : Wd) : Int32 := (if p1 < p2 then (kI 0) else (if p3 < p1 then (kI 0) else (kI 1)))
theorem z1_153 (p1 : Int32) (p2 : Int32) (p3 : Int32) (w : Wd) : F_153 p1 p2 p3 w = 0 ∨ F_153 p1 p2 p3 w = 1 := by
  unfold F_153
  (repeat' split) <;> first | exact Or.inl rfl | exact Or.inr rfl
theorem m_153 {X : Scr} {d : Nat} (w : Wd) (p1 : Int32) (p2 : Int32) (p3 : Int32) : CV X (d + 1) 153 [.int p1, .int p2, .int p3] SH w (fun r s1 w1 => r = some (.int (F_153 p1 p2 p3 w)) ∧ s1 = SH ∧ w1 = w) := by
  refine CV.of rfl ?_
  refine EV.steps cl_153 2 (q2 := (2, [some (.int p1), some (.int p2), some (.int p3)], [.int p2, .int p1], SH, w)) rfl ?_
  refine EV.i_lt cl_153 rfl (fun h1 => ?_) (fun h1 => ?_)
  · skip
    refine EV.steps cl_153 1 (q2 := (15, [some (.int p1), some (.int p2), some (.int p3)], [.int (kI 0)], SH, w)) rfl ?_
    refine EV.ret cl_153 rfl rfl rfl ?_
    exact ⟨(by simp only [F_153, if_pos h1]), rfl, rfl⟩
  · skip
    refine EV.steps cl_153 2 (q2 := (7, [some (.int p1), some (.int p2), some (.int p3)], [.int p3, .int p1], SH, w)) rfl ?_
    refine EV.i_gt cl_153 rfl (fun h2 => ?_) (fun h2 => ?_)
    · skip
      refine EV.steps cl_153 1 (q2 := (15, [some (.int p1), some (.int p2), some (.int p3)], [.int (kI 0)], SH, w)) rfl ?_
      refine EV.ret cl_153 rfl rfl rfl ?_
      exact ⟨(by simp only [F_153, if_neg h1, if_pos h2]), rfl, rfl⟩
    · skip
      refine EV.steps cl_153 2 (q2 := (15, [some (.int p1), some (.int p2), some (.int p3)], [.int (kI 1)], SH, w)) rfl ?_
      refine EV.ret cl_153 rfl rfl rfl ?_
      exact ⟨(by simp only [F_153, if_neg h1, if_neg h2]), rfl, rfl⟩
theorem wi_153 {p : Int32} {a b : Int} {w : Wd} (h : ¬ F_153 p (kI a) (kI b) w = 0) (ha : -1000000 ≤ a ∧ a ≤ 1000000) (hb : -1000000 ≤ b ∧ b ≤ 1000000) : a ≤ p.toInt ∧ p.toInt ≤ b := by
  unfold F_153 at h
  by_cases h1 : p < kI a
  · rw [if_pos h1] at h; exact absurd rfl h
  · rw [if_neg h1] at h
    by_cases h2 : kI b < p
    · rw [if_pos h2] at h; exact absurd rfl h
    · exact ⟨(le_kI ha.1 ha.2).1.mp (Int32.not_lt.mp h1), (le_kI hb.1 hb.2).2.mp (Int32.not_lt.mp h2)⟩
theorem ix_153 {p : Int32} {b : Int} {w : Wd} {n : Nat} (h : ¬ F_153 p (kI 0) (kI b) w = 0) (hb : 0 ≤ b ∧ b ≤ 1000000 ∧ b < n) : inB p n = true := by
  have h1 := wi_153 h (by omega) (by omega)
  exact inB_of h1.1 (by omega)
theorem ix2_153 {p q : Int32} {a b c : Int} {w w2 : Wd} {n : Nat} (h : ¬ F_153 p (kI 0) (kI a) w = 0) (h2 : ¬ F_153 q (kI 0) (kI b) w2 = 0) (ha : 0 ≤ a ∧ a ≤ 1000) (hb : 0 ≤ b ∧ b ≤ 1000) (hc : 0 ≤ c ∧ c ≤ 1000) (hn : a * c + b < n) : inB (p * kI c + q) n = true := by
  have h3 := wi_153 h (by omega) (by omega)
  have h4 := wi_153 h2 (by omega) (by omega)
  have h5 := toInt_lin (p := p) (q := q) (c := c) (by omega) (by omega) hc
  have h6 : p.toInt * c ≤ a * c := Int.mul_le_mul_of_nonneg_right h3.2 hc.1
  have h7 : 0 ≤ p.toInt * c := Int.mul_nonneg h3.1 hc.1
  exact inB_of (by omega) (by omega)
set_option maxRecDepth 20000 in
theorem cl_154 : RCT[154]? = some rc_154 := rfl
def F_154 (p1 : Int32) (p2 : Int32) (w : Wd) : Int32 := (if ((p1 >>> (p2 &&& 31)) &&& (kI 1)) = (kI 1) then (kI 1) else (kI 0))
theorem z1_154 (p1 : Int32) (p2 : Int32) (w : Wd) : F_154 p1 p2 w = 0 ∨ F_154 p1 p2 w = 1 := by
  unfold F_154
  (repeat' split) <;> first | exact Or.inl rfl | exact Or.inr rfl
theorem m_154 {X : Scr} {d : Nat} (w : Wd) (p1 : Int32) (p2 : Int32) : CV X (d + 1) 154 [.int p1, .int p2] SH w (fun r s1 w1 => r = some (.int (F_154 p1 p2 w)) ∧ s1 = SH ∧ w1 = w) := by
  refine CV.of rfl ?_
  refine EV.steps cl_154 6 (q2 := (6, [some (.int p1), some (.int p2)], [.int (kI 1), .int ((p1 >>> (p2 &&& 31)) &&& (kI 1))], SH, w)) rfl ?_
  refine EV.i_ne cl_154 rfl (fun h1 => ?_) (fun h1 => ?_)
  · skip
    refine EV.steps cl_154 1 (q2 := (14, [some (.int p1), some (.int p2)], [.int (kI 0)], SH, w)) rfl ?_
    refine EV.ret cl_154 rfl rfl rfl ?_
    exact ⟨(by simp only [F_154, if_neg h1]), rfl, rfl⟩
  · skip
    refine EV.steps cl_154 2 (q2 := (14, [some (.int p1), some (.int p2)], [.int (kI 1)], SH, w)) rfl ?_
    refine EV.ret cl_154 rfl rfl rfl ?_
    exact ⟨(by simp only [F_154, if_pos h1]), rfl, rfl⟩
set_option maxRecDepth 20000 in
theorem cl_8 : RCT[8]? = some rc_8 := rfl
def F_8_102 (p1 : Int32) (p2 : Int32) (w : Wd) : Int32 := (if (F_153 p1 (kI 0) (kI 19) w) = 0 then (kI 0) else (if (F_153 p2 (kI 0) (kI 19) w) = 0 then (kI 0) else (if (F_154 (w 102 6) p1 w) = 0 then (kI 0) else (if (F_154 (w 102 6) p2 w) = 0 then (kI 0) else (if (if 0 ≤ ((w 105 p1.toNatClampNeg) - (w 105 p2.toNatClampNeg)) then ((w 105 p1.toNatClampNeg) - (w 105 p2.toNatClampNeg)) else 0 - ((w 105 p1.toNatClampNeg) - (w 105 p2.toNatClampNeg))) = (kI 1) then (if (w 103 p1.toNatClampNeg) = (w 103 p2.toNatClampNeg) then (if (w 106 p1.toNatClampNeg) = (w 106 p2.toNatClampNeg) then (if (w 104 p1.toNatClampNeg) = (w 104 p2.toNatClampNeg) then (kI 1) else (kI 0)) else (kI 0)) else (kI 0)) else (if (if 0 ≤ ((w 105 p1.toNatClampNeg) - (w 105 p2.toNatClampNeg)) then ((w 105 p1.toNatClampNeg) - (w 105 p2.toNatClampNeg)) else 0 - ((w 105 p1.toNatClampNeg) - (w 105 p2.toNatClampNeg))) = (kI 23) then (if (w 103 p1.toNatClampNeg) = (w 103 p2.toNatClampNeg) then (if (w 106 p1.toNatClampNeg) = (w 106 p2.toNatClampNeg) then (if (w 104 p1.toNatClampNeg) = (w 104 p2.toNatClampNeg) then (kI 1) else (kI 0)) else (kI 0)) else (kI 0)) else (kI 0)))))))
theorem z1_8_102 (p1 : Int32) (p2 : Int32) (w : Wd) : F_8_102 p1 p2 w = 0 ∨ F_8_102 p1 p2 w = 1 := by
  unfold F_8_102
  (repeat' split) <;> first | exact Or.inl rfl | exact Or.inr rfl
theorem m_8_102 {X : Scr} {d : Nat} (w : Wd) (p1 : Int32) (p2 : Int32) : CV X (d + 2) 8 [.ref 102, .int p1, .int p2] SH w (fun r s1 w1 => r = some (.int (F_8_102 p1 p2 w)) ∧ s1 = SH ∧ w1 = w) := by
  refine CV.of rfl ?_
  refine EV.steps cl_8 3 (q2 := (4, [some (.ref 102), some (.int p1), some (.int p2), none, none], [.int (kI 19), .int (kI 0), .int p1], SH, w)) rfl ?_
  refine EV.callF (kc := 153) (av := [.int p1, .int (kI 0), .int (kI 19)]) (r := []) (rv := some (.int (F_153 p1 (kI 0) (kI 19) w))) (w2 := w) cl_8 rfl rfl rfl (m_153 w p1 (kI 0) (kI 19)) ?_
  refine EV.z_eq cl_8 rfl (fun h1 => ?_) (fun h1 => ?_)
  · skip
    refine EV.steps cl_8 1 (q2 := (21, [some (.ref 102), some (.int p1), some (.int p2), none, none], [.int (kI 0)], SH, w)) rfl ?_
    refine EV.ret cl_8 rfl rfl rfl ?_
    exact ⟨(by simp only [F_8_102, if_pos h1]), rfl, rfl⟩
  · skip
    refine EV.steps cl_8 3 (q2 := (14, [some (.ref 102), some (.int p1), some (.int p2), none, none], [.int (kI 19), .int (kI 0), .int p2], SH, w)) rfl ?_
    refine EV.callF (kc := 153) (av := [.int p2, .int (kI 0), .int (kI 19)]) (r := []) (rv := some (.int (F_153 p2 (kI 0) (kI 19) w))) (w2 := w) cl_8 rfl rfl rfl (m_153 w p2 (kI 0) (kI 19)) ?_
    refine EV.z_ne cl_8 rfl (fun h2 => ?_) (fun h2 => ?_)
    · skip
      refine EV.steps cl_8 3 (q2 := (27, [some (.ref 102), some (.int p1), some (.int p2), none, none], [.int p1, .int (w 102 6)], SH, w)) rfl ?_
      refine EV.callF (kc := 154) (av := [.int (w 102 6), .int p1]) (r := []) (rv := some (.int (F_154 (w 102 6) p1 w))) (w2 := w) cl_8 rfl rfl rfl (m_154 w (w 102 6) p1) ?_
      refine EV.z_eq cl_8 rfl (fun h3 => ?_) (fun h3 => ?_)
      · skip
        refine EV.steps cl_8 1 (q2 := (45, [some (.ref 102), some (.int p1), some (.int p2), none, none], [.int (kI 0)], SH, w)) rfl ?_
        refine EV.ret cl_8 rfl rfl rfl ?_
        exact ⟨(by simp only [F_8_102, if_neg h1, if_neg h2, if_pos h3]), rfl, rfl⟩
      · skip
        refine EV.steps cl_8 3 (q2 := (38, [some (.ref 102), some (.int p1), some (.int p2), none, none], [.int p2, .int (w 102 6)], SH, w)) rfl ?_
        refine EV.callF (kc := 154) (av := [.int (w 102 6), .int p2]) (r := []) (rv := some (.int (F_154 (w 102 6) p2 w))) (w2 := w) cl_8 rfl rfl rfl (m_154 w (w 102 6) p2) ?_
        refine EV.z_ne cl_8 rfl (fun h4 => ?_) (fun h4 => ?_)
        · skip
          refine EV.steps cl_8 3 (q2 := (51, [some (.ref 102), some (.int p1), some (.int p2), none, none], [.int p1, .ref 105], SH, w)) rfl ?_
          refine EV.iaload cl_8 rfl rfl (by decide) (ix_153 h1 (by decide)) ?_
          refine EV.steps cl_8 3 (q2 := (57, [some (.ref 102), some (.int p1), some (.int p2), none, none], [.int p2, .ref 105, .int (w 105 p1.toNatClampNeg)], SH, w)) rfl ?_
          refine EV.iaload cl_8 rfl rfl (by decide) (ix_153 h2 (by decide)) ?_
          refine EV.steps cl_8 5 (q2 := (65, [some (.ref 102), some (.int p1), some (.int p2), some (.int (if 0 ≤ ((w 105 p1.toNatClampNeg) - (w 105 p2.toNatClampNeg)) then ((w 105 p1.toNatClampNeg) - (w 105 p2.toNatClampNeg)) else 0 - ((w 105 p1.toNatClampNeg) - (w 105 p2.toNatClampNeg)))), none], [.int (kI 1), .int (if 0 ≤ ((w 105 p1.toNatClampNeg) - (w 105 p2.toNatClampNeg)) then ((w 105 p1.toNatClampNeg) - (w 105 p2.toNatClampNeg)) else 0 - ((w 105 p1.toNatClampNeg) - (w 105 p2.toNatClampNeg)))], SH, w)) rfl ?_
          refine EV.i_eq cl_8 rfl (fun h5 => ?_) (fun h5 => ?_)
          · skip
            refine EV.steps cl_8 8 (q2 := (91, [some (.ref 102), some (.int p1), some (.int p2), some (.int (if 0 ≤ ((w 105 p1.toNatClampNeg) - (w 105 p2.toNatClampNeg)) then ((w 105 p1.toNatClampNeg) - (w 105 p2.toNatClampNeg)) else 0 - ((w 105 p1.toNatClampNeg) - (w 105 p2.toNatClampNeg)))), some (.int (kI 1))], [.int p1, .ref 103], SH, w)) rfl ?_
            refine EV.iaload cl_8 rfl rfl (by decide) (ix_153 h1 (by decide)) ?_
            refine EV.steps cl_8 3 (q2 := (97, [some (.ref 102), some (.int p1), some (.int p2), some (.int (if 0 ≤ ((w 105 p1.toNatClampNeg) - (w 105 p2.toNatClampNeg)) then ((w 105 p1.toNatClampNeg) - (w 105 p2.toNatClampNeg)) else 0 - ((w 105 p1.toNatClampNeg) - (w 105 p2.toNatClampNeg)))), some (.int (kI 1))], [.int p2, .ref 103, .int (w 103 p1.toNatClampNeg)], SH, w)) rfl ?_
            refine EV.iaload cl_8 rfl rfl (by decide) (ix_153 h2 (by decide)) ?_
            refine EV.i_ne cl_8 rfl (fun h6 => ?_) (fun h6 => ?_)
            · skip
              refine EV.steps cl_8 1 (q2 := (136, [some (.ref 102), some (.int p1), some (.int p2), some (.int (if 0 ≤ ((w 105 p1.toNatClampNeg) - (w 105 p2.toNatClampNeg)) then ((w 105 p1.toNatClampNeg) - (w 105 p2.toNatClampNeg)) else 0 - ((w 105 p1.toNatClampNeg) - (w 105 p2.toNatClampNeg)))), some (.int (kI 1))], [.int (kI 0)], SH, w)) rfl ?_
              refine EV.ret cl_8 rfl rfl rfl ?_
              exact ⟨(by simp only [F_8_102, if_neg h1, if_neg h2, if_neg h3, if_neg h4, if_pos h5, if_neg h6]), rfl, rfl⟩
            · skip
              refine EV.steps cl_8 3 (q2 := (106, [some (.ref 102), some (.int p1), some (.int p2), some (.int (if 0 ≤ ((w 105 p1.toNatClampNeg) - (w 105 p2.toNatClampNeg)) then ((w 105 p1.toNatClampNeg) - (w 105 p2.toNatClampNeg)) else 0 - ((w 105 p1.toNatClampNeg) - (w 105 p2.toNatClampNeg)))), some (.int (kI 1))], [.int p1, .ref 106], SH, w)) rfl ?_
              refine EV.iaload cl_8 rfl rfl (by decide) (ix_153 h1 (by decide)) ?_
              refine EV.steps cl_8 3 (q2 := (112, [some (.ref 102), some (.int p1), some (.int p2), some (.int (if 0 ≤ ((w 105 p1.toNatClampNeg) - (w 105 p2.toNatClampNeg)) then ((w 105 p1.toNatClampNeg) - (w 105 p2.toNatClampNeg)) else 0 - ((w 105 p1.toNatClampNeg) - (w 105 p2.toNatClampNeg)))), some (.int (kI 1))], [.int p2, .ref 106, .int (w 106 p1.toNatClampNeg)], SH, w)) rfl ?_
              refine EV.iaload cl_8 rfl rfl (by decide) (ix_153 h2 (by decide)) ?_
              refine EV.i_ne cl_8 rfl (fun h7 => ?_) (fun h7 => ?_)
              · skip
                refine EV.steps cl_8 1 (q2 := (136, [some (.ref 102), some (.int p1), some (.int p2), some (.int (if 0 ≤ ((w 105 p1.toNatClampNeg) - (w 105 p2.toNatClampNeg)) then ((w 105 p1.toNatClampNeg) - (w 105 p2.toNatClampNeg)) else 0 - ((w 105 p1.toNatClampNeg) - (w 105 p2.toNatClampNeg)))), some (.int (kI 1))], [.int (kI 0)], SH, w)) rfl ?_
                refine EV.ret cl_8 rfl rfl rfl ?_
                exact ⟨(by simp only [F_8_102, if_neg h1, if_neg h2, if_neg h3, if_neg h4, if_pos h5, if_pos h6, if_neg h7]), rfl, rfl⟩
              · skip
                refine EV.steps cl_8 3 (q2 := (121, [some (.ref 102), some (.int p1), some (.int p2), some (.int (if 0 ≤ ((w 105 p1.toNatClampNeg) - (w 105 p2.toNatClampNeg)) then ((w 105 p1.toNatClampNeg) - (w 105 p2.toNatClampNeg)) else 0 - ((w 105 p1.toNatClampNeg) - (w 105 p2.toNatClampNeg)))), some (.int (kI 1))], [.int p1, .ref 104], SH, w)) rfl ?_
                refine EV.iaload cl_8 rfl rfl (by decide) (ix_153 h1 (by decide)) ?_
                refine EV.steps cl_8 3 (q2 := (127, [some (.ref 102), some (.int p1), some (.int p2), some (.int (if 0 ≤ ((w 105 p1.toNatClampNeg) - (w 105 p2.toNatClampNeg)) then ((w 105 p1.toNatClampNeg) - (w 105 p2.toNatClampNeg)) else 0 - ((w 105 p1.toNatClampNeg) - (w 105 p2.toNatClampNeg)))), some (.int (kI 1))], [.int p2, .ref 104, .int (w 104 p1.toNatClampNeg)], SH, w)) rfl ?_
                refine EV.iaload cl_8 rfl rfl (by decide) (ix_153 h2 (by decide)) ?_
                refine EV.i_ne cl_8 rfl (fun h8 => ?_) (fun h8 => ?_)
                · skip
                  refine EV.steps cl_8 1 (q2 := (136, [some (.ref 102), some (.int p1), some (.int p2), some (.int (if 0 ≤ ((w 105 p1.toNatClampNeg) - (w 105 p2.toNatClampNeg)) then ((w 105 p1.toNatClampNeg) - (w 105 p2.toNatClampNeg)) else 0 - ((w 105 p1.toNatClampNeg) - (w 105 p2.toNatClampNeg)))), some (.int (kI 1))], [.int (kI 0)], SH, w)) rfl ?_
                  refine EV.ret cl_8 rfl rfl rfl ?_
                  exact ⟨(by simp only [F_8_102, if_neg h1, if_neg h2, if_neg h3, if_neg h4, if_pos h5, if_pos h6, if_pos h7, if_neg h8]), rfl, rfl⟩
                · skip
                  refine EV.steps cl_8 2 (q2 := (136, [some (.ref 102), some (.int p1), some (.int p2), some (.int (if 0 ≤ ((w 105 p1.toNatClampNeg) - (w 105 p2.toNatClampNeg)) then ((w 105 p1.toNatClampNeg) - (w 105 p2.toNatClampNeg)) else 0 - ((w 105 p1.toNatClampNeg) - (w 105 p2.toNatClampNeg)))), some (.int (kI 1))], [.int (kI 1)], SH, w)) rfl ?_
                  refine EV.ret cl_8 rfl rfl rfl ?_
                  exact ⟨(by simp only [F_8_102, if_neg h1, if_neg h2, if_neg h3, if_neg h4, if_pos h5, if_pos h6, if_pos h7, if_pos h8]), rfl, rfl⟩
          · skip
            refine EV.steps cl_8 2 (q2 := (71, [some (.ref 102), some (.int p1), some (.int p2), some (.int (if 0 ≤ ((w 105 p1.toNatClampNeg) - (w 105 p2.toNatClampNeg)) then ((w 105 p1.toNatClampNeg) - (w 105 p2.toNatClampNeg)) else 0 - ((w 105 p1.toNatClampNeg) - (w 105 p2.toNatClampNeg)))), none], [.int (kI 23), .int (if 0 ≤ ((w 105 p1.toNatClampNeg) - (w 105 p2.toNatClampNeg)) then ((w 105 p1.toNatClampNeg) - (w 105 p2.toNatClampNeg)) else 0 - ((w 105 p1.toNatClampNeg) - (w 105 p2.toNatClampNeg)))], SH, w)) rfl ?_
            refine EV.i_ne cl_8 rfl (fun h9 => ?_) (fun h9 => ?_)
            · skip
              refine EV.steps cl_8 5 (q2 := (136, [some (.ref 102), some (.int p1), some (.int p2), some (.int (if 0 ≤ ((w 105 p1.toNatClampNeg) - (w 105 p2.toNatClampNeg)) then ((w 105 p1.toNatClampNeg) - (w 105 p2.toNatClampNeg)) else 0 - ((w 105 p1.toNatClampNeg) - (w 105 p2.toNatClampNeg)))), some (.int (kI 0))], [.int (kI 0)], SH, w)) rfl ?_
              refine EV.ret cl_8 rfl rfl rfl ?_
              exact ⟨(by simp only [F_8_102, if_neg h1, if_neg h2, if_neg h3, if_neg h4, if_neg h5, if_neg h9]), rfl, rfl⟩
            · skip
              refine EV.steps cl_8 8 (q2 := (91, [some (.ref 102), some (.int p1), some (.int p2), some (.int (if 0 ≤ ((w 105 p1.toNatClampNeg) - (w 105 p2.toNatClampNeg)) then ((w 105 p1.toNatClampNeg) - (w 105 p2.toNatClampNeg)) else 0 - ((w 105 p1.toNatClampNeg) - (w 105 p2.toNatClampNeg)))), some (.int (kI 1))], [.int p1, .ref 103], SH, w)) rfl ?_
              refine EV.iaload cl_8 rfl rfl (by decide) (ix_153 h1 (by decide)) ?_
              refine EV.steps cl_8 3 (q2 := (97, [some (.ref 102), some (.int p1), some (.int p2), some (.int (if 0 ≤ ((w 105 p1.toNatClampNeg) - (w 105 p2.toNatClampNeg)) then ((w 105 p1.toNatClampNeg) - (w 105 p2.toNatClampNeg)) else 0 - ((w 105 p1.toNatClampNeg) - (w 105 p2.toNatClampNeg)))), some (.int (kI 1))], [.int p2, .ref 103, .int (w 103 p1.toNatClampNeg)], SH, w)) rfl ?_
              refine EV.iaload cl_8 rfl rfl (by decide) (ix_153 h2 (by decide)) ?_
              refine EV.i_ne cl_8 rfl (fun h10 => ?_) (fun h10 => ?_)
              · skip
                refine EV.steps cl_8 1 (q2 := (136, [some (.ref 102), some (.int p1), some (.int p2), some (.int (if 0 ≤ ((w 105 p1.toNatClampNeg) - (w 105 p2.toNatClampNeg)) then ((w 105 p1.toNatClampNeg) - (w 105 p2.toNatClampNeg)) else 0 - ((w 105 p1.toNatClampNeg) - (w 105 p2.toNatClampNeg)))), some (.int (kI 1))], [.int (kI 0)], SH, w)) rfl ?_
                refine EV.ret cl_8 rfl rfl rfl ?_
                exact ⟨(by simp only [F_8_102, if_neg h1, if_neg h2, if_neg h3, if_neg h4, if_neg h5, if_pos h9, if_neg h10]), rfl, rfl⟩
              · skip
                refine EV.steps cl_8 3 (q2 := (106, [some (.ref 102), some (.int p1), some (.int p2), some (.int (if 0 ≤ ((w 105 p1.toNatClampNeg) - (w 105 p2.toNatClampNeg)) then ((w 105 p1.toNatClampNeg) - (w 105 p2.toNatClampNeg)) else 0 - ((w 105 p1.toNatClampNeg) - (w 105 p2.toNatClampNeg)))), some (.int (kI 1))], [.int p1, .ref 106], SH, w)) rfl ?_
                refine EV.iaload cl_8 rfl rfl (by decide) (ix_153 h1 (by decide)) ?_
                refine EV.steps cl_8 3 (q2 := (112, [some (.ref 102), some (.int p1), some (.int p2), some (.int (if 0 ≤ ((w 105 p1.toNatClampNeg) - (w 105 p2.toNatClampNeg)) then ((w 105 p1.toNatClampNeg) - (w 105 p2.toNatClampNeg)) else 0 - ((w 105 p1.toNatClampNeg) - (w 105 p2.toNatClampNeg)))), some (.int (kI 1))], [.int p2, .ref 106, .int (w 106 p1.toNatClampNeg)], SH, w)) rfl ?_
                refine EV.iaload cl_8 rfl rfl (by decide) (ix_153 h2 (by decide)) ?_
                refine EV.i_ne cl_8 rfl (fun h11 => ?_) (fun h11 => ?_)
                · skip
                  refine EV.steps cl_8 1 (q2 := (136, [some (.ref 102), some (.int p1), some (.int p2), some (.int (if 0 ≤ ((w 105 p1.toNatClampNeg) - (w 105 p2.toNatClampNeg)) then ((w 105 p1.toNatClampNeg) - (w 105 p2.toNatClampNeg)) else 0 - ((w 105 p1.toNatClampNeg) - (w 105 p2.toNatClampNeg)))), some (.int (kI 1))], [.int (kI 0)], SH, w)) rfl ?_
                  refine EV.ret cl_8 rfl rfl rfl ?_
                  exact ⟨(by simp only [F_8_102, if_neg h1, if_neg h2, if_neg h3, if_neg h4, if_neg h5, if_pos h9, if_pos h10, if_neg h11]), rfl, rfl⟩
                · skip
                  refine EV.steps cl_8 3 (q2 := (121, [some (.ref 102), some (.int p1), some (.int p2), some (.int (if 0 ≤ ((w 105 p1.toNatClampNeg) - (w 105 p2.toNatClampNeg)) then ((w 105 p1.toNatClampNeg) - (w 105 p2.toNatClampNeg)) else 0 - ((w 105 p1.toNatClampNeg) - (w 105 p2.toNatClampNeg)))), some (.int (kI 1))], [.int p1, .ref 104], SH, w)) rfl ?_
                  refine EV.iaload cl_8 rfl rfl (by decide) (ix_153 h1 (by decide)) ?_
                  refine EV.steps cl_8 3 (q2 := (127, [some (.ref 102), some (.int p1), some (.int p2), some (.int (if 0 ≤ ((w 105 p1.toNatClampNeg) - (w 105 p2.toNatClampNeg)) then ((w 105 p1.toNatClampNeg) - (w 105 p2.toNatClampNeg)) else 0 - ((w 105 p1.toNatClampNeg) - (w 105 p2.toNatClampNeg)))), some (.int (kI 1))], [.int p2, .ref 104, .int (w 104 p1.toNatClampNeg)], SH, w)) rfl ?_
                  refine EV.iaload cl_8 rfl rfl (by decide) (ix_153 h2 (by decide)) ?_
                  refine EV.i_ne cl_8 rfl (fun h12 => ?_) (fun h12 => ?_)
                  · skip
                    refine EV.steps cl_8 1 (q2 := (136, [some (.ref 102), some (.int p1), some (.int p2), some (.int (if 0 ≤ ((w 105 p1.toNatClampNeg) - (w 105 p2.toNatClampNeg)) then ((w 105 p1.toNatClampNeg) - (w 105 p2.toNatClampNeg)) else 0 - ((w 105 p1.toNatClampNeg) - (w 105 p2.toNatClampNeg)))), some (.int (kI 1))], [.int (kI 0)], SH, w)) rfl ?_
                    refine EV.ret cl_8 rfl rfl rfl ?_
                    exact ⟨(by simp only [F_8_102, if_neg h1, if_neg h2, if_neg h3, if_neg h4, if_neg h5, if_pos h9, if_pos h10, if_pos h11, if_neg h12]), rfl, rfl⟩
                  · skip
                    refine EV.steps cl_8 2 (q2 := (136, [some (.ref 102), some (.int p1), some (.int p2), some (.int (if 0 ≤ ((w 105 p1.toNatClampNeg) - (w 105 p2.toNatClampNeg)) then ((w 105 p1.toNatClampNeg) - (w 105 p2.toNatClampNeg)) else 0 - ((w 105 p1.toNatClampNeg) - (w 105 p2.toNatClampNeg)))), some (.int (kI 1))], [.int (kI 1)], SH, w)) rfl ?_
                    refine EV.ret cl_8 rfl rfl rfl ?_
                    exact ⟨(by simp only [F_8_102, if_neg h1, if_neg h2, if_neg h3, if_neg h4, if_neg h5, if_pos h9, if_pos h10, if_pos h11, if_pos h12]), rfl, rfl⟩
        · skip
          refine EV.steps cl_8 1 (q2 := (45, [some (.ref 102), some (.int p1), some (.int p2), none, none], [.int (kI 0)], SH, w)) rfl ?_
          refine EV.ret cl_8 rfl rfl rfl ?_
          exact ⟨(by simp only [F_8_102, if_neg h1, if_neg h2, if_neg h3, if_pos h4]), rfl, rfl⟩
    · skip
      refine EV.steps cl_8 1 (q2 := (21, [some (.ref 102), some (.int p1), some (.int p2), none, none], [.int (kI 0)], SH, w)) rfl ?_
      refine EV.ret cl_8 rfl rfl rfl ?_
      exact ⟨(by simp only [F_8_102, if_neg h1, if_pos h2]), rfl, rfl⟩
set_option maxRecDepth 20000 in
theorem cl_11 : RCT[11]? = some rc_11 := rfl
def F_11_7 (p1 : Int32) (p2 : Int32) (w : Wd) : Int32 := (if (F_153 p1 (kI 0) (kI 5) w) = 0 then (kI 0) else (if (F_153 p2 (kI 0) (kI 5) w) = 0 then (kI 0) else (w 8 ((p1 * (kI 6)) + p2).toNatClampNeg)))
theorem m_11_7 {X : Scr} {d : Nat} (w : Wd) (p1 : Int32) (p2 : Int32) : CV X (d + 2) 11 [.ref 7, .int p1, .int p2] SH w (fun r s1 w1 => r = some (.int (F_11_7 p1 p2 w)) ∧ s1 = SH ∧ w1 = w) := by
  refine CV.of rfl ?_
  refine EV.steps cl_11 3 (q2 := (3, [some (.ref 7), some (.int p1), some (.int p2)], [.int (kI 5), .int (kI 0), .int p1], SH, w)) rfl ?_
  refine EV.callF (kc := 153) (av := [.int p1, .int (kI 0), .int (kI 5)]) (r := []) (rv := some (.int (F_153 p1 (kI 0) (kI 5) w))) (w2 := w) cl_11 rfl rfl rfl (m_153 w p1 (kI 0) (kI 5)) ?_
  refine EV.z_eq cl_11 rfl (fun h1 => ?_) (fun h1 => ?_)
  · skip
    refine EV.steps cl_11 1 (q2 := (33, [some (.ref 7), some (.int p1), some (.int p2)], [.int (kI 0)], SH, w)) rfl ?_
    refine EV.ret cl_11 rfl rfl rfl ?_
    exact ⟨(by simp only [F_11_7, if_pos h1]), rfl, rfl⟩
  · skip
    refine EV.steps cl_11 3 (q2 := (12, [some (.ref 7), some (.int p1), some (.int p2)], [.int (kI 5), .int (kI 0), .int p2], SH, w)) rfl ?_
    refine EV.callF (kc := 153) (av := [.int p2, .int (kI 0), .int (kI 5)]) (r := []) (rv := some (.int (F_153 p2 (kI 0) (kI 5) w))) (w2 := w) cl_11 rfl rfl rfl (m_153 w p2 (kI 0) (kI 5)) ?_
    refine EV.z_eq cl_11 rfl (fun h2 => ?_) (fun h2 => ?_)
    · skip
      refine EV.steps cl_11 1 (q2 := (33, [some (.ref 7), some (.int p1), some (.int p2)], [.int (kI 0)], SH, w)) rfl ?_
      refine EV.ret cl_11 rfl rfl rfl ?_
      exact ⟨(by simp only [F_11_7, if_neg h1, if_pos h2]), rfl, rfl⟩
    · skip
      refine EV.steps cl_11 7 (q2 := (28, [some (.ref 7), some (.int p1), some (.int p2)], [.int ((p1 * (kI 6)) + p2), .ref 8], SH, w)) rfl ?_
      refine EV.iaload cl_11 rfl rfl (by decide) (ix2_153 h1 h2 (by decide) (by decide) (by decide) (by decide)) ?_
      refine EV.steps cl_11 1 (q2 := (33, [some (.ref 7), some (.int p1), some (.int p2)], [.int (w 8 ((p1 * (kI 6)) + p2).toNatClampNeg)], SH, w)) rfl ?_
      refine EV.ret cl_11 rfl rfl rfl ?_
      exact ⟨(by simp only [F_11_7, if_neg h1, if_neg h2]), rfl, rfl⟩
def F_11_12 (p1 : Int32) (p2 : Int32) (w : Wd) : Int32 := (if (F_153 p1 (kI 0) (kI 5) w) = 0 then (kI 0) else (if (F_153 p2 (kI 0) (kI 5) w) = 0 then (kI 0) else (w 13 ((p1 * (kI 6)) + p2).toNatClampNeg)))
theorem m_11_12 {X : Scr} {d : Nat} (w : Wd) (p1 : Int32) (p2 : Int32) : CV X (d + 2) 11 [.ref 12, .int p1, .int p2] SH w (fun r s1 w1 => r = some (.int (F_11_12 p1 p2 w)) ∧ s1 = SH ∧ w1 = w) := by
  refine CV.of rfl ?_
  refine EV.steps cl_11 3 (q2 := (3, [some (.ref 12), some (.int p1), some (.int p2)], [.int (kI 5), .int (kI 0), .int p1], SH, w)) rfl ?_
  refine EV.callF (kc := 153) (av := [.int p1, .int (kI 0), .int (kI 5)]) (r := []) (rv := some (.int (F_153 p1 (kI 0) (kI 5) w))) (w2 := w) cl_11 rfl rfl rfl (m_153 w p1 (kI 0) (kI 5)) ?_
  refine EV.z_eq cl_11 rfl (fun h1 => ?_) (fun h1 => ?_)
  · skip
    refine EV.steps cl_11 1 (q2 := (33, [some (.ref 12), some (.int p1), some (.int p2)], [.int (kI 0)], SH, w)) rfl ?_
    refine EV.ret cl_11 rfl rfl rfl ?_
    exact ⟨(by simp only [F_11_12, if_pos h1]), rfl, rfl⟩
  · skip
    refine EV.steps cl_11 3 (q2 := (12, [some (.ref 12), some (.int p1), some (.int p2)], [.int (kI 5), .int (kI 0), .int p2], SH, w)) rfl ?_
    refine EV.callF (kc := 153) (av := [.int p2, .int (kI 0), .int (kI 5)]) (r := []) (rv := some (.int (F_153 p2 (kI 0) (kI 5) w))) (w2 := w) cl_11 rfl rfl rfl (m_153 w p2 (kI 0) (kI 5)) ?_
    refine EV.z_eq cl_11 rfl (fun h2 => ?_) (fun h2 => ?_)
    · skip
      refine EV.steps cl_11 1 (q2 := (33, [some (.ref 12), some (.int p1), some (.int p2)], [.int (kI 0)], SH, w)) rfl ?_
      refine EV.ret cl_11 rfl rfl rfl ?_
      exact ⟨(by simp only [F_11_12, if_neg h1, if_pos h2]), rfl, rfl⟩
    · skip
      refine EV.steps cl_11 7 (q2 := (28, [some (.ref 12), some (.int p1), some (.int p2)], [.int ((p1 * (kI 6)) + p2), .ref 13], SH, w)) rfl ?_
      refine EV.iaload cl_11 rfl rfl (by decide) (ix2_153 h1 h2 (by decide) (by decide) (by decide) (by decide)) ?_
      refine EV.steps cl_11 1 (q2 := (33, [some (.ref 12), some (.int p1), some (.int p2)], [.int (w 13 ((p1 * (kI 6)) + p2).toNatClampNeg)], SH, w)) rfl ?_
      refine EV.ret cl_11 rfl rfl rfl ?_
      exact ⟨(by simp only [F_11_12, if_neg h1, if_neg h2]), rfl, rfl⟩
def F_11_17 (p1 : Int32) (p2 : Int32) (w : Wd) : Int32 := (if (F_153 p1 (kI 0) (kI 5) w) = 0 then (kI 0) else (if (F_153 p2 (kI 0) (kI 5) w) = 0 then (kI 0) else (w 18 ((p1 * (kI 6)) + p2).toNatClampNeg)))
theorem m_11_17 {X : Scr} {d : Nat} (w : Wd) (p1 : Int32) (p2 : Int32) : CV X (d + 2) 11 [.ref 17, .int p1, .int p2] SH w (fun r s1 w1 => r = some (.int (F_11_17 p1 p2 w)) ∧ s1 = SH ∧ w1 = w) := by
  refine CV.of rfl ?_
  refine EV.steps cl_11 3 (q2 := (3, [some (.ref 17), some (.int p1), some (.int p2)], [.int (kI 5), .int (kI 0), .int p1], SH, w)) rfl ?_
  refine EV.callF (kc := 153) (av := [.int p1, .int (kI 0), .int (kI 5)]) (r := []) (rv := some (.int (F_153 p1 (kI 0) (kI 5) w))) (w2 := w) cl_11 rfl rfl rfl (m_153 w p1 (kI 0) (kI 5)) ?_
  refine EV.z_eq cl_11 rfl (fun h1 => ?_) (fun h1 => ?_)
  · skip
    refine EV.steps cl_11 1 (q2 := (33, [some (.ref 17), some (.int p1), some (.int p2)], [.int (kI 0)], SH, w)) rfl ?_
    refine EV.ret cl_11 rfl rfl rfl ?_
    exact ⟨(by simp only [F_11_17, if_pos h1]), rfl, rfl⟩
  · skip
    refine EV.steps cl_11 3 (q2 := (12, [some (.ref 17), some (.int p1), some (.int p2)], [.int (kI 5), .int (kI 0), .int p2], SH, w)) rfl ?_
    refine EV.callF (kc := 153) (av := [.int p2, .int (kI 0), .int (kI 5)]) (r := []) (rv := some (.int (F_153 p2 (kI 0) (kI 5) w))) (w2 := w) cl_11 rfl rfl rfl (m_153 w p2 (kI 0) (kI 5)) ?_
    refine EV.z_eq cl_11 rfl (fun h2 => ?_) (fun h2 => ?_)
    · skip
      refine EV.steps cl_11 1 (q2 := (33, [some (.ref 17), some (.int p1), some (.int p2)], [.int (kI 0)], SH, w)) rfl ?_
      refine EV.ret cl_11 rfl rfl rfl ?_
      exact ⟨(by simp only [F_11_17, if_neg h1, if_pos h2]), rfl, rfl⟩
    · skip
      refine EV.steps cl_11 7 (q2 := (28, [some (.ref 17), some (.int p1), some (.int p2)], [.int ((p1 * (kI 6)) + p2), .ref 18], SH, w)) rfl ?_
      refine EV.iaload cl_11 rfl rfl (by decide) (ix2_153 h1 h2 (by decide) (by decide) (by decide) (by decide)) ?_
      refine EV.steps cl_11 1 (q2 := (33, [some (.ref 17), some (.int p1), some (.int p2)], [.int (w 18 ((p1 * (kI 6)) + p2).toNatClampNeg)], SH, w)) rfl ?_
      refine EV.ret cl_11 rfl rfl rfl ?_
      exact ⟨(by simp only [F_11_17, if_neg h1, if_neg h2]), rfl, rfl⟩
set_option maxRecDepth 20000 in
theorem cl_12 : RCT[12]? = some rc_12 := rfl
def F_12_7 (p1 : Int32) (p2 : Int32) (w : Wd) : Int32 := (if (F_153 p1 (kI 0) (kI 5) w) = 0 then (kI 0) else (if (F_153 p2 (kI 0) (kI 11) w) = 0 then (kI 0) else (w 10 ((p1 * (kI 12)) + p2).toNatClampNeg)))
theorem m_12_7 {X : Scr} {d : Nat} (w : Wd) (p1 : Int32) (p2 : Int32) : CV X (d + 2) 12 [.ref 7, .int p1, .int p2] SH w (fun r s1 w1 => r = some (.int (F_12_7 p1 p2 w)) ∧ s1 = SH ∧ w1 = w) := by
  refine CV.of rfl ?_
  refine EV.steps cl_12 3 (q2 := (3, [some (.ref 7), some (.int p1), some (.int p2)], [.int (kI 5), .int (kI 0), .int p1], SH, w)) rfl ?_
  refine EV.callF (kc := 153) (av := [.int p1, .int (kI 0), .int (kI 5)]) (r := []) (rv := some (.int (F_153 p1 (kI 0) (kI 5) w))) (w2 := w) cl_12 rfl rfl rfl (m_153 w p1 (kI 0) (kI 5)) ?_
  refine EV.z_eq cl_12 rfl (fun h1 => ?_) (fun h1 => ?_)
  · skip
    refine EV.steps cl_12 1 (q2 := (34, [some (.ref 7), some (.int p1), some (.int p2)], [.int (kI 0)], SH, w)) rfl ?_
    refine EV.ret cl_12 rfl rfl rfl ?_
    exact ⟨(by simp only [F_12_7, if_pos h1]), rfl, rfl⟩
  · skip
    refine EV.steps cl_12 3 (q2 := (13, [some (.ref 7), some (.int p1), some (.int p2)], [.int (kI 11), .int (kI 0), .int p2], SH, w)) rfl ?_
    refine EV.callF (kc := 153) (av := [.int p2, .int (kI 0), .int (kI 11)]) (r := []) (rv := some (.int (F_153 p2 (kI 0) (kI 11) w))) (w2 := w) cl_12 rfl rfl rfl (m_153 w p2 (kI 0) (kI 11)) ?_
    refine EV.z_eq cl_12 rfl (fun h2 => ?_) (fun h2 => ?_)
    · skip
      refine EV.steps cl_12 1 (q2 := (34, [some (.ref 7), some (.int p1), some (.int p2)], [.int (kI 0)], SH, w)) rfl ?_
      refine EV.ret cl_12 rfl rfl rfl ?_
      exact ⟨(by simp only [F_12_7, if_neg h1, if_pos h2]), rfl, rfl⟩
    · skip
      refine EV.steps cl_12 7 (q2 := (29, [some (.ref 7), some (.int p1), some (.int p2)], [.int ((p1 * (kI 12)) + p2), .ref 10], SH, w)) rfl ?_
      refine EV.iaload cl_12 rfl rfl (by decide) (ix2_153 h1 h2 (by decide) (by decide) (by decide) (by decide)) ?_
      refine EV.steps cl_12 1 (q2 := (34, [some (.ref 7), some (.int p1), some (.int p2)], [.int (w 10 ((p1 * (kI 12)) + p2).toNatClampNeg)], SH, w)) rfl ?_
      refine EV.ret cl_12 rfl rfl rfl ?_
      exact ⟨(by simp only [F_12_7, if_neg h1, if_neg h2]), rfl, rfl⟩
def F_12_12 (p1 : Int32) (p2 : Int32) (w : Wd) : Int32 := (if (F_153 p1 (kI 0) (kI 5) w) = 0 then (kI 0) else (if (F_153 p2 (kI 0) (kI 11) w) = 0 then (kI 0) else (w 15 ((p1 * (kI 12)) + p2).toNatClampNeg)))
theorem m_12_12 {X : Scr} {d : Nat} (w : Wd) (p1 : Int32) (p2 : Int32) : CV X (d + 2) 12 [.ref 12, .int p1, .int p2] SH w (fun r s1 w1 => r = some (.int (F_12_12 p1 p2 w)) ∧ s1 = SH ∧ w1 = w) := by
  refine CV.of rfl ?_
  refine EV.steps cl_12 3 (q2 := (3, [some (.ref 12), some (.int p1), some (.int p2)], [.int (kI 5), .int (kI 0), .int p1], SH, w)) rfl ?_
  refine EV.callF (kc := 153) (av := [.int p1, .int (kI 0), .int (kI 5)]) (r := []) (rv := some (.int (F_153 p1 (kI 0) (kI 5) w))) (w2 := w) cl_12 rfl rfl rfl (m_153 w p1 (kI 0) (kI 5)) ?_
  refine EV.z_eq cl_12 rfl (fun h1 => ?_) (fun h1 => ?_)
  · skip
    refine EV.steps cl_12 1 (q2 := (34, [some (.ref 12), some (.int p1), some (.int p2)], [.int (kI 0)], SH, w)) rfl ?_
    refine EV.ret cl_12 rfl rfl rfl ?_
    exact ⟨(by simp only [F_12_12, if_pos h1]), rfl, rfl⟩
  · skip
    refine EV.steps cl_12 3 (q2 := (13, [some (.ref 12), some (.int p1), some (.int p2)], [.int (kI 11), .int (kI 0), .int p2], SH, w)) rfl ?_
    refine EV.callF (kc := 153) (av := [.int p2, .int (kI 0), .int (kI 11)]) (r := []) (rv := some (.int (F_153 p2 (kI 0) (kI 11) w))) (w2 := w) cl_12 rfl rfl rfl (m_153 w p2 (kI 0) (kI 11)) ?_
    refine EV.z_eq cl_12 rfl (fun h2 => ?_) (fun h2 => ?_)
    · skip
      refine EV.steps cl_12 1 (q2 := (34, [some (.ref 12), some (.int p1), some (.int p2)], [.int (kI 0)], SH, w)) rfl ?_
      refine EV.ret cl_12 rfl rfl rfl ?_
      exact ⟨(by simp only [F_12_12, if_neg h1, if_pos h2]), rfl, rfl⟩
    · skip
      refine EV.steps cl_12 7 (q2 := (29, [some (.ref 12), some (.int p1), some (.int p2)], [.int ((p1 * (kI 12)) + p2), .ref 15], SH, w)) rfl ?_
      refine EV.iaload cl_12 rfl rfl (by decide) (ix2_153 h1 h2 (by decide) (by decide) (by decide) (by decide)) ?_
      refine EV.steps cl_12 1 (q2 := (34, [some (.ref 12), some (.int p1), some (.int p2)], [.int (w 15 ((p1 * (kI 12)) + p2).toNatClampNeg)], SH, w)) rfl ?_
      refine EV.ret cl_12 rfl rfl rfl ?_
      exact ⟨(by simp only [F_12_12, if_neg h1, if_neg h2]), rfl, rfl⟩
def F_12_17 (p1 : Int32) (p2 : Int32) (w : Wd) : Int32 := (if (F_153 p1 (kI 0) (kI 5) w) = 0 then (kI 0) else (if (F_153 p2 (kI 0) (kI 11) w) = 0 then (kI 0) else (w 20 ((p1 * (kI 12)) + p2).toNatClampNeg)))
theorem m_12_17 {X : Scr} {d : Nat} (w : Wd) (p1 : Int32) (p2 : Int32) : CV X (d + 2) 12 [.ref 17, .int p1, .int p2] SH w (fun r s1 w1 => r = some (.int (F_12_17 p1 p2 w)) ∧ s1 = SH ∧ w1 = w) := by
  refine CV.of rfl ?_
  refine EV.steps cl_12 3 (q2 := (3, [some (.ref 17), some (.int p1), some (.int p2)], [.int (kI 5), .int (kI 0), .int p1], SH, w)) rfl ?_
  refine EV.callF (kc := 153) (av := [.int p1, .int (kI 0), .int (kI 5)]) (r := []) (rv := some (.int (F_153 p1 (kI 0) (kI 5) w))) (w2 := w) cl_12 rfl rfl rfl (m_153 w p1 (kI 0) (kI 5)) ?_
  refine EV.z_eq cl_12 rfl (fun h1 => ?_) (fun h1 => ?_)
  · skip
    refine EV.steps cl_12 1 (q2 := (34, [some (.ref 17), some (.int p1), some (.int p2)], [.int (kI 0)], SH, w)) rfl ?_
    refine EV.ret cl_12 rfl rfl rfl ?_
    exact ⟨(by simp only [F_12_17, if_pos h1]), rfl, rfl⟩
  · skip
    refine EV.steps cl_12 3 (q2 := (13, [some (.ref 17), some (.int p1), some (.int p2)], [.int (kI 11), .int (kI 0), .int p2], SH, w)) rfl ?_
    refine EV.callF (kc := 153) (av := [.int p2, .int (kI 0), .int (kI 11)]) (r := []) (rv := some (.int (F_153 p2 (kI 0) (kI 11) w))) (w2 := w) cl_12 rfl rfl rfl (m_153 w p2 (kI 0) (kI 11)) ?_
    refine EV.z_eq cl_12 rfl (fun h2 => ?_) (fun h2 => ?_)
    · skip
      refine EV.steps cl_12 1 (q2 := (34, [some (.ref 17), some (.int p1), some (.int p2)], [.int (kI 0)], SH, w)) rfl ?_
      refine EV.ret cl_12 rfl rfl rfl ?_
      exact ⟨(by simp only [F_12_17, if_neg h1, if_pos h2]), rfl, rfl⟩
    · skip
      refine EV.steps cl_12 7 (q2 := (29, [some (.ref 17), some (.int p1), some (.int p2)], [.int ((p1 * (kI 12)) + p2), .ref 20], SH, w)) rfl ?_
      refine EV.iaload cl_12 rfl rfl (by decide) (ix2_153 h1 h2 (by decide) (by decide) (by decide) (by decide)) ?_
      refine EV.steps cl_12 1 (q2 := (34, [some (.ref 17), some (.int p1), some (.int p2)], [.int (w 20 ((p1 * (kI 12)) + p2).toNatClampNeg)], SH, w)) rfl ?_
      refine EV.ret cl_12 rfl rfl rfl ?_
      exact ⟨(by simp only [F_12_17, if_neg h1, if_neg h2]), rfl, rfl⟩
set_option maxRecDepth 20000 in
theorem cl_13 : RCT[13]? = some rc_13 := rfl
def F_13_7 (p1 : Int32) (p2 : Int32) (w : Wd) : Int32 := (if (F_153 p1 (kI 0) (kI 5) w) = 0 then (kI (-2)) else (if (F_153 p2 (kI 0) (kI 7) w) = 0 then (kI (-2)) else (w 11 ((p2 * (kI 6)) + p1).toNatClampNeg)))
theorem m_13_7 {X : Scr} {d : Nat} (w : Wd) (p1 : Int32) (p2 : Int32) : CV X (d + 2) 13 [.ref 7, .int p1, .int p2] SH w (fun r s1 w1 => r = some (.int (F_13_7 p1 p2 w)) ∧ s1 = SH ∧ w1 = w) := by
  refine CV.of rfl ?_
  refine EV.steps cl_13 3 (q2 := (3, [some (.ref 7), some (.int p1), some (.int p2), none], [.int (kI 5), .int (kI 0), .int p1], SH, w)) rfl ?_
  refine EV.callF (kc := 153) (av := [.int p1, .int (kI 0), .int (kI 5)]) (r := []) (rv := some (.int (F_153 p1 (kI 0) (kI 5) w))) (w2 := w) cl_13 rfl rfl rfl (m_153 w p1 (kI 0) (kI 5)) ?_
  refine EV.z_eq cl_13 rfl (fun h1 => ?_) (fun h1 => ?_)
  · skip
    refine EV.steps cl_13 5 (q2 := (45, [some (.ref 7), some (.int p1), some (.int p2), some (.int (kI 0))], [.int (kI (-2))], SH, w)) rfl ?_
    refine EV.ret cl_13 rfl rfl rfl ?_
    exact ⟨(by simp only [F_13_7, if_pos h1]), rfl, rfl⟩
  · skip
    refine EV.steps cl_13 3 (q2 := (13, [some (.ref 7), some (.int p1), some (.int p2), none], [.int (kI 7), .int (kI 0), .int p2], SH, w)) rfl ?_
    refine EV.callF (kc := 153) (av := [.int p2, .int (kI 0), .int (kI 7)]) (r := []) (rv := some (.int (F_153 p2 (kI 0) (kI 7) w))) (w2 := w) cl_13 rfl rfl rfl (m_153 w p2 (kI 0) (kI 7)) ?_
    refine EV.z_eq cl_13 rfl (fun h2 => ?_) (fun h2 => ?_)
    · skip
      refine EV.steps cl_13 5 (q2 := (45, [some (.ref 7), some (.int p1), some (.int p2), some (.int (kI 0))], [.int (kI (-2))], SH, w)) rfl ?_
      refine EV.ret cl_13 rfl rfl rfl ?_
      exact ⟨(by simp only [F_13_7, if_neg h1, if_pos h2]), rfl, rfl⟩
    · skip
      refine EV.steps cl_13 12 (q2 := (39, [some (.ref 7), some (.int p1), some (.int p2), some (.int (kI 1))], [.int ((p2 * (kI 6)) + p1), .ref 11], SH, w)) rfl ?_
      refine EV.iaload cl_13 rfl rfl (by decide) (ix2_153 h2 h1 (by decide) (by decide) (by decide) (by decide)) ?_
      refine EV.steps cl_13 1 (q2 := (45, [some (.ref 7), some (.int p1), some (.int p2), some (.int (kI 1))], [.int (w 11 ((p2 * (kI 6)) + p1).toNatClampNeg)], SH, w)) rfl ?_
      refine EV.ret cl_13 rfl rfl rfl ?_
      exact ⟨(by simp only [F_13_7, if_neg h1, if_neg h2]), rfl, rfl⟩
def F_13_12 (p1 : Int32) (p2 : Int32) (w : Wd) : Int32 := (if (F_153 p1 (kI 0) (kI 5) w) = 0 then (kI (-2)) else (if (F_153 p2 (kI 0) (kI 7) w) = 0 then (kI (-2)) else (w 16 ((p2 * (kI 6)) + p1).toNatClampNeg)))
theorem m_13_12 {X : Scr} {d : Nat} (w : Wd) (p1 : Int32) (p2 : Int32) : CV X (d + 2) 13 [.ref 12, .int p1, .int p2] SH w (fun r s1 w1 => r = some (.int (F_13_12 p1 p2 w)) ∧ s1 = SH ∧ w1 = w) := by
  refine CV.of rfl ?_
  refine EV.steps cl_13 3 (q2 := (3, [some (.ref 12), some (.int p1), some (.int p2), none], [.int (kI 5), .int (kI 0), .int p1], SH, w)) rfl ?_
  refine EV.callF (kc := 153) (av := [.int p1, .int (kI 0), .int (kI 5)]) (r := []) (rv := some (.int (F_153 p1 (kI 0) (kI 5) w))) (w2 := w) cl_13 rfl rfl rfl (m_153 w p1 (kI 0) (kI 5)) ?_
  refine EV.z_eq cl_13 rfl (fun h1 => ?_) (fun h1 => ?_)
  · skip
    refine EV.steps cl_13 5 (q2 := (45, [some (.ref 12), some (.int p1), some (.int p2), some (.int (kI 0))], [.int (kI (-2))], SH, w)) rfl ?_
    refine EV.ret cl_13 rfl rfl rfl ?_
    exact ⟨(by simp only [F_13_12, if_pos h1]), rfl, rfl⟩
  · skip
    refine EV.steps cl_13 3 (q2 := (13, [some (.ref 12), some (.int p1), some (.int p2), none], [.int (kI 7), .int (kI 0), .int p2], SH, w)) rfl ?_
    refine EV.callF (kc := 153) (av := [.int p2, .int (kI 0), .int (kI 7)]) (r := []) (rv := some (.int (F_153 p2 (kI 0) (kI 7) w))) (w2 := w) cl_13 rfl rfl rfl (m_153 w p2 (kI 0) (kI 7)) ?_
    refine EV.z_eq cl_13 rfl (fun h2 => ?_) (fun h2 => ?_)
    · skip
      refine EV.steps cl_13 5 (q2 := (45, [some (.ref 12), some (.int p1), some (.int p2), some (.int (kI 0))], [.int (kI (-2))], SH, w)) rfl ?_
      refine EV.ret cl_13 rfl rfl rfl ?_
      exact ⟨(by simp only [F_13_12, if_neg h1, if_pos h2]), rfl, rfl⟩
    · skip
      refine EV.steps cl_13 12 (q2 := (39, [some (.ref 12), some (.int p1), some (.int p2), some (.int (kI 1))], [.int ((p2 * (kI 6)) + p1), .ref 16], SH, w)) rfl ?_
      refine EV.iaload cl_13 rfl rfl (by decide) (ix2_153 h2 h1 (by decide) (by decide) (by decide) (by decide)) ?_
      refine EV.steps cl_13 1 (q2 := (45, [some (.ref 12), some (.int p1), some (.int p2), some (.int (kI 1))], [.int (w 16 ((p2 * (kI 6)) + p1).toNatClampNeg)], SH, w)) rfl ?_
      refine EV.ret cl_13 rfl rfl rfl ?_
      exact ⟨(by simp only [F_13_12, if_neg h1, if_neg h2]), rfl, rfl⟩
def F_13_17 (p1 : Int32) (p2 : Int32) (w : Wd) : Int32 := (if (F_153 p1 (kI 0) (kI 5) w) = 0 then (kI (-2)) else (if (F_153 p2 (kI 0) (kI 7) w) = 0 then (kI (-2)) else (w 21 ((p2 * (kI 6)) + p1).toNatClampNeg)))
theorem m_13_17 {X : Scr} {d : Nat} (w : Wd) (p1 : Int32) (p2 : Int32) : CV X (d + 2) 13 [.ref 17, .int p1, .int p2] SH w (fun r s1 w1 => r = some (.int (F_13_17 p1 p2 w)) ∧ s1 = SH ∧ w1 = w) := by
  refine CV.of rfl ?_
  refine EV.steps cl_13 3 (q2 := (3, [some (.ref 17), some (.int p1), some (.int p2), none], [.int (kI 5), .int (kI 0), .int p1], SH, w)) rfl ?_
  refine EV.callF (kc := 153) (av := [.int p1, .int (kI 0), .int (kI 5)]) (r := []) (rv := some (.int (F_153 p1 (kI 0) (kI 5) w))) (w2 := w) cl_13 rfl rfl rfl (m_153 w p1 (kI 0) (kI 5)) ?_
  refine EV.z_eq cl_13 rfl (fun h1 => ?_) (fun h1 => ?_)
  · skip
    refine EV.steps cl_13 5 (q2 := (45, [some (.ref 17), some (.int p1), some (.int p2), some (.int (kI 0))], [.int (kI (-2))], SH, w)) rfl ?_
    refine EV.ret cl_13 rfl rfl rfl ?_
    exact ⟨(by simp only [F_13_17, if_pos h1]), rfl, rfl⟩
  · skip
    refine EV.steps cl_13 3 (q2 := (13, [some (.ref 17), some (.int p1), some (.int p2), none], [.int (kI 7), .int (kI 0), .int p2], SH, w)) rfl ?_
    refine EV.callF (kc := 153) (av := [.int p2, .int (kI 0), .int (kI 7)]) (r := []) (rv := some (.int (F_153 p2 (kI 0) (kI 7) w))) (w2 := w) cl_13 rfl rfl rfl (m_153 w p2 (kI 0) (kI 7)) ?_
    refine EV.z_eq cl_13 rfl (fun h2 => ?_) (fun h2 => ?_)
    · skip
      refine EV.steps cl_13 5 (q2 := (45, [some (.ref 17), some (.int p1), some (.int p2), some (.int (kI 0))], [.int (kI (-2))], SH, w)) rfl ?_
      refine EV.ret cl_13 rfl rfl rfl ?_
      exact ⟨(by simp only [F_13_17, if_neg h1, if_pos h2]), rfl, rfl⟩
    · skip
      refine EV.steps cl_13 12 (q2 := (39, [some (.ref 17), some (.int p1), some (.int p2), some (.int (kI 1))], [.int ((p2 * (kI 6)) + p1), .ref 21], SH, w)) rfl ?_
      refine EV.iaload cl_13 rfl rfl (by decide) (ix2_153 h2 h1 (by decide) (by decide) (by decide) (by decide)) ?_
      refine EV.steps cl_13 1 (q2 := (45, [some (.ref 17), some (.int p1), some (.int p2), some (.int (kI 1))], [.int (w 21 ((p2 * (kI 6)) + p1).toNatClampNeg)], SH, w)) rfl ?_
      refine EV.ret cl_13 rfl rfl rfl ?_
      exact ⟨(by simp only [F_13_17, if_neg h1, if_neg h2]), rfl, rfl⟩
set_option maxRecDepth 20000 in
theorem cl_14 : RCT[14]? = some rc_14 := rfl
def F_14_7 (p1 : Int32) (w : Wd) : Int32 := (if (F_153 p1 (kI 0) (kI 5) w) = 0 then (kI 0) else (w 9 p1.toNatClampNeg))
theorem m_14_7 {X : Scr} {d : Nat} (w : Wd) (p1 : Int32) : CV X (d + 2) 14 [.ref 7, .int p1] SH w (fun r s1 w1 => r = some (.int (F_14_7 p1 w)) ∧ s1 = SH ∧ w1 = w) := by
  refine CV.of rfl ?_
  refine EV.steps cl_14 3 (q2 := (3, [some (.ref 7), some (.int p1)], [.int (kI 5), .int (kI 0), .int p1], SH, w)) rfl ?_
  refine EV.callF (kc := 153) (av := [.int p1, .int (kI 0), .int (kI 5)]) (r := []) (rv := some (.int (F_153 p1 (kI 0) (kI 5) w))) (w2 := w) cl_14 rfl rfl rfl (m_153 w p1 (kI 0) (kI 5)) ?_
  refine EV.z_eq cl_14 rfl (fun h1 => ?_) (fun h1 => ?_)
  · skip
    refine EV.steps cl_14 1 (q2 := (19, [some (.ref 7), some (.int p1)], [.int (kI 0)], SH, w)) rfl ?_
    refine EV.ret cl_14 rfl rfl rfl ?_
    exact ⟨(by simp only [F_14_7, if_pos h1]), rfl, rfl⟩
  · skip
    refine EV.steps cl_14 3 (q2 := (14, [some (.ref 7), some (.int p1)], [.int p1, .ref 9], SH, w)) rfl ?_
    refine EV.iaload cl_14 rfl rfl (by decide) (ix_153 h1 (by decide)) ?_
    refine EV.steps cl_14 1 (q2 := (19, [some (.ref 7), some (.int p1)], [.int (w 9 p1.toNatClampNeg)], SH, w)) rfl ?_
    refine EV.ret cl_14 rfl rfl rfl ?_
    exact ⟨(by simp only [F_14_7, if_neg h1]), rfl, rfl⟩
def F_14_12 (p1 : Int32) (w : Wd) : Int32 := (if (F_153 p1 (kI 0) (kI 5) w) = 0 then (kI 0) else (w 14 p1.toNatClampNeg))
theorem m_14_12 {X : Scr} {d : Nat} (w : Wd) (p1 : Int32) : CV X (d + 2) 14 [.ref 12, .int p1] SH w (fun r s1 w1 => r = some (.int (F_14_12 p1 w)) ∧ s1 = SH ∧ w1 = w) := by
  refine CV.of rfl ?_
  refine EV.steps cl_14 3 (q2 := (3, [some (.ref 12), some (.int p1)], [.int (kI 5), .int (kI 0), .int p1], SH, w)) rfl ?_
  refine EV.callF (kc := 153) (av := [.int p1, .int (kI 0), .int (kI 5)]) (r := []) (rv := some (.int (F_153 p1 (kI 0) (kI 5) w))) (w2 := w) cl_14 rfl rfl rfl (m_153 w p1 (kI 0) (kI 5)) ?_
  refine EV.z_eq cl_14 rfl (fun h1 => ?_) (fun h1 => ?_)
  · skip
    refine EV.steps cl_14 1 (q2 := (19, [some (.ref 12), some (.int p1)], [.int (kI 0)], SH, w)) rfl ?_
    refine EV.ret cl_14 rfl rfl rfl ?_
    exact ⟨(by simp only [F_14_12, if_pos h1]), rfl, rfl⟩
  · skip
    refine EV.steps cl_14 3 (q2 := (14, [some (.ref 12), some (.int p1)], [.int p1, .ref 14], SH, w)) rfl ?_
    refine EV.iaload cl_14 rfl rfl (by decide) (ix_153 h1 (by decide)) ?_
    refine EV.steps cl_14 1 (q2 := (19, [some (.ref 12), some (.int p1)], [.int (w 14 p1.toNatClampNeg)], SH, w)) rfl ?_
    refine EV.ret cl_14 rfl rfl rfl ?_
    exact ⟨(by simp only [F_14_12, if_neg h1]), rfl, rfl⟩
def F_14_17 (p1 : Int32) (w : Wd) : Int32 := (if (F_153 p1 (kI 0) (kI 5) w) = 0 then (kI 0) else (w 19 p1.toNatClampNeg))
theorem m_14_17 {X : Scr} {d : Nat} (w : Wd) (p1 : Int32) : CV X (d + 2) 14 [.ref 17, .int p1] SH w (fun r s1 w1 => r = some (.int (F_14_17 p1 w)) ∧ s1 = SH ∧ w1 = w) := by
  refine CV.of rfl ?_
  refine EV.steps cl_14 3 (q2 := (3, [some (.ref 17), some (.int p1)], [.int (kI 5), .int (kI 0), .int p1], SH, w)) rfl ?_
  refine EV.callF (kc := 153) (av := [.int p1, .int (kI 0), .int (kI 5)]) (r := []) (rv := some (.int (F_153 p1 (kI 0) (kI 5) w))) (w2 := w) cl_14 rfl rfl rfl (m_153 w p1 (kI 0) (kI 5)) ?_
  refine EV.z_eq cl_14 rfl (fun h1 => ?_) (fun h1 => ?_)
  · skip
    refine EV.steps cl_14 1 (q2 := (19, [some (.ref 17), some (.int p1)], [.int (kI 0)], SH, w)) rfl ?_
    refine EV.ret cl_14 rfl rfl rfl ?_
    exact ⟨(by simp only [F_14_17, if_pos h1]), rfl, rfl⟩
  · skip
    refine EV.steps cl_14 3 (q2 := (14, [some (.ref 17), some (.int p1)], [.int p1, .ref 19], SH, w)) rfl ?_
    refine EV.iaload cl_14 rfl rfl (by decide) (ix_153 h1 (by decide)) ?_
    refine EV.steps cl_14 1 (q2 := (19, [some (.ref 17), some (.int p1)], [.int (w 19 p1.toNatClampNeg)], SH, w)) rfl ?_
    refine EV.ret cl_14 rfl rfl rfl ?_
    exact ⟨(by simp only [F_14_17, if_neg h1]), rfl, rfl⟩
set_option maxRecDepth 20000 in
theorem cl_16 : RCT[16]? = some rc_16 := rfl
def G_16_7 (p1 : Int32) (p2 : Int32) (p3 : Int32) (w : Wd) : Wd := (if (F_153 p1 (kI 0) (kI 5) w) = 0 then w else (if (F_153 p2 (kI 0) (kI 5) w) = 0 then w else (up2 (up2 (up2 w 9 p2.toNatClampNeg ((w 9 p2.toNatClampNeg) - (w 8 ((p1 * (kI 6)) + p2).toNatClampNeg))) 8 ((p1 * (kI 6)) + p2).toNatClampNeg (if (kI 0) < (if ((w 8 ((p1 * (kI 6)) + p2).toNatClampNeg) + p3) < (kI 9999) then ((w 8 ((p1 * (kI 6)) + p2).toNatClampNeg) + p3) else (kI 9999)) then (if ((w 8 ((p1 * (kI 6)) + p2).toNatClampNeg) + p3) < (kI 9999) then ((w 8 ((p1 * (kI 6)) + p2).toNatClampNeg) + p3) else (kI 9999)) else (kI 0))) 9 p2.toNatClampNeg (((up2 w 9 p2.toNatClampNeg ((w 9 p2.toNatClampNeg) - (w 8 ((p1 * (kI 6)) + p2).toNatClampNeg))) 9 p2.toNatClampNeg) + ((up2 (up2 w 9 p2.toNatClampNeg ((w 9 p2.toNatClampNeg) - (w 8 ((p1 * (kI 6)) + p2).toNatClampNeg))) 8 ((p1 * (kI 6)) + p2).toNatClampNeg (if (kI 0) < (if ((w 8 ((p1 * (kI 6)) + p2).toNatClampNeg) + p3) < (kI 9999) then ((w 8 ((p1 * (kI 6)) + p2).toNatClampNeg) + p3) else (kI 9999)) then (if ((w 8 ((p1 * (kI 6)) + p2).toNatClampNeg) + p3) < (kI 9999) then ((w 8 ((p1 * (kI 6)) + p2).toNatClampNeg) + p3) else (kI 9999)) else (kI 0))) 8 ((p1 * (kI 6)) + p2).toNatClampNeg)))))
theorem m_16_7 {X : Scr} {d : Nat} (w : Wd) (p1 : Int32) (p2 : Int32) (p3 : Int32) : CV X (d + 2) 16 [.ref 7, .int p1, .int p2, .int p3] SH w (fun r s1 w1 => r = none ∧ s1 = SH ∧ w1 = G_16_7 p1 p2 p3 w) := by
  refine CV.of rfl ?_
  refine EV.steps cl_16 3 (q2 := (3, [some (.ref 7), some (.int p1), some (.int p2), some (.int p3), none], [.int (kI 5), .int (kI 0), .int p1], SH, w)) rfl ?_
  refine EV.callF (kc := 153) (av := [.int p1, .int (kI 0), .int (kI 5)]) (r := []) (rv := some (.int (F_153 p1 (kI 0) (kI 5) w))) (w2 := w) cl_16 rfl rfl rfl (m_153 w p1 (kI 0) (kI 5)) ?_
  refine EV.z_eq cl_16 rfl (fun h1 => ?_) (fun h1 => ?_)
  · skip
    refine EV.ret cl_16 rfl rfl rfl ?_
    exact ⟨rfl, rfl, (by simp only [G_16_7, if_pos h1])⟩
  · skip
    refine EV.steps cl_16 3 (q2 := (12, [some (.ref 7), some (.int p1), some (.int p2), some (.int p3), none], [.int (kI 5), .int (kI 0), .int p2], SH, w)) rfl ?_
    refine EV.callF (kc := 153) (av := [.int p2, .int (kI 0), .int (kI 5)]) (r := []) (rv := some (.int (F_153 p2 (kI 0) (kI 5) w))) (w2 := w) cl_16 rfl rfl rfl (m_153 w p2 (kI 0) (kI 5)) ?_
    refine EV.z_eq cl_16 rfl (fun h2 => ?_) (fun h2 => ?_)
    · skip
      refine EV.ret cl_16 rfl rfl rfl ?_
      exact ⟨rfl, rfl, (by simp only [G_16_7, if_neg h1, if_pos h2])⟩
    · skip
      refine EV.steps cl_16 10 (q2 := (32, [some (.ref 7), some (.int p1), some (.int p2), some (.int p3), some (.int ((p1 * (kI 6)) + p2))], [.int p2, .ref 9, .int p2, .ref 9], SH, w)) rfl ?_
      refine EV.iaload cl_16 rfl rfl (by decide) (ix_153 h2 (by decide)) ?_
      refine EV.steps cl_16 3 (q2 := (39, [some (.ref 7), some (.int p1), some (.int p2), some (.int p3), some (.int ((p1 * (kI 6)) + p2))], [.int ((p1 * (kI 6)) + p2), .ref 8, .int (w 9 p2.toNatClampNeg), .int p2, .ref 9], SH, w)) rfl ?_
      refine EV.iaload cl_16 rfl rfl (by decide) (ix2_153 h1 h2 (by decide) (by decide) (by decide) (by decide)) ?_
      refine EV.steps cl_16 1 (q2 := (41, [some (.ref 7), some (.int p1), some (.int p2), some (.int p3), some (.int ((p1 * (kI 6)) + p2))], [.int ((w 9 p2.toNatClampNeg) - (w 8 ((p1 * (kI 6)) + p2).toNatClampNeg)), .int p2, .ref 9], SH, w)) rfl ?_
      refine EV.iastore cl_16 rfl rfl (by decide) (ix_153 h2 (by decide)) ?_
      refine EV.steps cl_16 8 (q2 := (58, [some (.ref 7), some (.int p1), some (.int p2), some (.int p3), some (.int ((p1 * (kI 6)) + p2))], [.int ((p1 * (kI 6)) + p2), .ref 8, .int (kI 9999), .int (kI 0), .int ((p1 * (kI 6)) + p2), .ref 8], SH, (up2 w 9 p2.toNatClampNeg ((w 9 p2.toNatClampNeg) - (w 8 ((p1 * (kI 6)) + p2).toNatClampNeg))))) rfl ?_
      refine EV.iaload cl_16 rfl rfl (by decide) (ix2_153 h1 h2 (by decide) (by decide) (by decide) (by decide)) ?_
      refine EV.steps cl_16 4 (q2 := (67, [some (.ref 7), some (.int p1), some (.int p2), some (.int p3), some (.int ((p1 * (kI 6)) + p2))], [.int (if (kI 0) < (if ((w 8 ((p1 * (kI 6)) + p2).toNatClampNeg) + p3) < (kI 9999) then ((w 8 ((p1 * (kI 6)) + p2).toNatClampNeg) + p3) else (kI 9999)) then (if ((w 8 ((p1 * (kI 6)) + p2).toNatClampNeg) + p3) < (kI 9999) then ((w 8 ((p1 * (kI 6)) + p2).toNatClampNeg) + p3) else (kI 9999)) else (kI 0)), .int ((p1 * (kI 6)) + p2), .ref 8], SH, (up2 w 9 p2.toNatClampNeg ((w 9 p2.toNatClampNeg) - (w 8 ((p1 * (kI 6)) + p2).toNatClampNeg))))) rfl ?_
      refine EV.iastore cl_16 rfl rfl (by decide) (ix2_153 h1 h2 (by decide) (by decide) (by decide) (by decide)) ?_
      refine EV.steps cl_16 4 (q2 := (74, [some (.ref 7), some (.int p1), some (.int p2), some (.int p3), some (.int ((p1 * (kI 6)) + p2))], [.int p2, .ref 9, .int p2, .ref 9], SH, (up2 (up2 w 9 p2.toNatClampNeg ((w 9 p2.toNatClampNeg) - (w 8 ((p1 * (kI 6)) + p2).toNatClampNeg))) 8 ((p1 * (kI 6)) + p2).toNatClampNeg (if (kI 0) < (if ((w 8 ((p1 * (kI 6)) + p2).toNatClampNeg) + p3) < (kI 9999) then ((w 8 ((p1 * (kI 6)) + p2).toNatClampNeg) + p3) else (kI 9999)) then (if ((w 8 ((p1 * (kI 6)) + p2).toNatClampNeg) + p3) < (kI 9999) then ((w 8 ((p1 * (kI 6)) + p2).toNatClampNeg) + p3) else (kI 9999)) else (kI 0))))) rfl ?_
      refine EV.iaload cl_16 rfl rfl (by decide) (ix_153 h2 (by decide)) ?_
      refine EV.steps cl_16 3 (q2 := (81, [some (.ref 7), some (.int p1), some (.int p2), some (.int p3), some (.int ((p1 * (kI 6)) + p2))], [.int ((p1 * (kI 6)) + p2), .ref 8, .int ((up2 w 9 p2.toNatClampNeg ((w 9 p2.toNatClampNeg) - (w 8 ((p1 * (kI 6)) + p2).toNatClampNeg))) 9 p2.toNatClampNeg), .int p2, .ref 9], SH, (up2 (up2 w 9 p2.toNatClampNeg ((w 9 p2.toNatClampNeg) - (w 8 ((p1 * (kI 6)) + p2).toNatClampNeg))) 8 ((p1 * (kI 6)) + p2).toNatClampNeg (if (kI 0) < (if ((w 8 ((p1 * (kI 6)) + p2).toNatClampNeg) + p3) < (kI 9999) then ((w 8 ((p1 * (kI 6)) + p2).toNatClampNeg) + p3) else (kI 9999)) then (if ((w 8 ((p1 * (kI 6)) + p2).toNatClampNeg) + p3) < (kI 9999) then ((w 8 ((p1 * (kI 6)) + p2).toNatClampNeg) + p3) else (kI 9999)) else (kI 0))))) rfl ?_
      refine EV.iaload cl_16 rfl rfl (by decide) (ix2_153 h1 h2 (by decide) (by decide) (by decide) (by decide)) ?_
      refine EV.steps cl_16 1 (q2 := (83, [some (.ref 7), some (.int p1), some (.int p2), some (.int p3), some (.int ((p1 * (kI 6)) + p2))], [.int (((up2 w 9 p2.toNatClampNeg ((w 9 p2.toNatClampNeg) - (w 8 ((p1 * (kI 6)) + p2).toNatClampNeg))) 9 p2.toNatClampNeg) + ((up2 (up2 w 9 p2.toNatClampNeg ((w 9 p2.toNatClampNeg) - (w 8 ((p1 * (kI 6)) + p2).toNatClampNeg))) 8 ((p1 * (kI 6)) + p2).toNatClampNeg (if (kI 0) < (if ((w 8 ((p1 * (kI 6)) + p2).toNatClampNeg) + p3) < (kI 9999) then ((w 8 ((p1 * (kI 6)) + p2).toNatClampNeg) + p3) else (kI 9999)) then (if ((w 8 ((p1 * (kI 6)) + p2).toNatClampNeg) + p3) < (kI 9999) then ((w 8 ((p1 * (kI 6)) + p2).toNatClampNeg) + p3) else (kI 9999)) else (kI 0))) 8 ((p1 * (kI 6)) + p2).toNatClampNeg)), .int p2, .ref 9], SH, (up2 (up2 w 9 p2.toNatClampNeg ((w 9 p2.toNatClampNeg) - (w 8 ((p1 * (kI 6)) + p2).toNatClampNeg))) 8 ((p1 * (kI 6)) + p2).toNatClampNeg (if (kI 0) < (if ((w 8 ((p1 * (kI 6)) + p2).toNatClampNeg) + p3) < (kI 9999) then ((w 8 ((p1 * (kI 6)) + p2).toNatClampNeg) + p3) else (kI 9999)) then (if ((w 8 ((p1 * (kI 6)) + p2).toNatClampNeg) + p3) < (kI 9999) then ((w 8 ((p1 * (kI 6)) + p2).toNatClampNeg) + p3) else (kI 9999)) else (kI 0))))) rfl ?_
      refine EV.iastore cl_16 rfl rfl (by decide) (ix_153 h2 (by decide)) ?_
      refine EV.ret cl_16 rfl rfl rfl ?_
      exact ⟨rfl, rfl, (by simp only [G_16_7, if_neg h1, if_neg h2])⟩
def G_16_12 (p1 : Int32) (p2 : Int32) (p3 : Int32) (w : Wd) : Wd := (if (F_153 p1 (kI 0) (kI 5) w) = 0 then w else (if (F_153 p2 (kI 0) (kI 5) w) = 0 then w else (up2 (up2 (up2 w 14 p2.toNatClampNeg ((w 14 p2.toNatClampNeg) - (w 13 ((p1 * (kI 6)) + p2).toNatClampNeg))) 13 ((p1 * (kI 6)) + p2).toNatClampNeg (if (kI 0) < (if ((w 13 ((p1 * (kI 6)) + p2).toNatClampNeg) + p3) < (kI 9999) then ((w 13 ((p1 * (kI 6)) + p2).toNatClampNeg) + p3) else (kI 9999)) then (if ((w 13 ((p1 * (kI 6)) + p2).toNatClampNeg) + p3) < (kI 9999) then ((w 13 ((p1 * (kI 6)) + p2).toNatClampNeg) + p3) else (kI 9999)) else (kI 0))) 14 p2.toNatClampNeg (((up2 w 14 p2.toNatClampNeg ((w 14 p2.toNatClampNeg) - (w 13 ((p1 * (kI 6)) + p2).toNatClampNeg))) 14 p2.toNatClampNeg) + ((up2 (up2 w 14 p2.toNatClampNeg ((w 14 p2.toNatClampNeg) - (w 13 ((p1 * (kI 6)) + p2).toNatClampNeg))) 13 ((p1 * (kI 6)) + p2).toNatClampNeg (if (kI 0) < (if ((w 13 ((p1 * (kI 6)) + p2).toNatClampNeg) + p3) < (kI 9999) then ((w 13 ((p1 * (kI 6)) + p2).toNatClampNeg) + p3) else (kI 9999)) then (if ((w 13 ((p1 * (kI 6)) + p2).toNatClampNeg) + p3) < (kI 9999) then ((w 13 ((p1 * (kI 6)) + p2).toNatClampNeg) + p3) else (kI 9999)) else (kI 0))) 13 ((p1 * (kI 6)) + p2).toNatClampNeg)))))
theorem m_16_12 {X : Scr} {d : Nat} (w : Wd) (p1 : Int32) (p2 : Int32) (p3 : Int32) : CV X (d + 2) 16 [.ref 12, .int p1, .int p2, .int p3] SH w (fun r s1 w1 => r = none ∧ s1 = SH ∧ w1 = G_16_12 p1 p2 p3 w) := by
  refine CV.of rfl ?_
  refine EV.steps cl_16 3 (q2 := (3, [some (.ref 12), some (.int p1), some (.int p2), some (.int p3), none], [.int (kI 5), .int (kI 0), .int p1], SH, w)) rfl ?_
  refine EV.callF (kc := 153) (av := [.int p1, .int (kI 0), .int (kI 5)]) (r := []) (rv := some (.int (F_153 p1 (kI 0) (kI 5) w))) (w2 := w) cl_16 rfl rfl rfl (m_153 w p1 (kI 0) (kI 5)) ?_
  refine EV.z_eq cl_16 rfl (fun h1 => ?_) (fun h1 => ?_)
  · skip
    refine EV.ret cl_16 rfl rfl rfl ?_
    exact ⟨rfl, rfl, (by simp only [G_16_12, if_pos h1])⟩
  · skip
    refine EV.steps cl_16 3 (q2 := (12, [some (.ref 12), some (.int p1), some (.int p2), some (.int p3), none], [.int (kI 5), .int (kI 0), .int p2], SH, w)) rfl ?_
    refine EV.callF (kc := 153) (av := [.int p2, .int (kI 0), .int (kI 5)]) (r := []) (rv := some (.int (F_153 p2 (kI 0) (kI 5) w))) (w2 := w) cl_16 rfl rfl rfl (m_153 w p2 (kI 0) (kI 5)) ?_
    refine EV.z_eq cl_16 rfl (fun h2 => ?_) (fun h2 => ?_)
    · skip
      refine EV.ret cl_16 rfl rfl rfl ?_
      exact ⟨rfl, rfl, (by simp only [G_16_12, if_neg h1, if_pos h2])⟩
    · skip
      refine EV.steps cl_16 10 (q2 := (32, [some (.ref 12), some (.int p1), some (.int p2), some (.int p3), some (.int ((p1 * (kI 6)) + p2))], [.int p2, .ref 14, .int p2, .ref 14], SH, w)) rfl ?_
      refine EV.iaload cl_16 rfl rfl (by decide) (ix_153 h2 (by decide)) ?_
      refine EV.steps cl_16 3 (q2 := (39, [some (.ref 12), some (.int p1), some (.int p2), some (.int p3), some (.int ((p1 * (kI 6)) + p2))], [.int ((p1 * (kI 6)) + p2), .ref 13, .int (w 14 p2.toNatClampNeg), .int p2, .ref 14], SH, w)) rfl ?_
      refine EV.iaload cl_16 rfl rfl (by decide) (ix2_153 h1 h2 (by decide) (by decide) (by decide) (by decide)) ?_
      refine EV.steps cl_16 1 (q2 := (41, [some (.ref 12), some (.int p1), some (.int p2), some (.int p3), some (.int ((p1 * (kI 6)) + p2))], [.int ((w 14 p2.toNatClampNeg) - (w 13 ((p1 * (kI 6)) + p2).toNatClampNeg)), .int p2, .ref 14], SH, w)) rfl ?_
      refine EV.iastore cl_16 rfl rfl (by decide) (ix_153 h2 (by decide)) ?_
      refine EV.steps cl_16 8 (q2 := (58, [some (.ref 12), some (.int p1), some (.int p2), some (.int p3), some (.int ((p1 * (kI 6)) + p2))], [.int ((p1 * (kI 6)) + p2), .ref 13, .int (kI 9999), .int (kI 0), .int ((p1 * (kI 6)) + p2), .ref 13], SH, (up2 w 14 p2.toNatClampNeg ((w 14 p2.toNatClampNeg) - (w 13 ((p1 * (kI 6)) + p2).toNatClampNeg))))) rfl ?_
      refine EV.iaload cl_16 rfl rfl (by decide) (ix2_153 h1 h2 (by decide) (by decide) (by decide) (by decide)) ?_
      refine EV.steps cl_16 4 (q2 := (67, [some (.ref 12), some (.int p1), some (.int p2), some (.int p3), some (.int ((p1 * (kI 6)) + p2))], [.int (if (kI 0) < (if ((w 13 ((p1 * (kI 6)) + p2).toNatClampNeg) + p3) < (kI 9999) then ((w 13 ((p1 * (kI 6)) + p2).toNatClampNeg) + p3) else (kI 9999)) then (if ((w 13 ((p1 * (kI 6)) + p2).toNatClampNeg) + p3) < (kI 9999) then ((w 13 ((p1 * (kI 6)) + p2).toNatClampNeg) + p3) else (kI 9999)) else (kI 0)), .int ((p1 * (kI 6)) + p2), .ref 13], SH, (up2 w 14 p2.toNatClampNeg ((w 14 p2.toNatClampNeg) - (w 13 ((p1 * (kI 6)) + p2).toNatClampNeg))))) rfl ?_
      refine EV.iastore cl_16 rfl rfl (by decide) (ix2_153 h1 h2 (by decide) (by decide) (by decide) (by decide)) ?_
      refine EV.steps cl_16 4 (q2 := (74, [some (.ref 12), some (.int p1), some (.int p2), some (.int p3), some (.int ((p1 * (kI 6)) + p2))], [.int p2, .ref 14, .int p2, .ref 14], SH, (up2 (up2 w 14 p2.toNatClampNeg ((w 14 p2.toNatClampNeg) - (w 13 ((p1 * (kI 6)) + p2).toNatClampNeg))) 13 ((p1 * (kI 6)) + p2).toNatClampNeg (if (kI 0) < (if ((w 13 ((p1 * (kI 6)) + p2).toNatClampNeg) + p3) < (kI 9999) then ((w 13 ((p1 * (kI 6)) + p2).toNatClampNeg) + p3) else (kI 9999)) then (if ((w 13 ((p1 * (kI 6)) + p2).toNatClampNeg) + p3) < (kI 9999) then ((w 13 ((p1 * (kI 6)) + p2).toNatClampNeg) + p3) else (kI 9999)) else (kI 0))))) rfl ?_
      refine EV.iaload cl_16 rfl rfl (by decide) (ix_153 h2 (by decide)) ?_
      refine EV.steps cl_16 3 (q2 := (81, [some (.ref 12), some (.int p1), some (.int p2), some (.int p3), some (.int ((p1 * (kI 6)) + p2))], [.int ((p1 * (kI 6)) + p2), .ref 13, .int ((up2 w 14 p2.toNatClampNeg ((w 14 p2.toNatClampNeg) - (w 13 ((p1 * (kI 6)) + p2).toNatClampNeg))) 14 p2.toNatClampNeg), .int p2, .ref 14], SH, (up2 (up2 w 14 p2.toNatClampNeg ((w 14 p2.toNatClampNeg) - (w 13 ((p1 * (kI 6)) + p2).toNatClampNeg))) 13 ((p1 * (kI 6)) + p2).toNatClampNeg (if (kI 0) < (if ((w 13 ((p1 * (kI 6)) + p2).toNatClampNeg) + p3) < (kI 9999) then ((w 13 ((p1 * (kI 6)) + p2).toNatClampNeg) + p3) else (kI 9999)) then (if ((w 13 ((p1 * (kI 6)) + p2).toNatClampNeg) + p3) < (kI 9999) then ((w 13 ((p1 * (kI 6)) + p2).toNatClampNeg) + p3) else (kI 9999)) else (kI 0))))) rfl ?_
      refine EV.iaload cl_16 rfl rfl (by decide) (ix2_153 h1 h2 (by decide) (by decide) (by decide) (by decide)) ?_
      refine EV.steps cl_16 1 (q2 := (83, [some (.ref 12), some (.int p1), some (.int p2), some (.int p3), some (.int ((p1 * (kI 6)) + p2))], [.int (((up2 w 14 p2.toNatClampNeg ((w 14 p2.toNatClampNeg) - (w 13 ((p1 * (kI 6)) + p2).toNatClampNeg))) 14 p2.toNatClampNeg) + ((up2 (up2 w 14 p2.toNatClampNeg ((w 14 p2.toNatClampNeg) - (w 13 ((p1 * (kI 6)) + p2).toNatClampNeg))) 13 ((p1 * (kI 6)) + p2).toNatClampNeg (if (kI 0) < (if ((w 13 ((p1 * (kI 6)) + p2).toNatClampNeg) + p3) < (kI 9999) then ((w 13 ((p1 * (kI 6)) + p2).toNatClampNeg) + p3) else (kI 9999)) then (if ((w 13 ((p1 * (kI 6)) + p2).toNatClampNeg) + p3) < (kI 9999) then ((w 13 ((p1 * (kI 6)) + p2).toNatClampNeg) + p3) else (kI 9999)) else (kI 0))) 13 ((p1 * (kI 6)) + p2).toNatClampNeg)), .int p2, .ref 14], SH, (up2 (up2 w 14 p2.toNatClampNeg ((w 14 p2.toNatClampNeg) - (w 13 ((p1 * (kI 6)) + p2).toNatClampNeg))) 13 ((p1 * (kI 6)) + p2).toNatClampNeg (if (kI 0) < (if ((w 13 ((p1 * (kI 6)) + p2).toNatClampNeg) + p3) < (kI 9999) then ((w 13 ((p1 * (kI 6)) + p2).toNatClampNeg) + p3) else (kI 9999)) then (if ((w 13 ((p1 * (kI 6)) + p2).toNatClampNeg) + p3) < (kI 9999) then ((w 13 ((p1 * (kI 6)) + p2).toNatClampNeg) + p3) else (kI 9999)) else (kI 0))))) rfl ?_
      refine EV.iastore cl_16 rfl rfl (by decide) (ix_153 h2 (by decide)) ?_
      refine EV.ret cl_16 rfl rfl rfl ?_
      exact ⟨rfl, rfl, (by simp only [G_16_12, if_neg h1, if_neg h2])⟩
