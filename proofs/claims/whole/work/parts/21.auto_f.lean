set_option maxRecDepth 20000 in
theorem cl_184 : RCT[184]? = some rc_184 := rfl
def F_184 (p1 : Int32) (w : Wd) : Int32 := (if p1 = (kI 43) then (kI 2) else (if p1 = (kI 45) then (kI 3) else (if p1 = (kI 42) then (kI 4) else (if p1 = (kI 47) then (kI 5) else (if p1 = (kI 37) then (kI 6) else (kI (-1)))))))
theorem m_184 {X : Scr} {d : Nat} (w : Wd) (p1 : Int32) : CV X (d + 1) 184 [.int p1] SH w (fun r s1 w1 => r = some (.int (F_184 p1 w)) ∧ s1 = SH ∧ w1 = w) := by
  refine CV.of rfl ?_
  refine EV.steps cl_184 2 (q2 := (3, [some (.int p1)], [.int (kI 43), .int p1], SH, w)) rfl ?_
  refine EV.i_ne cl_184 rfl (fun h1 => ?_) (fun h1 => ?_)
  · skip
    refine EV.steps cl_184 2 (q2 := (13, [some (.int p1)], [.int (kI 45), .int p1], SH, w)) rfl ?_
    refine EV.i_ne cl_184 rfl (fun h2 => ?_) (fun h2 => ?_)
    · skip
      refine EV.steps cl_184 2 (q2 := (23, [some (.int p1)], [.int (kI 42), .int p1], SH, w)) rfl ?_
      refine EV.i_ne cl_184 rfl (fun h3 => ?_) (fun h3 => ?_)
      · skip
        refine EV.steps cl_184 2 (q2 := (33, [some (.int p1)], [.int (kI 47), .int p1], SH, w)) rfl ?_
        refine EV.i_ne cl_184 rfl (fun h4 => ?_) (fun h4 => ?_)
        · skip
          refine EV.steps cl_184 2 (q2 := (43, [some (.int p1)], [.int (kI 37), .int p1], SH, w)) rfl ?_
          refine EV.i_ne cl_184 rfl (fun h5 => ?_) (fun h5 => ?_)
          · skip
            refine EV.steps cl_184 1 (q2 := (52, [some (.int p1)], [.int (kI (-1))], SH, w)) rfl ?_
            refine EV.ret cl_184 rfl rfl rfl ?_
            exact ⟨(by simp only [F_184, if_neg h1, if_neg h2, if_neg h3, if_neg h4, if_neg h5]), rfl, rfl⟩
          · skip
            refine EV.steps cl_184 2 (q2 := (52, [some (.int p1)], [.int (kI 6)], SH, w)) rfl ?_
            refine EV.ret cl_184 rfl rfl rfl ?_
            exact ⟨(by simp only [F_184, if_neg h1, if_neg h2, if_neg h3, if_neg h4, if_pos h5]), rfl, rfl⟩
        · skip
          refine EV.steps cl_184 2 (q2 := (52, [some (.int p1)], [.int (kI 5)], SH, w)) rfl ?_
          refine EV.ret cl_184 rfl rfl rfl ?_
          exact ⟨(by simp only [F_184, if_neg h1, if_neg h2, if_neg h3, if_pos h4]), rfl, rfl⟩
      · skip
        refine EV.steps cl_184 2 (q2 := (52, [some (.int p1)], [.int (kI 4)], SH, w)) rfl ?_
        refine EV.ret cl_184 rfl rfl rfl ?_
        exact ⟨(by simp only [F_184, if_neg h1, if_neg h2, if_pos h3]), rfl, rfl⟩
    · skip
      refine EV.steps cl_184 2 (q2 := (52, [some (.int p1)], [.int (kI 3)], SH, w)) rfl ?_
      refine EV.ret cl_184 rfl rfl rfl ?_
      exact ⟨(by simp only [F_184, if_neg h1, if_pos h2]), rfl, rfl⟩
  · skip
    refine EV.steps cl_184 2 (q2 := (52, [some (.int p1)], [.int (kI 2)], SH, w)) rfl ?_
    refine EV.ret cl_184 rfl rfl rfl ?_
    exact ⟨(by simp only [F_184, if_pos h1]), rfl, rfl⟩
set_option maxRecDepth 20000 in
theorem cl_191 : RCT[191]? = some rc_191 := rfl
def G_191_110 (p1 : Int32) (w : Wd) : Wd := (up2 (G_180_110 p1 (kI 0) (up2 (up2 w 119 (w 110 17).toNatClampNeg (((kI 1048576) * p1) + (w 110 16))) 110 17 ((w 110 17) + (kI 1)))) 110 11 (((G_180_110 p1 (kI 0) (up2 (up2 w 119 (w 110 17).toNatClampNeg (((kI 1048576) * p1) + (w 110 16))) 110 17 ((w 110 17) + (kI 1)))) 110 11) + (kI 1)))
theorem m_191_110 {X : Scr} {d : Nat} (w : Wd) (p1 : Int32) (i1 : (inB (w 110 17) 260 = true)) (i2 : ((inB ((up2 (up2 w 119 (w 110 17).toNatClampNeg (((kI 1048576) * p1) + (w 110 16))) 110 17 ((w 110 17) + (kI 1))) 110 16) 260 = true))) : CV X (d + 2) 191 [.ref 110, .int p1] SH w (fun r s1 w1 => r = none ∧ s1 = SH ∧ w1 = G_191_110 p1 w) := by
  refine CV.of rfl ?_
  refine EV.steps cl_191 10 (q2 := (17, [some (.ref 110), some (.int p1)], [.int (((kI 1048576) * p1) + (w 110 16)), .int (w 110 17), .ref 119], SH, w)) rfl ?_
  refine EV.iastore cl_191 rfl rfl (by decide) (i1) ?_
  refine EV.steps cl_191 9 (q2 := (31, [some (.ref 110), some (.int p1)], [.int (kI 0), .int p1, .ref 110], SH, (up2 (up2 w 119 (w 110 17).toNatClampNeg (((kI 1048576) * p1) + (w 110 16))) 110 17 ((w 110 17) + (kI 1))))) rfl ?_
  refine EV.callF (kc := 180) (av := [.ref 110, .int p1, .int (kI 0)]) (r := []) (rv := none) (w2 := (G_180_110 p1 (kI 0) (up2 (up2 w 119 (w 110 17).toNatClampNeg (((kI 1048576) * p1) + (w 110 16))) 110 17 ((w 110 17) + (kI 1))))) cl_191 rfl rfl rfl (m_180_110 (up2 (up2 w 119 (w 110 17).toNatClampNeg (((kI 1048576) * p1) + (w 110 16))) 110 17 ((w 110 17) + (kI 1))) p1 (kI 0) (i2)) ?_
  refine EV.steps cl_191 6 (q2 := (44, [some (.ref 110), some (.int p1)], [], SH, (up2 (G_180_110 p1 (kI 0) (up2 (up2 w 119 (w 110 17).toNatClampNeg (((kI 1048576) * p1) + (w 110 16))) 110 17 ((w 110 17) + (kI 1)))) 110 11 (((G_180_110 p1 (kI 0) (up2 (up2 w 119 (w 110 17).toNatClampNeg (((kI 1048576) * p1) + (w 110 16))) 110 17 ((w 110 17) + (kI 1)))) 110 11) + (kI 1))))) rfl ?_
  refine EV.ret cl_191 rfl rfl rfl ?_
  exact ⟨rfl, rfl, rfl⟩
set_option maxRecDepth 20000 in
theorem cl_195 : RCT[195]? = some rc_195 := rfl
def G_195_110 (p1 : Int32) (w : Wd) : Wd := (up2 (up2 (up2 (up2 (up2 (up2 w 110 11 (kI 0)) 110 12 p1) 110 16 (kI 0)) 110 18 (kI 0)) 110 15 (kI 0)) 110 17 (kI 0))
theorem m_195_110 {X : Scr} {d : Nat} (w : Wd) (p1 : Int32) : CV X (d + 1) 195 [.ref 110, .int p1] SH w (fun r s1 w1 => r = none ∧ s1 = SH ∧ w1 = G_195_110 p1 w) := by
  refine CV.of rfl ?_
  refine EV.steps cl_195 18 (q2 := (30, [some (.ref 110), some (.int p1)], [], SH, (up2 (up2 (up2 (up2 (up2 (up2 w 110 11 (kI 0)) 110 12 p1) 110 16 (kI 0)) 110 18 (kI 0)) 110 15 (kI 0)) 110 17 (kI 0)))) rfl ?_
  refine EV.ret cl_195 rfl rfl rfl ?_
  exact ⟨rfl, rfl, rfl⟩
set_option maxRecDepth 20000 in
theorem cl_197 : RCT[197]? = some rc_197 := rfl
def F_197 (p1 : Int32) (p2 : Int32) (p3 : Int32) (w : Wd) : Int32 := (if p1 = (kI 2) then (p2 + p3) else (if p1 = (kI 3) then (p2 - p3) else (if p1 = (kI 4) then (p2 * p3) else (if p1 = (kI 5) then (p2 / p3) else (if p1 = (kI 6) then (p2 - p2 / p3 * p3) else (if p1 = (kI 7) then (if p3 ≤ p2 then (kI 0) else (kI 1)) else (if p1 = (kI 8) then (if p2 ≤ p3 then (kI 0) else (kI 1)) else (if p2 = p3 then (kI 1) else (kI 0)))))))))
theorem m_197 {X : Scr} {d : Nat} (w : Wd) (p1 : Int32) (p2 : Int32) (p3 : Int32) (i1 : ¬ p1 = (kI 2) → ¬ p1 = (kI 3) → ¬ p1 = (kI 4) → p1 = (kI 5) → (¬ p3 = 0)) (i2 : ¬ p1 = (kI 2) → ¬ p1 = (kI 3) → ¬ p1 = (kI 4) → ¬ p1 = (kI 5) → p1 = (kI 6) → (¬ p3 = 0)) : CV X (d + 1) 197 [.int p1, .int p2, .int p3] SH w (fun r s1 w1 => r = some (.int (F_197 p1 p2 p3 w)) ∧ s1 = SH ∧ w1 = w) := by
  refine CV.of rfl ?_
  refine EV.steps cl_197 1 (q2 := (1, [some (.int p1), some (.int p2), some (.int p3)], [.int p1], SH, w)) rfl ?_
  by_cases h1 : p1 = (kI 2)
  · refine EV.swEq (e := (kI 2)) cl_197 rfl rfl h1 rfl ?_
    refine EV.steps cl_197 3 (q2 := (47, [some (.int p1), some (.int p2), some (.int p3)], [.int (p2 + p3)], SH, w)) rfl ?_
    refine EV.ret cl_197 rfl rfl rfl ?_
    exact ⟨(by simp only [F_197, if_pos h1]), rfl, rfl⟩
  by_cases h2 : p1 = (kI 3)
  · refine EV.swEq (e := (kI 3)) cl_197 rfl rfl h2 rfl ?_
    refine EV.steps cl_197 3 (q2 := (51, [some (.int p1), some (.int p2), some (.int p3)], [.int (p2 - p3)], SH, w)) rfl ?_
    refine EV.ret cl_197 rfl rfl rfl ?_
    exact ⟨(by simp only [F_197, if_neg h1, if_pos h2]), rfl, rfl⟩
  by_cases h3 : p1 = (kI 4)
  · refine EV.swEq (e := (kI 4)) cl_197 rfl rfl h3 rfl ?_
    refine EV.steps cl_197 3 (q2 := (55, [some (.int p1), some (.int p2), some (.int p3)], [.int (p2 * p3)], SH, w)) rfl ?_
    refine EV.ret cl_197 rfl rfl rfl ?_
    exact ⟨(by simp only [F_197, if_neg h1, if_neg h2, if_pos h3]), rfl, rfl⟩
  by_cases h4 : p1 = (kI 5)
  · refine EV.swEq (e := (kI 5)) cl_197 rfl rfl h4 rfl ?_
    refine EV.steps cl_197 2 (q2 := (58, [some (.int p1), some (.int p2), some (.int p3)], [.int p3, .int p2], SH, w)) rfl ?_
    refine EV.idiv cl_197 rfl (i1 h1 h2 h3 h4) ?_
    refine EV.ret cl_197 rfl rfl rfl ?_
    exact ⟨(by simp only [F_197, if_neg h1, if_neg h2, if_neg h3, if_pos h4]), rfl, rfl⟩
  by_cases h5 : p1 = (kI 6)
  · refine EV.swEq (e := (kI 6)) cl_197 rfl rfl h5 rfl ?_
    refine EV.steps cl_197 2 (q2 := (62, [some (.int p1), some (.int p2), some (.int p3)], [.int p3, .int p2], SH, w)) rfl ?_
    refine EV.irem cl_197 rfl (i2 h1 h2 h3 h4 h5) ?_
    refine EV.ret cl_197 rfl rfl rfl ?_
    exact ⟨(by simp only [F_197, if_neg h1, if_neg h2, if_neg h3, if_neg h4, if_pos h5]), rfl, rfl⟩
  by_cases h6 : p1 = (kI 7)
  · refine EV.swEq (e := (kI 7)) cl_197 rfl rfl h6 rfl ?_
    refine EV.steps cl_197 2 (q2 := (66, [some (.int p1), some (.int p2), some (.int p3)], [.int p3, .int p2], SH, w)) rfl ?_
    refine EV.i_ge cl_197 rfl (fun h7 => ?_) (fun h7 => ?_)
    · skip
      refine EV.steps cl_197 1 (q2 := (74, [some (.int p1), some (.int p2), some (.int p3)], [.int (kI 0)], SH, w)) rfl ?_
      refine EV.ret cl_197 rfl rfl rfl ?_
      exact ⟨(by simp only [F_197, if_neg h1, if_neg h2, if_neg h3, if_neg h4, if_neg h5, if_pos h6, if_pos h7]), rfl, rfl⟩
    · skip
      refine EV.steps cl_197 2 (q2 := (74, [some (.int p1), some (.int p2), some (.int p3)], [.int (kI 1)], SH, w)) rfl ?_
      refine EV.ret cl_197 rfl rfl rfl ?_
      exact ⟨(by simp only [F_197, if_neg h1, if_neg h2, if_neg h3, if_neg h4, if_neg h5, if_pos h6, if_neg h7]), rfl, rfl⟩
  by_cases h8 : p1 = (kI 8)
  · refine EV.swEq (e := (kI 8)) cl_197 rfl rfl h8 rfl ?_
    refine EV.steps cl_197 2 (q2 := (77, [some (.int p1), some (.int p2), some (.int p3)], [.int p3, .int p2], SH, w)) rfl ?_
    refine EV.i_le cl_197 rfl (fun h9 => ?_) (fun h9 => ?_)
    · skip
      refine EV.steps cl_197 1 (q2 := (85, [some (.int p1), some (.int p2), some (.int p3)], [.int (kI 0)], SH, w)) rfl ?_
      refine EV.ret cl_197 rfl rfl rfl ?_
      exact ⟨(by simp only [F_197, if_neg h1, if_neg h2, if_neg h3, if_neg h4, if_neg h5, if_neg h6, if_pos h8, if_pos h9]), rfl, rfl⟩
    · skip
      refine EV.steps cl_197 2 (q2 := (85, [some (.int p1), some (.int p2), some (.int p3)], [.int (kI 1)], SH, w)) rfl ?_
      refine EV.ret cl_197 rfl rfl rfl ?_
      exact ⟨(by simp only [F_197, if_neg h1, if_neg h2, if_neg h3, if_neg h4, if_neg h5, if_neg h6, if_pos h8, if_neg h9]), rfl, rfl⟩
  refine EV.swT cl_197 rfl (by have a0 := sw_ne h1 (by decide); have a1 := sw_ne h2 (by decide); have a2 := sw_ne h3 (by decide); have a3 := sw_ne h4 (by decide); have a4 := sw_ne h5 (by decide); have a5 := sw_ne h6 (by decide); have a6 := sw_ne h8 (by decide); clear h1 h2 h3 h4 h5 h6 h8; omega) ?_
  refine EV.steps cl_197 2 (q2 := (88, [some (.int p1), some (.int p2), some (.int p3)], [.int p3, .int p2], SH, w)) rfl ?_
  refine EV.i_ne cl_197 rfl (fun h10 => ?_) (fun h10 => ?_)
  · skip
    refine EV.steps cl_197 1 (q2 := (96, [some (.int p1), some (.int p2), some (.int p3)], [.int (kI 0)], SH, w)) rfl ?_
    refine EV.ret cl_197 rfl rfl rfl ?_
    exact ⟨(by simp only [F_197, if_neg h1, if_neg h2, if_neg h3, if_neg h4, if_neg h5, if_neg h6, if_neg h8, if_neg h10]), rfl, rfl⟩
  · skip
    refine EV.steps cl_197 2 (q2 := (96, [some (.int p1), some (.int p2), some (.int p3)], [.int (kI 1)], SH, w)) rfl ?_
    refine EV.ret cl_197 rfl rfl rfl ?_
    exact ⟨(by simp only [F_197, if_neg h1, if_neg h2, if_neg h3, if_neg h4, if_neg h5, if_neg h6, if_neg h8, if_pos h10]), rfl, rfl⟩
set_option maxRecDepth 20000 in
theorem cl_206 : RCT[206]? = some rc_206 := rfl
def G_206_110 (p1 : Int32) (p2 : Int32) (w : Wd) : Wd := (up2 w 111 (((kI 0) + ((kI 6) * p1)) + p2).toNatClampNeg (F_158 (kI 9999) ((w 111 (((kI 0) + ((kI 6) * p1)) + p2).toNatClampNeg) + (kI 1)) w))
theorem m_206_110 {X : Scr} {d : Nat} (w : Wd) (p1 : Int32) (p2 : Int32) (i1 : (inB (((kI 0) + ((kI 6) * p1)) + p2) 162 = true)) : CV X (d + 2) 206 [.ref 110, .int p1, .int p2] SH w (fun r s1 w1 => r = none ∧ s1 = SH ∧ w1 = G_206_110 p1 p2 w) := by
  refine CV.of rfl ?_
  refine EV.steps cl_206 15 (q2 := (22, [some (.ref 110), some (.int p1), some (.int p2), some (.int (((kI 0) + ((kI 6) * p1)) + p2))], [.int (((kI 0) + ((kI 6) * p1)) + p2), .ref 111, .int (kI 9999), .int (((kI 0) + ((kI 6) * p1)) + p2), .ref 111], SH, w)) rfl ?_
  refine EV.iaload cl_206 rfl rfl (by decide) (i1) ?_
  refine EV.steps cl_206 2 (q2 := (25, [some (.ref 110), some (.int p1), some (.int p2), some (.int (((kI 0) + ((kI 6) * p1)) + p2))], [.int ((w 111 (((kI 0) + ((kI 6) * p1)) + p2).toNatClampNeg) + (kI 1)), .int (kI 9999), .int (((kI 0) + ((kI 6) * p1)) + p2), .ref 111], SH, w)) rfl ?_
  refine EV.callF (kc := 158) (av := [.int (kI 9999), .int ((w 111 (((kI 0) + ((kI 6) * p1)) + p2).toNatClampNeg) + (kI 1))]) (r := [.int (((kI 0) + ((kI 6) * p1)) + p2), .ref 111]) (rv := some (.int (F_158 (kI 9999) ((w 111 (((kI 0) + ((kI 6) * p1)) + p2).toNatClampNeg) + (kI 1)) w))) (w2 := w) cl_206 rfl rfl rfl (m_158 w (kI 9999) ((w 111 (((kI 0) + ((kI 6) * p1)) + p2).toNatClampNeg) + (kI 1))) ?_
  refine EV.iastore cl_206 rfl rfl (by decide) (i1) ?_
  refine EV.ret cl_206 rfl rfl rfl ?_
  exact ⟨rfl, rfl, rfl⟩
set_option maxRecDepth 20000 in
theorem cl_214 : RCT[214]? = some rc_214 := rfl
def F_214_110 (p1 : Int32) (p2 : Int32) (w : Wd) : Int32 := (if (F_164_110 p1 w) = 0 then (kI (-1)) else (if (F_165_110 p2 w) = 0 then (kI (-1)) else (F_166_110 p1 p2 w)))
theorem m_214_110 {X : Scr} {d : Nat} (w : Wd) (p1 : Int32) (p2 : Int32) (i1 : ¬ (F_164_110 p1 w) = 0 → ¬ (F_165_110 p2 w) = 0 → ((inB (((kI 0) + ((kI 6) * p1)) + p2) 162 = true))) : CV X (d + 3) 214 [.ref 110, .int p1, .int p2] SH w (fun r s1 w1 => r = some (.int (F_214_110 p1 p2 w)) ∧ s1 = SH ∧ w1 = w) := by
  refine CV.of rfl ?_
  refine EV.steps cl_214 2 (q2 := (2, [some (.ref 110), some (.int p1), some (.int p2)], [.int p1, .ref 110], SH, w)) rfl ?_
  refine EV.callF (kc := 164) (av := [.ref 110, .int p1]) (r := []) (rv := some (.int (F_164_110 p1 w))) (w2 := w) cl_214 rfl rfl rfl (m_164_110 w p1) ?_
  refine EV.z_eq cl_214 rfl (fun h1 => ?_) (fun h1 => ?_)
  · skip
    refine EV.steps cl_214 1 (q2 := (26, [some (.ref 110), some (.int p1), some (.int p2)], [.int (kI (-1))], SH, w)) rfl ?_
    refine EV.ret cl_214 rfl rfl rfl ?_
    exact ⟨(by simp only [F_214_110, if_pos h1]), rfl, rfl⟩
  · skip
    refine EV.steps cl_214 2 (q2 := (10, [some (.ref 110), some (.int p1), some (.int p2)], [.int p2, .ref 110], SH, w)) rfl ?_
    refine EV.callF (kc := 165) (av := [.ref 110, .int p2]) (r := []) (rv := some (.int (F_165_110 p2 w))) (w2 := w) cl_214 rfl rfl rfl (m_165_110 w p2) ?_
    refine EV.z_eq cl_214 rfl (fun h2 => ?_) (fun h2 => ?_)
    · skip
      refine EV.steps cl_214 1 (q2 := (26, [some (.ref 110), some (.int p1), some (.int p2)], [.int (kI (-1))], SH, w)) rfl ?_
      refine EV.ret cl_214 rfl rfl rfl ?_
      exact ⟨(by simp only [F_214_110, if_neg h1, if_pos h2]), rfl, rfl⟩
    · skip
      refine EV.steps cl_214 3 (q2 := (19, [some (.ref 110), some (.int p1), some (.int p2)], [.int p2, .int p1, .ref 110], SH, w)) rfl ?_
      refine EV.callF (kc := 166) (av := [.ref 110, .int p1, .int p2]) (r := []) (rv := some (.int (F_166_110 p1 p2 w))) (w2 := w) cl_214 rfl rfl rfl (m_166_110 w p1 p2 (i1 h1 h2)) ?_
      refine EV.steps cl_214 1 (q2 := (26, [some (.ref 110), some (.int p1), some (.int p2)], [.int (F_166_110 p1 p2 w)], SH, w)) rfl ?_
      refine EV.ret cl_214 rfl rfl rfl ?_
      exact ⟨(by simp only [F_214_110, if_neg h1, if_neg h2]), rfl, rfl⟩
set_option maxRecDepth 20000 in
theorem cl_219 : RCT[219]? = some rc_219 := rfl
def F_219_110 (p1 : Int32) (p2 : Int32) (w : Wd) : Int32 := (if p2 = (kI 1) then ((w 133 p1.toNatClampNeg) + (kI 1)) else (if p2 = (kI 2) then (((kI 2) * (w 133 p1.toNatClampNeg)) + (kI 1)) else (w 133 p1.toNatClampNeg)))
theorem m_219_110 {X : Scr} {d : Nat} (w : Wd) (p1 : Int32) (p2 : Int32) (i1 : ¬ p2 = (kI 1) → ¬ p2 = (kI 2) → (inB p1 6 = true)) (i2 : ¬ p2 = (kI 1) → p2 = (kI 2) → (inB p1 6 = true)) (i3 : p2 = (kI 1) → (inB p1 6 = true)) : CV X (d + 1) 219 [.ref 110, .int p1, .int p2] SH w (fun r s1 w1 => r = some (.int (F_219_110 p1 p2 w)) ∧ s1 = SH ∧ w1 = w) := by
  refine CV.of rfl ?_
  refine EV.steps cl_219 2 (q2 := (2, [some (.ref 110), some (.int p1), some (.int p2)], [.int (kI 1), .int p2], SH, w)) rfl ?_
  refine EV.i_ne cl_219 rfl (fun h1 => ?_) (fun h1 => ?_)
  · skip
    refine EV.steps cl_219 2 (q2 := (18, [some (.ref 110), some (.int p1), some (.int p2)], [.int (kI 2), .int p2], SH, w)) rfl ?_
    refine EV.i_ne cl_219 rfl (fun h2 => ?_) (fun h2 => ?_)
    · skip
      refine EV.steps cl_219 3 (q2 := (39, [some (.ref 110), some (.int p1), some (.int p2)], [.int p1, .ref 133], SH, w)) rfl ?_
      refine EV.iaload cl_219 rfl rfl (by decide) (i1 h1 h2) ?_
      refine EV.ret cl_219 rfl rfl rfl ?_
      exact ⟨(by simp only [F_219_110, if_neg h1, if_neg h2]), rfl, rfl⟩
    · skip
      refine EV.steps cl_219 4 (q2 := (27, [some (.ref 110), some (.int p1), some (.int p2)], [.int p1, .ref 133, .int (kI 2)], SH, w)) rfl ?_
      refine EV.iaload cl_219 rfl rfl (by decide) (i2 h1 h2) ?_
      refine EV.steps cl_219 4 (q2 := (40, [some (.ref 110), some (.int p1), some (.int p2)], [.int (((kI 2) * (w 133 p1.toNatClampNeg)) + (kI 1))], SH, w)) rfl ?_
      refine EV.ret cl_219 rfl rfl rfl ?_
      exact ⟨(by simp only [F_219_110, if_neg h1, if_pos h2]), rfl, rfl⟩
  · skip
    refine EV.steps cl_219 3 (q2 := (10, [some (.ref 110), some (.int p1), some (.int p2)], [.int p1, .ref 133], SH, w)) rfl ?_
    refine EV.iaload cl_219 rfl rfl (by decide) (i3 h1) ?_
    refine EV.steps cl_219 3 (q2 := (40, [some (.ref 110), some (.int p1), some (.int p2)], [.int ((w 133 p1.toNatClampNeg) + (kI 1))], SH, w)) rfl ?_
    refine EV.ret cl_219 rfl rfl rfl ?_
    exact ⟨(by simp only [F_219_110, if_pos h1]), rfl, rfl⟩
set_option maxRecDepth 20000 in
theorem cl_220 : RCT[220]? = some rc_220 := rfl
def F_220_110 (p1 : Int32) (p2 : Int32) (p3 : Int32) (w : Wd) : Int32 := (if (F_219_110 p1 p3 w) = 0 then (if (F_219_110 p2 p3 w) ≤ 0 then (kI 0) else (kI 1)) else (if (F_219_110 p2 p3 w) = 0 then (kI 0) else (if ((w 114 p1.toNatClampNeg) * (F_219_110 p2 p3 w)) ≤ ((w 114 p2.toNatClampNeg) * (F_219_110 p1 p3 w)) then (kI 0) else (kI 1))))
theorem z1_220_110 (p1 : Int32) (p2 : Int32) (p3 : Int32) (w : Wd) : F_220_110 p1 p2 p3 w = 0 ∨ F_220_110 p1 p2 p3 w = 1 := by
  unfold F_220_110
  (repeat' split) <;> first | exact Or.inl rfl | exact Or.inr rfl
theorem m_220_110 {X : Scr} {d : Nat} (w : Wd) (p1 : Int32) (p2 : Int32) (p3 : Int32) (i1 : (¬ p3 = (kI 1) → ¬ p3 = (kI 2) → (inB p1 6 = true))) (i2 : (¬ p3 = (kI 1) → p3 = (kI 2) → (inB p1 6 = true))) (i3 : (p3 = (kI 1) → (inB p1 6 = true))) (i4 : (¬ p3 = (kI 1) → ¬ p3 = (kI 2) → (inB p2 6 = true))) (i5 : (¬ p3 = (kI 1) → p3 = (kI 2) → (inB p2 6 = true))) (i6 : (p3 = (kI 1) → (inB p2 6 = true))) (i7 : ¬ (F_219_110 p1 p3 w) = 0 → ¬ (F_219_110 p2 p3 w) = 0 → (inB p1 6 = true)) (i8 : ¬ (F_219_110 p1 p3 w) = 0 → ¬ (F_219_110 p2 p3 w) = 0 → (inB p2 6 = true)) : CV X (d + 2) 220 [.ref 110, .int p1, .int p2, .int p3] SH w (fun r s1 w1 => r = some (.int (F_220_110 p1 p2 p3 w)) ∧ s1 = SH ∧ w1 = w) := by
  refine CV.of rfl ?_
  refine EV.steps cl_220 3 (q2 := (3, [some (.ref 110), some (.int p1), some (.int p2), some (.int p3), none, none], [.int p3, .int p1, .ref 110], SH, w)) rfl ?_
  refine EV.callF (kc := 219) (av := [.ref 110, .int p1, .int p3]) (r := []) (rv := some (.int (F_219_110 p1 p3 w))) (w2 := w) cl_220 rfl rfl rfl (m_219_110 w p1 p3 (i1) (i2) (i3)) ?_
  refine EV.steps cl_220 4 (q2 := (11, [some (.ref 110), some (.int p1), some (.int p2), some (.int p3), some (.int (F_219_110 p1 p3 w)), none], [.int p3, .int p2, .ref 110], SH, w)) rfl ?_
  refine EV.callF (kc := 219) (av := [.ref 110, .int p2, .int p3]) (r := []) (rv := some (.int (F_219_110 p2 p3 w))) (w2 := w) cl_220 rfl rfl rfl (m_219_110 w p2 p3 (i4) (i5) (i6)) ?_
  refine EV.steps cl_220 2 (q2 := (18, [some (.ref 110), some (.int p1), some (.int p2), some (.int p3), some (.int (F_219_110 p1 p3 w)), some (.int (F_219_110 p2 p3 w))], [.int (F_219_110 p1 p3 w)], SH, w)) rfl ?_
  refine EV.z_eq cl_220 rfl (fun h1 => ?_) (fun h1 => ?_)
  · skip
    refine EV.steps cl_220 1 (q2 := (28, [some (.ref 110), some (.int p1), some (.int p2), some (.int p3), some (.int (F_219_110 p1 p3 w)), some (.int (F_219_110 p2 p3 w))], [.int (F_219_110 p1 p3 w)], SH, w)) rfl ?_
    refine EV.z_ne cl_220 rfl (fun h2 => ?_) (fun h2 => ?_)
    · skip
      exact absurd h1 h2
    · skip
      refine EV.steps cl_220 1 (q2 := (33, [some (.ref 110), some (.int p1), some (.int p2), some (.int p3), some (.int (F_219_110 p1 p3 w)), some (.int (F_219_110 p2 p3 w))], [.int (F_219_110 p2 p3 w)], SH, w)) rfl ?_
      refine EV.z_le cl_220 rfl (fun h3 => ?_) (fun h3 => ?_)
      · skip
        refine EV.steps cl_220 1 (q2 := (41, [some (.ref 110), some (.int p1), some (.int p2), some (.int p3), some (.int (F_219_110 p1 p3 w)), some (.int (F_219_110 p2 p3 w))], [.int (kI 0)], SH, w)) rfl ?_
        refine EV.ret cl_220 rfl rfl rfl ?_
        exact ⟨(by simp only [F_220_110, if_pos h1, if_pos h3]), rfl, rfl⟩
      · skip
        refine EV.steps cl_220 2 (q2 := (41, [some (.ref 110), some (.int p1), some (.int p2), some (.int p3), some (.int (F_219_110 p1 p3 w)), some (.int (F_219_110 p2 p3 w))], [.int (kI 1)], SH, w)) rfl ?_
        refine EV.ret cl_220 rfl rfl rfl ?_
        exact ⟨(by simp only [F_220_110, if_pos h1, if_neg h3]), rfl, rfl⟩
  · skip
    refine EV.steps cl_220 1 (q2 := (23, [some (.ref 110), some (.int p1), some (.int p2), some (.int p3), some (.int (F_219_110 p1 p3 w)), some (.int (F_219_110 p2 p3 w))], [.int (F_219_110 p2 p3 w)], SH, w)) rfl ?_
    refine EV.z_ne cl_220 rfl (fun h4 => ?_) (fun h4 => ?_)
    · skip
      refine EV.steps cl_220 3 (q2 := (47, [some (.ref 110), some (.int p1), some (.int p2), some (.int p3), some (.int (F_219_110 p1 p3 w)), some (.int (F_219_110 p2 p3 w))], [.int p1, .ref 114], SH, w)) rfl ?_
      refine EV.iaload cl_220 rfl rfl (by decide) (i7 h1 h4) ?_
      refine EV.steps cl_220 5 (q2 := (56, [some (.ref 110), some (.int p1), some (.int p2), some (.int p3), some (.int (F_219_110 p1 p3 w)), some (.int (F_219_110 p2 p3 w))], [.int p2, .ref 114, .int ((w 114 p1.toNatClampNeg) * (F_219_110 p2 p3 w))], SH, w)) rfl ?_
      refine EV.iaload cl_220 rfl rfl (by decide) (i8 h1 h4) ?_
      refine EV.steps cl_220 2 (q2 := (60, [some (.ref 110), some (.int p1), some (.int p2), some (.int p3), some (.int (F_219_110 p1 p3 w)), some (.int (F_219_110 p2 p3 w))], [.int ((w 114 p2.toNatClampNeg) * (F_219_110 p1 p3 w)), .int ((w 114 p1.toNatClampNeg) * (F_219_110 p2 p3 w))], SH, w)) rfl ?_
      refine EV.i_le cl_220 rfl (fun h5 => ?_) (fun h5 => ?_)
      · skip
        refine EV.steps cl_220 1 (q2 := (68, [some (.ref 110), some (.int p1), some (.int p2), some (.int p3), some (.int (F_219_110 p1 p3 w)), some (.int (F_219_110 p2 p3 w))], [.int (kI 0)], SH, w)) rfl ?_
        refine EV.ret cl_220 rfl rfl rfl ?_
        exact ⟨(by simp only [F_220_110, if_neg h1, if_neg h4, if_pos h5]), rfl, rfl⟩
      · skip
        refine EV.steps cl_220 2 (q2 := (68, [some (.ref 110), some (.int p1), some (.int p2), some (.int p3), some (.int (F_219_110 p1 p3 w)), some (.int (F_219_110 p2 p3 w))], [.int (kI 1)], SH, w)) rfl ?_
        refine EV.ret cl_220 rfl rfl rfl ?_
        exact ⟨(by simp only [F_220_110, if_neg h1, if_neg h4, if_neg h5]), rfl, rfl⟩
    · skip
      refine EV.steps cl_220 1 (q2 := (28, [some (.ref 110), some (.int p1), some (.int p2), some (.int p3), some (.int (F_219_110 p1 p3 w)), some (.int (F_219_110 p2 p3 w))], [.int (F_219_110 p1 p3 w)], SH, w)) rfl ?_
      refine EV.z_ne cl_220 rfl (fun h6 => ?_) (fun h6 => ?_)
      · skip
        refine EV.steps cl_220 1 (q2 := (41, [some (.ref 110), some (.int p1), some (.int p2), some (.int p3), some (.int (F_219_110 p1 p3 w)), some (.int (F_219_110 p2 p3 w))], [.int (kI 0)], SH, w)) rfl ?_
        refine EV.ret cl_220 rfl rfl rfl ?_
        exact ⟨(by simp only [F_220_110, if_neg h1, if_pos h4]), rfl, rfl⟩
      · skip
        exact absurd h6 h1
set_option maxRecDepth 20000 in
theorem cl_229 : RCT[229]? = some rc_229 := rfl
def F_229_110 (p1 : Int32) (p2 : Int32) (p3 : Int32) (w : Wd) : Int32 := (if ((w 135 p1.toNatClampNeg) - (w 135 p1.toNatClampNeg) / p2 * p2) = 0 then (kI 0) else (if (F_161 p3 p1 w) = 0 then (-((w 135 p1.toNatClampNeg) - (w 135 p1.toNatClampNeg) / p2 * p2)) else (p2 - ((w 135 p1.toNatClampNeg) - (w 135 p1.toNatClampNeg) / p2 * p2))))
theorem m_229_110 {X : Scr} {d : Nat} (w : Wd) (p1 : Int32) (p2 : Int32) (p3 : Int32) (i1 : (inB p1 12 = true)) (i2 : (¬ p2 = 0)) : CV X (d + 2) 229 [.ref 110, .int p1, .int p2, .int p3] SH w (fun r s1 w1 => r = some (.int (F_229_110 p1 p2 p3 w)) ∧ s1 = SH ∧ w1 = w) := by
  refine CV.of rfl ?_
  refine EV.steps cl_229 3 (q2 := (5, [some (.ref 110), some (.int p1), some (.int p2), some (.int p3), none], [.int p1, .ref 135], SH, w)) rfl ?_
  refine EV.iaload cl_229 rfl rfl (by decide) (i1) ?_
  refine EV.steps cl_229 1 (q2 := (7, [some (.ref 110), some (.int p1), some (.int p2), some (.int p3), none], [.int p2, .int (w 135 p1.toNatClampNeg)], SH, w)) rfl ?_
  refine EV.irem cl_229 rfl (i2) ?_
  refine EV.steps cl_229 2 (q2 := (12, [some (.ref 110), some (.int p1), some (.int p2), some (.int p3), some (.int ((w 135 p1.toNatClampNeg) - (w 135 p1.toNatClampNeg) / p2 * p2))], [.int ((w 135 p1.toNatClampNeg) - (w 135 p1.toNatClampNeg) / p2 * p2)], SH, w)) rfl ?_
  refine EV.z_ne cl_229 rfl (fun h1 => ?_) (fun h1 => ?_)
  · skip
    refine EV.steps cl_229 2 (q2 := (21, [some (.ref 110), some (.int p1), some (.int p2), some (.int p3), some (.int ((w 135 p1.toNatClampNeg) - (w 135 p1.toNatClampNeg) / p2 * p2))], [.int p1, .int p3], SH, w)) rfl ?_
    refine EV.callF (kc := 161) (av := [.int p3, .int p1]) (r := []) (rv := some (.int (F_161 p3 p1 w))) (w2 := w) cl_229 rfl rfl rfl (m_161 w p3 p1) ?_
    refine EV.z_eq cl_229 rfl (fun h2 => ?_) (fun h2 => ?_)
    · skip
      refine EV.steps cl_229 2 (q2 := (37, [some (.ref 110), some (.int p1), some (.int p2), some (.int p3), some (.int ((w 135 p1.toNatClampNeg) - (w 135 p1.toNatClampNeg) / p2 * p2))], [.int (-((w 135 p1.toNatClampNeg) - (w 135 p1.toNatClampNeg) / p2 * p2))], SH, w)) rfl ?_
      refine EV.ret cl_229 rfl rfl rfl ?_
      exact ⟨(by simp only [F_229_110, if_neg h1, if_pos h2]), rfl, rfl⟩
    · skip
      refine EV.steps cl_229 4 (q2 := (37, [some (.ref 110), some (.int p1), some (.int p2), some (.int p3), some (.int ((w 135 p1.toNatClampNeg) - (w 135 p1.toNatClampNeg) / p2 * p2))], [.int (p2 - ((w 135 p1.toNatClampNeg) - (w 135 p1.toNatClampNeg) / p2 * p2))], SH, w)) rfl ?_
      refine EV.ret cl_229 rfl rfl rfl ?_
      exact ⟨(by simp only [F_229_110, if_neg h1, if_neg h2]), rfl, rfl⟩
  · skip
    refine EV.steps cl_229 2 (q2 := (37, [some (.ref 110), some (.int p1), some (.int p2), some (.int p3), some (.int ((w 135 p1.toNatClampNeg) - (w 135 p1.toNatClampNeg) / p2 * p2))], [.int (kI 0)], SH, w)) rfl ?_
    refine EV.ret cl_229 rfl rfl rfl ?_
    exact ⟨(by simp only [F_229_110, if_pos h1]), rfl, rfl⟩
set_option maxRecDepth 20000 in
theorem cl_235 : RCT[235]? = some rc_235 := rfl
def F_235_110 (p1 : Int32) (p2 : Int32) (p3 : Int32) (p4 : Int32) (p5 : Int32) (w : Wd) : Int32 := (if (F_157 p1 (kI 0) (kI 19) w) = 0 then (kI 0) else (if (F_157 p2 (kI 0) (kI 5) w) = 0 then (kI 0) else (if (F_157 p3 (kI 0) (kI 99) w) = 0 then (kI 0) else (if (F_157 p4 (kI 0) (kI 23) w) = 0 then (kI 0) else (if (F_157 p5 (kI 0) (kI 9) w) = 0 then (kI 0) else (kI 1))))))
def G_235_110 (p1 : Int32) (p2 : Int32) (p3 : Int32) (p4 : Int32) (p5 : Int32) (w : Wd) : Wd := (if (F_157 p1 (kI 0) (kI 19) w) = 0 then w else (if (F_157 p2 (kI 0) (kI 5) w) = 0 then w else (if (F_157 p3 (kI 0) (kI 99) w) = 0 then w else (if (F_157 p4 (kI 0) (kI 23) w) = 0 then w else (if (F_157 p5 (kI 0) (kI 9) w) = 0 then w else (up2 (up2 (up2 (up2 (up2 w 110 56 ((w 110 56) ||| ((kI 1) <<< (p1 &&& 31)))) 140 p1.toNatClampNeg p2) 141 p1.toNatClampNeg p3) 142 p1.toNatClampNeg p4) 143 p1.toNatClampNeg p5))))))
theorem z1_235_110 (p1 : Int32) (p2 : Int32) (p3 : Int32) (p4 : Int32) (p5 : Int32) (w : Wd) : F_235_110 p1 p2 p3 p4 p5 w = 0 ∨ F_235_110 p1 p2 p3 p4 p5 w = 1 := by
  unfold F_235_110
  (repeat' split) <;> first | exact Or.inl rfl | exact Or.inr rfl
theorem m_235_110 {X : Scr} {d : Nat} (w : Wd) (p1 : Int32) (p2 : Int32) (p3 : Int32) (p4 : Int32) (p5 : Int32) : CV X (d + 2) 235 [.ref 110, .int p1, .int p2, .int p3, .int p4, .int p5] SH w (fun r s1 w1 => r = some (.int (F_235_110 p1 p2 p3 p4 p5 w)) ∧ s1 = SH ∧ w1 = G_235_110 p1 p2 p3 p4 p5 w) := by
  refine CV.of rfl ?_
  refine EV.steps cl_235 3 (q2 := (4, [some (.ref 110), some (.int p1), some (.int p2), some (.int p3), some (.int p4), some (.int p5)], [.int (kI 19), .int (kI 0), .int p1], SH, w)) rfl ?_
  refine EV.callF (kc := 157) (av := [.int p1, .int (kI 0), .int (kI 19)]) (r := []) (rv := some (.int (F_157 p1 (kI 0) (kI 19) w))) (w2 := w) cl_235 rfl rfl rfl (m_157 w p1 (kI 0) (kI 19)) ?_
  refine EV.z_eq cl_235 rfl (fun h1 => ?_) (fun h1 => ?_)
  · skip
    refine EV.steps cl_235 1 (q2 := (52, [some (.ref 110), some (.int p1), some (.int p2), some (.int p3), some (.int p4), some (.int p5)], [.int (kI 0)], SH, w)) rfl ?_
    refine EV.ret cl_235 rfl rfl rfl ?_
    exact ⟨(by simp only [F_235_110, if_pos h1]), rfl, (by simp only [G_235_110, if_pos h1])⟩
  · skip
    refine EV.steps cl_235 3 (q2 := (13, [some (.ref 110), some (.int p1), some (.int p2), some (.int p3), some (.int p4), some (.int p5)], [.int (kI 5), .int (kI 0), .int p2], SH, w)) rfl ?_
    refine EV.callF (kc := 157) (av := [.int p2, .int (kI 0), .int (kI 5)]) (r := []) (rv := some (.int (F_157 p2 (kI 0) (kI 5) w))) (w2 := w) cl_235 rfl rfl rfl (m_157 w p2 (kI 0) (kI 5)) ?_
    refine EV.z_eq cl_235 rfl (fun h2 => ?_) (fun h2 => ?_)
    · skip
      refine EV.steps cl_235 1 (q2 := (52, [some (.ref 110), some (.int p1), some (.int p2), some (.int p3), some (.int p4), some (.int p5)], [.int (kI 0)], SH, w)) rfl ?_
      refine EV.ret cl_235 rfl rfl rfl ?_
      exact ⟨(by simp only [F_235_110, if_neg h1, if_pos h2]), rfl, (by simp only [G_235_110, if_neg h1, if_pos h2])⟩
    · skip
      refine EV.steps cl_235 3 (q2 := (23, [some (.ref 110), some (.int p1), some (.int p2), some (.int p3), some (.int p4), some (.int p5)], [.int (kI 99), .int (kI 0), .int p3], SH, w)) rfl ?_
      refine EV.callF (kc := 157) (av := [.int p3, .int (kI 0), .int (kI 99)]) (r := []) (rv := some (.int (F_157 p3 (kI 0) (kI 99) w))) (w2 := w) cl_235 rfl rfl rfl (m_157 w p3 (kI 0) (kI 99)) ?_
      refine EV.z_eq cl_235 rfl (fun h3 => ?_) (fun h3 => ?_)
      · skip
        refine EV.steps cl_235 1 (q2 := (52, [some (.ref 110), some (.int p1), some (.int p2), some (.int p3), some (.int p4), some (.int p5)], [.int (kI 0)], SH, w)) rfl ?_
        refine EV.ret cl_235 rfl rfl rfl ?_
        exact ⟨(by simp only [F_235_110, if_neg h1, if_neg h2, if_pos h3]), rfl, (by simp only [G_235_110, if_neg h1, if_neg h2, if_pos h3])⟩
      · skip
        refine EV.steps cl_235 3 (q2 := (34, [some (.ref 110), some (.int p1), some (.int p2), some (.int p3), some (.int p4), some (.int p5)], [.int (kI 23), .int (kI 0), .int p4], SH, w)) rfl ?_
        refine EV.callF (kc := 157) (av := [.int p4, .int (kI 0), .int (kI 23)]) (r := []) (rv := some (.int (F_157 p4 (kI 0) (kI 23) w))) (w2 := w) cl_235 rfl rfl rfl (m_157 w p4 (kI 0) (kI 23)) ?_
        refine EV.z_eq cl_235 rfl (fun h4 => ?_) (fun h4 => ?_)
        · skip
          refine EV.steps cl_235 1 (q2 := (52, [some (.ref 110), some (.int p1), some (.int p2), some (.int p3), some (.int p4), some (.int p5)], [.int (kI 0)], SH, w)) rfl ?_
          refine EV.ret cl_235 rfl rfl rfl ?_
          exact ⟨(by simp only [F_235_110, if_neg h1, if_neg h2, if_neg h3, if_pos h4]), rfl, (by simp only [G_235_110, if_neg h1, if_neg h2, if_neg h3, if_pos h4])⟩
        · skip
          refine EV.steps cl_235 3 (q2 := (45, [some (.ref 110), some (.int p1), some (.int p2), some (.int p3), some (.int p4), some (.int p5)], [.int (kI 9), .int (kI 0), .int p5], SH, w)) rfl ?_
          refine EV.callF (kc := 157) (av := [.int p5, .int (kI 0), .int (kI 9)]) (r := []) (rv := some (.int (F_157 p5 (kI 0) (kI 9) w))) (w2 := w) cl_235 rfl rfl rfl (m_157 w p5 (kI 0) (kI 9)) ?_
          refine EV.z_ne cl_235 rfl (fun h5 => ?_) (fun h5 => ?_)
          · skip
            refine EV.steps cl_235 12 (q2 := (71, [some (.ref 110), some (.int p1), some (.int p2), some (.int p3), some (.int p4), some (.int p5)], [.int p2, .int p1, .ref 140], SH, (up2 w 110 56 ((w 110 56) ||| ((kI 1) <<< (p1 &&& 31)))))) rfl ?_
            refine EV.iastore cl_235 rfl rfl (by decide) (ix_157 h1 (by decide)) ?_
            refine EV.steps cl_235 4 (q2 := (78, [some (.ref 110), some (.int p1), some (.int p2), some (.int p3), some (.int p4), some (.int p5)], [.int p3, .int p1, .ref 141], SH, (up2 (up2 w 110 56 ((w 110 56) ||| ((kI 1) <<< (p1 &&& 31)))) 140 p1.toNatClampNeg p2))) rfl ?_
            refine EV.iastore cl_235 rfl rfl (by decide) (ix_157 h1 (by decide)) ?_
            refine EV.steps cl_235 4 (q2 := (86, [some (.ref 110), some (.int p1), some (.int p2), some (.int p3), some (.int p4), some (.int p5)], [.int p4, .int p1, .ref 142], SH, (up2 (up2 (up2 w 110 56 ((w 110 56) ||| ((kI 1) <<< (p1 &&& 31)))) 140 p1.toNatClampNeg p2) 141 p1.toNatClampNeg p3))) rfl ?_
            refine EV.iastore cl_235 rfl rfl (by decide) (ix_157 h1 (by decide)) ?_
            refine EV.steps cl_235 4 (q2 := (94, [some (.ref 110), some (.int p1), some (.int p2), some (.int p3), some (.int p4), some (.int p5)], [.int p5, .int p1, .ref 143], SH, (up2 (up2 (up2 (up2 w 110 56 ((w 110 56) ||| ((kI 1) <<< (p1 &&& 31)))) 140 p1.toNatClampNeg p2) 141 p1.toNatClampNeg p3) 142 p1.toNatClampNeg p4))) rfl ?_
            refine EV.iastore cl_235 rfl rfl (by decide) (ix_157 h1 (by decide)) ?_
            refine EV.steps cl_235 1 (q2 := (96, [some (.ref 110), some (.int p1), some (.int p2), some (.int p3), some (.int p4), some (.int p5)], [.int (kI 1)], SH, (up2 (up2 (up2 (up2 (up2 w 110 56 ((w 110 56) ||| ((kI 1) <<< (p1 &&& 31)))) 140 p1.toNatClampNeg p2) 141 p1.toNatClampNeg p3) 142 p1.toNatClampNeg p4) 143 p1.toNatClampNeg p5))) rfl ?_
            refine EV.ret cl_235 rfl rfl rfl ?_
            exact ⟨(by simp only [F_235_110, if_neg h1, if_neg h2, if_neg h3, if_neg h4, if_neg h5]), rfl, (by simp only [G_235_110, if_neg h1, if_neg h2, if_neg h3, if_neg h4, if_neg h5])⟩
          · skip
            refine EV.steps cl_235 1 (q2 := (52, [some (.ref 110), some (.int p1), some (.int p2), some (.int p3), some (.int p4), some (.int p5)], [.int (kI 0)], SH, w)) rfl ?_
            refine EV.ret cl_235 rfl rfl rfl ?_
            exact ⟨(by simp only [F_235_110, if_neg h1, if_neg h2, if_neg h3, if_neg h4, if_pos h5]), rfl, (by simp only [G_235_110, if_neg h1, if_neg h2, if_neg h3, if_neg h4, if_pos h5])⟩
set_option maxRecDepth 20000 in
theorem cl_244 : RCT[244]? = some rc_244 := rfl
def F_244_110 (p1 : Int32) (p2 : Int32) (w : Wd) : Int32 := (if (F_165_110 p1 w) = 0 then (kI (-1)) else (if (F_157 p2 (kI 0) (kI 7) w) = 0 then (kI (-1)) else (w 111 (((kI 108) + ((kI 8) * p1)) + p2).toNatClampNeg)))
theorem m_244_110 {X : Scr} {d : Nat} (w : Wd) (p1 : Int32) (p2 : Int32) (i1 : ¬ (F_165_110 p1 w) = 0 → ¬ (F_157 p2 (kI 0) (kI 7) w) = 0 → (inB (((kI 108) + ((kI 8) * p1)) + p2) 162 = true)) : CV X (d + 3) 244 [.ref 110, .int p1, .int p2] SH w (fun r s1 w1 => r = some (.int (F_244_110 p1 p2 w)) ∧ s1 = SH ∧ w1 = w) := by
  refine CV.of rfl ?_
  refine EV.steps cl_244 2 (q2 := (2, [some (.ref 110), some (.int p1), some (.int p2)], [.int p1, .ref 110], SH, w)) rfl ?_
  refine EV.callF (kc := 165) (av := [.ref 110, .int p1]) (r := []) (rv := some (.int (F_165_110 p1 w))) (w2 := w) cl_244 rfl rfl rfl (m_165_110 w p1) ?_
  refine EV.z_eq cl_244 rfl (fun h1 => ?_) (fun h1 => ?_)
  · skip
    refine EV.steps cl_244 1 (q2 := (36, [some (.ref 110), some (.int p1), some (.int p2)], [.int (kI (-1))], SH, w)) rfl ?_
    refine EV.ret cl_244 rfl rfl rfl ?_
    exact ⟨(by simp only [F_244_110, if_pos h1]), rfl, rfl⟩
  · skip
    refine EV.steps cl_244 3 (q2 := (12, [some (.ref 110), some (.int p1), some (.int p2)], [.int (kI 7), .int (kI 0), .int p2], SH, w)) rfl ?_
    refine EV.callF (kc := 157) (av := [.int p2, .int (kI 0), .int (kI 7)]) (r := []) (rv := some (.int (F_157 p2 (kI 0) (kI 7) w))) (w2 := w) cl_244 rfl rfl rfl (m_157 w p2 (kI 0) (kI 7)) ?_
    refine EV.z_eq cl_244 rfl (fun h2 => ?_) (fun h2 => ?_)
    · skip
      refine EV.steps cl_244 1 (q2 := (36, [some (.ref 110), some (.int p1), some (.int p2)], [.int (kI (-1))], SH, w)) rfl ?_
      refine EV.ret cl_244 rfl rfl rfl ?_
      exact ⟨(by simp only [F_244_110, if_neg h1, if_pos h2]), rfl, rfl⟩
    · skip
      refine EV.steps cl_244 9 (q2 := (31, [some (.ref 110), some (.int p1), some (.int p2)], [.int (((kI 108) + ((kI 8) * p1)) + p2), .ref 111], SH, w)) rfl ?_
      refine EV.iaload cl_244 rfl rfl (by decide) (i1 h1 h2) ?_
      refine EV.steps cl_244 1 (q2 := (36, [some (.ref 110), some (.int p1), some (.int p2)], [.int (w 111 (((kI 108) + ((kI 8) * p1)) + p2).toNatClampNeg)], SH, w)) rfl ?_
      refine EV.ret cl_244 rfl rfl rfl ?_
      exact ⟨(by simp only [F_244_110, if_neg h1, if_neg h2]), rfl, rfl⟩
set_option maxRecDepth 20000 in
theorem cl_246 : RCT[246]? = some rc_246 := rfl
def F_246_110 (p1 : Int32) (p2 : Int32) (w : Wd) : Int32 := (if (F_161 (w 110 56) p1 w) = 0 then (kI 0) else (if (F_161 (w 110 56) p2 w) = 0 then (kI 0) else (if (w 140 p1.toNatClampNeg) = (w 140 p2.toNatClampNeg) then (if (w 143 p1.toNatClampNeg) = (w 143 p2.toNatClampNeg) then (if (w 141 p1.toNatClampNeg) = (w 141 p2.toNatClampNeg) then (if (F_160 ((w 142 p1.toNatClampNeg) - (w 142 p2.toNatClampNeg)) w) = (kI 1) then (kI 1) else (if (F_160 ((w 142 p1.toNatClampNeg) - (w 142 p2.toNatClampNeg)) w) = (kI 23) then (kI 1) else (kI 0))) else (kI 0)) else (kI 0)) else (kI 0))))
theorem z1_246_110 (p1 : Int32) (p2 : Int32) (w : Wd) : F_246_110 p1 p2 w = 0 ∨ F_246_110 p1 p2 w = 1 := by
  unfold F_246_110
  (repeat' split) <;> first | exact Or.inl rfl | exact Or.inr rfl
theorem m_246_110 {X : Scr} {d : Nat} (w : Wd) (p1 : Int32) (p2 : Int32) (i1 : ¬ (F_161 (w 110 56) p1 w) = 0 → ¬ (F_161 (w 110 56) p2 w) = 0 → (inB p1 20 = true)) (i2 : ¬ (F_161 (w 110 56) p1 w) = 0 → ¬ (F_161 (w 110 56) p2 w) = 0 → (inB p2 20 = true)) (i3 : ¬ (F_161 (w 110 56) p1 w) = 0 → ¬ (F_161 (w 110 56) p2 w) = 0 → (w 140 p1.toNatClampNeg) = (w 140 p2.toNatClampNeg) → (inB p1 20 = true)) (i4 : ¬ (F_161 (w 110 56) p1 w) = 0 → ¬ (F_161 (w 110 56) p2 w) = 0 → (w 140 p1.toNatClampNeg) = (w 140 p2.toNatClampNeg) → (inB p2 20 = true)) (i5 : ¬ (F_161 (w 110 56) p1 w) = 0 → ¬ (F_161 (w 110 56) p2 w) = 0 → (w 140 p1.toNatClampNeg) = (w 140 p2.toNatClampNeg) → (w 143 p1.toNatClampNeg) = (w 143 p2.toNatClampNeg) → (inB p1 20 = true)) (i6 : ¬ (F_161 (w 110 56) p1 w) = 0 → ¬ (F_161 (w 110 56) p2 w) = 0 → (w 140 p1.toNatClampNeg) = (w 140 p2.toNatClampNeg) → (w 143 p1.toNatClampNeg) = (w 143 p2.toNatClampNeg) → (inB p2 20 = true)) (i7 : ¬ (F_161 (w 110 56) p1 w) = 0 → ¬ (F_161 (w 110 56) p2 w) = 0 → (w 140 p1.toNatClampNeg) = (w 140 p2.toNatClampNeg) → (w 143 p1.toNatClampNeg) = (w 143 p2.toNatClampNeg) → (w 141 p1.toNatClampNeg) = (w 141 p2.toNatClampNeg) → (inB p1 20 = true)) (i8 : ¬ (F_161 (w 110 56) p1 w) = 0 → ¬ (F_161 (w 110 56) p2 w) = 0 → (w 140 p1.toNatClampNeg) = (w 140 p2.toNatClampNeg) → (w 143 p1.toNatClampNeg) = (w 143 p2.toNatClampNeg) → (w 141 p1.toNatClampNeg) = (w 141 p2.toNatClampNeg) → (inB p2 20 = true)) : CV X (d + 2) 246 [.ref 110, .int p1, .int p2] SH w (fun r s1 w1 => r = some (.int (F_246_110 p1 p2 w)) ∧ s1 = SH ∧ w1 = w) := by
  refine CV.of rfl ?_
  refine EV.steps cl_246 3 (q2 := (5, [some (.ref 110), some (.int p1), some (.int p2), none], [.int p1, .int (w 110 56)], SH, w)) rfl ?_
  refine EV.callF (kc := 161) (av := [.int (w 110 56), .int p1]) (r := []) (rv := some (.int (F_161 (w 110 56) p1 w))) (w2 := w) cl_246 rfl rfl rfl (m_161 w (w 110 56) p1) ?_
  refine EV.z_eq cl_246 rfl (fun h1 => ?_) (fun h1 => ?_)
  · skip
    refine EV.steps cl_246 1 (q2 := (68, [some (.ref 110), some (.int p1), some (.int p2), none], [.int (kI 0)], SH, w)) rfl ?_
    refine EV.ret cl_246 rfl rfl rfl ?_
    exact ⟨(by simp only [F_246_110, if_pos h1]), rfl, rfl⟩
  · skip
    refine EV.steps cl_246 3 (q2 := (16, [some (.ref 110), some (.int p1), some (.int p2), none], [.int p2, .int (w 110 56)], SH, w)) rfl ?_
    refine EV.callF (kc := 161) (av := [.int (w 110 56), .int p2]) (r := []) (rv := some (.int (F_161 (w 110 56) p2 w))) (w2 := w) cl_246 rfl rfl rfl (m_161 w (w 110 56) p2) ?_
    refine EV.z_eq cl_246 rfl (fun h2 => ?_) (fun h2 => ?_)
    · skip
      refine EV.steps cl_246 1 (q2 := (68, [some (.ref 110), some (.int p1), some (.int p2), none], [.int (kI 0)], SH, w)) rfl ?_
      refine EV.ret cl_246 rfl rfl rfl ?_
      exact ⟨(by simp only [F_246_110, if_neg h1, if_pos h2]), rfl, rfl⟩
    · skip
      refine EV.steps cl_246 3 (q2 := (27, [some (.ref 110), some (.int p1), some (.int p2), none], [.int p1, .ref 140], SH, w)) rfl ?_
      refine EV.iaload cl_246 rfl rfl (by decide) (i1 h1 h2) ?_
      refine EV.steps cl_246 3 (q2 := (33, [some (.ref 110), some (.int p1), some (.int p2), none], [.int p2, .ref 140, .int (w 140 p1.toNatClampNeg)], SH, w)) rfl ?_
      refine EV.iaload cl_246 rfl rfl (by decide) (i2 h1 h2) ?_
      refine EV.i_ne cl_246 rfl (fun h3 => ?_) (fun h3 => ?_)
      · skip
        refine EV.steps cl_246 1 (q2 := (68, [some (.ref 110), some (.int p1), some (.int p2), none], [.int (kI 0)], SH, w)) rfl ?_
        refine EV.ret cl_246 rfl rfl rfl ?_
        exact ⟨(by simp only [F_246_110, if_neg h1, if_neg h2, if_neg h3]), rfl, rfl⟩
      · skip
        refine EV.steps cl_246 3 (q2 := (42, [some (.ref 110), some (.int p1), some (.int p2), none], [.int p1, .ref 143], SH, w)) rfl ?_
        refine EV.iaload cl_246 rfl rfl (by decide) (i3 h1 h2 h3) ?_
        refine EV.steps cl_246 3 (q2 := (48, [some (.ref 110), some (.int p1), some (.int p2), none], [.int p2, .ref 143, .int (w 143 p1.toNatClampNeg)], SH, w)) rfl ?_
        refine EV.iaload cl_246 rfl rfl (by decide) (i4 h1 h2 h3) ?_
        refine EV.i_ne cl_246 rfl (fun h4 => ?_) (fun h4 => ?_)
        · skip
          refine EV.steps cl_246 1 (q2 := (68, [some (.ref 110), some (.int p1), some (.int p2), none], [.int (kI 0)], SH, w)) rfl ?_
          refine EV.ret cl_246 rfl rfl rfl ?_
          exact ⟨(by simp only [F_246_110, if_neg h1, if_neg h2, if_pos h3, if_neg h4]), rfl, rfl⟩
        · skip
          refine EV.steps cl_246 3 (q2 := (57, [some (.ref 110), some (.int p1), some (.int p2), none], [.int p1, .ref 141], SH, w)) rfl ?_
          refine EV.iaload cl_246 rfl rfl (by decide) (i5 h1 h2 h3 h4) ?_
          refine EV.steps cl_246 3 (q2 := (63, [some (.ref 110), some (.int p1), some (.int p2), none], [.int p2, .ref 141, .int (w 141 p1.toNatClampNeg)], SH, w)) rfl ?_
          refine EV.iaload cl_246 rfl rfl (by decide) (i6 h1 h2 h3 h4) ?_
          refine EV.i_eq cl_246 rfl (fun h5 => ?_) (fun h5 => ?_)
          · skip
            refine EV.steps cl_246 3 (q2 := (74, [some (.ref 110), some (.int p1), some (.int p2), none], [.int p1, .ref 142], SH, w)) rfl ?_
            refine EV.iaload cl_246 rfl rfl (by decide) (i7 h1 h2 h3 h4 h5) ?_
            refine EV.steps cl_246 3 (q2 := (80, [some (.ref 110), some (.int p1), some (.int p2), none], [.int p2, .ref 142, .int (w 142 p1.toNatClampNeg)], SH, w)) rfl ?_
            refine EV.iaload cl_246 rfl rfl (by decide) (i8 h1 h2 h3 h4 h5) ?_
            refine EV.steps cl_246 1 (q2 := (82, [some (.ref 110), some (.int p1), some (.int p2), none], [.int ((w 142 p1.toNatClampNeg) - (w 142 p2.toNatClampNeg))], SH, w)) rfl ?_
            refine EV.callF (kc := 160) (av := [.int ((w 142 p1.toNatClampNeg) - (w 142 p2.toNatClampNeg))]) (r := []) (rv := some (.int (F_160 ((w 142 p1.toNatClampNeg) - (w 142 p2.toNatClampNeg)) w))) (w2 := w) cl_246 rfl rfl rfl (m_160 w ((w 142 p1.toNatClampNeg) - (w 142 p2.toNatClampNeg))) ?_
            refine EV.steps cl_246 3 (q2 := (88, [some (.ref 110), some (.int p1), some (.int p2), some (.int (F_160 ((w 142 p1.toNatClampNeg) - (w 142 p2.toNatClampNeg)) w))], [.int (kI 1), .int (F_160 ((w 142 p1.toNatClampNeg) - (w 142 p2.toNatClampNeg)) w)], SH, w)) rfl ?_
            refine EV.i_eq cl_246 rfl (fun h6 => ?_) (fun h6 => ?_)
            · skip
              refine EV.steps cl_246 2 (q2 := (102, [some (.ref 110), some (.int p1), some (.int p2), some (.int (F_160 ((w 142 p1.toNatClampNeg) - (w 142 p2.toNatClampNeg)) w))], [.int (kI 1)], SH, w)) rfl ?_
              refine EV.ret cl_246 rfl rfl rfl ?_
              exact ⟨(by simp only [F_246_110, if_neg h1, if_neg h2, if_pos h3, if_pos h4, if_pos h5, if_pos h6]), rfl, rfl⟩
            · skip
              refine EV.steps cl_246 2 (q2 := (94, [some (.ref 110), some (.int p1), some (.int p2), some (.int (F_160 ((w 142 p1.toNatClampNeg) - (w 142 p2.toNatClampNeg)) w))], [.int (kI 23), .int (F_160 ((w 142 p1.toNatClampNeg) - (w 142 p2.toNatClampNeg)) w)], SH, w)) rfl ?_
              refine EV.i_ne cl_246 rfl (fun h7 => ?_) (fun h7 => ?_)
              · skip
                refine EV.steps cl_246 1 (q2 := (102, [some (.ref 110), some (.int p1), some (.int p2), some (.int (F_160 ((w 142 p1.toNatClampNeg) - (w 142 p2.toNatClampNeg)) w))], [.int (kI 0)], SH, w)) rfl ?_
                refine EV.ret cl_246 rfl rfl rfl ?_
                exact ⟨(by simp only [F_246_110, if_neg h1, if_neg h2, if_pos h3, if_pos h4, if_pos h5, if_neg h6, if_neg h7]), rfl, rfl⟩
              · skip
                refine EV.steps cl_246 2 (q2 := (102, [some (.ref 110), some (.int p1), some (.int p2), some (.int (F_160 ((w 142 p1.toNatClampNeg) - (w 142 p2.toNatClampNeg)) w))], [.int (kI 1)], SH, w)) rfl ?_
                refine EV.ret cl_246 rfl rfl rfl ?_
                exact ⟨(by simp only [F_246_110, if_neg h1, if_neg h2, if_pos h3, if_pos h4, if_pos h5, if_neg h6, if_pos h7]), rfl, rfl⟩
          · skip
            refine EV.steps cl_246 1 (q2 := (68, [some (.ref 110), some (.int p1), some (.int p2), none], [.int (kI 0)], SH, w)) rfl ?_
            refine EV.ret cl_246 rfl rfl rfl ?_
            exact ⟨(by simp only [F_246_110, if_neg h1, if_neg h2, if_pos h3, if_pos h4, if_neg h5]), rfl, rfl⟩
set_option maxRecDepth 20000 in
theorem cl_253 : RCT[253]? = some rc_253 := rfl
def F_253_110 (p1 : Int32) (w : Wd) : Int32 := (if (F_157 p1 (kI 0) (kI 65535) w) = 0 then (kI 0) else (kI 1))
def G_253_110 (p1 : Int32) (w : Wd) : Wd := (if (F_157 p1 (kI 0) (kI 65535) w) = 0 then w else (up2 w 111 (kI 161).toNatClampNeg p1))
theorem z1_253_110 (p1 : Int32) (w : Wd) : F_253_110 p1 w = 0 ∨ F_253_110 p1 w = 1 := by
  unfold F_253_110
  (repeat' split) <;> first | exact Or.inl rfl | exact Or.inr rfl
theorem m_253_110 {X : Scr} {d : Nat} (w : Wd) (p1 : Int32) : CV X (d + 2) 253 [.ref 110, .int p1] SH w (fun r s1 w1 => r = some (.int (F_253_110 p1 w)) ∧ s1 = SH ∧ w1 = G_253_110 p1 w) := by
  refine CV.of rfl ?_
  refine EV.steps cl_253 3 (q2 := (5, [some (.ref 110), some (.int p1)], [.int (kI 65535), .int (kI 0), .int p1], SH, w)) rfl ?_
  refine EV.callF (kc := 157) (av := [.int p1, .int (kI 0), .int (kI 65535)]) (r := []) (rv := some (.int (F_157 p1 (kI 0) (kI 65535) w))) (w2 := w) cl_253 rfl rfl rfl (m_157 w p1 (kI 0) (kI 65535)) ?_
  refine EV.z_ne cl_253 rfl (fun h1 => ?_) (fun h1 => ?_)
  · skip
    refine EV.steps cl_253 4 (q2 := (21, [some (.ref 110), some (.int p1)], [.int p1, .int (kI 161), .ref 111], SH, w)) rfl ?_
    refine EV.iastore cl_253 rfl rfl (by decide) rfl ?_
    refine EV.steps cl_253 1 (q2 := (23, [some (.ref 110), some (.int p1)], [.int (kI 1)], SH, (up2 w 111 (kI 161).toNatClampNeg p1))) rfl ?_
    refine EV.ret cl_253 rfl rfl rfl ?_
    exact ⟨(by simp only [F_253_110, if_neg h1]), rfl, (by simp only [G_253_110, if_neg h1])⟩
  · skip
    refine EV.steps cl_253 1 (q2 := (12, [some (.ref 110), some (.int p1)], [.int (kI 0)], SH, w)) rfl ?_
    refine EV.ret cl_253 rfl rfl rfl ?_
    exact ⟨(by simp only [F_253_110, if_pos h1]), rfl, (by simp only [G_253_110, if_pos h1])⟩
