set_option maxRecDepth 20000 in
theorem cl_2 : RCT[2]? = some rc_2 := rfl
theorem s_2_102_at0 {X : Scr} {d : Nat} {Q : Option Value → Sh → Wd → Prop} (w : Wd) (v1 : Int32) (i1 : (EV X (d + 2) 2 (15, [some (.ref 102), some (.int v1), some (.int (kI 0))], [], SH, (up2 (G_258_107 (kI 0) w) 102 7 (kI 0))) Q)) : EV X (d + 2) 2 (0, [some (.ref 102), some (.int v1), none], [], SH, w) Q := by
  refine EV.steps cl_2 3 (q2 := (5, [some (.ref 102), some (.int v1), none], [.int (kI 0), .ref 107], SH, w)) rfl ?_
  refine EV.callF (kc := 258) (av := [.ref 107, .int (kI 0)]) (r := []) (rv := none) (w2 := (G_258_107 (kI 0) w)) cl_2 rfl rfl rfl (m_258_107 w (kI 0)) ?_
  refine EV.steps cl_2 5 (q2 := (15, [some (.ref 102), some (.int v1), some (.int (kI 0))], [], SH, (up2 (G_258_107 (kI 0) w) 102 7 (kI 0)))) rfl ?_
  exact i1
theorem s_2_102_at15 {X : Scr} {d : Nat} {Q : Option Value → Sh → Wd → Prop} (w : Wd) (v1 : Int32) (v2 : Int32) (i1 : (kI 20) ≤ v2 → (Q (none) SH w)) (i2 : ¬ (kI 20) ≤ v2 → (F_154 (w 102 6) v2 w) = 0 → (EV X (d + 1) 2 (15, [some (.ref 102), some (.int v1), some (.int (v2 + (kI 1)))], [], SH, w) Q)) (i3 : ¬ (kI 20) ≤ v2 → ¬ (F_154 (w 102 6) v2 w) = 0 → (inB v2 20 = true)) (i4 : ¬ (kI 20) ≤ v2 → ¬ (F_154 (w 102 6) v2 w) = 0 → ¬ (w 106 v2.toNatClampNeg) = v1 → (EV X (d + 1) 2 (15, [some (.ref 102), some (.int v1), some (.int (v2 + (kI 1)))], [], SH, w) Q)) (i5 : ¬ (kI 20) ≤ v2 → ¬ (F_154 (w 102 6) v2 w) = 0 → (w 106 v2.toNatClampNeg) = v1 → (inB v2 20 = true)) (i6 : ¬ (kI 20) ≤ v2 → ¬ (F_154 (w 102 6) v2 w) = 0 → (w 106 v2.toNatClampNeg) = v1 → (F_153 (w 104 v2.toNatClampNeg) (kI 0) (kI 99) w) = 0 → (EV X (d + 1) 2 (15, [some (.ref 102), some (.int v1), some (.int (v2 + (kI 1)))], [], SH, w) Q)) (i7 : ¬ (kI 20) ≤ v2 → ¬ (F_154 (w 102 6) v2 w) = 0 → (w 106 v2.toNatClampNeg) = v1 → ¬ (F_153 (w 104 v2.toNatClampNeg) (kI 0) (kI 99) w) = 0 → (inB v2 20 = true)) (i8 : ¬ (kI 20) ≤ v2 → ¬ (F_154 (w 102 6) v2 w) = 0 → (w 106 v2.toNatClampNeg) = v1 → ¬ (F_153 (w 104 v2.toNatClampNeg) (kI 0) (kI 99) w) = 0 → (EV X (d + 1) 2 (15, [some (.ref 102), some (.int v1), some (.int (v2 + (kI 1)))], [], SH, (up2 (up2 w 107 (w 104 v2.toNatClampNeg).toNatClampNeg ((w 107 (w 104 v2.toNatClampNeg).toNatClampNeg) + (kI 1))) 102 7 ((w 102 7) + (kI 1)))) Q)) : EV X (d + 1) 2 (15, [some (.ref 102), some (.int v1), some (.int v2)], [], SH, w) Q := by
  refine EV.steps cl_2 2 (q2 := (18, [some (.ref 102), some (.int v1), some (.int v2)], [.int (kI 20), .int v2], SH, w)) rfl ?_
  refine EV.i_ge cl_2 rfl (fun h1 => ?_) (fun h1 => ?_)
  · skip
    refine EV.ret cl_2 rfl rfl rfl ?_
    exact i1 h1
  · skip
    refine EV.steps cl_2 3 (q2 := (26, [some (.ref 102), some (.int v1), some (.int v2)], [.int v2, .int (w 102 6)], SH, w)) rfl ?_
    refine EV.callF (kc := 154) (av := [.int (w 102 6), .int v2]) (r := []) (rv := some (.int (F_154 (w 102 6) v2 w))) (w2 := w) cl_2 rfl rfl rfl (m_154 w (w 102 6) v2) ?_
    refine EV.z_eq cl_2 rfl (fun h2 => ?_) (fun h2 => ?_)
    · skip
      refine EV.steps cl_2 2 (q2 := (15, [some (.ref 102), some (.int v1), some (.int (v2 + (kI 1)))], [], SH, w)) rfl ?_
      exact i2 h1 h2
    · skip
      refine EV.steps cl_2 3 (q2 := (37, [some (.ref 102), some (.int v1), some (.int v2)], [.int v2, .ref 106], SH, w)) rfl ?_
      refine EV.iaload cl_2 rfl rfl (by decide) (i3 h1 h2) ?_
      refine EV.steps cl_2 1 (q2 := (39, [some (.ref 102), some (.int v1), some (.int v2)], [.int v1, .int (w 106 v2.toNatClampNeg)], SH, w)) rfl ?_
      refine EV.i_ne cl_2 rfl (fun h3 => ?_) (fun h3 => ?_)
      · skip
        refine EV.steps cl_2 2 (q2 := (15, [some (.ref 102), some (.int v1), some (.int (v2 + (kI 1)))], [], SH, w)) rfl ?_
        exact i4 h1 h2 h3
      · skip
        refine EV.steps cl_2 3 (q2 := (47, [some (.ref 102), some (.int v1), some (.int v2)], [.int v2, .ref 104], SH, w)) rfl ?_
        refine EV.iaload cl_2 rfl rfl (by decide) (i5 h1 h2 h3) ?_
        refine EV.steps cl_2 2 (q2 := (51, [some (.ref 102), some (.int v1), some (.int v2)], [.int (kI 99), .int (kI 0), .int (w 104 v2.toNatClampNeg)], SH, w)) rfl ?_
        refine EV.callF (kc := 153) (av := [.int (w 104 v2.toNatClampNeg), .int (kI 0), .int (kI 99)]) (r := []) (rv := some (.int (F_153 (w 104 v2.toNatClampNeg) (kI 0) (kI 99) w))) (w2 := w) cl_2 rfl rfl rfl (m_153 w (w 104 v2.toNatClampNeg) (kI 0) (kI 99)) ?_
        refine EV.z_eq cl_2 rfl (fun h4 => ?_) (fun h4 => ?_)
        · skip
          refine EV.steps cl_2 2 (q2 := (15, [some (.ref 102), some (.int v1), some (.int (v2 + (kI 1)))], [], SH, w)) rfl ?_
          exact i6 h1 h2 h3 h4
        · skip
          refine EV.steps cl_2 5 (q2 := (66, [some (.ref 102), some (.int v1), some (.int v2)], [.int v2, .ref 104, .ref 107], SH, w)) rfl ?_
          refine EV.iaload cl_2 rfl rfl (by decide) (i7 h1 h2 h3 h4) ?_
          refine EV.steps cl_2 1 (q2 := (68, [some (.ref 102), some (.int v1), some (.int v2)], [.int (w 104 v2.toNatClampNeg), .ref 107, .int (w 104 v2.toNatClampNeg), .ref 107], SH, w)) rfl ?_
          refine EV.iaload cl_2 rfl rfl (by decide) (ix_153 h4 (by decide)) ?_
          refine EV.steps cl_2 2 (q2 := (71, [some (.ref 102), some (.int v1), some (.int v2)], [.int ((w 107 (w 104 v2.toNatClampNeg).toNatClampNeg) + (kI 1)), .int (w 104 v2.toNatClampNeg), .ref 107], SH, w)) rfl ?_
          refine EV.iastore cl_2 rfl rfl (by decide) (ix_153 h4 (by decide)) ?_
          refine EV.steps cl_2 8 (q2 := (15, [some (.ref 102), some (.int v1), some (.int (v2 + (kI 1)))], [], SH, (up2 (up2 w 107 (w 104 v2.toNatClampNeg).toNatClampNeg ((w 107 (w 104 v2.toNatClampNeg).toNatClampNeg) + (kI 1))) 102 7 ((w 102 7) + (kI 1))))) rfl ?_
          exact i8 h1 h2 h3 h4
set_option maxRecDepth 20000 in
theorem cl_97 : RCT[97]? = some rc_97 := rfl
theorem s_97_89_at0 {X : Scr} {d : Nat} {Q : Option Value → Sh → Wd → Prop} (w : Wd) (v1 : Int32) (i1 : (EV X (d + 2) 97 (13, [some (.ref 89), some (.int v1), some (.int (F_57_3 w)), some (.int (kI 0)), some (.int (kI 0)), none], [], SH, w) Q)) : EV X (d + 2) 97 (0, [some (.ref 89), some (.int v1), none, none, none, none], [], SH, w) Q := by
  refine EV.steps cl_97 2 (q2 := (4, [some (.ref 89), some (.int v1), none, none, none, none], [.ref 3], SH, w)) rfl ?_
  refine EV.callF (kc := 57) (av := [.ref 3]) (r := []) (rv := some (.int (F_57_3 w))) (w2 := w) cl_97 rfl rfl rfl (m_57_3 w ) ?_
  refine EV.steps cl_97 5 (q2 := (13, [some (.ref 89), some (.int v1), some (.int (F_57_3 w)), some (.int (kI 0)), some (.int (kI 0)), none], [], SH, w)) rfl ?_
  exact i1
theorem s_97_89_at13 {X : Scr} {d : Nat} {Q : Option Value → Sh → Wd → Prop} (w : Wd) (v1 : Int32) (v2 : Int32) (v3 : Int32) (v4 : Int32) (i1 : (kI 6) ≤ v4 → (Q (some (.int v3)) SH w)) (i2 : ¬ (kI 6) ≤ v4 → v2 ≤ 0 → (Q (some (.int v3)) SH w)) (i3 : ¬ (kI 6) ≤ v4 → ¬ v2 ≤ 0 → (inB v4 6 = true)) (i4 : ¬ (kI 6) ≤ v4 → ¬ v2 ≤ 0 → (¬ v2 = 0)) (i5 : ¬ (kI 6) ≤ v4 → ¬ v2 ≤ 0 → (w 90 v4.toNatClampNeg) < (((F_53_3 v4 w) * v1) / v2) → (EV X (d + 2) 97 (13, [some (.ref 89), some (.int v1), some (.int v2), some (.int (v3 ||| ((kI 1) <<< (v4 &&& 31)))), some (.int (v4 + (kI 1))), some (.int ((F_53_3 v4 w) * v1))], [], SH, w) Q)) (i6 : ¬ (kI 6) ≤ v4 → ¬ v2 ≤ 0 → ¬ (w 90 v4.toNatClampNeg) < (((F_53_3 v4 w) * v1) / v2) → (inB v4 6 = true)) (i7 : ¬ (kI 6) ≤ v4 → ¬ v2 ≤ 0 → ¬ (w 90 v4.toNatClampNeg) < (((F_53_3 v4 w) * v1) / v2) → (¬ v2 = 0)) (i8 : ¬ (kI 6) ≤ v4 → ¬ v2 ≤ 0 → ¬ (w 90 v4.toNatClampNeg) < (((F_53_3 v4 w) * v1) / v2) → (w 90 v4.toNatClampNeg) ≤ (((((F_53_3 v4 w) * v1) + v2) - (kI 1)) / v2) → (EV X (d + 2) 97 (13, [some (.ref 89), some (.int v1), some (.int v2), some (.int v3), some (.int (v4 + (kI 1))), some (.int ((F_53_3 v4 w) * v1))], [], SH, w) Q)) (i9 : ¬ (kI 6) ≤ v4 → ¬ v2 ≤ 0 → ¬ (w 90 v4.toNatClampNeg) < (((F_53_3 v4 w) * v1) / v2) → ¬ (w 90 v4.toNatClampNeg) ≤ (((((F_53_3 v4 w) * v1) + v2) - (kI 1)) / v2) → (EV X (d + 2) 97 (13, [some (.ref 89), some (.int v1), some (.int v2), some (.int (v3 ||| ((kI 1) <<< (v4 &&& 31)))), some (.int (v4 + (kI 1))), some (.int ((F_53_3 v4 w) * v1))], [], SH, w) Q)) : EV X (d + 2) 97 (13, [some (.ref 89), some (.int v1), some (.int v2), some (.int v3), some (.int v4), none], [], SH, w) Q := by
  refine EV.steps cl_97 2 (q2 := (17, [some (.ref 89), some (.int v1), some (.int v2), some (.int v3), some (.int v4), none], [.int (kI 6), .int v4], SH, w)) rfl ?_
  refine EV.i_ge cl_97 rfl (fun h1 => ?_) (fun h1 => ?_)
  · skip
    refine EV.steps cl_97 1 (q2 := (83, [some (.ref 89), some (.int v1), some (.int v2), some (.int v3), some (.int v4), none], [.int v3], SH, w)) rfl ?_
    refine EV.ret cl_97 rfl rfl rfl ?_
    exact i1 h1
  · skip
    refine EV.steps cl_97 1 (q2 := (21, [some (.ref 89), some (.int v1), some (.int v2), some (.int v3), some (.int v4), none], [.int v2], SH, w)) rfl ?_
    refine EV.z_le cl_97 rfl (fun h2 => ?_) (fun h2 => ?_)
    · skip
      refine EV.steps cl_97 1 (q2 := (83, [some (.ref 89), some (.int v1), some (.int v2), some (.int v3), some (.int v4), none], [.int v3], SH, w)) rfl ?_
      refine EV.ret cl_97 rfl rfl rfl ?_
      exact i2 h1 h2
    · skip
      refine EV.steps cl_97 3 (q2 := (30, [some (.ref 89), some (.int v1), some (.int v2), some (.int v3), some (.int v4), none], [.int v4, .ref 3], SH, w)) rfl ?_
      refine EV.callF (kc := 53) (av := [.ref 3, .int v4]) (r := []) (rv := some (.int (F_53_3 v4 w))) (w2 := w) cl_97 rfl rfl rfl (m_53_3 w v4) ?_
      refine EV.steps cl_97 6 (q2 := (43, [some (.ref 89), some (.int v1), some (.int v2), some (.int v3), some (.int v4), some (.int ((F_53_3 v4 w) * v1))], [.int v4, .ref 90], SH, w)) rfl ?_
      refine EV.iaload cl_97 rfl rfl (by decide) (i3 h1 h2) ?_
      refine EV.steps cl_97 2 (q2 := (47, [some (.ref 89), some (.int v1), some (.int v2), some (.int v3), some (.int v4), some (.int ((F_53_3 v4 w) * v1))], [.int v2, .int ((F_53_3 v4 w) * v1), .int (w 90 v4.toNatClampNeg)], SH, w)) rfl ?_
      refine EV.idiv cl_97 rfl (i4 h1 h2) ?_
      refine EV.i_lt cl_97 rfl (fun h3 => ?_) (fun h3 => ?_)
      · skip
        refine EV.steps cl_97 8 (q2 := (13, [some (.ref 89), some (.int v1), some (.int v2), some (.int (v3 ||| ((kI 1) <<< (v4 &&& 31)))), some (.int (v4 + (kI 1))), some (.int ((F_53_3 v4 w) * v1))], [], SH, w)) rfl ?_
        exact i5 h1 h2 h3
      · skip
        refine EV.steps cl_97 3 (q2 := (57, [some (.ref 89), some (.int v1), some (.int v2), some (.int v3), some (.int v4), some (.int ((F_53_3 v4 w) * v1))], [.int v4, .ref 90], SH, w)) rfl ?_
        refine EV.iaload cl_97 rfl rfl (by decide) (i6 h1 h2 h3) ?_
        refine EV.steps cl_97 6 (q2 := (65, [some (.ref 89), some (.int v1), some (.int v2), some (.int v3), some (.int v4), some (.int ((F_53_3 v4 w) * v1))], [.int v2, .int ((((F_53_3 v4 w) * v1) + v2) - (kI 1)), .int (w 90 v4.toNatClampNeg)], SH, w)) rfl ?_
        refine EV.idiv cl_97 rfl (i7 h1 h2 h3) ?_
        refine EV.i_le cl_97 rfl (fun h4 => ?_) (fun h4 => ?_)
        · skip
          refine EV.steps cl_97 2 (q2 := (13, [some (.ref 89), some (.int v1), some (.int v2), some (.int v3), some (.int (v4 + (kI 1))), some (.int ((F_53_3 v4 w) * v1))], [], SH, w)) rfl ?_
          exact i8 h1 h2 h3 h4
        · skip
          refine EV.steps cl_97 8 (q2 := (13, [some (.ref 89), some (.int v1), some (.int v2), some (.int (v3 ||| ((kI 1) <<< (v4 &&& 31)))), some (.int (v4 + (kI 1))), some (.int ((F_53_3 v4 w) * v1))], [], SH, w)) rfl ?_
          exact i9 h1 h2 h3 h4
set_option maxRecDepth 20000 in
theorem cl_150 : RCT[150]? = some rc_150 := rfl
def F_150_0 (p1 : Int32) (w : Wd) : Int32 := (if (F_153 p1 (kI 20) (kI 25) w) = 0 then (if (F_153 p1 (kI 30) (kI 35) w) = 0 then (if p1 = (kI 0) then (w 7 5) else (if p1 = (kI 1) then (w 7 4) else (if p1 = (kI 2) then (w 3 3) else (if p1 = (kI 3) then (w 3 4) else (if p1 = (kI 4) then (w 7 7) else (if p1 = (kI 5) then (w 7 6) else (if p1 = (kI 6) then (w 3 5) else (if p1 = (kI 7) then (w 22 7) else (if p1 = (kI 8) then (w 1 1) else (if p1 = (kI 9) then (w 7 8) else (if p1 = (kI 10) then (w 102 6) else (if p1 = (kI 11) then (w 0 16) else (if p1 = (kI 12) then (F_57_3 w) else (kI (-1))))))))))))))) else (if (F_51_3 (p1 - (kI 30)) w) = 0 then (kI (-1)) else (F_53_3 (p1 - (kI 30)) w))) else (if (F_51_3 (p1 - (kI 20)) w) = 0 then (kI (-1)) else (F_55_3 (p1 - (kI 20)) w)))
theorem m_150_0 {X : Scr} {d : Nat} (w : Wd) (p1 : Int32) : CV X (d + 3) 150 [.ref 0, .int p1] SH w (fun r s1 w1 => r = some (.int (F_150_0 p1 w)) ∧ s1 = SH ∧ w1 = w) := by
  refine CV.of rfl ?_
  refine EV.steps cl_150 3 (q2 := (5, [some (.ref 0), some (.int p1)], [.int (kI 25), .int (kI 20), .int p1], SH, w)) rfl ?_
  refine EV.callF (kc := 153) (av := [.int p1, .int (kI 20), .int (kI 25)]) (r := []) (rv := some (.int (F_153 p1 (kI 20) (kI 25) w))) (w2 := w) cl_150 rfl rfl rfl (m_153 w p1 (kI 20) (kI 25)) ?_
  refine EV.z_eq cl_150 rfl (fun h1 => ?_) (fun h1 => ?_)
  · skip
    refine EV.steps cl_150 3 (q2 := (46, [some (.ref 0), some (.int p1)], [.int (kI 35), .int (kI 30), .int p1], SH, w)) rfl ?_
    refine EV.callF (kc := 153) (av := [.int p1, .int (kI 30), .int (kI 35)]) (r := []) (rv := some (.int (F_153 p1 (kI 30) (kI 35) w))) (w2 := w) cl_150 rfl rfl rfl (m_153 w p1 (kI 30) (kI 35)) ?_
    refine EV.z_eq cl_150 rfl (fun h2 => ?_) (fun h2 => ?_)
    · skip
      refine EV.steps cl_150 1 (q2 := (83, [some (.ref 0), some (.int p1)], [.int p1], SH, w)) rfl ?_
      by_cases h3 : p1 = (kI 0)
      · refine EV.swEq (e := (kI 0)) cl_150 rfl rfl h3 rfl ?_
        refine EV.steps cl_150 3 (q2 := (155, [some (.ref 0), some (.int p1)], [.int (w 7 5)], SH, w)) rfl ?_
        refine EV.ret cl_150 rfl rfl rfl ?_
        exact ⟨(by simp only [F_150_0, if_pos h1, if_pos h2, if_pos h3]), rfl, rfl⟩
      by_cases h4 : p1 = (kI 1)
      · refine EV.swEq (e := (kI 1)) cl_150 rfl rfl h4 rfl ?_
        refine EV.steps cl_150 3 (q2 := (163, [some (.ref 0), some (.int p1)], [.int (w 7 4)], SH, w)) rfl ?_
        refine EV.ret cl_150 rfl rfl rfl ?_
        exact ⟨(by simp only [F_150_0, if_pos h1, if_pos h2, if_neg h3, if_pos h4]), rfl, rfl⟩
      by_cases h5 : p1 = (kI 2)
      · refine EV.swEq (e := (kI 2)) cl_150 rfl rfl h5 rfl ?_
        refine EV.steps cl_150 3 (q2 := (171, [some (.ref 0), some (.int p1)], [.int (w 3 3)], SH, w)) rfl ?_
        refine EV.ret cl_150 rfl rfl rfl ?_
        exact ⟨(by simp only [F_150_0, if_pos h1, if_pos h2, if_neg h3, if_neg h4, if_pos h5]), rfl, rfl⟩
      by_cases h6 : p1 = (kI 3)
      · refine EV.swEq (e := (kI 3)) cl_150 rfl rfl h6 rfl ?_
        refine EV.steps cl_150 3 (q2 := (179, [some (.ref 0), some (.int p1)], [.int (w 3 4)], SH, w)) rfl ?_
        refine EV.ret cl_150 rfl rfl rfl ?_
        exact ⟨(by simp only [F_150_0, if_pos h1, if_pos h2, if_neg h3, if_neg h4, if_neg h5, if_pos h6]), rfl, rfl⟩
      by_cases h7 : p1 = (kI 4)
      · refine EV.swEq (e := (kI 4)) cl_150 rfl rfl h7 rfl ?_
        refine EV.steps cl_150 3 (q2 := (187, [some (.ref 0), some (.int p1)], [.int (w 7 7)], SH, w)) rfl ?_
        refine EV.ret cl_150 rfl rfl rfl ?_
        exact ⟨(by simp only [F_150_0, if_pos h1, if_pos h2, if_neg h3, if_neg h4, if_neg h5, if_neg h6, if_pos h7]), rfl, rfl⟩
      by_cases h8 : p1 = (kI 5)
      · refine EV.swEq (e := (kI 5)) cl_150 rfl rfl h8 rfl ?_
        refine EV.steps cl_150 3 (q2 := (195, [some (.ref 0), some (.int p1)], [.int (w 7 6)], SH, w)) rfl ?_
        refine EV.ret cl_150 rfl rfl rfl ?_
        exact ⟨(by simp only [F_150_0, if_pos h1, if_pos h2, if_neg h3, if_neg h4, if_neg h5, if_neg h6, if_neg h7, if_pos h8]), rfl, rfl⟩
      by_cases h9 : p1 = (kI 6)
      · refine EV.swEq (e := (kI 6)) cl_150 rfl rfl h9 rfl ?_
        refine EV.steps cl_150 3 (q2 := (203, [some (.ref 0), some (.int p1)], [.int (w 3 5)], SH, w)) rfl ?_
        refine EV.ret cl_150 rfl rfl rfl ?_
        exact ⟨(by simp only [F_150_0, if_pos h1, if_pos h2, if_neg h3, if_neg h4, if_neg h5, if_neg h6, if_neg h7, if_neg h8, if_pos h9]), rfl, rfl⟩
      by_cases h10 : p1 = (kI 7)
      · refine EV.swEq (e := (kI 7)) cl_150 rfl rfl h10 rfl ?_
        refine EV.steps cl_150 3 (q2 := (211, [some (.ref 0), some (.int p1)], [.int (w 22 7)], SH, w)) rfl ?_
        refine EV.ret cl_150 rfl rfl rfl ?_
        exact ⟨(by simp only [F_150_0, if_pos h1, if_pos h2, if_neg h3, if_neg h4, if_neg h5, if_neg h6, if_neg h7, if_neg h8, if_neg h9, if_pos h10]), rfl, rfl⟩
      by_cases h11 : p1 = (kI 8)
      · refine EV.swEq (e := (kI 8)) cl_150 rfl rfl h11 rfl ?_
        refine EV.steps cl_150 3 (q2 := (219, [some (.ref 0), some (.int p1)], [.int (w 1 1)], SH, w)) rfl ?_
        refine EV.ret cl_150 rfl rfl rfl ?_
        exact ⟨(by simp only [F_150_0, if_pos h1, if_pos h2, if_neg h3, if_neg h4, if_neg h5, if_neg h6, if_neg h7, if_neg h8, if_neg h9, if_neg h10, if_pos h11]), rfl, rfl⟩
      by_cases h12 : p1 = (kI 9)
      · refine EV.swEq (e := (kI 9)) cl_150 rfl rfl h12 rfl ?_
        refine EV.steps cl_150 3 (q2 := (227, [some (.ref 0), some (.int p1)], [.int (w 7 8)], SH, w)) rfl ?_
        refine EV.ret cl_150 rfl rfl rfl ?_
        exact ⟨(by simp only [F_150_0, if_pos h1, if_pos h2, if_neg h3, if_neg h4, if_neg h5, if_neg h6, if_neg h7, if_neg h8, if_neg h9, if_neg h10, if_neg h11, if_pos h12]), rfl, rfl⟩
      by_cases h13 : p1 = (kI 10)
      · refine EV.swEq (e := (kI 10)) cl_150 rfl rfl h13 rfl ?_
        refine EV.steps cl_150 3 (q2 := (235, [some (.ref 0), some (.int p1)], [.int (w 102 6)], SH, w)) rfl ?_
        refine EV.ret cl_150 rfl rfl rfl ?_
        exact ⟨(by simp only [F_150_0, if_pos h1, if_pos h2, if_neg h3, if_neg h4, if_neg h5, if_neg h6, if_neg h7, if_neg h8, if_neg h9, if_neg h10, if_neg h11, if_neg h12, if_pos h13]), rfl, rfl⟩
      by_cases h14 : p1 = (kI 11)
      · refine EV.swEq (e := (kI 11)) cl_150 rfl rfl h14 rfl ?_
        refine EV.steps cl_150 2 (q2 := (240, [some (.ref 0), some (.int p1)], [.int (w 0 16)], SH, w)) rfl ?_
        refine EV.ret cl_150 rfl rfl rfl ?_
        exact ⟨(by simp only [F_150_0, if_pos h1, if_pos h2, if_neg h3, if_neg h4, if_neg h5, if_neg h6, if_neg h7, if_neg h8, if_neg h9, if_neg h10, if_neg h11, if_neg h12, if_neg h13, if_pos h14]), rfl, rfl⟩
      by_cases h15 : p1 = (kI 12)
      · refine EV.swEq (e := (kI 12)) cl_150 rfl rfl h15 rfl ?_
        refine EV.steps cl_150 2 (q2 := (245, [some (.ref 0), some (.int p1)], [.ref 3], SH, w)) rfl ?_
        refine EV.callF (kc := 57) (av := [.ref 3]) (r := []) (rv := some (.int (F_57_3 w))) (w2 := w) cl_150 rfl rfl rfl (m_57_3 w ) ?_
        refine EV.ret cl_150 rfl rfl rfl ?_
        exact ⟨(by simp only [F_150_0, if_pos h1, if_pos h2, if_neg h3, if_neg h4, if_neg h5, if_neg h6, if_neg h7, if_neg h8, if_neg h9, if_neg h10, if_neg h11, if_neg h12, if_neg h13, if_neg h14, if_pos h15]), rfl, rfl⟩
      refine EV.swT cl_150 rfl (by have a0 := sw_ne h3 (by decide); have a1 := sw_ne h4 (by decide); have a2 := sw_ne h5 (by decide); have a3 := sw_ne h6 (by decide); have a4 := sw_ne h7 (by decide); have a5 := sw_ne h8 (by decide); have a6 := sw_ne h9 (by decide); have a7 := sw_ne h10 (by decide); have a8 := sw_ne h11 (by decide); have a9 := sw_ne h12 (by decide); have a10 := sw_ne h13 (by decide); have a11 := sw_ne h14 (by decide); have a12 := sw_ne h15 (by decide); clear h3 h4 h5 h6 h7 h8 h9 h10 h11 h12 h13 h14 h15; omega) ?_
      refine EV.steps cl_150 1 (q2 := (250, [some (.ref 0), some (.int p1)], [.int (kI (-1))], SH, w)) rfl ?_
      refine EV.ret cl_150 rfl rfl rfl ?_
      exact ⟨(by simp only [F_150_0, if_pos h1, if_pos h2, if_neg h3, if_neg h4, if_neg h5, if_neg h6, if_neg h7, if_neg h8, if_neg h9, if_neg h10, if_neg h11, if_neg h12, if_neg h13, if_neg h14, if_neg h15]), rfl, rfl⟩
    · skip
      refine EV.steps cl_150 5 (q2 := (60, [some (.ref 0), some (.int p1)], [.int (p1 - (kI 30)), .ref 3], SH, w)) rfl ?_
      refine EV.callF (kc := 51) (av := [.ref 3, .int (p1 - (kI 30))]) (r := []) (rv := some (.int (F_51_3 (p1 - (kI 30)) w))) (w2 := w) cl_150 rfl rfl rfl (m_51_3 w (p1 - (kI 30))) ?_
      refine EV.z_eq cl_150 rfl (fun h16 => ?_) (fun h16 => ?_)
      · skip
        refine EV.steps cl_150 1 (q2 := (81, [some (.ref 0), some (.int p1)], [.int (kI (-1))], SH, w)) rfl ?_
        refine EV.ret cl_150 rfl rfl rfl ?_
        exact ⟨(by simp only [F_150_0, if_pos h1, if_neg h2, if_pos h16]), rfl, rfl⟩
      · skip
        refine EV.steps cl_150 5 (q2 := (74, [some (.ref 0), some (.int p1)], [.int (p1 - (kI 30)), .ref 3], SH, w)) rfl ?_
        refine EV.callF (kc := 53) (av := [.ref 3, .int (p1 - (kI 30))]) (r := []) (rv := some (.int (F_53_3 (p1 - (kI 30)) w))) (w2 := w) cl_150 rfl rfl rfl (m_53_3 w (p1 - (kI 30))) ?_
        refine EV.steps cl_150 1 (q2 := (81, [some (.ref 0), some (.int p1)], [.int (F_53_3 (p1 - (kI 30)) w)], SH, w)) rfl ?_
        refine EV.ret cl_150 rfl rfl rfl ?_
        exact ⟨(by simp only [F_150_0, if_pos h1, if_neg h2, if_neg h16]), rfl, rfl⟩
  · skip
    refine EV.steps cl_150 5 (q2 := (19, [some (.ref 0), some (.int p1)], [.int (p1 - (kI 20)), .ref 3], SH, w)) rfl ?_
    refine EV.callF (kc := 51) (av := [.ref 3, .int (p1 - (kI 20))]) (r := []) (rv := some (.int (F_51_3 (p1 - (kI 20)) w))) (w2 := w) cl_150 rfl rfl rfl (m_51_3 w (p1 - (kI 20))) ?_
    refine EV.z_eq cl_150 rfl (fun h17 => ?_) (fun h17 => ?_)
    · skip
      refine EV.steps cl_150 1 (q2 := (40, [some (.ref 0), some (.int p1)], [.int (kI (-1))], SH, w)) rfl ?_
      refine EV.ret cl_150 rfl rfl rfl ?_
      exact ⟨(by simp only [F_150_0, if_neg h1, if_pos h17]), rfl, rfl⟩
    · skip
      refine EV.steps cl_150 5 (q2 := (33, [some (.ref 0), some (.int p1)], [.int (p1 - (kI 20)), .ref 3], SH, w)) rfl ?_
      refine EV.callF (kc := 55) (av := [.ref 3, .int (p1 - (kI 20))]) (r := []) (rv := some (.int (F_55_3 (p1 - (kI 20)) w))) (w2 := w) cl_150 rfl rfl rfl (m_55_3 w (p1 - (kI 20))) ?_
      refine EV.steps cl_150 1 (q2 := (40, [some (.ref 0), some (.int p1)], [.int (F_55_3 (p1 - (kI 20)) w)], SH, w)) rfl ?_
      refine EV.ret cl_150 rfl rfl rfl ?_
      exact ⟨(by simp only [F_150_0, if_neg h1, if_neg h17]), rfl, rfl⟩
