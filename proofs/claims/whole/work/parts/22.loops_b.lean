set_option maxRecDepth 20000 in
theorem cl_142 : RCT[142]? = some rc_142 := rfl
theorem s_142_0_at0 {X : Scr} {d : Nat} {Q : Option Value → Sh → Wd → Prop} (w : Wd) (v1 : Int32) (i1 : ¬ (F_52_3 v1 w) = 0 → (EV X (d + 2) 142 (17, [some (.ref 0), some (.int v1), some (.int (kI 0)), some (.int (kI 0))], [], SH, w) Q)) (i2 : (F_52_3 v1 w) = 0 → (Q (some (.int (kI (-1)))) SH w)) : EV X (d + 2) 142 (0, [some (.ref 0), some (.int v1), none, none], [], SH, w) Q := by
  refine EV.steps cl_142 3 (q2 := (5, [some (.ref 0), some (.int v1), none, none], [.int v1, .ref 3], SH, w)) rfl ?_
  refine EV.callF (kc := 52) (av := [.ref 3, .int v1]) (r := []) (rv := some (.int (F_52_3 v1 w))) (w2 := w) cl_142 rfl rfl rfl (m_52_3 w v1) ?_
  refine EV.z_ne cl_142 rfl (fun h1 => ?_) (fun h1 => ?_)
  · skip
    refine EV.steps cl_142 4 (q2 := (17, [some (.ref 0), some (.int v1), some (.int (kI 0)), some (.int (kI 0))], [], SH, w)) rfl ?_
    exact i1 h1
  · skip
    refine EV.steps cl_142 1 (q2 := (12, [some (.ref 0), some (.int v1), none, none], [.int (kI (-1))], SH, w)) rfl ?_
    refine EV.ret cl_142 rfl rfl rfl ?_
    exact i2 h1
theorem s_142_0_at17 {X : Scr} {d : Nat} {Q : Option Value → Sh → Wd → Prop} (w : Wd) (v1 : Int32) (v2 : Int32) (v3 : Int32) (i1 : (kI 8) ≤ v3 → (Q (some (.int v2)) SH w)) (i2 : ¬ (kI 8) ≤ v3 → ¬ v2 = v3 → (Q (some (.int v2)) SH w)) (i3 : ¬ (kI 8) ≤ v3 → v2 = v3 → ¬ (F_13_7 v1 v3 w) = (F_54_3 v1 w) → (EV X (d + 2) 142 (17, [some (.ref 0), some (.int v1), some (.int v2), some (.int (v3 + (kI 1)))], [], SH, w) Q)) (i4 : ¬ (kI 8) ≤ v3 → v2 = v3 → (F_13_7 v1 v3 w) = (F_54_3 v1 w) → (EV X (d + 2) 142 (17, [some (.ref 0), some (.int v1), some (.int (v2 + (kI 1))), some (.int (v3 + (kI 1)))], [], SH, w) Q)) : EV X (d + 2) 142 (17, [some (.ref 0), some (.int v1), some (.int v2), some (.int v3)], [], SH, w) Q := by
  refine EV.steps cl_142 2 (q2 := (20, [some (.ref 0), some (.int v1), some (.int v2), some (.int v3)], [.int (kI 8), .int v3], SH, w)) rfl ?_
  refine EV.i_ge cl_142 rfl (fun h1 => ?_) (fun h1 => ?_)
  · skip
    refine EV.steps cl_142 1 (q2 := (58, [some (.ref 0), some (.int v1), some (.int v2), some (.int v3)], [.int v2], SH, w)) rfl ?_
    refine EV.ret cl_142 rfl rfl rfl ?_
    exact i1 h1
  · skip
    refine EV.steps cl_142 2 (q2 := (25, [some (.ref 0), some (.int v1), some (.int v2), some (.int v3)], [.int v3, .int v2], SH, w)) rfl ?_
    refine EV.i_ne cl_142 rfl (fun h2 => ?_) (fun h2 => ?_)
    · skip
      refine EV.steps cl_142 1 (q2 := (58, [some (.ref 0), some (.int v1), some (.int v2), some (.int v3)], [.int v2], SH, w)) rfl ?_
      refine EV.ret cl_142 rfl rfl rfl ?_
      exact i2 h1 h2
    · skip
      refine EV.steps cl_142 4 (q2 := (34, [some (.ref 0), some (.int v1), some (.int v2), some (.int v3)], [.int v3, .int v1, .ref 7], SH, w)) rfl ?_
      refine EV.callF (kc := 13) (av := [.ref 7, .int v1, .int v3]) (r := []) (rv := some (.int (F_13_7 v1 v3 w))) (w2 := w) cl_142 rfl rfl rfl (m_13_7 w v1 v3) ?_
      refine EV.steps cl_142 3 (q2 := (42, [some (.ref 0), some (.int v1), some (.int v2), some (.int v3)], [.int v1, .ref 3, .int (F_13_7 v1 v3 w)], SH, w)) rfl ?_
      refine EV.callF (kc := 54) (av := [.ref 3, .int v1]) (r := [.int (F_13_7 v1 v3 w)]) (rv := some (.int (F_54_3 v1 w))) (w2 := w) cl_142 rfl rfl rfl (m_54_3 w v1) ?_
      refine EV.i_ne cl_142 rfl (fun h3 => ?_) (fun h3 => ?_)
      · skip
        refine EV.steps cl_142 2 (q2 := (17, [some (.ref 0), some (.int v1), some (.int v2), some (.int (v3 + (kI 1)))], [], SH, w)) rfl ?_
        exact i3 h1 h2 h3
      · skip
        refine EV.steps cl_142 3 (q2 := (17, [some (.ref 0), some (.int v1), some (.int (v2 + (kI 1))), some (.int (v3 + (kI 1)))], [], SH, w)) rfl ?_
        exact i4 h1 h2 h3
set_option maxRecDepth 20000 in
theorem cl_149 : RCT[149]? = some rc_149 := rfl
theorem s_149_0_at0 {X : Scr} {d : Nat} {Q : Option Value → Sh → Wd → Prop} (w : Wd) (v1 : Int32) (v2 : Int32) (i1 : (F_52_3 v1 w) = 0 → (Q (some (.int (kI (-2)))) SH w)) (i2 : ¬ (F_52_3 v1 w) = 0 → ¬ (F_105_1 v2 (kI 0) (kI 6) w) = 0 → (EV X (d + 2) 149 (33, [some (.ref 0), some (.int v1), some (.int v2), some (.int (kI (-1))), some (.int (kI 0))], [], SH, w) Q)) (i3 : ¬ (F_52_3 v1 w) = 0 → (F_105_1 v2 (kI 0) (kI 6) w) = 0 → (Q (some (.int (kI (-2)))) SH w)) : EV X (d + 2) 149 (0, [some (.ref 0), some (.int v1), some (.int v2), none, none], [], SH, w) Q := by
  refine EV.steps cl_149 3 (q2 := (5, [some (.ref 0), some (.int v1), some (.int v2), none, none], [.int v1, .ref 3], SH, w)) rfl ?_
  refine EV.callF (kc := 52) (av := [.ref 3, .int v1]) (r := []) (rv := some (.int (F_52_3 v1 w))) (w2 := w) cl_149 rfl rfl rfl (m_52_3 w v1) ?_
  refine EV.z_eq cl_149 rfl (fun h1 => ?_) (fun h1 => ?_)
  · skip
    refine EV.steps cl_149 1 (q2 := (27, [some (.ref 0), some (.int v1), some (.int v2), none, none], [.int (kI (-2))], SH, w)) rfl ?_
    refine EV.ret cl_149 rfl rfl rfl ?_
    exact i1 h1
  · skip
    refine EV.steps cl_149 5 (q2 := (19, [some (.ref 0), some (.int v1), some (.int v2), none, none], [.int (kI 6), .int (kI 0), .int v2, .ref 1], SH, w)) rfl ?_
    refine EV.callF (kc := 105) (av := [.ref 1, .int v2, .int (kI 0), .int (kI 6)]) (r := []) (rv := some (.int (F_105_1 v2 (kI 0) (kI 6) w))) (w2 := w) cl_149 rfl rfl rfl (m_105_1 w v2 (kI 0) (kI 6)) ?_
    refine EV.z_ne cl_149 rfl (fun h2 => ?_) (fun h2 => ?_)
    · skip
      refine EV.steps cl_149 4 (q2 := (33, [some (.ref 0), some (.int v1), some (.int v2), some (.int (kI (-1))), some (.int (kI 0))], [], SH, w)) rfl ?_
      exact i2 h1 h2
    · skip
      refine EV.steps cl_149 1 (q2 := (27, [some (.ref 0), some (.int v1), some (.int v2), none, none], [.int (kI (-2))], SH, w)) rfl ?_
      refine EV.ret cl_149 rfl rfl rfl ?_
      exact i3 h1 h2
theorem s_149_0_at33 {X : Scr} {d : Nat} {Q : Option Value → Sh → Wd → Prop} (w : Wd) (v1 : Int32) (v2 : Int32) (v3 : Int32) (v4 : Int32) (i1 : v2 ≤ v4 → (Q (some (.int v3)) SH (up2 w 1 1 (kI 0)))) (i2 : ¬ v2 ≤ v4 → ¬ v3 = (kI (-1)) → (Q (some (.int v3)) SH (up2 w 1 1 (kI 0)))) (i3 : ¬ v2 ≤ v4 → v3 = (kI (-1)) → (¬ v4 < 0 → ¬ (w 1 1) ≤ v4 → (inB v4 260 = true))) (i4 : ¬ v2 ≤ v4 → v3 = (kI (-1)) → (F_106_1 v4 w) = ((F_11_7 v4 v1 w) - (F_11_7 v4 v1 w) / (kI 256) * (kI 256)) → (EV X (d + 2) 149 (33, [some (.ref 0), some (.int v1), some (.int v2), some (.int v3), some (.int (v4 + (kI 1)))], [], SH, w) Q)) (i5 : ¬ v2 ≤ v4 → v3 = (kI (-1)) → ¬ (F_106_1 v4 w) = ((F_11_7 v4 v1 w) - (F_11_7 v4 v1 w) / (kI 256) * (kI 256)) → (EV X (d + 2) 149 (33, [some (.ref 0), some (.int v1), some (.int v2), some (.int v4), some (.int (v4 + (kI 1)))], [], SH, w) Q)) : EV X (d + 2) 149 (33, [some (.ref 0), some (.int v1), some (.int v2), some (.int v3), some (.int v4)], [], SH, w) Q := by
  refine EV.steps cl_149 2 (q2 := (36, [some (.ref 0), some (.int v1), some (.int v2), some (.int v3), some (.int v4)], [.int v2, .int v4], SH, w)) rfl ?_
  refine EV.i_ge cl_149 rfl (fun h1 => ?_) (fun h1 => ?_)
  · skip
    refine EV.steps cl_149 5 (q2 := (88, [some (.ref 0), some (.int v1), some (.int v2), some (.int v3), some (.int v4)], [.int v3], SH, (up2 w 1 1 (kI 0)))) rfl ?_
    refine EV.ret cl_149 rfl rfl rfl ?_
    exact i1 h1
  · skip
    refine EV.steps cl_149 2 (q2 := (41, [some (.ref 0), some (.int v1), some (.int v2), some (.int v3), some (.int v4)], [.int (kI (-1)), .int v3], SH, w)) rfl ?_
    refine EV.i_ne cl_149 rfl (fun h2 => ?_) (fun h2 => ?_)
    · skip
      refine EV.steps cl_149 5 (q2 := (88, [some (.ref 0), some (.int v1), some (.int v2), some (.int v3), some (.int v4)], [.int v3], SH, (up2 w 1 1 (kI 0)))) rfl ?_
      refine EV.ret cl_149 rfl rfl rfl ?_
      exact i2 h1 h2
    · skip
      refine EV.steps cl_149 3 (q2 := (50, [some (.ref 0), some (.int v1), some (.int v2), some (.int v3), some (.int v4)], [.int v4, .ref 1], SH, w)) rfl ?_
      refine EV.callF (kc := 106) (av := [.ref 1, .int v4]) (r := []) (rv := some (.int (F_106_1 v4 w))) (w2 := w) cl_149 rfl rfl rfl (m_106_1 w v4 (i3 h1 h2)) ?_
      refine EV.steps cl_149 4 (q2 := (60, [some (.ref 0), some (.int v1), some (.int v2), some (.int v3), some (.int v4)], [.int v1, .int v4, .ref 7, .int (F_106_1 v4 w)], SH, w)) rfl ?_
      refine EV.callF (kc := 11) (av := [.ref 7, .int v4, .int v1]) (r := [.int (F_106_1 v4 w)]) (rv := some (.int (F_11_7 v4 v1 w))) (w2 := w) cl_149 rfl rfl rfl (m_11_7 w v4 v1) ?_
      refine EV.steps cl_149 1 (q2 := (66, [some (.ref 0), some (.int v1), some (.int v2), some (.int v3), some (.int v4)], [.int (kI 256), .int (F_11_7 v4 v1 w), .int (F_106_1 v4 w)], SH, w)) rfl ?_
      refine EV.irem cl_149 rfl (by decide) ?_
      refine EV.i_eq cl_149 rfl (fun h3 => ?_) (fun h3 => ?_)
      · skip
        refine EV.steps cl_149 2 (q2 := (33, [some (.ref 0), some (.int v1), some (.int v2), some (.int v3), some (.int (v4 + (kI 1)))], [], SH, w)) rfl ?_
        exact i4 h1 h2 h3
      · skip
        refine EV.steps cl_149 4 (q2 := (33, [some (.ref 0), some (.int v1), some (.int v2), some (.int v4), some (.int (v4 + (kI 1)))], [], SH, w)) rfl ?_
        exact i5 h1 h2 h3
set_option maxRecDepth 20000 in
theorem cl_152 : RCT[152]? = some rc_152 := rfl
theorem s_152_0_at0 {X : Scr} {d : Nat} {Q : Option Value → Sh → Wd → Prop} (w : Wd) (v1 : Int32) (i1 : (EV X (d + 1) 152 (4, [some (.ref 0), some (.int v1), some (.int (kI 0)), some (.int (kI 0))], [], SH, w) Q)) : EV X (d + 1) 152 (0, [some (.ref 0), some (.int v1), none, none], [], SH, w) Q := by
  refine EV.steps cl_152 4 (q2 := (4, [some (.ref 0), some (.int v1), some (.int (kI 0)), some (.int (kI 0))], [], SH, w)) rfl ?_
  exact i1
theorem s_152_0_at4 {X : Scr} {d : Nat} {Q : Option Value → Sh → Wd → Prop} (w : Wd) (v1 : Int32) (v2 : Int32) (v3 : Int32) (i1 : (kI 6) ≤ v3 → (Q (some (.int v2)) SH w)) (i2 : ¬ (kI 6) ≤ v3 → (F_154 v1 v3 w) = 0 → (EV X (d + 1) 152 (4, [some (.ref 0), some (.int v1), some (.int v2), some (.int (v3 + (kI 1)))], [], SH, w) Q)) (i3 : ¬ (kI 6) ≤ v3 → ¬ (F_154 v1 v3 w) = 0 → (inB v3 6 = true)) (i4 : ¬ (kI 6) ≤ v3 → ¬ (F_154 v1 v3 w) = 0 → (EV X (d + 1) 152 (4, [some (.ref 0), some (.int v1), some (.int (v2 ||| (w 109 v3.toNatClampNeg))), some (.int (v3 + (kI 1)))], [], SH, w) Q)) : EV X (d + 1) 152 (4, [some (.ref 0), some (.int v1), some (.int v2), some (.int v3)], [], SH, w) Q := by
  refine EV.steps cl_152 2 (q2 := (7, [some (.ref 0), some (.int v1), some (.int v2), some (.int v3)], [.int (kI 6), .int v3], SH, w)) rfl ?_
  refine EV.i_ge cl_152 rfl (fun h1 => ?_) (fun h1 => ?_)
  · skip
    refine EV.steps cl_152 1 (q2 := (34, [some (.ref 0), some (.int v1), some (.int v2), some (.int v3)], [.int v2], SH, w)) rfl ?_
    refine EV.ret cl_152 rfl rfl rfl ?_
    exact i1 h1
  · skip
    refine EV.steps cl_152 2 (q2 := (12, [some (.ref 0), some (.int v1), some (.int v2), some (.int v3)], [.int v3, .int v1], SH, w)) rfl ?_
    refine EV.callF (kc := 154) (av := [.int v1, .int v3]) (r := []) (rv := some (.int (F_154 v1 v3 w))) (w2 := w) cl_152 rfl rfl rfl (m_154 w v1 v3) ?_
    refine EV.z_eq cl_152 rfl (fun h2 => ?_) (fun h2 => ?_)
    · skip
      refine EV.steps cl_152 2 (q2 := (4, [some (.ref 0), some (.int v1), some (.int v2), some (.int (v3 + (kI 1)))], [], SH, w)) rfl ?_
      exact i2 h1 h2
    · skip
      refine EV.steps cl_152 4 (q2 := (24, [some (.ref 0), some (.int v1), some (.int v2), some (.int v3)], [.int v3, .ref 109, .int v2], SH, w)) rfl ?_
      refine EV.iaload cl_152 rfl rfl (by decide) (i3 h1 h2) ?_
      refine EV.steps cl_152 4 (q2 := (4, [some (.ref 0), some (.int v1), some (.int (v2 ||| (w 109 v3.toNatClampNeg))), some (.int (v3 + (kI 1)))], [], SH, w)) rfl ?_
      exact i4 h1 h2
set_option maxRecDepth 20000 in
theorem cl_162 : RCT[162]? = some rc_162 := rfl
theorem s_162_at0 {X : Scr} {d : Nat} {Q : Option Value → Sh → Wd → Prop} (w : Wd) (v0 : Int32) (i1 : (EV X (d + 1) 162 (4, [some (.int v0), some (.int (kI 0)), some (.int (kI 0))], [], SH, w) Q)) : EV X (d + 1) 162 (0, [some (.int v0), none, none], [], SH, w) Q := by
  refine EV.steps cl_162 4 (q2 := (4, [some (.int v0), some (.int (kI 0)), some (.int (kI 0))], [], SH, w)) rfl ?_
  exact i1
theorem s_162_at4 {X : Scr} {d : Nat} {Q : Option Value → Sh → Wd → Prop} (w : Wd) (v0 : Int32) (v1 : Int32) (v2 : Int32) (i1 : (kI 20) ≤ v2 → (Q (some (.int v1)) SH w)) (i2 : ¬ (kI 20) ≤ v2 → (EV X (d + 1) 162 (4, [some (.int v0), some (.int (v1 + ((v0 >>> (v2 &&& 31)) &&& (kI 1)))), some (.int (v2 + (kI 1)))], [], SH, w) Q)) : EV X (d + 1) 162 (4, [some (.int v0), some (.int v1), some (.int v2)], [], SH, w) Q := by
  refine EV.steps cl_162 2 (q2 := (7, [some (.int v0), some (.int v1), some (.int v2)], [.int (kI 20), .int v2], SH, w)) rfl ?_
  refine EV.i_ge cl_162 rfl (fun h1 => ?_) (fun h1 => ?_)
  · skip
    refine EV.steps cl_162 1 (q2 := (25, [some (.int v0), some (.int v1), some (.int v2)], [.int v1], SH, w)) rfl ?_
    refine EV.ret cl_162 rfl rfl rfl ?_
    exact i1 h1
  · skip
    refine EV.steps cl_162 10 (q2 := (4, [some (.int v0), some (.int (v1 + ((v0 >>> (v2 &&& 31)) &&& (kI 1)))), some (.int (v2 + (kI 1)))], [], SH, w)) rfl ?_
    exact i2 h1
set_option maxRecDepth 20000 in
theorem cl_167 : RCT[167]? = some rc_167 := rfl
theorem s_167_110_at0 {X : Scr} {d : Nat} {Q : Option Value → Sh → Wd → Prop} (w : Wd) (v1 : Int32) (i1 : (EV X (d + 1) 167 (4, [some (.ref 110), some (.int v1), some (.int (kI 0)), some (.int (kI 0))], [], SH, w) Q)) : EV X (d + 1) 167 (0, [some (.ref 110), some (.int v1), none, none], [], SH, w) Q := by
  refine EV.steps cl_167 4 (q2 := (4, [some (.ref 110), some (.int v1), some (.int (kI 0)), some (.int (kI 0))], [], SH, w)) rfl ?_
  exact i1
theorem s_167_110_at4 {X : Scr} {d : Nat} {Q : Option Value → Sh → Wd → Prop} (w : Wd) (v1 : Int32) (v2 : Int32) (v3 : Int32) (i1 : (kI 6) ≤ v3 → (Q (some (.int v2)) SH w)) (i2 : ¬ (kI 6) ≤ v3 → (F_164_110 v3 w) = 0 → (EV X (d + 2) 167 (4, [some (.ref 110), some (.int v1), some (.int (v2 + (kI 0))), some (.int (v3 + (kI 1)))], [], SH, w) Q)) (i3 : ¬ (kI 6) ≤ v3 → ¬ (F_164_110 v3 w) = 0 → ((inB (((kI 0) + ((kI 6) * v3)) + v1) 162 = true))) (i4 : ¬ (kI 6) ≤ v3 → ¬ (F_164_110 v3 w) = 0 → (EV X (d + 2) 167 (4, [some (.ref 110), some (.int v1), some (.int (v2 + (F_166_110 v3 v1 w))), some (.int (v3 + (kI 1)))], [], SH, w) Q)) : EV X (d + 2) 167 (4, [some (.ref 110), some (.int v1), some (.int v2), some (.int v3)], [], SH, w) Q := by
  refine EV.steps cl_167 2 (q2 := (7, [some (.ref 110), some (.int v1), some (.int v2), some (.int v3)], [.int (kI 6), .int v3], SH, w)) rfl ?_
  refine EV.i_ge cl_167 rfl (fun h1 => ?_) (fun h1 => ?_)
  · skip
    refine EV.steps cl_167 1 (q2 := (38, [some (.ref 110), some (.int v1), some (.int v2), some (.int v3)], [.int v2], SH, w)) rfl ?_
    refine EV.ret cl_167 rfl rfl rfl ?_
    exact i1 h1
  · skip
    refine EV.steps cl_167 3 (q2 := (13, [some (.ref 110), some (.int v1), some (.int v2), some (.int v3)], [.int v3, .ref 110, .int v2], SH, w)) rfl ?_
    refine EV.callF (kc := 164) (av := [.ref 110, .int v3]) (r := [.int v2]) (rv := some (.int (F_164_110 v3 w))) (w2 := w) cl_167 rfl rfl rfl (m_164_110 w v3) ?_
    refine EV.z_eq cl_167 rfl (fun h2 => ?_) (fun h2 => ?_)
    · skip
      refine EV.steps cl_167 5 (q2 := (4, [some (.ref 110), some (.int v1), some (.int (v2 + (kI 0))), some (.int (v3 + (kI 1)))], [], SH, w)) rfl ?_
      exact i2 h1 h2
    · skip
      refine EV.steps cl_167 3 (q2 := (22, [some (.ref 110), some (.int v1), some (.int v2), some (.int v3)], [.int v1, .int v3, .ref 110, .int v2], SH, w)) rfl ?_
      refine EV.callF (kc := 166) (av := [.ref 110, .int v3, .int v1]) (r := [.int v2]) (rv := some (.int (F_166_110 v3 v1 w))) (w2 := w) cl_167 rfl rfl rfl (m_166_110 w v3 v1 (i3 h1 h2)) ?_
      refine EV.steps cl_167 5 (q2 := (4, [some (.ref 110), some (.int v1), some (.int (v2 + (F_166_110 v3 v1 w))), some (.int (v3 + (kI 1)))], [], SH, w)) rfl ?_
      exact i4 h1 h2
set_option maxRecDepth 20000 in
theorem cl_168 : RCT[168]? = some rc_168 := rfl
theorem s_168_110_at0 {X : Scr} {d : Nat} {Q : Option Value → Sh → Wd → Prop} (w : Wd)  (i1 : (EV X (d + 1) 168 (4, [some (.ref 110), some (.int (kI 0)), some (.int (kI 0))], [], SH, w) Q)) : EV X (d + 1) 168 (0, [some (.ref 110), none, none], [], SH, w) Q := by
  refine EV.steps cl_168 4 (q2 := (4, [some (.ref 110), some (.int (kI 0)), some (.int (kI 0))], [], SH, w)) rfl ?_
  exact i1
theorem s_168_110_at4 {X : Scr} {d : Nat} {Q : Option Value → Sh → Wd → Prop} (w : Wd) (v1 : Int32) (v2 : Int32) (i1 : (kI 6) ≤ v2 → (Q (some (.int v1)) SH w)) (i2 : ¬ (kI 6) ≤ v2 → (F_164_110 v2 w) = 0 → (EV X (d + 2) 168 (4, [some (.ref 110), some (.int (v1 + (kI 0))), some (.int (v2 + (kI 1)))], [], SH, w) Q)) (i3 : ¬ (kI 6) ≤ v2 → ¬ (F_164_110 v2 w) = 0 → (inB v2 6 = true)) (i4 : ¬ (kI 6) ≤ v2 → ¬ (F_164_110 v2 w) = 0 → (EV X (d + 2) 168 (4, [some (.ref 110), some (.int (v1 + (w 114 v2.toNatClampNeg))), some (.int (v2 + (kI 1)))], [], SH, w) Q)) : EV X (d + 2) 168 (4, [some (.ref 110), some (.int v1), some (.int v2)], [], SH, w) Q := by
  refine EV.steps cl_168 2 (q2 := (7, [some (.ref 110), some (.int v1), some (.int v2)], [.int (kI 6), .int v2], SH, w)) rfl ?_
  refine EV.i_ge cl_168 rfl (fun h1 => ?_) (fun h1 => ?_)
  · skip
    refine EV.steps cl_168 1 (q2 := (38, [some (.ref 110), some (.int v1), some (.int v2)], [.int v1], SH, w)) rfl ?_
    refine EV.ret cl_168 rfl rfl rfl ?_
    exact i1 h1
  · skip
    refine EV.steps cl_168 3 (q2 := (13, [some (.ref 110), some (.int v1), some (.int v2)], [.int v2, .ref 110, .int v1], SH, w)) rfl ?_
    refine EV.callF (kc := 164) (av := [.ref 110, .int v2]) (r := [.int v1]) (rv := some (.int (F_164_110 v2 w))) (w2 := w) cl_168 rfl rfl rfl (m_164_110 w v2) ?_
    refine EV.z_eq cl_168 rfl (fun h2 => ?_) (fun h2 => ?_)
    · skip
      refine EV.steps cl_168 5 (q2 := (4, [some (.ref 110), some (.int (v1 + (kI 0))), some (.int (v2 + (kI 1)))], [], SH, w)) rfl ?_
      exact i2 h1 h2
    · skip
      refine EV.steps cl_168 3 (q2 := (24, [some (.ref 110), some (.int v1), some (.int v2)], [.int v2, .ref 114, .int v1], SH, w)) rfl ?_
      refine EV.iaload cl_168 rfl rfl (by decide) (i3 h1 h2) ?_
      refine EV.steps cl_168 5 (q2 := (4, [some (.ref 110), some (.int (v1 + (w 114 v2.toNatClampNeg))), some (.int (v2 + (kI 1)))], [], SH, w)) rfl ?_
      exact i4 h1 h2
set_option maxRecDepth 20000 in
theorem cl_173 : RCT[173]? = some rc_173 := rfl
theorem s_173_110_at0 {X : Scr} {d : Nat} {Q : Option Value → Sh → Wd → Prop} (w : Wd) (v1 : Int32) (i1 : (EV X (d + 1) 173 (2, [some (.ref 110), some (.int v1), some (.int (kI 3))], [], SH, w) Q)) : EV X (d + 1) 173 (0, [some (.ref 110), some (.int v1), none], [], SH, w) Q := by
  refine EV.steps cl_173 2 (q2 := (2, [some (.ref 110), some (.int v1), some (.int (kI 3))], [], SH, w)) rfl ?_
  exact i1
theorem s_173_110_at2 {X : Scr} {d : Nat} {Q : Option Value → Sh → Wd → Prop} (w : Wd) (v1 : Int32) (v2 : Int32) (i1 : v2 < 0 → (Q (none) SH w)) (i2 : ¬ v2 < 0 → (inB (w 110 10) 260 = true)) (i3 : ¬ v2 < 0 → (EV X (d + 1) 173 (2, [some (.ref 110), some (.int v1), some (.int (v2 + (kI (-1))))], [], SH, (up2 (up2 w 117 (w 110 10).toNatClampNeg (vp_nar .byte (v1 >>> (((kI 8) * v2) &&& 31)).toInt8.toInt32)) 110 10 ((w 110 10) + (kI 1)))) Q)) : EV X (d + 1) 173 (2, [some (.ref 110), some (.int v1), some (.int v2)], [], SH, w) Q := by
  refine EV.steps cl_173 1 (q2 := (3, [some (.ref 110), some (.int v1), some (.int v2)], [.int v2], SH, w)) rfl ?_
  refine EV.z_lt cl_173 rfl (fun h1 => ?_) (fun h1 => ?_)
  · skip
    refine EV.ret cl_173 rfl rfl rfl ?_
    exact i1 h1
  · skip
    refine EV.steps cl_173 10 (q2 := (21, [some (.ref 110), some (.int v1), some (.int v2)], [.int (v1 >>> (((kI 8) * v2) &&& 31)).toInt8.toInt32, .int (w 110 10), .ref 117], SH, w)) rfl ?_
    refine EV.bastore cl_173 rfl rfl (by decide) (i2 h1) ?_
    refine EV.steps cl_173 8 (q2 := (2, [some (.ref 110), some (.int v1), some (.int (v2 + (kI (-1))))], [], SH, (up2 (up2 w 117 (w 110 10).toNatClampNeg (vp_nar .byte (v1 >>> (((kI 8) * v2) &&& 31)).toInt8.toInt32)) 110 10 ((w 110 10) + (kI 1))))) rfl ?_
    exact i3 h1
set_option maxRecDepth 20000 in
theorem cl_179 : RCT[179]? = some rc_179 := rfl
theorem s_179_110_at0 {X : Scr} {d : Nat} {Q : Option Value → Sh → Wd → Prop} (w : Wd)  (i1 : (EV X (d + 1) 179 (10, [some (.ref 110), some (.int (w 110 11))], [], SH, (up2 w 110 14 (kI 0))) Q)) : EV X (d + 1) 179 (0, [some (.ref 110), none], [], SH, w) Q := by
  refine EV.steps cl_179 6 (q2 := (10, [some (.ref 110), some (.int (w 110 11))], [], SH, (up2 w 110 14 (kI 0)))) rfl ?_
  exact i1
theorem s_179_110_at10 {X : Scr} {d : Nat} {Q : Option Value → Sh → Wd → Prop} (w : Wd) (v1 : Int32) (i1 : ((¬ (w 110 12) ≤ (w 110 11) → (inB (w 110 11) 260 = true)))) (i2 : (¬ (F_175_110 w) < (kI 48) → (¬ (w 110 12) ≤ (w 110 11) → (inB (w 110 11) 260 = true)))) (i3 : (F_176_110 w) = 0 → (Q (some (.int (kI 1))) SH w)) (i4 : ¬ (F_176_110 w) = 0 → ¬ (w 110 11) = (v1 + (kI 5)) → (¬ (w 110 12) ≤ (w 110 11) → (inB (w 110 11) 260 = true))) (i5 : ¬ (F_176_110 w) = 0 → ¬ (w 110 11) = (v1 + (kI 5)) → (EV X (d + 2) 179 (10, [some (.ref 110), some (.int v1)], [], SH, (up2 (up2 w 110 14 ((((kI 10) * (w 110 14)) + (F_175_110 w)) - (kI 48))) 110 11 ((w 110 11) + (kI 1)))) Q)) (i6 : ¬ (F_176_110 w) = 0 → (w 110 11) = (v1 + (kI 5)) → (Q (some (.int (F_177_110 (kI 2) (w 110 11) w))) SH (G_177_110 (kI 2) (w 110 11) w))) : EV X (d + 2) 179 (10, [some (.ref 110), some (.int v1)], [], SH, w) Q := by
  refine EV.steps cl_179 1 (q2 := (11, [some (.ref 110), some (.int v1)], [.ref 110], SH, w)) rfl ?_
  refine EV.callF (kc := 176) (av := [.ref 110]) (r := []) (rv := some (.int (F_176_110 w))) (w2 := w) cl_179 rfl rfl rfl (m_176_110 w  (i1) (i2)) ?_
  refine EV.z_eq cl_179 rfl (fun h1 => ?_) (fun h1 => ?_)
  · skip
    refine EV.steps cl_179 1 (q2 := (70, [some (.ref 110), some (.int v1)], [.int (kI 1)], SH, w)) rfl ?_
    refine EV.ret cl_179 rfl rfl rfl ?_
    exact i3 h1
  · skip
    refine EV.steps cl_179 5 (q2 := (24, [some (.ref 110), some (.int v1)], [.int (v1 + (kI 5)), .int (w 110 11)], SH, w)) rfl ?_
    refine EV.i_ne cl_179 rfl (fun h2 => ?_) (fun h2 => ?_)
    · skip
      refine EV.steps cl_179 6 (q2 := (46, [some (.ref 110), some (.int v1)], [.ref 110, .int ((kI 10) * (w 110 14)), .ref 110], SH, w)) rfl ?_
      refine EV.callF (kc := 175) (av := [.ref 110]) (r := [.int ((kI 10) * (w 110 14)), .ref 110]) (rv := some (.int (F_175_110 w))) (w2 := w) cl_179 rfl rfl rfl (m_175_110 w  (i4 h1 h2)) ?_
      refine EV.steps cl_179 11 (q2 := (10, [some (.ref 110), some (.int v1)], [], SH, (up2 (up2 w 110 14 ((((kI 10) * (w 110 14)) + (F_175_110 w)) - (kI 48))) 110 11 ((w 110 11) + (kI 1))))) rfl ?_
      exact i5 h1 h2
    · skip
      refine EV.steps cl_179 4 (q2 := (33, [some (.ref 110), some (.int v1)], [.int (w 110 11), .int (kI 2), .ref 110], SH, w)) rfl ?_
      refine EV.callF (kc := 177) (av := [.ref 110, .int (kI 2), .int (w 110 11)]) (r := []) (rv := some (.int (F_177_110 (kI 2) (w 110 11) w))) (w2 := (G_177_110 (kI 2) (w 110 11) w)) cl_179 rfl rfl rfl (m_177_110 w (kI 2) (w 110 11)) ?_
      refine EV.retB cl_179 rfl rfl (z1_177_110 (kI 2) (w 110 11) w) ?_
      exact i6 h1 h2
set_option maxRecDepth 20000 in
theorem cl_185 : RCT[185]? = some rc_185 := rfl
theorem s_185_110_at0 {X : Scr} {d : Nat} {Q : Option Value → Sh → Wd → Prop} (w : Wd) (v1 : Int32) (i1 : (¬ (w 110 17) = 0 → (inB ((w 110 17) - (kI 1)) 260 = true))) (i2 : (F_182_110 w) < (kI 4) → v1 = 0 → (Q (none) SH w)) (i3 : (F_182_110 w) < (kI 4) → ¬ v1 = 0 → (¬ (w 110 17) = 0 → (inB ((w 110 17) - (kI 1)) 260 = true))) (i4 : (F_182_110 w) < (kI 4) → ¬ v1 = 0 → (F_182_110 w) = (kI 2) → (¬ (w 110 17) = 0 → (inB ((w 110 17) - (kI 1)) 260 = true))) (i5 : (F_182_110 w) < (kI 4) → ¬ v1 = 0 → (F_182_110 w) = (kI 2) → ((inB (w 110 16) 260 = true))) (i6 : (F_182_110 w) < (kI 4) → ¬ v1 = 0 → (F_182_110 w) = (kI 2) → (EV X (d + 1) 185 (0, [some (.ref 110), some (.int v1)], [], SH, (up2 (G_180_110 (F_182_110 w) (kI 0) w) 110 17 (((G_180_110 (F_182_110 w) (kI 0) w) 110 17) - (kI 1)))) Q)) (i7 : (F_182_110 w) < (kI 4) → ¬ v1 = 0 → ¬ (F_182_110 w) = (kI 2) → (¬ (w 110 17) = 0 → (inB ((w 110 17) - (kI 1)) 260 = true))) (i8 : (F_182_110 w) < (kI 4) → ¬ v1 = 0 → ¬ (F_182_110 w) = (kI 2) → ¬ (F_182_110 w) = (kI 3) → (Q (none) SH w)) (i9 : (F_182_110 w) < (kI 4) → ¬ v1 = 0 → ¬ (F_182_110 w) = (kI 2) → (F_182_110 w) = (kI 3) → (¬ (w 110 17) = 0 → (inB ((w 110 17) - (kI 1)) 260 = true))) (i10 : (F_182_110 w) < (kI 4) → ¬ v1 = 0 → ¬ (F_182_110 w) = (kI 2) → (F_182_110 w) = (kI 3) → ((inB (w 110 16) 260 = true))) (i11 : (F_182_110 w) < (kI 4) → ¬ v1 = 0 → ¬ (F_182_110 w) = (kI 2) → (F_182_110 w) = (kI 3) → (EV X (d + 1) 185 (0, [some (.ref 110), some (.int v1)], [], SH, (up2 (G_180_110 (F_182_110 w) (kI 0) w) 110 17 (((G_180_110 (F_182_110 w) (kI 0) w) 110 17) - (kI 1)))) Q)) (i12 : ¬ (F_182_110 w) < (kI 4) → (¬ (w 110 17) = 0 → (inB ((w 110 17) - (kI 1)) 260 = true))) (i13 : ¬ (F_182_110 w) < (kI 4) → (F_182_110 w) ≤ (kI 6) → (¬ (w 110 17) = 0 → (inB ((w 110 17) - (kI 1)) 260 = true))) (i14 : ¬ (F_182_110 w) < (kI 4) → (F_182_110 w) ≤ (kI 6) → ((inB (w 110 16) 260 = true))) (i15 : ¬ (F_182_110 w) < (kI 4) → (F_182_110 w) ≤ (kI 6) → (EV X (d + 1) 185 (0, [some (.ref 110), some (.int v1)], [], SH, (up2 (G_180_110 (F_182_110 w) (kI 0) w) 110 17 (((G_180_110 (F_182_110 w) (kI 0) w) 110 17) - (kI 1)))) Q)) (i16 : ¬ (F_182_110 w) < (kI 4) → ¬ (F_182_110 w) ≤ (kI 6) → v1 = 0 → (Q (none) SH w)) (i17 : ¬ (F_182_110 w) < (kI 4) → ¬ (F_182_110 w) ≤ (kI 6) → ¬ v1 = 0 → (¬ (w 110 17) = 0 → (inB ((w 110 17) - (kI 1)) 260 = true))) (i18 : ¬ (F_182_110 w) < (kI 4) → ¬ (F_182_110 w) ≤ (kI 6) → ¬ v1 = 0 → (F_182_110 w) = (kI 2) → (¬ (w 110 17) = 0 → (inB ((w 110 17) - (kI 1)) 260 = true))) (i19 : ¬ (F_182_110 w) < (kI 4) → ¬ (F_182_110 w) ≤ (kI 6) → ¬ v1 = 0 → (F_182_110 w) = (kI 2) → ((inB (w 110 16) 260 = true))) (i20 : ¬ (F_182_110 w) < (kI 4) → ¬ (F_182_110 w) ≤ (kI 6) → ¬ v1 = 0 → (F_182_110 w) = (kI 2) → (EV X (d + 1) 185 (0, [some (.ref 110), some (.int v1)], [], SH, (up2 (G_180_110 (F_182_110 w) (kI 0) w) 110 17 (((G_180_110 (F_182_110 w) (kI 0) w) 110 17) - (kI 1)))) Q)) (i21 : ¬ (F_182_110 w) < (kI 4) → ¬ (F_182_110 w) ≤ (kI 6) → ¬ v1 = 0 → ¬ (F_182_110 w) = (kI 2) → (¬ (w 110 17) = 0 → (inB ((w 110 17) - (kI 1)) 260 = true))) (i22 : ¬ (F_182_110 w) < (kI 4) → ¬ (F_182_110 w) ≤ (kI 6) → ¬ v1 = 0 → ¬ (F_182_110 w) = (kI 2) → ¬ (F_182_110 w) = (kI 3) → (Q (none) SH w)) (i23 : ¬ (F_182_110 w) < (kI 4) → ¬ (F_182_110 w) ≤ (kI 6) → ¬ v1 = 0 → ¬ (F_182_110 w) = (kI 2) → (F_182_110 w) = (kI 3) → (¬ (w 110 17) = 0 → (inB ((w 110 17) - (kI 1)) 260 = true))) (i24 : ¬ (F_182_110 w) < (kI 4) → ¬ (F_182_110 w) ≤ (kI 6) → ¬ v1 = 0 → ¬ (F_182_110 w) = (kI 2) → (F_182_110 w) = (kI 3) → ((inB (w 110 16) 260 = true))) (i25 : ¬ (F_182_110 w) < (kI 4) → ¬ (F_182_110 w) ≤ (kI 6) → ¬ v1 = 0 → ¬ (F_182_110 w) = (kI 2) → (F_182_110 w) = (kI 3) → (EV X (d + 1) 185 (0, [some (.ref 110), some (.int v1)], [], SH, (up2 (G_180_110 (F_182_110 w) (kI 0) w) 110 17 (((G_180_110 (F_182_110 w) (kI 0) w) 110 17) - (kI 1)))) Q)) : EV X (d + 1) 185 (0, [some (.ref 110), some (.int v1)], [], SH, w) Q := by
  refine EV.steps cl_185 1 (q2 := (1, [some (.ref 110), some (.int v1)], [.ref 110], SH, w)) rfl ?_
  refine EV.callF (kc := 182) (av := [.ref 110]) (r := []) (rv := some (.int (F_182_110 w))) (w2 := w) cl_185 rfl rfl rfl (m_182_110 w  (i1)) ?_
  refine EV.steps cl_185 1 (q2 := (5, [some (.ref 110), some (.int v1)], [.int (kI 4), .int (F_182_110 w)], SH, w)) rfl ?_
  refine EV.i_lt cl_185 rfl (fun h1 => ?_) (fun h1 => ?_)
  · skip
    refine EV.steps cl_185 1 (q2 := (18, [some (.ref 110), some (.int v1)], [.int v1], SH, w)) rfl ?_
    refine EV.z_eq cl_185 rfl (fun h2 => ?_) (fun h2 => ?_)
    · skip
      refine EV.ret cl_185 rfl rfl rfl ?_
      exact i2 h1 h2
    · skip
      refine EV.steps cl_185 1 (q2 := (22, [some (.ref 110), some (.int v1)], [.ref 110], SH, w)) rfl ?_
      refine EV.callF (kc := 182) (av := [.ref 110]) (r := []) (rv := some (.int (F_182_110 w))) (w2 := w) cl_185 rfl rfl rfl (m_182_110 w  (i3 h1 h2)) ?_
      refine EV.steps cl_185 1 (q2 := (26, [some (.ref 110), some (.int v1)], [.int (kI 2), .int (F_182_110 w)], SH, w)) rfl ?_
      refine EV.i_eq cl_185 rfl (fun h3 => ?_) (fun h3 => ?_)
      · skip
        refine EV.steps cl_185 2 (q2 := (39, [some (.ref 110), some (.int v1)], [.ref 110, .ref 110], SH, w)) rfl ?_
        refine EV.callF (kc := 182) (av := [.ref 110]) (r := [.ref 110]) (rv := some (.int (F_182_110 w))) (w2 := w) cl_185 rfl rfl rfl (m_182_110 w  (i4 h1 h2 h3)) ?_
        refine EV.steps cl_185 1 (q2 := (43, [some (.ref 110), some (.int v1)], [.int (kI 0), .int (F_182_110 w), .ref 110], SH, w)) rfl ?_
        refine EV.callF (kc := 180) (av := [.ref 110, .int (F_182_110 w), .int (kI 0)]) (r := []) (rv := none) (w2 := (G_180_110 (F_182_110 w) (kI 0) w)) cl_185 rfl rfl rfl (m_180_110 w (F_182_110 w) (kI 0) (i5 h1 h2 h3)) ?_
        refine EV.steps cl_185 7 (q2 := (0, [some (.ref 110), some (.int v1)], [], SH, (up2 (G_180_110 (F_182_110 w) (kI 0) w) 110 17 (((G_180_110 (F_182_110 w) (kI 0) w) 110 17) - (kI 1))))) rfl ?_
        exact i6 h1 h2 h3
      · skip
        refine EV.steps cl_185 1 (q2 := (30, [some (.ref 110), some (.int v1)], [.ref 110], SH, w)) rfl ?_
        refine EV.callF (kc := 182) (av := [.ref 110]) (r := []) (rv := some (.int (F_182_110 w))) (w2 := w) cl_185 rfl rfl rfl (m_182_110 w  (i7 h1 h2 h3)) ?_
        refine EV.steps cl_185 1 (q2 := (34, [some (.ref 110), some (.int v1)], [.int (kI 3), .int (F_182_110 w)], SH, w)) rfl ?_
        refine EV.i_ne cl_185 rfl (fun h4 => ?_) (fun h4 => ?_)
        · skip
          refine EV.ret cl_185 rfl rfl rfl ?_
          exact i8 h1 h2 h3 h4
        · skip
          refine EV.steps cl_185 2 (q2 := (39, [some (.ref 110), some (.int v1)], [.ref 110, .ref 110], SH, w)) rfl ?_
          refine EV.callF (kc := 182) (av := [.ref 110]) (r := [.ref 110]) (rv := some (.int (F_182_110 w))) (w2 := w) cl_185 rfl rfl rfl (m_182_110 w  (i9 h1 h2 h3 h4)) ?_
          refine EV.steps cl_185 1 (q2 := (43, [some (.ref 110), some (.int v1)], [.int (kI 0), .int (F_182_110 w), .ref 110], SH, w)) rfl ?_
          refine EV.callF (kc := 180) (av := [.ref 110, .int (F_182_110 w), .int (kI 0)]) (r := []) (rv := none) (w2 := (G_180_110 (F_182_110 w) (kI 0) w)) cl_185 rfl rfl rfl (m_180_110 w (F_182_110 w) (kI 0) (i10 h1 h2 h3 h4)) ?_
          refine EV.steps cl_185 7 (q2 := (0, [some (.ref 110), some (.int v1)], [], SH, (up2 (G_180_110 (F_182_110 w) (kI 0) w) 110 17 (((G_180_110 (F_182_110 w) (kI 0) w) 110 17) - (kI 1))))) rfl ?_
          exact i11 h1 h2 h3 h4
  · skip
    refine EV.steps cl_185 1 (q2 := (9, [some (.ref 110), some (.int v1)], [.ref 110], SH, w)) rfl ?_
    refine EV.callF (kc := 182) (av := [.ref 110]) (r := []) (rv := some (.int (F_182_110 w))) (w2 := w) cl_185 rfl rfl rfl (m_182_110 w  (i12 h1)) ?_
    refine EV.steps cl_185 1 (q2 := (14, [some (.ref 110), some (.int v1)], [.int (kI 6), .int (F_182_110 w)], SH, w)) rfl ?_
    refine EV.i_le cl_185 rfl (fun h5 => ?_) (fun h5 => ?_)
    · skip
      refine EV.steps cl_185 2 (q2 := (39, [some (.ref 110), some (.int v1)], [.ref 110, .ref 110], SH, w)) rfl ?_
      refine EV.callF (kc := 182) (av := [.ref 110]) (r := [.ref 110]) (rv := some (.int (F_182_110 w))) (w2 := w) cl_185 rfl rfl rfl (m_182_110 w  (i13 h1 h5)) ?_
      refine EV.steps cl_185 1 (q2 := (43, [some (.ref 110), some (.int v1)], [.int (kI 0), .int (F_182_110 w), .ref 110], SH, w)) rfl ?_
      refine EV.callF (kc := 180) (av := [.ref 110, .int (F_182_110 w), .int (kI 0)]) (r := []) (rv := none) (w2 := (G_180_110 (F_182_110 w) (kI 0) w)) cl_185 rfl rfl rfl (m_180_110 w (F_182_110 w) (kI 0) (i14 h1 h5)) ?_
      refine EV.steps cl_185 7 (q2 := (0, [some (.ref 110), some (.int v1)], [], SH, (up2 (G_180_110 (F_182_110 w) (kI 0) w) 110 17 (((G_180_110 (F_182_110 w) (kI 0) w) 110 17) - (kI 1))))) rfl ?_
      exact i15 h1 h5
    · skip
      refine EV.steps cl_185 1 (q2 := (18, [some (.ref 110), some (.int v1)], [.int v1], SH, w)) rfl ?_
      refine EV.z_eq cl_185 rfl (fun h6 => ?_) (fun h6 => ?_)
      · skip
        refine EV.ret cl_185 rfl rfl rfl ?_
        exact i16 h1 h5 h6
      · skip
        refine EV.steps cl_185 1 (q2 := (22, [some (.ref 110), some (.int v1)], [.ref 110], SH, w)) rfl ?_
        refine EV.callF (kc := 182) (av := [.ref 110]) (r := []) (rv := some (.int (F_182_110 w))) (w2 := w) cl_185 rfl rfl rfl (m_182_110 w  (i17 h1 h5 h6)) ?_
        refine EV.steps cl_185 1 (q2 := (26, [some (.ref 110), some (.int v1)], [.int (kI 2), .int (F_182_110 w)], SH, w)) rfl ?_
        refine EV.i_eq cl_185 rfl (fun h7 => ?_) (fun h7 => ?_)
        · skip
          refine EV.steps cl_185 2 (q2 := (39, [some (.ref 110), some (.int v1)], [.ref 110, .ref 110], SH, w)) rfl ?_
          refine EV.callF (kc := 182) (av := [.ref 110]) (r := [.ref 110]) (rv := some (.int (F_182_110 w))) (w2 := w) cl_185 rfl rfl rfl (m_182_110 w  (i18 h1 h5 h6 h7)) ?_
          refine EV.steps cl_185 1 (q2 := (43, [some (.ref 110), some (.int v1)], [.int (kI 0), .int (F_182_110 w), .ref 110], SH, w)) rfl ?_
          refine EV.callF (kc := 180) (av := [.ref 110, .int (F_182_110 w), .int (kI 0)]) (r := []) (rv := none) (w2 := (G_180_110 (F_182_110 w) (kI 0) w)) cl_185 rfl rfl rfl (m_180_110 w (F_182_110 w) (kI 0) (i19 h1 h5 h6 h7)) ?_
          refine EV.steps cl_185 7 (q2 := (0, [some (.ref 110), some (.int v1)], [], SH, (up2 (G_180_110 (F_182_110 w) (kI 0) w) 110 17 (((G_180_110 (F_182_110 w) (kI 0) w) 110 17) - (kI 1))))) rfl ?_
          exact i20 h1 h5 h6 h7
        · skip
          refine EV.steps cl_185 1 (q2 := (30, [some (.ref 110), some (.int v1)], [.ref 110], SH, w)) rfl ?_
          refine EV.callF (kc := 182) (av := [.ref 110]) (r := []) (rv := some (.int (F_182_110 w))) (w2 := w) cl_185 rfl rfl rfl (m_182_110 w  (i21 h1 h5 h6 h7)) ?_
          refine EV.steps cl_185 1 (q2 := (34, [some (.ref 110), some (.int v1)], [.int (kI 3), .int (F_182_110 w)], SH, w)) rfl ?_
          refine EV.i_ne cl_185 rfl (fun h8 => ?_) (fun h8 => ?_)
          · skip
            refine EV.ret cl_185 rfl rfl rfl ?_
            exact i22 h1 h5 h6 h7 h8
          · skip
            refine EV.steps cl_185 2 (q2 := (39, [some (.ref 110), some (.int v1)], [.ref 110, .ref 110], SH, w)) rfl ?_
            refine EV.callF (kc := 182) (av := [.ref 110]) (r := [.ref 110]) (rv := some (.int (F_182_110 w))) (w2 := w) cl_185 rfl rfl rfl (m_182_110 w  (i23 h1 h5 h6 h7 h8)) ?_
            refine EV.steps cl_185 1 (q2 := (43, [some (.ref 110), some (.int v1)], [.int (kI 0), .int (F_182_110 w), .ref 110], SH, w)) rfl ?_
            refine EV.callF (kc := 180) (av := [.ref 110, .int (F_182_110 w), .int (kI 0)]) (r := []) (rv := none) (w2 := (G_180_110 (F_182_110 w) (kI 0) w)) cl_185 rfl rfl rfl (m_180_110 w (F_182_110 w) (kI 0) (i24 h1 h5 h6 h7 h8)) ?_
            refine EV.steps cl_185 7 (q2 := (0, [some (.ref 110), some (.int v1)], [], SH, (up2 (G_180_110 (F_182_110 w) (kI 0) w) 110 17 (((G_180_110 (F_182_110 w) (kI 0) w) 110 17) - (kI 1))))) rfl ?_
            exact i25 h1 h5 h6 h7 h8
set_option maxRecDepth 20000 in
theorem cl_187 : RCT[187]? = some rc_187 := rfl
theorem s_187_110_at0 {X : Scr} {d : Nat} {Q : Option Value → Sh → Wd → Prop} (w : Wd) (v1 : Int32) (i1 : (EV X (d + 1) 187 (2, [some (.ref 110), some (.int v1), some (.int v1)], [], SH, w) Q)) : EV X (d + 1) 187 (0, [some (.ref 110), some (.int v1), none], [], SH, w) Q := by
  refine EV.steps cl_187 2 (q2 := (2, [some (.ref 110), some (.int v1), some (.int v1)], [], SH, w)) rfl ?_
  exact i1
theorem s_187_110_at2 {X : Scr} {d : Nat} {Q : Option Value → Sh → Wd → Prop} (w : Wd) (v1 : Int32) (v2 : Int32) (i1 : (w 110 17) ≤ v2 → (Q (some (.int (kI 0))) SH w)) (i2 : ¬ (w 110 17) ≤ v2 → (inB v2 260 = true)) (i3 : ¬ (w 110 17) ≤ v2 → ¬ ((w 119 v2.toNatClampNeg) / (kI 1048576)) = (kI 14) → (EV X (d + 1) 187 (2, [some (.ref 110), some (.int v1), some (.int (v2 + (kI 1)))], [], SH, w) Q)) (i4 : ¬ (w 110 17) ≤ v2 → ((w 119 v2.toNatClampNeg) / (kI 1048576)) = (kI 14) → (Q (some (.int (kI 1))) SH w)) : EV X (d + 1) 187 (2, [some (.ref 110), some (.int v1), some (.int v2)], [], SH, w) Q := by
  refine EV.steps cl_187 3 (q2 := (7, [some (.ref 110), some (.int v1), some (.int v2)], [.int (w 110 17), .int v2], SH, w)) rfl ?_
  refine EV.i_ge cl_187 rfl (fun h1 => ?_) (fun h1 => ?_)
  · skip
    refine EV.steps cl_187 1 (q2 := (33, [some (.ref 110), some (.int v1), some (.int v2)], [.int (kI 0)], SH, w)) rfl ?_
    refine EV.ret cl_187 rfl rfl rfl ?_
    exact i1 h1
  · skip
    refine EV.steps cl_187 3 (q2 := (15, [some (.ref 110), some (.int v1), some (.int v2)], [.int v2, .ref 119], SH, w)) rfl ?_
    refine EV.iaload cl_187 rfl rfl (by decide) (i2 h1) ?_
    refine EV.steps cl_187 1 (q2 := (18, [some (.ref 110), some (.int v1), some (.int v2)], [.int (kI 1048576), .int (w 119 v2.toNatClampNeg)], SH, w)) rfl ?_
    refine EV.idiv cl_187 rfl (by decide) ?_
    refine EV.steps cl_187 1 (q2 := (21, [some (.ref 110), some (.int v1), some (.int v2)], [.int (kI 14), .int ((w 119 v2.toNatClampNeg) / (kI 1048576))], SH, w)) rfl ?_
    refine EV.i_ne cl_187 rfl (fun h2 => ?_) (fun h2 => ?_)
    · skip
      refine EV.steps cl_187 2 (q2 := (2, [some (.ref 110), some (.int v1), some (.int (v2 + (kI 1)))], [], SH, w)) rfl ?_
      exact i3 h1 h2
    · skip
      refine EV.steps cl_187 1 (q2 := (25, [some (.ref 110), some (.int v1), some (.int v2)], [.int (kI 1)], SH, w)) rfl ?_
      refine EV.ret cl_187 rfl rfl rfl ?_
      exact i4 h1 h2
set_option maxRecDepth 20000 in
theorem cl_189 : RCT[189]? = some rc_189 := rfl
theorem s_189_110_at0 {X : Scr} {d : Nat} {Q : Option Value → Sh → Wd → Prop} (w : Wd)  (i1 : (¬ (w 110 17) = 0 → (inB ((w 110 17) - (kI 1)) 260 = true))) (i2 : ¬ (F_182_110 w) = (kI 10) → (Q (none) SH w)) (i3 : (F_182_110 w) = (kI 10) → ((inB (w 110 16) 260 = true))) (i4 : (F_182_110 w) = (kI 10) → (EV X (d + 1) 189 (0, [some (.ref 110)], [], SH, (up2 (up2 (G_180_110 (kI 10) (kI 0) w) 110 17 (((G_180_110 (kI 10) (kI 0) w) 110 17) - (kI 1))) 110 15 (((G_180_110 (kI 10) (kI 0) w) 110 15) - (kI 1)))) Q)) : EV X (d + 1) 189 (0, [some (.ref 110)], [], SH, w) Q := by
  refine EV.steps cl_189 1 (q2 := (1, [some (.ref 110)], [.ref 110], SH, w)) rfl ?_
  refine EV.callF (kc := 182) (av := [.ref 110]) (r := []) (rv := some (.int (F_182_110 w))) (w2 := w) cl_189 rfl rfl rfl (m_182_110 w  (i1)) ?_
  refine EV.steps cl_189 1 (q2 := (6, [some (.ref 110)], [.int (kI 10), .int (F_182_110 w)], SH, w)) rfl ?_
  refine EV.i_ne cl_189 rfl (fun h1 => ?_) (fun h1 => ?_)
  · skip
    refine EV.ret cl_189 rfl rfl rfl ?_
    exact i2 h1
  · skip
    refine EV.steps cl_189 3 (q2 := (13, [some (.ref 110)], [.int (kI 0), .int (kI 10), .ref 110], SH, w)) rfl ?_
    refine EV.callF (kc := 180) (av := [.ref 110, .int (kI 10), .int (kI 0)]) (r := []) (rv := none) (w2 := (G_180_110 (kI 10) (kI 0) w)) cl_189 rfl rfl rfl (m_180_110 w (kI 10) (kI 0) (i3 h1)) ?_
    refine EV.steps cl_189 13 (q2 := (0, [some (.ref 110)], [], SH, (up2 (up2 (G_180_110 (kI 10) (kI 0) w) 110 17 (((G_180_110 (kI 10) (kI 0) w) 110 17) - (kI 1))) 110 15 (((G_180_110 (kI 10) (kI 0) w) 110 15) - (kI 1))))) rfl ?_
    exact i4 h1
set_option maxRecDepth 20000 in
theorem cl_190 : RCT[190]? = some rc_190 := rfl
theorem s_190_110_at0 {X : Scr} {d : Nat} {Q : Option Value → Sh → Wd → Prop} (w : Wd) (v1 : Int32) (i1 : (¬ (w 110 17) = 0 → (inB ((w 110 17) - (kI 1)) 260 = true))) (i2 : (F_182_110 w) = (kI 11) → (inB ((w 110 17) - (kI 1)) 260 = true)) (i3 : (F_182_110 w) = (kI 11) → (inB ((w 119 ((w 110 17) - (kI 1)).toNatClampNeg) - (w 119 ((w 110 17) - (kI 1)).toNatClampNeg) / (kI 1048576) * (kI 1048576)) 260 = true)) (i4 : (F_182_110 w) = (kI 11) → (EV X (d + 1) 190 (0, [some (.ref 110), some (.int v1), some (.int ((w 119 ((w 110 17) - (kI 1)).toNatClampNeg) - (w 119 ((w 110 17) - (kI 1)).toNatClampNeg) / (kI 1048576) * (kI 1048576)))], [], SH, (up2 (up2 w 118 ((w 119 ((w 110 17) - (kI 1)).toNatClampNeg) - (w 119 ((w 110 17) - (kI 1)).toNatClampNeg) / (kI 1048576) * (kI 1048576)).toNatClampNeg (((kI 1048576) * ((w 118 ((w 119 ((w 110 17) - (kI 1)).toNatClampNeg) - (w 119 ((w 110 17) - (kI 1)).toNatClampNeg) / (kI 1048576) * (kI 1048576)).toNatClampNeg) / (kI 1048576))) + (w 110 16))) 110 17 ((w 110 17) - (kI 1)))) Q)) (i5 : ¬ (F_182_110 w) = (kI 11) → v1 = 0 → (Q (none) SH w)) (i6 : ¬ (F_182_110 w) = (kI 11) → ¬ v1 = 0 → (¬ (w 110 17) = 0 → (inB ((w 110 17) - (kI 1)) 260 = true))) (i7 : ¬ (F_182_110 w) = (kI 11) → ¬ v1 = 0 → ¬ (F_182_110 w) = (kI 12) → (Q (none) SH w)) (i8 : ¬ (F_182_110 w) = (kI 11) → ¬ v1 = 0 → (F_182_110 w) = (kI 12) → (inB ((w 110 17) - (kI 1)) 260 = true)) (i9 : ¬ (F_182_110 w) = (kI 11) → ¬ v1 = 0 → (F_182_110 w) = (kI 12) → (inB ((w 119 ((w 110 17) - (kI 1)).toNatClampNeg) - (w 119 ((w 110 17) - (kI 1)).toNatClampNeg) / (kI 1048576) * (kI 1048576)) 260 = true)) (i10 : ¬ (F_182_110 w) = (kI 11) → ¬ v1 = 0 → (F_182_110 w) = (kI 12) → (EV X (d + 1) 190 (0, [some (.ref 110), some (.int v1), some (.int ((w 119 ((w 110 17) - (kI 1)).toNatClampNeg) - (w 119 ((w 110 17) - (kI 1)).toNatClampNeg) / (kI 1048576) * (kI 1048576)))], [], SH, (up2 (up2 w 118 ((w 119 ((w 110 17) - (kI 1)).toNatClampNeg) - (w 119 ((w 110 17) - (kI 1)).toNatClampNeg) / (kI 1048576) * (kI 1048576)).toNatClampNeg (((kI 1048576) * ((w 118 ((w 119 ((w 110 17) - (kI 1)).toNatClampNeg) - (w 119 ((w 110 17) - (kI 1)).toNatClampNeg) / (kI 1048576) * (kI 1048576)).toNatClampNeg) / (kI 1048576))) + (w 110 16))) 110 17 ((w 110 17) - (kI 1)))) Q)) : EV X (d + 1) 190 (0, [some (.ref 110), some (.int v1), none], [], SH, w) Q := by
  refine EV.steps cl_190 1 (q2 := (1, [some (.ref 110), some (.int v1), none], [.ref 110], SH, w)) rfl ?_
  refine EV.callF (kc := 182) (av := [.ref 110]) (r := []) (rv := some (.int (F_182_110 w))) (w2 := w) cl_190 rfl rfl rfl (m_182_110 w  (i1)) ?_
  refine EV.steps cl_190 1 (q2 := (6, [some (.ref 110), some (.int v1), none], [.int (kI 11), .int (F_182_110 w)], SH, w)) rfl ?_
  refine EV.i_eq cl_190 rfl (fun h1 => ?_) (fun h1 => ?_)
  · skip
    refine EV.steps cl_190 6 (q2 := (32, [some (.ref 110), some (.int v1), none], [.int ((w 110 17) - (kI 1)), .ref 119], SH, w)) rfl ?_
    refine EV.iaload cl_190 rfl rfl (by decide) (i2 h1) ?_
    refine EV.steps cl_190 1 (q2 := (35, [some (.ref 110), some (.int v1), none], [.int (kI 1048576), .int (w 119 ((w 110 17) - (kI 1)).toNatClampNeg)], SH, w)) rfl ?_
    refine EV.irem cl_190 rfl (by decide) ?_
    refine EV.steps cl_190 8 (q2 := (49, [some (.ref 110), some (.int v1), some (.int ((w 119 ((w 110 17) - (kI 1)).toNatClampNeg) - (w 119 ((w 110 17) - (kI 1)).toNatClampNeg) / (kI 1048576) * (kI 1048576)))], [.int ((w 119 ((w 110 17) - (kI 1)).toNatClampNeg) - (w 119 ((w 110 17) - (kI 1)).toNatClampNeg) / (kI 1048576) * (kI 1048576)), .ref 118, .int (kI 1048576), .int ((w 119 ((w 110 17) - (kI 1)).toNatClampNeg) - (w 119 ((w 110 17) - (kI 1)).toNatClampNeg) / (kI 1048576) * (kI 1048576)), .ref 118], SH, w)) rfl ?_
    refine EV.iaload cl_190 rfl rfl (by decide) (i3 h1) ?_
    refine EV.steps cl_190 1 (q2 := (52, [some (.ref 110), some (.int v1), some (.int ((w 119 ((w 110 17) - (kI 1)).toNatClampNeg) - (w 119 ((w 110 17) - (kI 1)).toNatClampNeg) / (kI 1048576) * (kI 1048576)))], [.int (kI 1048576), .int (w 118 ((w 119 ((w 110 17) - (kI 1)).toNatClampNeg) - (w 119 ((w 110 17) - (kI 1)).toNatClampNeg) / (kI 1048576) * (kI 1048576)).toNatClampNeg), .int (kI 1048576), .int ((w 119 ((w 110 17) - (kI 1)).toNatClampNeg) - (w 119 ((w 110 17) - (kI 1)).toNatClampNeg) / (kI 1048576) * (kI 1048576)), .ref 118], SH, w)) rfl ?_
    refine EV.idiv cl_190 rfl (by decide) ?_
    refine EV.steps cl_190 4 (q2 := (59, [some (.ref 110), some (.int v1), some (.int ((w 119 ((w 110 17) - (kI 1)).toNatClampNeg) - (w 119 ((w 110 17) - (kI 1)).toNatClampNeg) / (kI 1048576) * (kI 1048576)))], [.int (((kI 1048576) * ((w 118 ((w 119 ((w 110 17) - (kI 1)).toNatClampNeg) - (w 119 ((w 110 17) - (kI 1)).toNatClampNeg) / (kI 1048576) * (kI 1048576)).toNatClampNeg) / (kI 1048576))) + (w 110 16)), .int ((w 119 ((w 110 17) - (kI 1)).toNatClampNeg) - (w 119 ((w 110 17) - (kI 1)).toNatClampNeg) / (kI 1048576) * (kI 1048576)), .ref 118], SH, w)) rfl ?_
    refine EV.iastore cl_190 rfl rfl (by decide) (i3 h1) ?_
    refine EV.steps cl_190 7 (q2 := (0, [some (.ref 110), some (.int v1), some (.int ((w 119 ((w 110 17) - (kI 1)).toNatClampNeg) - (w 119 ((w 110 17) - (kI 1)).toNatClampNeg) / (kI 1048576) * (kI 1048576)))], [], SH, (up2 (up2 w 118 ((w 119 ((w 110 17) - (kI 1)).toNatClampNeg) - (w 119 ((w 110 17) - (kI 1)).toNatClampNeg) / (kI 1048576) * (kI 1048576)).toNatClampNeg (((kI 1048576) * ((w 118 ((w 119 ((w 110 17) - (kI 1)).toNatClampNeg) - (w 119 ((w 110 17) - (kI 1)).toNatClampNeg) / (kI 1048576) * (kI 1048576)).toNatClampNeg) / (kI 1048576))) + (w 110 16))) 110 17 ((w 110 17) - (kI 1))))) rfl ?_
    exact i4 h1
  · skip
    refine EV.steps cl_190 1 (q2 := (10, [some (.ref 110), some (.int v1), none], [.int v1], SH, w)) rfl ?_
    refine EV.z_eq cl_190 rfl (fun h2 => ?_) (fun h2 => ?_)
    · skip
      refine EV.ret cl_190 rfl rfl rfl ?_
      exact i5 h1 h2
    · skip
      refine EV.steps cl_190 1 (q2 := (14, [some (.ref 110), some (.int v1), none], [.ref 110], SH, w)) rfl ?_
      refine EV.callF (kc := 182) (av := [.ref 110]) (r := []) (rv := some (.int (F_182_110 w))) (w2 := w) cl_190 rfl rfl rfl (m_182_110 w  (i6 h1 h2)) ?_
      refine EV.steps cl_190 1 (q2 := (19, [some (.ref 110), some (.int v1), none], [.int (kI 12), .int (F_182_110 w)], SH, w)) rfl ?_
      refine EV.i_ne cl_190 rfl (fun h3 => ?_) (fun h3 => ?_)
      · skip
        refine EV.ret cl_190 rfl rfl rfl ?_
        exact i7 h1 h2 h3
      · skip
        refine EV.steps cl_190 6 (q2 := (32, [some (.ref 110), some (.int v1), none], [.int ((w 110 17) - (kI 1)), .ref 119], SH, w)) rfl ?_
        refine EV.iaload cl_190 rfl rfl (by decide) (i8 h1 h2 h3) ?_
        refine EV.steps cl_190 1 (q2 := (35, [some (.ref 110), some (.int v1), none], [.int (kI 1048576), .int (w 119 ((w 110 17) - (kI 1)).toNatClampNeg)], SH, w)) rfl ?_
        refine EV.irem cl_190 rfl (by decide) ?_
        refine EV.steps cl_190 8 (q2 := (49, [some (.ref 110), some (.int v1), some (.int ((w 119 ((w 110 17) - (kI 1)).toNatClampNeg) - (w 119 ((w 110 17) - (kI 1)).toNatClampNeg) / (kI 1048576) * (kI 1048576)))], [.int ((w 119 ((w 110 17) - (kI 1)).toNatClampNeg) - (w 119 ((w 110 17) - (kI 1)).toNatClampNeg) / (kI 1048576) * (kI 1048576)), .ref 118, .int (kI 1048576), .int ((w 119 ((w 110 17) - (kI 1)).toNatClampNeg) - (w 119 ((w 110 17) - (kI 1)).toNatClampNeg) / (kI 1048576) * (kI 1048576)), .ref 118], SH, w)) rfl ?_
        refine EV.iaload cl_190 rfl rfl (by decide) (i9 h1 h2 h3) ?_
        refine EV.steps cl_190 1 (q2 := (52, [some (.ref 110), some (.int v1), some (.int ((w 119 ((w 110 17) - (kI 1)).toNatClampNeg) - (w 119 ((w 110 17) - (kI 1)).toNatClampNeg) / (kI 1048576) * (kI 1048576)))], [.int (kI 1048576), .int (w 118 ((w 119 ((w 110 17) - (kI 1)).toNatClampNeg) - (w 119 ((w 110 17) - (kI 1)).toNatClampNeg) / (kI 1048576) * (kI 1048576)).toNatClampNeg), .int (kI 1048576), .int ((w 119 ((w 110 17) - (kI 1)).toNatClampNeg) - (w 119 ((w 110 17) - (kI 1)).toNatClampNeg) / (kI 1048576) * (kI 1048576)), .ref 118], SH, w)) rfl ?_
        refine EV.idiv cl_190 rfl (by decide) ?_
        refine EV.steps cl_190 4 (q2 := (59, [some (.ref 110), some (.int v1), some (.int ((w 119 ((w 110 17) - (kI 1)).toNatClampNeg) - (w 119 ((w 110 17) - (kI 1)).toNatClampNeg) / (kI 1048576) * (kI 1048576)))], [.int (((kI 1048576) * ((w 118 ((w 119 ((w 110 17) - (kI 1)).toNatClampNeg) - (w 119 ((w 110 17) - (kI 1)).toNatClampNeg) / (kI 1048576) * (kI 1048576)).toNatClampNeg) / (kI 1048576))) + (w 110 16)), .int ((w 119 ((w 110 17) - (kI 1)).toNatClampNeg) - (w 119 ((w 110 17) - (kI 1)).toNatClampNeg) / (kI 1048576) * (kI 1048576)), .ref 118], SH, w)) rfl ?_
        refine EV.iastore cl_190 rfl rfl (by decide) (i9 h1 h2 h3) ?_
        refine EV.steps cl_190 7 (q2 := (0, [some (.ref 110), some (.int v1), some (.int ((w 119 ((w 110 17) - (kI 1)).toNatClampNeg) - (w 119 ((w 110 17) - (kI 1)).toNatClampNeg) / (kI 1048576) * (kI 1048576)))], [], SH, (up2 (up2 w 118 ((w 119 ((w 110 17) - (kI 1)).toNatClampNeg) - (w 119 ((w 110 17) - (kI 1)).toNatClampNeg) / (kI 1048576) * (kI 1048576)).toNatClampNeg (((kI 1048576) * ((w 118 ((w 119 ((w 110 17) - (kI 1)).toNatClampNeg) - (w 119 ((w 110 17) - (kI 1)).toNatClampNeg) / (kI 1048576) * (kI 1048576)).toNatClampNeg) / (kI 1048576))) + (w 110 16))) 110 17 ((w 110 17) - (kI 1))))) rfl ?_
        exact i10 h1 h2 h3
set_option maxRecDepth 20000 in
theorem cl_198 : RCT[198]? = some rc_198 := rfl
theorem s_198_110_at0 {X : Scr} {d : Nat} {Q : Option Value → Sh → Wd → Prop} (w : Wd) (v1 : Int32) (v2 : Int32) (i1 : (EV X (d + 1) 198 (16, [some (.ref 110), some (.int v1), some (.int v2), some (.int (kI 0)), some (.int ((kI 260) * (v1 / (kI 260)))), some (.int v1), none, none], [], SH, w) Q)) : EV X (d + 1) 198 (0, [some (.ref 110), some (.int v1), some (.int v2), none, none, none, none, none], [], SH, w) Q := by
  refine EV.steps cl_198 5 (q2 := (9, [some (.ref 110), some (.int v1), some (.int v2), some (.int (kI 0)), none, none, none, none], [.int (kI 260), .int v1, .int (kI 260)], SH, w)) rfl ?_
  refine EV.idiv cl_198 rfl (by decide) ?_
  refine EV.steps cl_198 4 (q2 := (16, [some (.ref 110), some (.int v1), some (.int v2), some (.int (kI 0)), some (.int ((kI 260) * (v1 / (kI 260)))), some (.int v1), none, none], [], SH, w)) rfl ?_
  exact i1
theorem s_198_110_at16 {X : Scr} {d : Nat} {Q : Option Value → Sh → Wd → Prop} (w : Wd) (v1 : Int32) (v2 : Int32) (v3 : Int32) (v4 : Int32) (v5 : Int32) (i1 : v2 ≤ v5 → (Q (some (.int (w 129 (kI 0).toNatClampNeg))) SH w)) (i2 : ¬ v2 ≤ v5 → (inB v5 260 = true)) (i3 : ¬ v2 ≤ v5 → ((w 124 v5.toNatClampNeg) / (kI 1048576)) = 0 → (inB v3 260 = true)) (i4 : ¬ v2 ≤ v5 → ((w 124 v5.toNatClampNeg) / (kI 1048576)) = 0 → (EV X (d + 1) 198 (16, [some (.ref 110), some (.int v1), some (.int v2), some (.int (v3 + (kI 1))), some (.int v4), some (.int (v5 + (kI 1))), some (.int ((w 124 v5.toNatClampNeg) / (kI 1048576))), some (.int ((w 124 v5.toNatClampNeg) - (w 124 v5.toNatClampNeg) / (kI 1048576) * (kI 1048576)))], [], SH, (up2 w 129 v3.toNatClampNeg ((w 124 v5.toNatClampNeg) - (w 124 v5.toNatClampNeg) / (kI 1048576) * (kI 1048576)))) Q)) (i5 : ¬ v2 ≤ v5 → ¬ ((w 124 v5.toNatClampNeg) / (kI 1048576)) = 0 → ¬ ((w 124 v5.toNatClampNeg) / (kI 1048576)) = (kI 1) → ¬ ((w 124 v5.toNatClampNeg) / (kI 1048576)) = (kI 10) → ((w 124 v5.toNatClampNeg) / (kI 1048576)) = (kI 11) → (inB (v3 - (kI 1)) 260 = true)) (i6 : ¬ v2 ≤ v5 → ¬ ((w 124 v5.toNatClampNeg) / (kI 1048576)) = 0 → ¬ ((w 124 v5.toNatClampNeg) / (kI 1048576)) = (kI 1) → ¬ ((w 124 v5.toNatClampNeg) / (kI 1048576)) = (kI 10) → ((w 124 v5.toNatClampNeg) / (kI 1048576)) = (kI 11) → ¬ ((w 124 v5.toNatClampNeg) / (kI 1048576)) = (kI 12) → ¬ (w 129 (v3 - (kI 1)).toNatClampNeg) = (kI 0) → (EV X (d + 1) 198 (16, [some (.ref 110), some (.int v1), some (.int v2), some (.int (v3 - (kI 1))), some (.int v4), some (.int (v5 + (kI 1))), some (.int ((w 124 v5.toNatClampNeg) / (kI 1048576))), some (.int ((w 124 v5.toNatClampNeg) - (w 124 v5.toNatClampNeg) / (kI 1048576) * (kI 1048576)))], [], SH, w) Q)) (i7 : ¬ v2 ≤ v5 → ¬ ((w 124 v5.toNatClampNeg) / (kI 1048576)) = 0 → ¬ ((w 124 v5.toNatClampNeg) / (kI 1048576)) = (kI 1) → ¬ ((w 124 v5.toNatClampNeg) / (kI 1048576)) = (kI 10) → ((w 124 v5.toNatClampNeg) / (kI 1048576)) = (kI 11) → ¬ ((w 124 v5.toNatClampNeg) / (kI 1048576)) = (kI 12) → (w 129 (v3 - (kI 1)).toNatClampNeg) = (kI 0) → (EV X (d + 1) 198 (16, [some (.ref 110), some (.int v1), some (.int v2), some (.int v3), some (.int v4), some (.int (v4 + ((w 124 v5.toNatClampNeg) - (w 124 v5.toNatClampNeg) / (kI 1048576) * (kI 1048576)))), some (.int ((w 124 v5.toNatClampNeg) / (kI 1048576))), some (.int ((w 124 v5.toNatClampNeg) - (w 124 v5.toNatClampNeg) / (kI 1048576) * (kI 1048576)))], [], SH, w) Q)) (i8 : ¬ v2 ≤ v5 → ¬ ((w 124 v5.toNatClampNeg) / (kI 1048576)) = 0 → ¬ ((w 124 v5.toNatClampNeg) / (kI 1048576)) = (kI 1) → ¬ ((w 124 v5.toNatClampNeg) / (kI 1048576)) = (kI 10) → ((w 124 v5.toNatClampNeg) / (kI 1048576)) = (kI 11) → ((w 124 v5.toNatClampNeg) / (kI 1048576)) = (kI 12) → ¬ (w 129 (v3 - (kI 1)).toNatClampNeg) = (kI 1) → (EV X (d + 1) 198 (16, [some (.ref 110), some (.int v1), some (.int v2), some (.int (v3 - (kI 1))), some (.int v4), some (.int (v5 + (kI 1))), some (.int ((w 124 v5.toNatClampNeg) / (kI 1048576))), some (.int ((w 124 v5.toNatClampNeg) - (w 124 v5.toNatClampNeg) / (kI 1048576) * (kI 1048576)))], [], SH, w) Q)) (i9 : ¬ v2 ≤ v5 → ¬ ((w 124 v5.toNatClampNeg) / (kI 1048576)) = 0 → ¬ ((w 124 v5.toNatClampNeg) / (kI 1048576)) = (kI 1) → ¬ ((w 124 v5.toNatClampNeg) / (kI 1048576)) = (kI 10) → ((w 124 v5.toNatClampNeg) / (kI 1048576)) = (kI 11) → ((w 124 v5.toNatClampNeg) / (kI 1048576)) = (kI 12) → (w 129 (v3 - (kI 1)).toNatClampNeg) = (kI 1) → (EV X (d + 1) 198 (16, [some (.ref 110), some (.int v1), some (.int v2), some (.int v3), some (.int v4), some (.int (v4 + ((w 124 v5.toNatClampNeg) - (w 124 v5.toNatClampNeg) / (kI 1048576) * (kI 1048576)))), some (.int ((w 124 v5.toNatClampNeg) / (kI 1048576))), some (.int ((w 124 v5.toNatClampNeg) - (w 124 v5.toNatClampNeg) / (kI 1048576) * (kI 1048576)))], [], SH, w) Q)) (i10 : ¬ v2 ≤ v5 → ¬ ((w 124 v5.toNatClampNeg) / (kI 1048576)) = 0 → ¬ ((w 124 v5.toNatClampNeg) / (kI 1048576)) = (kI 1) → ¬ ((w 124 v5.toNatClampNeg) / (kI 1048576)) = (kI 10) → ¬ ((w 124 v5.toNatClampNeg) / (kI 1048576)) = (kI 11) → ¬ ((w 124 v5.toNatClampNeg) / (kI 1048576)) = (kI 12) → ((w 124 v5.toNatClampNeg) / (kI 1048576)) = (kI 5) → (inB (v3 - (kI 1)) 260 = true)) (i11 : ¬ v2 ≤ v5 → ¬ ((w 124 v5.toNatClampNeg) / (kI 1048576)) = 0 → ¬ ((w 124 v5.toNatClampNeg) / (kI 1048576)) = (kI 1) → ¬ ((w 124 v5.toNatClampNeg) / (kI 1048576)) = (kI 10) → ¬ ((w 124 v5.toNatClampNeg) / (kI 1048576)) = (kI 11) → ¬ ((w 124 v5.toNatClampNeg) / (kI 1048576)) = (kI 12) → ((w 124 v5.toNatClampNeg) / (kI 1048576)) = (kI 5) → ¬ (w 129 (v3 - (kI 1)).toNatClampNeg) = 0 → (inB ((v3 - (kI 1)) - (kI 1)) 260 = true)) (i12 : ¬ v2 ≤ v5 → ¬ ((w 124 v5.toNatClampNeg) / (kI 1048576)) = 0 → ¬ ((w 124 v5.toNatClampNeg) / (kI 1048576)) = (kI 1) → ¬ ((w 124 v5.toNatClampNeg) / (kI 1048576)) = (kI 10) → ¬ ((w 124 v5.toNatClampNeg) / (kI 1048576)) = (kI 11) → ¬ ((w 124 v5.toNatClampNeg) / (kI 1048576)) = (kI 12) → ((w 124 v5.toNatClampNeg) / (kI 1048576)) = (kI 5) → ¬ (w 129 (v3 - (kI 1)).toNatClampNeg) = 0 → (inB (v3 - (kI 1)) 260 = true)) (i13 : ¬ v2 ≤ v5 → ¬ ((w 124 v5.toNatClampNeg) / (kI 1048576)) = 0 → ¬ ((w 124 v5.toNatClampNeg) / (kI 1048576)) = (kI 1) → ¬ ((w 124 v5.toNatClampNeg) / (kI 1048576)) = (kI 10) → ¬ ((w 124 v5.toNatClampNeg) / (kI 1048576)) = (kI 11) → ¬ ((w 124 v5.toNatClampNeg) / (kI 1048576)) = (kI 12) → ((w 124 v5.toNatClampNeg) / (kI 1048576)) = (kI 5) → ¬ (w 129 (v3 - (kI 1)).toNatClampNeg) = 0 → (¬ ((w 124 v5.toNatClampNeg) / (kI 1048576)) = (kI 2) → ¬ ((w 124 v5.toNatClampNeg) / (kI 1048576)) = (kI 3) → ¬ ((w 124 v5.toNatClampNeg) / (kI 1048576)) = (kI 4) → ((w 124 v5.toNatClampNeg) / (kI 1048576)) = (kI 5) → (¬ (w 129 (v3 - (kI 1)).toNatClampNeg) = 0))) (i14 : ¬ v2 ≤ v5 → ¬ ((w 124 v5.toNatClampNeg) / (kI 1048576)) = 0 → ¬ ((w 124 v5.toNatClampNeg) / (kI 1048576)) = (kI 1) → ¬ ((w 124 v5.toNatClampNeg) / (kI 1048576)) = (kI 10) → ¬ ((w 124 v5.toNatClampNeg) / (kI 1048576)) = (kI 11) → ¬ ((w 124 v5.toNatClampNeg) / (kI 1048576)) = (kI 12) → ((w 124 v5.toNatClampNeg) / (kI 1048576)) = (kI 5) → ¬ (w 129 (v3 - (kI 1)).toNatClampNeg) = 0 → (¬ ((w 124 v5.toNatClampNeg) / (kI 1048576)) = (kI 2) → ¬ ((w 124 v5.toNatClampNeg) / (kI 1048576)) = (kI 3) → ¬ ((w 124 v5.toNatClampNeg) / (kI 1048576)) = (kI 4) → ¬ ((w 124 v5.toNatClampNeg) / (kI 1048576)) = (kI 5) → ((w 124 v5.toNatClampNeg) / (kI 1048576)) = (kI 6) → (¬ (w 129 (v3 - (kI 1)).toNatClampNeg) = 0))) (i15 : ¬ v2 ≤ v5 → ¬ ((w 124 v5.toNatClampNeg) / (kI 1048576)) = 0 → ¬ ((w 124 v5.toNatClampNeg) / (kI 1048576)) = (kI 1) → ¬ ((w 124 v5.toNatClampNeg) / (kI 1048576)) = (kI 10) → ¬ ((w 124 v5.toNatClampNeg) / (kI 1048576)) = (kI 11) → ¬ ((w 124 v5.toNatClampNeg) / (kI 1048576)) = (kI 12) → ((w 124 v5.toNatClampNeg) / (kI 1048576)) = (kI 5) → ¬ (w 129 (v3 - (kI 1)).toNatClampNeg) = 0 → (EV X (d + 1) 198 (16, [some (.ref 110), some (.int v1), some (.int v2), some (.int (v3 - (kI 1))), some (.int v4), some (.int (v5 + (kI 1))), some (.int ((w 124 v5.toNatClampNeg) / (kI 1048576))), some (.int ((w 124 v5.toNatClampNeg) - (w 124 v5.toNatClampNeg) / (kI 1048576) * (kI 1048576)))], [], SH, (up2 w 129 ((v3 - (kI 1)) - (kI 1)).toNatClampNeg (F_197 ((w 124 v5.toNatClampNeg) / (kI 1048576)) (w 129 ((v3 - (kI 1)) - (kI 1)).toNatClampNeg) (w 129 (v3 - (kI 1)).toNatClampNeg) w))) Q)) (i16 : ¬ v2 ≤ v5 → ¬ ((w 124 v5.toNatClampNeg) / (kI 1048576)) = 0 → ¬ ((w 124 v5.toNatClampNeg) / (kI 1048576)) = (kI 1) → ¬ ((w 124 v5.toNatClampNeg) / (kI 1048576)) = (kI 10) → ¬ ((w 124 v5.toNatClampNeg) / (kI 1048576)) = (kI 11) → ¬ ((w 124 v5.toNatClampNeg) / (kI 1048576)) = (kI 12) → ((w 124 v5.toNatClampNeg) / (kI 1048576)) = (kI 5) → (w 129 (v3 - (kI 1)).toNatClampNeg) = 0 → (Q (some (.int (kI 0))) SH w)) (i17 : ¬ v2 ≤ v5 → ¬ ((w 124 v5.toNatClampNeg) / (kI 1048576)) = 0 → ¬ ((w 124 v5.toNatClampNeg) / (kI 1048576)) = (kI 1) → ¬ ((w 124 v5.toNatClampNeg) / (kI 1048576)) = (kI 10) → ¬ ((w 124 v5.toNatClampNeg) / (kI 1048576)) = (kI 11) → ¬ ((w 124 v5.toNatClampNeg) / (kI 1048576)) = (kI 12) → ¬ ((w 124 v5.toNatClampNeg) / (kI 1048576)) = (kI 5) → ¬ ((w 124 v5.toNatClampNeg) / (kI 1048576)) = (kI 6) → (inB ((v3 - (kI 1)) - (kI 1)) 260 = true)) (i18 : ¬ v2 ≤ v5 → ¬ ((w 124 v5.toNatClampNeg) / (kI 1048576)) = 0 → ¬ ((w 124 v5.toNatClampNeg) / (kI 1048576)) = (kI 1) → ¬ ((w 124 v5.toNatClampNeg) / (kI 1048576)) = (kI 10) → ¬ ((w 124 v5.toNatClampNeg) / (kI 1048576)) = (kI 11) → ¬ ((w 124 v5.toNatClampNeg) / (kI 1048576)) = (kI 12) → ¬ ((w 124 v5.toNatClampNeg) / (kI 1048576)) = (kI 5) → ¬ ((w 124 v5.toNatClampNeg) / (kI 1048576)) = (kI 6) → (inB (v3 - (kI 1)) 260 = true)) (i19 : ¬ v2 ≤ v5 → ¬ ((w 124 v5.toNatClampNeg) / (kI 1048576)) = 0 → ¬ ((w 124 v5.toNatClampNeg) / (kI 1048576)) = (kI 1) → ¬ ((w 124 v5.toNatClampNeg) / (kI 1048576)) = (kI 10) → ¬ ((w 124 v5.toNatClampNeg) / (kI 1048576)) = (kI 11) → ¬ ((w 124 v5.toNatClampNeg) / (kI 1048576)) = (kI 12) → ¬ ((w 124 v5.toNatClampNeg) / (kI 1048576)) = (kI 5) → ¬ ((w 124 v5.toNatClampNeg) / (kI 1048576)) = (kI 6) → (¬ ((w 124 v5.toNatClampNeg) / (kI 1048576)) = (kI 2) → ¬ ((w 124 v5.toNatClampNeg) / (kI 1048576)) = (kI 3) → ¬ ((w 124 v5.toNatClampNeg) / (kI 1048576)) = (kI 4) → ((w 124 v5.toNatClampNeg) / (kI 1048576)) = (kI 5) → (¬ (w 129 (v3 - (kI 1)).toNatClampNeg) = 0))) (i20 : ¬ v2 ≤ v5 → ¬ ((w 124 v5.toNatClampNeg) / (kI 1048576)) = 0 → ¬ ((w 124 v5.toNatClampNeg) / (kI 1048576)) = (kI 1) → ¬ ((w 124 v5.toNatClampNeg) / (kI 1048576)) = (kI 10) → ¬ ((w 124 v5.toNatClampNeg) / (kI 1048576)) = (kI 11) → ¬ ((w 124 v5.toNatClampNeg) / (kI 1048576)) = (kI 12) → ¬ ((w 124 v5.toNatClampNeg) / (kI 1048576)) = (kI 5) → ¬ ((w 124 v5.toNatClampNeg) / (kI 1048576)) = (kI 6) → (¬ ((w 124 v5.toNatClampNeg) / (kI 1048576)) = (kI 2) → ¬ ((w 124 v5.toNatClampNeg) / (kI 1048576)) = (kI 3) → ¬ ((w 124 v5.toNatClampNeg) / (kI 1048576)) = (kI 4) → ¬ ((w 124 v5.toNatClampNeg) / (kI 1048576)) = (kI 5) → ((w 124 v5.toNatClampNeg) / (kI 1048576)) = (kI 6) → (¬ (w 129 (v3 - (kI 1)).toNatClampNeg) = 0))) (i21 : ¬ v2 ≤ v5 → ¬ ((w 124 v5.toNatClampNeg) / (kI 1048576)) = 0 → ¬ ((w 124 v5.toNatClampNeg) / (kI 1048576)) = (kI 1) → ¬ ((w 124 v5.toNatClampNeg) / (kI 1048576)) = (kI 10) → ¬ ((w 124 v5.toNatClampNeg) / (kI 1048576)) = (kI 11) → ¬ ((w 124 v5.toNatClampNeg) / (kI 1048576)) = (kI 12) → ¬ ((w 124 v5.toNatClampNeg) / (kI 1048576)) = (kI 5) → ¬ ((w 124 v5.toNatClampNeg) / (kI 1048576)) = (kI 6) → (EV X (d + 1) 198 (16, [some (.ref 110), some (.int v1), some (.int v2), some (.int (v3 - (kI 1))), some (.int v4), some (.int (v5 + (kI 1))), some (.int ((w 124 v5.toNatClampNeg) / (kI 1048576))), some (.int ((w 124 v5.toNatClampNeg) - (w 124 v5.toNatClampNeg) / (kI 1048576) * (kI 1048576)))], [], SH, (up2 w 129 ((v3 - (kI 1)) - (kI 1)).toNatClampNeg (F_197 ((w 124 v5.toNatClampNeg) / (kI 1048576)) (w 129 ((v3 - (kI 1)) - (kI 1)).toNatClampNeg) (w 129 (v3 - (kI 1)).toNatClampNeg) w))) Q)) (i22 : ¬ v2 ≤ v5 → ¬ ((w 124 v5.toNatClampNeg) / (kI 1048576)) = 0 → ¬ ((w 124 v5.toNatClampNeg) / (kI 1048576)) = (kI 1) → ¬ ((w 124 v5.toNatClampNeg) / (kI 1048576)) = (kI 10) → ¬ ((w 124 v5.toNatClampNeg) / (kI 1048576)) = (kI 11) → ¬ ((w 124 v5.toNatClampNeg) / (kI 1048576)) = (kI 12) → ¬ ((w 124 v5.toNatClampNeg) / (kI 1048576)) = (kI 5) → ((w 124 v5.toNatClampNeg) / (kI 1048576)) = (kI 6) → (inB (v3 - (kI 1)) 260 = true)) (i23 : ¬ v2 ≤ v5 → ¬ ((w 124 v5.toNatClampNeg) / (kI 1048576)) = 0 → ¬ ((w 124 v5.toNatClampNeg) / (kI 1048576)) = (kI 1) → ¬ ((w 124 v5.toNatClampNeg) / (kI 1048576)) = (kI 10) → ¬ ((w 124 v5.toNatClampNeg) / (kI 1048576)) = (kI 11) → ¬ ((w 124 v5.toNatClampNeg) / (kI 1048576)) = (kI 12) → ¬ ((w 124 v5.toNatClampNeg) / (kI 1048576)) = (kI 5) → ((w 124 v5.toNatClampNeg) / (kI 1048576)) = (kI 6) → ¬ (w 129 (v3 - (kI 1)).toNatClampNeg) = 0 → (inB ((v3 - (kI 1)) - (kI 1)) 260 = true)) (i24 : ¬ v2 ≤ v5 → ¬ ((w 124 v5.toNatClampNeg) / (kI 1048576)) = 0 → ¬ ((w 124 v5.toNatClampNeg) / (kI 1048576)) = (kI 1) → ¬ ((w 124 v5.toNatClampNeg) / (kI 1048576)) = (kI 10) → ¬ ((w 124 v5.toNatClampNeg) / (kI 1048576)) = (kI 11) → ¬ ((w 124 v5.toNatClampNeg) / (kI 1048576)) = (kI 12) → ¬ ((w 124 v5.toNatClampNeg) / (kI 1048576)) = (kI 5) → ((w 124 v5.toNatClampNeg) / (kI 1048576)) = (kI 6) → ¬ (w 129 (v3 - (kI 1)).toNatClampNeg) = 0 → (inB (v3 - (kI 1)) 260 = true)) (i25 : ¬ v2 ≤ v5 → ¬ ((w 124 v5.toNatClampNeg) / (kI 1048576)) = 0 → ¬ ((w 124 v5.toNatClampNeg) / (kI 1048576)) = (kI 1) → ¬ ((w 124 v5.toNatClampNeg) / (kI 1048576)) = (kI 10) → ¬ ((w 124 v5.toNatClampNeg) / (kI 1048576)) = (kI 11) → ¬ ((w 124 v5.toNatClampNeg) / (kI 1048576)) = (kI 12) → ¬ ((w 124 v5.toNatClampNeg) / (kI 1048576)) = (kI 5) → ((w 124 v5.toNatClampNeg) / (kI 1048576)) = (kI 6) → ¬ (w 129 (v3 - (kI 1)).toNatClampNeg) = 0 → (¬ ((w 124 v5.toNatClampNeg) / (kI 1048576)) = (kI 2) → ¬ ((w 124 v5.toNatClampNeg) / (kI 1048576)) = (kI 3) → ¬ ((w 124 v5.toNatClampNeg) / (kI 1048576)) = (kI 4) → ((w 124 v5.toNatClampNeg) / (kI 1048576)) = (kI 5) → (¬ (w 129 (v3 - (kI 1)).toNatClampNeg) = 0))) (i26 : ¬ v2 ≤ v5 → ¬ ((w 124 v5.toNatClampNeg) / (kI 1048576)) = 0 → ¬ ((w 124 v5.toNatClampNeg) / (kI 1048576)) = (kI 1) → ¬ ((w 124 v5.toNatClampNeg) / (kI 1048576)) = (kI 10) → ¬ ((w 124 v5.toNatClampNeg) / (kI 1048576)) = (kI 11) → ¬ ((w 124 v5.toNatClampNeg) / (kI 1048576)) = (kI 12) → ¬ ((w 124 v5.toNatClampNeg) / (kI 1048576)) = (kI 5) → ((w 124 v5.toNatClampNeg) / (kI 1048576)) = (kI 6) → ¬ (w 129 (v3 - (kI 1)).toNatClampNeg) = 0 → (¬ ((w 124 v5.toNatClampNeg) / (kI 1048576)) = (kI 2) → ¬ ((w 124 v5.toNatClampNeg) / (kI 1048576)) = (kI 3) → ¬ ((w 124 v5.toNatClampNeg) / (kI 1048576)) = (kI 4) → ¬ ((w 124 v5.toNatClampNeg) / (kI 1048576)) = (kI 5) → ((w 124 v5.toNatClampNeg) / (kI 1048576)) = (kI 6) → (¬ (w 129 (v3 - (kI 1)).toNatClampNeg) = 0))) (i27 : ¬ v2 ≤ v5 → ¬ ((w 124 v5.toNatClampNeg) / (kI 1048576)) = 0 → ¬ ((w 124 v5.toNatClampNeg) / (kI 1048576)) = (kI 1) → ¬ ((w 124 v5.toNatClampNeg) / (kI 1048576)) = (kI 10) → ¬ ((w 124 v5.toNatClampNeg) / (kI 1048576)) = (kI 11) → ¬ ((w 124 v5.toNatClampNeg) / (kI 1048576)) = (kI 12) → ¬ ((w 124 v5.toNatClampNeg) / (kI 1048576)) = (kI 5) → ((w 124 v5.toNatClampNeg) / (kI 1048576)) = (kI 6) → ¬ (w 129 (v3 - (kI 1)).toNatClampNeg) = 0 → (EV X (d + 1) 198 (16, [some (.ref 110), some (.int v1), some (.int v2), some (.int (v3 - (kI 1))), some (.int v4), some (.int (v5 + (kI 1))), some (.int ((w 124 v5.toNatClampNeg) / (kI 1048576))), some (.int ((w 124 v5.toNatClampNeg) - (w 124 v5.toNatClampNeg) / (kI 1048576) * (kI 1048576)))], [], SH, (up2 w 129 ((v3 - (kI 1)) - (kI 1)).toNatClampNeg (F_197 ((w 124 v5.toNatClampNeg) / (kI 1048576)) (w 129 ((v3 - (kI 1)) - (kI 1)).toNatClampNeg) (w 129 (v3 - (kI 1)).toNatClampNeg) w))) Q)) (i28 : ¬ v2 ≤ v5 → ¬ ((w 124 v5.toNatClampNeg) / (kI 1048576)) = 0 → ¬ ((w 124 v5.toNatClampNeg) / (kI 1048576)) = (kI 1) → ¬ ((w 124 v5.toNatClampNeg) / (kI 1048576)) = (kI 10) → ¬ ((w 124 v5.toNatClampNeg) / (kI 1048576)) = (kI 11) → ¬ ((w 124 v5.toNatClampNeg) / (kI 1048576)) = (kI 12) → ¬ ((w 124 v5.toNatClampNeg) / (kI 1048576)) = (kI 5) → ((w 124 v5.toNatClampNeg) / (kI 1048576)) = (kI 6) → (w 129 (v3 - (kI 1)).toNatClampNeg) = 0 → (Q (some (.int (kI 0))) SH w)) (i29 : ¬ v2 ≤ v5 → ¬ ((w 124 v5.toNatClampNeg) / (kI 1048576)) = 0 → ¬ ((w 124 v5.toNatClampNeg) / (kI 1048576)) = (kI 1) → ¬ ((w 124 v5.toNatClampNeg) / (kI 1048576)) = (kI 10) → ¬ ((w 124 v5.toNatClampNeg) / (kI 1048576)) = (kI 11) → ((w 124 v5.toNatClampNeg) / (kI 1048576)) = (kI 12) → (inB (v3 - (kI 1)) 260 = true)) (i30 : ¬ v2 ≤ v5 → ¬ ((w 124 v5.toNatClampNeg) / (kI 1048576)) = 0 → ¬ ((w 124 v5.toNatClampNeg) / (kI 1048576)) = (kI 1) → ¬ ((w 124 v5.toNatClampNeg) / (kI 1048576)) = (kI 10) → ¬ ((w 124 v5.toNatClampNeg) / (kI 1048576)) = (kI 11) → ((w 124 v5.toNatClampNeg) / (kI 1048576)) = (kI 12) → ¬ (w 129 (v3 - (kI 1)).toNatClampNeg) = (kI 1) → (EV X (d + 1) 198 (16, [some (.ref 110), some (.int v1), some (.int v2), some (.int (v3 - (kI 1))), some (.int v4), some (.int (v5 + (kI 1))), some (.int ((w 124 v5.toNatClampNeg) / (kI 1048576))), some (.int ((w 124 v5.toNatClampNeg) - (w 124 v5.toNatClampNeg) / (kI 1048576) * (kI 1048576)))], [], SH, w) Q)) (i31 : ¬ v2 ≤ v5 → ¬ ((w 124 v5.toNatClampNeg) / (kI 1048576)) = 0 → ¬ ((w 124 v5.toNatClampNeg) / (kI 1048576)) = (kI 1) → ¬ ((w 124 v5.toNatClampNeg) / (kI 1048576)) = (kI 10) → ¬ ((w 124 v5.toNatClampNeg) / (kI 1048576)) = (kI 11) → ((w 124 v5.toNatClampNeg) / (kI 1048576)) = (kI 12) → (w 129 (v3 - (kI 1)).toNatClampNeg) = (kI 1) → (EV X (d + 1) 198 (16, [some (.ref 110), some (.int v1), some (.int v2), some (.int v3), some (.int v4), some (.int (v4 + ((w 124 v5.toNatClampNeg) - (w 124 v5.toNatClampNeg) / (kI 1048576) * (kI 1048576)))), some (.int ((w 124 v5.toNatClampNeg) / (kI 1048576))), some (.int ((w 124 v5.toNatClampNeg) - (w 124 v5.toNatClampNeg) / (kI 1048576) * (kI 1048576)))], [], SH, w) Q)) (i32 : ¬ v2 ≤ v5 → ¬ ((w 124 v5.toNatClampNeg) / (kI 1048576)) = 0 → ¬ ((w 124 v5.toNatClampNeg) / (kI 1048576)) = (kI 1) → ((w 124 v5.toNatClampNeg) / (kI 1048576)) = (kI 10) → (inB (v3 - (kI 1)) 260 = true)) (i33 : ¬ v2 ≤ v5 → ¬ ((w 124 v5.toNatClampNeg) / (kI 1048576)) = 0 → ¬ ((w 124 v5.toNatClampNeg) / (kI 1048576)) = (kI 1) → ((w 124 v5.toNatClampNeg) / (kI 1048576)) = (kI 10) → (EV X (d + 1) 198 (16, [some (.ref 110), some (.int v1), some (.int v2), some (.int v3), some (.int v4), some (.int (v5 + (kI 1))), some (.int ((w 124 v5.toNatClampNeg) / (kI 1048576))), some (.int ((w 124 v5.toNatClampNeg) - (w 124 v5.toNatClampNeg) / (kI 1048576) * (kI 1048576)))], [], SH, (up2 w 129 (v3 - (kI 1)).toNatClampNeg ((kI 1) - (w 129 (v3 - (kI 1)).toNatClampNeg)))) Q)) (i34 : ¬ v2 ≤ v5 → ¬ ((w 124 v5.toNatClampNeg) / (kI 1048576)) = 0 → ((w 124 v5.toNatClampNeg) / (kI 1048576)) = (kI 1) → (inB ((w 124 v5.toNatClampNeg) - (w 124 v5.toNatClampNeg) / (kI 1048576) * (kI 1048576)) 12 = true)) (i35 : ¬ v2 ≤ v5 → ¬ ((w 124 v5.toNatClampNeg) / (kI 1048576)) = 0 → ((w 124 v5.toNatClampNeg) / (kI 1048576)) = (kI 1) → (inB v3 260 = true)) (i36 : ¬ v2 ≤ v5 → ¬ ((w 124 v5.toNatClampNeg) / (kI 1048576)) = 0 → ((w 124 v5.toNatClampNeg) / (kI 1048576)) = (kI 1) → (EV X (d + 1) 198 (16, [some (.ref 110), some (.int v1), some (.int v2), some (.int (v3 + (kI 1))), some (.int v4), some (.int (v5 + (kI 1))), some (.int ((w 124 v5.toNatClampNeg) / (kI 1048576))), some (.int ((w 124 v5.toNatClampNeg) - (w 124 v5.toNatClampNeg) / (kI 1048576) * (kI 1048576)))], [], SH, (up2 w 129 v3.toNatClampNeg (w 130 ((w 124 v5.toNatClampNeg) - (w 124 v5.toNatClampNeg) / (kI 1048576) * (kI 1048576)).toNatClampNeg))) Q)) : EV X (d + 1) 198 (16, [some (.ref 110), some (.int v1), some (.int v2), some (.int v3), some (.int v4), some (.int v5), none, none], [], SH, w) Q := by
  refine EV.steps cl_198 2 (q2 := (19, [some (.ref 110), some (.int v1), some (.int v2), some (.int v3), some (.int v4), some (.int v5), none, none], [.int v2, .int v5], SH, w)) rfl ?_
  refine EV.i_ge cl_198 rfl (fun h1 => ?_) (fun h1 => ?_)
  · skip
    refine EV.steps cl_198 3 (q2 := (238, [some (.ref 110), some (.int v1), some (.int v2), some (.int v3), some (.int v4), some (.int v5), none, none], [.int (kI 0), .ref 129], SH, w)) rfl ?_
    refine EV.iaload cl_198 rfl rfl (by decide) rfl ?_
    refine EV.ret cl_198 rfl rfl rfl ?_
    exact i1 h1
  · skip
    refine EV.steps cl_198 3 (q2 := (28, [some (.ref 110), some (.int v1), some (.int v2), some (.int v3), some (.int v4), some (.int v5), none, none], [.int v5, .ref 124], SH, w)) rfl ?_
    refine EV.iaload cl_198 rfl rfl (by decide) (i2 h1) ?_
    refine EV.steps cl_198 1 (q2 := (31, [some (.ref 110), some (.int v1), some (.int v2), some (.int v3), some (.int v4), some (.int v5), none, none], [.int (kI 1048576), .int (w 124 v5.toNatClampNeg)], SH, w)) rfl ?_
    refine EV.idiv cl_198 rfl (by decide) ?_
    refine EV.steps cl_198 4 (q2 := (40, [some (.ref 110), some (.int v1), some (.int v2), some (.int v3), some (.int v4), some (.int v5), some (.int ((w 124 v5.toNatClampNeg) / (kI 1048576))), none], [.int v5, .ref 124], SH, w)) rfl ?_
    refine EV.iaload cl_198 rfl rfl (by decide) (i2 h1) ?_
    refine EV.steps cl_198 1 (q2 := (43, [some (.ref 110), some (.int v1), some (.int v2), some (.int v3), some (.int v4), some (.int v5), some (.int ((w 124 v5.toNatClampNeg) / (kI 1048576))), none], [.int (kI 1048576), .int (w 124 v5.toNatClampNeg)], SH, w)) rfl ?_
    refine EV.irem cl_198 rfl (by decide) ?_
    refine EV.steps cl_198 6 (q2 := (54, [some (.ref 110), some (.int v1), some (.int v2), some (.int v3), some (.int v4), some (.int (v5 + (kI 1))), some (.int ((w 124 v5.toNatClampNeg) / (kI 1048576))), some (.int ((w 124 v5.toNatClampNeg) - (w 124 v5.toNatClampNeg) / (kI 1048576) * (kI 1048576)))], [.int ((w 124 v5.toNatClampNeg) / (kI 1048576))], SH, w)) rfl ?_
    refine EV.z_eq cl_198 rfl (fun h2 => ?_) (fun h2 => ?_)
    · skip
      refine EV.steps cl_198 4 (q2 := (70, [some (.ref 110), some (.int v1), some (.int v2), some (.int v3), some (.int v4), some (.int (v5 + (kI 1))), some (.int ((w 124 v5.toNatClampNeg) / (kI 1048576))), some (.int ((w 124 v5.toNatClampNeg) - (w 124 v5.toNatClampNeg) / (kI 1048576) * (kI 1048576)))], [.int ((w 124 v5.toNatClampNeg) / (kI 1048576)), .int v3, .ref 129], SH, w)) rfl ?_
      refine EV.z_ne cl_198 rfl (fun h3 => ?_) (fun h3 => ?_)
      · skip
        exact absurd h2 h3
      · skip
        refine EV.steps cl_198 2 (q2 := (85, [some (.ref 110), some (.int v1), some (.int v2), some (.int v3), some (.int v4), some (.int (v5 + (kI 1))), some (.int ((w 124 v5.toNatClampNeg) / (kI 1048576))), some (.int ((w 124 v5.toNatClampNeg) - (w 124 v5.toNatClampNeg) / (kI 1048576) * (kI 1048576)))], [.int ((w 124 v5.toNatClampNeg) - (w 124 v5.toNatClampNeg) / (kI 1048576) * (kI 1048576)), .int v3, .ref 129], SH, w)) rfl ?_
        refine EV.iastore cl_198 rfl rfl (by decide) (i3 h1 h2) ?_
        refine EV.steps cl_198 6 (q2 := (16, [some (.ref 110), some (.int v1), some (.int v2), some (.int (v3 + (kI 1))), some (.int v4), some (.int (v5 + (kI 1))), some (.int ((w 124 v5.toNatClampNeg) / (kI 1048576))), some (.int ((w 124 v5.toNatClampNeg) - (w 124 v5.toNatClampNeg) / (kI 1048576) * (kI 1048576)))], [], SH, (up2 w 129 v3.toNatClampNeg ((w 124 v5.toNatClampNeg) - (w 124 v5.toNatClampNeg) / (kI 1048576) * (kI 1048576))))) rfl ?_
        exact i4 h1 h2
    · skip
      refine EV.steps cl_198 2 (q2 := (60, [some (.ref 110), some (.int v1), some (.int v2), some (.int v3), some (.int v4), some (.int (v5 + (kI 1))), some (.int ((w 124 v5.toNatClampNeg) / (kI 1048576))), some (.int ((w 124 v5.toNatClampNeg) - (w 124 v5.toNatClampNeg) / (kI 1048576) * (kI 1048576)))], [.int (kI 1), .int ((w 124 v5.toNatClampNeg) / (kI 1048576))], SH, w)) rfl ?_
      refine EV.i_ne cl_198 rfl (fun h4 => ?_) (fun h4 => ?_)
      · skip
        refine EV.steps cl_198 2 (q2 := (97, [some (.ref 110), some (.int v1), some (.int v2), some (.int v3), some (.int v4), some (.int (v5 + (kI 1))), some (.int ((w 124 v5.toNatClampNeg) / (kI 1048576))), some (.int ((w 124 v5.toNatClampNeg) - (w 124 v5.toNatClampNeg) / (kI 1048576) * (kI 1048576)))], [.int (kI 10), .int ((w 124 v5.toNatClampNeg) / (kI 1048576))], SH, w)) rfl ?_
        refine EV.i_ne cl_198 rfl (fun h5 => ?_) (fun h5 => ?_)
        · skip
          refine EV.steps cl_198 2 (q2 := (125, [some (.ref 110), some (.int v1), some (.int v2), some (.int v3), some (.int v4), some (.int (v5 + (kI 1))), some (.int ((w 124 v5.toNatClampNeg) / (kI 1048576))), some (.int ((w 124 v5.toNatClampNeg) - (w 124 v5.toNatClampNeg) / (kI 1048576) * (kI 1048576)))], [.int (kI 11), .int ((w 124 v5.toNatClampNeg) / (kI 1048576))], SH, w)) rfl ?_
          refine EV.i_eq cl_198 rfl (fun h6 => ?_) (fun h6 => ?_)
          · skip
            refine EV.steps cl_198 5 (q2 := (142, [some (.ref 110), some (.int v1), some (.int v2), some (.int v3), some (.int v4), some (.int (v5 + (kI 1))), some (.int ((w 124 v5.toNatClampNeg) / (kI 1048576))), some (.int ((w 124 v5.toNatClampNeg) - (w 124 v5.toNatClampNeg) / (kI 1048576) * (kI 1048576)))], [.int (v3 - (kI 1)), .ref 129], SH, w)) rfl ?_
            refine EV.iaload cl_198 rfl rfl (by decide) (i5 h1 h2 h4 h5 h6) ?_
            refine EV.steps cl_198 2 (q2 := (147, [some (.ref 110), some (.int v1), some (.int v2), some (.int v3), some (.int v4), some (.int (v5 + (kI 1))), some (.int ((w 124 v5.toNatClampNeg) / (kI 1048576))), some (.int ((w 124 v5.toNatClampNeg) - (w 124 v5.toNatClampNeg) / (kI 1048576) * (kI 1048576)))], [.int (kI 12), .int ((w 124 v5.toNatClampNeg) / (kI 1048576)), .int (w 129 (v3 - (kI 1)).toNatClampNeg)], SH, w)) rfl ?_
            refine EV.i_ne cl_198 rfl (fun h7 => ?_) (fun h7 => ?_)
            · skip
              refine EV.steps cl_198 1 (q2 := (155, [some (.ref 110), some (.int v1), some (.int v2), some (.int v3), some (.int v4), some (.int (v5 + (kI 1))), some (.int ((w 124 v5.toNatClampNeg) / (kI 1048576))), some (.int ((w 124 v5.toNatClampNeg) - (w 124 v5.toNatClampNeg) / (kI 1048576) * (kI 1048576)))], [.int (kI 0), .int (w 129 (v3 - (kI 1)).toNatClampNeg)], SH, w)) rfl ?_
              refine EV.i_ne cl_198 rfl (fun h8 => ?_) (fun h8 => ?_)
              · skip
                refine EV.steps cl_198 6 (q2 := (16, [some (.ref 110), some (.int v1), some (.int v2), some (.int (v3 - (kI 1))), some (.int v4), some (.int (v5 + (kI 1))), some (.int ((w 124 v5.toNatClampNeg) / (kI 1048576))), some (.int ((w 124 v5.toNatClampNeg) - (w 124 v5.toNatClampNeg) / (kI 1048576) * (kI 1048576)))], [], SH, w)) rfl ?_
                exact i6 h1 h2 h4 h5 h6 h7 h8
              · skip
                refine EV.steps cl_198 6 (q2 := (16, [some (.ref 110), some (.int v1), some (.int v2), some (.int v3), some (.int v4), some (.int (v4 + ((w 124 v5.toNatClampNeg) - (w 124 v5.toNatClampNeg) / (kI 1048576) * (kI 1048576)))), some (.int ((w 124 v5.toNatClampNeg) / (kI 1048576))), some (.int ((w 124 v5.toNatClampNeg) - (w 124 v5.toNatClampNeg) / (kI 1048576) * (kI 1048576)))], [], SH, w)) rfl ?_
                exact i7 h1 h2 h4 h5 h6 h7 h8
            · skip
              refine EV.steps cl_198 2 (q2 := (155, [some (.ref 110), some (.int v1), some (.int v2), some (.int v3), some (.int v4), some (.int (v5 + (kI 1))), some (.int ((w 124 v5.toNatClampNeg) / (kI 1048576))), some (.int ((w 124 v5.toNatClampNeg) - (w 124 v5.toNatClampNeg) / (kI 1048576) * (kI 1048576)))], [.int (kI 1), .int (w 129 (v3 - (kI 1)).toNatClampNeg)], SH, w)) rfl ?_
              refine EV.i_ne cl_198 rfl (fun h9 => ?_) (fun h9 => ?_)
              · skip
                refine EV.steps cl_198 6 (q2 := (16, [some (.ref 110), some (.int v1), some (.int v2), some (.int (v3 - (kI 1))), some (.int v4), some (.int (v5 + (kI 1))), some (.int ((w 124 v5.toNatClampNeg) / (kI 1048576))), some (.int ((w 124 v5.toNatClampNeg) - (w 124 v5.toNatClampNeg) / (kI 1048576) * (kI 1048576)))], [], SH, w)) rfl ?_
                exact i8 h1 h2 h4 h5 h6 h7 h9
              · skip
                refine EV.steps cl_198 6 (q2 := (16, [some (.ref 110), some (.int v1), some (.int v2), some (.int v3), some (.int v4), some (.int (v4 + ((w 124 v5.toNatClampNeg) - (w 124 v5.toNatClampNeg) / (kI 1048576) * (kI 1048576)))), some (.int ((w 124 v5.toNatClampNeg) / (kI 1048576))), some (.int ((w 124 v5.toNatClampNeg) - (w 124 v5.toNatClampNeg) / (kI 1048576) * (kI 1048576)))], [], SH, w)) rfl ?_
                exact i9 h1 h2 h4 h5 h6 h7 h9
          · skip
            refine EV.steps cl_198 2 (q2 := (132, [some (.ref 110), some (.int v1), some (.int v2), some (.int v3), some (.int v4), some (.int (v5 + (kI 1))), some (.int ((w 124 v5.toNatClampNeg) / (kI 1048576))), some (.int ((w 124 v5.toNatClampNeg) - (w 124 v5.toNatClampNeg) / (kI 1048576) * (kI 1048576)))], [.int (kI 12), .int ((w 124 v5.toNatClampNeg) / (kI 1048576))], SH, w)) rfl ?_
            refine EV.i_ne cl_198 rfl (fun h10 => ?_) (fun h10 => ?_)
            · skip
              refine EV.steps cl_198 6 (q2 := (182, [some (.ref 110), some (.int v1), some (.int v2), some (.int (v3 - (kI 1))), some (.int v4), some (.int (v5 + (kI 1))), some (.int ((w 124 v5.toNatClampNeg) / (kI 1048576))), some (.int ((w 124 v5.toNatClampNeg) - (w 124 v5.toNatClampNeg) / (kI 1048576) * (kI 1048576)))], [.int (kI 5), .int ((w 124 v5.toNatClampNeg) / (kI 1048576))], SH, w)) rfl ?_
              refine EV.i_eq cl_198 rfl (fun h11 => ?_) (fun h11 => ?_)
              · skip
                refine EV.steps cl_198 3 (q2 := (197, [some (.ref 110), some (.int v1), some (.int v2), some (.int (v3 - (kI 1))), some (.int v4), some (.int (v5 + (kI 1))), some (.int ((w 124 v5.toNatClampNeg) / (kI 1048576))), some (.int ((w 124 v5.toNatClampNeg) - (w 124 v5.toNatClampNeg) / (kI 1048576) * (kI 1048576)))], [.int (v3 - (kI 1)), .ref 129], SH, w)) rfl ?_
                refine EV.iaload cl_198 rfl rfl (by decide) (i10 h1 h2 h4 h5 h6 h10 h11) ?_
                refine EV.z_ne cl_198 rfl (fun h12 => ?_) (fun h12 => ?_)
                · skip
                  refine EV.steps cl_198 11 (q2 := (219, [some (.ref 110), some (.int v1), some (.int v2), some (.int (v3 - (kI 1))), some (.int v4), some (.int (v5 + (kI 1))), some (.int ((w 124 v5.toNatClampNeg) / (kI 1048576))), some (.int ((w 124 v5.toNatClampNeg) - (w 124 v5.toNatClampNeg) / (kI 1048576) * (kI 1048576)))], [.int ((v3 - (kI 1)) - (kI 1)), .ref 129, .int ((w 124 v5.toNatClampNeg) / (kI 1048576)), .int ((v3 - (kI 1)) - (kI 1)), .ref 129], SH, w)) rfl ?_
                  refine EV.iaload cl_198 rfl rfl (by decide) (i11 h1 h2 h4 h5 h6 h10 h11 h12) ?_
                  refine EV.steps cl_198 3 (q2 := (225, [some (.ref 110), some (.int v1), some (.int v2), some (.int (v3 - (kI 1))), some (.int v4), some (.int (v5 + (kI 1))), some (.int ((w 124 v5.toNatClampNeg) / (kI 1048576))), some (.int ((w 124 v5.toNatClampNeg) - (w 124 v5.toNatClampNeg) / (kI 1048576) * (kI 1048576)))], [.int (v3 - (kI 1)), .ref 129, .int (w 129 ((v3 - (kI 1)) - (kI 1)).toNatClampNeg), .int ((w 124 v5.toNatClampNeg) / (kI 1048576)), .int ((v3 - (kI 1)) - (kI 1)), .ref 129], SH, w)) rfl ?_
                  refine EV.iaload cl_198 rfl rfl (by decide) (i12 h1 h2 h4 h5 h6 h10 h11 h12) ?_
                  refine EV.callF (kc := 197) (av := [.int ((w 124 v5.toNatClampNeg) / (kI 1048576)), .int (w 129 ((v3 - (kI 1)) - (kI 1)).toNatClampNeg), .int (w 129 (v3 - (kI 1)).toNatClampNeg)]) (r := [.int ((v3 - (kI 1)) - (kI 1)), .ref 129]) (rv := some (.int (F_197 ((w 124 v5.toNatClampNeg) / (kI 1048576)) (w 129 ((v3 - (kI 1)) - (kI 1)).toNatClampNeg) (w 129 (v3 - (kI 1)).toNatClampNeg) w))) (w2 := w) cl_198 rfl rfl rfl (m_197 w ((w 124 v5.toNatClampNeg) / (kI 1048576)) (w 129 ((v3 - (kI 1)) - (kI 1)).toNatClampNeg) (w 129 (v3 - (kI 1)).toNatClampNeg) (i13 h1 h2 h4 h5 h6 h10 h11 h12) (i14 h1 h2 h4 h5 h6 h10 h11 h12)) ?_
                  refine EV.iastore cl_198 rfl rfl (by decide) (i11 h1 h2 h4 h5 h6 h10 h11 h12) ?_
                  refine EV.steps cl_198 1 (q2 := (16, [some (.ref 110), some (.int v1), some (.int v2), some (.int (v3 - (kI 1))), some (.int v4), some (.int (v5 + (kI 1))), some (.int ((w 124 v5.toNatClampNeg) / (kI 1048576))), some (.int ((w 124 v5.toNatClampNeg) - (w 124 v5.toNatClampNeg) / (kI 1048576) * (kI 1048576)))], [], SH, (up2 w 129 ((v3 - (kI 1)) - (kI 1)).toNatClampNeg (F_197 ((w 124 v5.toNatClampNeg) / (kI 1048576)) (w 129 ((v3 - (kI 1)) - (kI 1)).toNatClampNeg) (w 129 (v3 - (kI 1)).toNatClampNeg) w)))) rfl ?_
                  exact i15 h1 h2 h4 h5 h6 h10 h11 h12
                · skip
                  refine EV.steps cl_198 1 (q2 := (202, [some (.ref 110), some (.int v1), some (.int v2), some (.int (v3 - (kI 1))), some (.int v4), some (.int (v5 + (kI 1))), some (.int ((w 124 v5.toNatClampNeg) / (kI 1048576))), some (.int ((w 124 v5.toNatClampNeg) - (w 124 v5.toNatClampNeg) / (kI 1048576) * (kI 1048576)))], [.int (kI 0)], SH, w)) rfl ?_
                  refine EV.ret cl_198 rfl rfl rfl ?_
                  exact i16 h1 h2 h4 h5 h6 h10 h11 h12
              · skip
                refine EV.steps cl_198 2 (q2 := (189, [some (.ref 110), some (.int v1), some (.int v2), some (.int (v3 - (kI 1))), some (.int v4), some (.int (v5 + (kI 1))), some (.int ((w 124 v5.toNatClampNeg) / (kI 1048576))), some (.int ((w 124 v5.toNatClampNeg) - (w 124 v5.toNatClampNeg) / (kI 1048576) * (kI 1048576)))], [.int (kI 6), .int ((w 124 v5.toNatClampNeg) / (kI 1048576))], SH, w)) rfl ?_
                refine EV.i_ne cl_198 rfl (fun h13 => ?_) (fun h13 => ?_)
                · skip
                  refine EV.steps cl_198 11 (q2 := (219, [some (.ref 110), some (.int v1), some (.int v2), some (.int (v3 - (kI 1))), some (.int v4), some (.int (v5 + (kI 1))), some (.int ((w 124 v5.toNatClampNeg) / (kI 1048576))), some (.int ((w 124 v5.toNatClampNeg) - (w 124 v5.toNatClampNeg) / (kI 1048576) * (kI 1048576)))], [.int ((v3 - (kI 1)) - (kI 1)), .ref 129, .int ((w 124 v5.toNatClampNeg) / (kI 1048576)), .int ((v3 - (kI 1)) - (kI 1)), .ref 129], SH, w)) rfl ?_
                  refine EV.iaload cl_198 rfl rfl (by decide) (i17 h1 h2 h4 h5 h6 h10 h11 h13) ?_
                  refine EV.steps cl_198 3 (q2 := (225, [some (.ref 110), some (.int v1), some (.int v2), some (.int (v3 - (kI 1))), some (.int v4), some (.int (v5 + (kI 1))), some (.int ((w 124 v5.toNatClampNeg) / (kI 1048576))), some (.int ((w 124 v5.toNatClampNeg) - (w 124 v5.toNatClampNeg) / (kI 1048576) * (kI 1048576)))], [.int (v3 - (kI 1)), .ref 129, .int (w 129 ((v3 - (kI 1)) - (kI 1)).toNatClampNeg), .int ((w 124 v5.toNatClampNeg) / (kI 1048576)), .int ((v3 - (kI 1)) - (kI 1)), .ref 129], SH, w)) rfl ?_
                  refine EV.iaload cl_198 rfl rfl (by decide) (i18 h1 h2 h4 h5 h6 h10 h11 h13) ?_
                  refine EV.callF (kc := 197) (av := [.int ((w 124 v5.toNatClampNeg) / (kI 1048576)), .int (w 129 ((v3 - (kI 1)) - (kI 1)).toNatClampNeg), .int (w 129 (v3 - (kI 1)).toNatClampNeg)]) (r := [.int ((v3 - (kI 1)) - (kI 1)), .ref 129]) (rv := some (.int (F_197 ((w 124 v5.toNatClampNeg) / (kI 1048576)) (w 129 ((v3 - (kI 1)) - (kI 1)).toNatClampNeg) (w 129 (v3 - (kI 1)).toNatClampNeg) w))) (w2 := w) cl_198 rfl rfl rfl (m_197 w ((w 124 v5.toNatClampNeg) / (kI 1048576)) (w 129 ((v3 - (kI 1)) - (kI 1)).toNatClampNeg) (w 129 (v3 - (kI 1)).toNatClampNeg) (i19 h1 h2 h4 h5 h6 h10 h11 h13) (i20 h1 h2 h4 h5 h6 h10 h11 h13)) ?_
                  refine EV.iastore cl_198 rfl rfl (by decide) (i17 h1 h2 h4 h5 h6 h10 h11 h13) ?_
                  refine EV.steps cl_198 1 (q2 := (16, [some (.ref 110), some (.int v1), some (.int v2), some (.int (v3 - (kI 1))), some (.int v4), some (.int (v5 + (kI 1))), some (.int ((w 124 v5.toNatClampNeg) / (kI 1048576))), some (.int ((w 124 v5.toNatClampNeg) - (w 124 v5.toNatClampNeg) / (kI 1048576) * (kI 1048576)))], [], SH, (up2 w 129 ((v3 - (kI 1)) - (kI 1)).toNatClampNeg (F_197 ((w 124 v5.toNatClampNeg) / (kI 1048576)) (w 129 ((v3 - (kI 1)) - (kI 1)).toNatClampNeg) (w 129 (v3 - (kI 1)).toNatClampNeg) w)))) rfl ?_
                  exact i21 h1 h2 h4 h5 h6 h10 h11 h13
                · skip
                  refine EV.steps cl_198 3 (q2 := (197, [some (.ref 110), some (.int v1), some (.int v2), some (.int (v3 - (kI 1))), some (.int v4), some (.int (v5 + (kI 1))), some (.int ((w 124 v5.toNatClampNeg) / (kI 1048576))), some (.int ((w 124 v5.toNatClampNeg) - (w 124 v5.toNatClampNeg) / (kI 1048576) * (kI 1048576)))], [.int (v3 - (kI 1)), .ref 129], SH, w)) rfl ?_
                  refine EV.iaload cl_198 rfl rfl (by decide) (i22 h1 h2 h4 h5 h6 h10 h11 h13) ?_
                  refine EV.z_ne cl_198 rfl (fun h14 => ?_) (fun h14 => ?_)
                  · skip
                    refine EV.steps cl_198 11 (q2 := (219, [some (.ref 110), some (.int v1), some (.int v2), some (.int (v3 - (kI 1))), some (.int v4), some (.int (v5 + (kI 1))), some (.int ((w 124 v5.toNatClampNeg) / (kI 1048576))), some (.int ((w 124 v5.toNatClampNeg) - (w 124 v5.toNatClampNeg) / (kI 1048576) * (kI 1048576)))], [.int ((v3 - (kI 1)) - (kI 1)), .ref 129, .int ((w 124 v5.toNatClampNeg) / (kI 1048576)), .int ((v3 - (kI 1)) - (kI 1)), .ref 129], SH, w)) rfl ?_
                    refine EV.iaload cl_198 rfl rfl (by decide) (i23 h1 h2 h4 h5 h6 h10 h11 h13 h14) ?_
                    refine EV.steps cl_198 3 (q2 := (225, [some (.ref 110), some (.int v1), some (.int v2), some (.int (v3 - (kI 1))), some (.int v4), some (.int (v5 + (kI 1))), some (.int ((w 124 v5.toNatClampNeg) / (kI 1048576))), some (.int ((w 124 v5.toNatClampNeg) - (w 124 v5.toNatClampNeg) / (kI 1048576) * (kI 1048576)))], [.int (v3 - (kI 1)), .ref 129, .int (w 129 ((v3 - (kI 1)) - (kI 1)).toNatClampNeg), .int ((w 124 v5.toNatClampNeg) / (kI 1048576)), .int ((v3 - (kI 1)) - (kI 1)), .ref 129], SH, w)) rfl ?_
                    refine EV.iaload cl_198 rfl rfl (by decide) (i24 h1 h2 h4 h5 h6 h10 h11 h13 h14) ?_
                    refine EV.callF (kc := 197) (av := [.int ((w 124 v5.toNatClampNeg) / (kI 1048576)), .int (w 129 ((v3 - (kI 1)) - (kI 1)).toNatClampNeg), .int (w 129 (v3 - (kI 1)).toNatClampNeg)]) (r := [.int ((v3 - (kI 1)) - (kI 1)), .ref 129]) (rv := some (.int (F_197 ((w 124 v5.toNatClampNeg) / (kI 1048576)) (w 129 ((v3 - (kI 1)) - (kI 1)).toNatClampNeg) (w 129 (v3 - (kI 1)).toNatClampNeg) w))) (w2 := w) cl_198 rfl rfl rfl (m_197 w ((w 124 v5.toNatClampNeg) / (kI 1048576)) (w 129 ((v3 - (kI 1)) - (kI 1)).toNatClampNeg) (w 129 (v3 - (kI 1)).toNatClampNeg) (i25 h1 h2 h4 h5 h6 h10 h11 h13 h14) (i26 h1 h2 h4 h5 h6 h10 h11 h13 h14)) ?_
                    refine EV.iastore cl_198 rfl rfl (by decide) (i23 h1 h2 h4 h5 h6 h10 h11 h13 h14) ?_
                    refine EV.steps cl_198 1 (q2 := (16, [some (.ref 110), some (.int v1), some (.int v2), some (.int (v3 - (kI 1))), some (.int v4), some (.int (v5 + (kI 1))), some (.int ((w 124 v5.toNatClampNeg) / (kI 1048576))), some (.int ((w 124 v5.toNatClampNeg) - (w 124 v5.toNatClampNeg) / (kI 1048576) * (kI 1048576)))], [], SH, (up2 w 129 ((v3 - (kI 1)) - (kI 1)).toNatClampNeg (F_197 ((w 124 v5.toNatClampNeg) / (kI 1048576)) (w 129 ((v3 - (kI 1)) - (kI 1)).toNatClampNeg) (w 129 (v3 - (kI 1)).toNatClampNeg) w)))) rfl ?_
                    exact i27 h1 h2 h4 h5 h6 h10 h11 h13 h14
                  · skip
                    refine EV.steps cl_198 1 (q2 := (202, [some (.ref 110), some (.int v1), some (.int v2), some (.int (v3 - (kI 1))), some (.int v4), some (.int (v5 + (kI 1))), some (.int ((w 124 v5.toNatClampNeg) / (kI 1048576))), some (.int ((w 124 v5.toNatClampNeg) - (w 124 v5.toNatClampNeg) / (kI 1048576) * (kI 1048576)))], [.int (kI 0)], SH, w)) rfl ?_
                    refine EV.ret cl_198 rfl rfl rfl ?_
                    exact i28 h1 h2 h4 h5 h6 h10 h11 h13 h14
            · skip
              refine EV.steps cl_198 5 (q2 := (142, [some (.ref 110), some (.int v1), some (.int v2), some (.int v3), some (.int v4), some (.int (v5 + (kI 1))), some (.int ((w 124 v5.toNatClampNeg) / (kI 1048576))), some (.int ((w 124 v5.toNatClampNeg) - (w 124 v5.toNatClampNeg) / (kI 1048576) * (kI 1048576)))], [.int (v3 - (kI 1)), .ref 129], SH, w)) rfl ?_
              refine EV.iaload cl_198 rfl rfl (by decide) (i29 h1 h2 h4 h5 h6 h10) ?_
              refine EV.steps cl_198 2 (q2 := (147, [some (.ref 110), some (.int v1), some (.int v2), some (.int v3), some (.int v4), some (.int (v5 + (kI 1))), some (.int ((w 124 v5.toNatClampNeg) / (kI 1048576))), some (.int ((w 124 v5.toNatClampNeg) - (w 124 v5.toNatClampNeg) / (kI 1048576) * (kI 1048576)))], [.int (kI 12), .int ((w 124 v5.toNatClampNeg) / (kI 1048576)), .int (w 129 (v3 - (kI 1)).toNatClampNeg)], SH, w)) rfl ?_
              refine EV.i_ne cl_198 rfl (fun h15 => ?_) (fun h15 => ?_)
              · skip
                exact absurd h10 h15
              · skip
                refine EV.steps cl_198 2 (q2 := (155, [some (.ref 110), some (.int v1), some (.int v2), some (.int v3), some (.int v4), some (.int (v5 + (kI 1))), some (.int ((w 124 v5.toNatClampNeg) / (kI 1048576))), some (.int ((w 124 v5.toNatClampNeg) - (w 124 v5.toNatClampNeg) / (kI 1048576) * (kI 1048576)))], [.int (kI 1), .int (w 129 (v3 - (kI 1)).toNatClampNeg)], SH, w)) rfl ?_
                refine EV.i_ne cl_198 rfl (fun h16 => ?_) (fun h16 => ?_)
                · skip
                  refine EV.steps cl_198 6 (q2 := (16, [some (.ref 110), some (.int v1), some (.int v2), some (.int (v3 - (kI 1))), some (.int v4), some (.int (v5 + (kI 1))), some (.int ((w 124 v5.toNatClampNeg) / (kI 1048576))), some (.int ((w 124 v5.toNatClampNeg) - (w 124 v5.toNatClampNeg) / (kI 1048576) * (kI 1048576)))], [], SH, w)) rfl ?_
                  exact i30 h1 h2 h4 h5 h6 h10 h16
                · skip
                  refine EV.steps cl_198 6 (q2 := (16, [some (.ref 110), some (.int v1), some (.int v2), some (.int v3), some (.int v4), some (.int (v4 + ((w 124 v5.toNatClampNeg) - (w 124 v5.toNatClampNeg) / (kI 1048576) * (kI 1048576)))), some (.int ((w 124 v5.toNatClampNeg) / (kI 1048576))), some (.int ((w 124 v5.toNatClampNeg) - (w 124 v5.toNatClampNeg) / (kI 1048576) * (kI 1048576)))], [], SH, w)) rfl ?_
                  exact i31 h1 h2 h4 h5 h6 h10 h16
        · skip
          refine EV.steps cl_198 11 (q2 := (115, [some (.ref 110), some (.int v1), some (.int v2), some (.int v3), some (.int v4), some (.int (v5 + (kI 1))), some (.int ((w 124 v5.toNatClampNeg) / (kI 1048576))), some (.int ((w 124 v5.toNatClampNeg) - (w 124 v5.toNatClampNeg) / (kI 1048576) * (kI 1048576)))], [.int (v3 - (kI 1)), .ref 129, .int (kI 1), .int (v3 - (kI 1)), .ref 129], SH, w)) rfl ?_
          refine EV.iaload cl_198 rfl rfl (by decide) (i32 h1 h2 h4 h5) ?_
          refine EV.steps cl_198 1 (q2 := (117, [some (.ref 110), some (.int v1), some (.int v2), some (.int v3), some (.int v4), some (.int (v5 + (kI 1))), some (.int ((w 124 v5.toNatClampNeg) / (kI 1048576))), some (.int ((w 124 v5.toNatClampNeg) - (w 124 v5.toNatClampNeg) / (kI 1048576) * (kI 1048576)))], [.int ((kI 1) - (w 129 (v3 - (kI 1)).toNatClampNeg)), .int (v3 - (kI 1)), .ref 129], SH, w)) rfl ?_
          refine EV.iastore cl_198 rfl rfl (by decide) (i32 h1 h2 h4 h5) ?_
          refine EV.steps cl_198 2 (q2 := (16, [some (.ref 110), some (.int v1), some (.int v2), some (.int v3), some (.int v4), some (.int (v5 + (kI 1))), some (.int ((w 124 v5.toNatClampNeg) / (kI 1048576))), some (.int ((w 124 v5.toNatClampNeg) - (w 124 v5.toNatClampNeg) / (kI 1048576) * (kI 1048576)))], [], SH, (up2 w 129 (v3 - (kI 1)).toNatClampNeg ((kI 1) - (w 129 (v3 - (kI 1)).toNatClampNeg))))) rfl ?_
          exact i33 h1 h2 h4 h5
      · skip
        refine EV.steps cl_198 4 (q2 := (70, [some (.ref 110), some (.int v1), some (.int v2), some (.int v3), some (.int v4), some (.int (v5 + (kI 1))), some (.int ((w 124 v5.toNatClampNeg) / (kI 1048576))), some (.int ((w 124 v5.toNatClampNeg) - (w 124 v5.toNatClampNeg) / (kI 1048576) * (kI 1048576)))], [.int ((w 124 v5.toNatClampNeg) / (kI 1048576)), .int v3, .ref 129], SH, w)) rfl ?_
        refine EV.z_ne cl_198 rfl (fun h17 => ?_) (fun h17 => ?_)
        · skip
          refine EV.steps cl_198 3 (q2 := (84, [some (.ref 110), some (.int v1), some (.int v2), some (.int v3), some (.int v4), some (.int (v5 + (kI 1))), some (.int ((w 124 v5.toNatClampNeg) / (kI 1048576))), some (.int ((w 124 v5.toNatClampNeg) - (w 124 v5.toNatClampNeg) / (kI 1048576) * (kI 1048576)))], [.int ((w 124 v5.toNatClampNeg) - (w 124 v5.toNatClampNeg) / (kI 1048576) * (kI 1048576)), .ref 130, .int v3, .ref 129], SH, w)) rfl ?_
          refine EV.iaload cl_198 rfl rfl (by decide) (i34 h1 h2 h4) ?_
          refine EV.iastore cl_198 rfl rfl (by decide) (i35 h1 h2 h4) ?_
          refine EV.steps cl_198 6 (q2 := (16, [some (.ref 110), some (.int v1), some (.int v2), some (.int (v3 + (kI 1))), some (.int v4), some (.int (v5 + (kI 1))), some (.int ((w 124 v5.toNatClampNeg) / (kI 1048576))), some (.int ((w 124 v5.toNatClampNeg) - (w 124 v5.toNatClampNeg) / (kI 1048576) * (kI 1048576)))], [], SH, (up2 w 129 v3.toNatClampNeg (w 130 ((w 124 v5.toNatClampNeg) - (w 124 v5.toNatClampNeg) / (kI 1048576) * (kI 1048576)).toNatClampNeg)))) rfl ?_
          exact i36 h1 h2 h4
        · skip
          exact absurd h17 h2
