set_option maxRecDepth 20000 in
theorem cl_232 : RCT[232]? = some rc_232 := rfl
theorem s_232_110_at0 {X : Scr} {d : Nat} {Q : Option Value → Sh → Wd → Prop} (w : Wd) (v1 : Int32) (i1 : (EV X (d + 1) 232 (7, [some (.ref 110), some (.int v1), some (.int (kI 0)), some (.int (kI 0)), some (.int (kI 0))], [], SH, w) Q)) : EV X (d + 1) 232 (0, [some (.ref 110), some (.int v1), none, none, none], [], SH, w) Q := by
  refine EV.steps cl_232 6 (q2 := (7, [some (.ref 110), some (.int v1), some (.int (kI 0)), some (.int (kI 0)), some (.int (kI 0))], [], SH, w)) rfl ?_
  exact i1
theorem s_232_110_at7 {X : Scr} {d : Nat} {Q : Option Value → Sh → Wd → Prop} (w : Wd) (v1 : Int32) (v2 : Int32) (v3 : Int32) (v4 : Int32) (i1 : (kI 6) ≤ v4 → (EV X (d + 1) 232 (68, [some (.ref 110), some (.int v1), some (.int v2), some (.int v3), some (.int (kI 0))], [], SH, w) Q)) (i2 : ¬ (kI 6) ≤ v4 → (inB v4 6 = true)) (i3 : ¬ (kI 6) ≤ v4 → 0 < (w 138 v4.toNatClampNeg) → (F_161 v1 v4 w) = 0 → (inB v4 6 = true)) (i4 : ¬ (kI 6) ≤ v4 → 0 < (w 138 v4.toNatClampNeg) → (F_161 v1 v4 w) = 0 → (EV X (d + 1) 232 (7, [some (.ref 110), some (.int v1), some (.int (v2 + (w 138 v4.toNatClampNeg))), some (.int v3), some (.int (v4 + (kI 1)))], [], SH, w) Q)) (i5 : ¬ (kI 6) ≤ v4 → 0 < (w 138 v4.toNatClampNeg) → ¬ (F_161 v1 v4 w) = 0 → (inB v4 6 = true)) (i6 : ¬ (kI 6) ≤ v4 → 0 < (w 138 v4.toNatClampNeg) → ¬ (F_161 v1 v4 w) = 0 → (EV X (d + 1) 232 (7, [some (.ref 110), some (.int v1), some (.int v2), some (.int (v3 ||| (w 115 v4.toNatClampNeg))), some (.int (v4 + (kI 1)))], [], SH, w) Q)) (i7 : ¬ (kI 6) ≤ v4 → ¬ 0 < (w 138 v4.toNatClampNeg) → (EV X (d + 1) 232 (7, [some (.ref 110), some (.int v1), some (.int v2), some (.int v3), some (.int (v4 + (kI 1)))], [], SH, w) Q)) : EV X (d + 1) 232 (7, [some (.ref 110), some (.int v1), some (.int v2), some (.int v3), some (.int v4)], [], SH, w) Q := by
  refine EV.steps cl_232 2 (q2 := (11, [some (.ref 110), some (.int v1), some (.int v2), some (.int v3), some (.int v4)], [.int (kI 6), .int v4], SH, w)) rfl ?_
  refine EV.i_ge cl_232 rfl (fun h1 => ?_) (fun h1 => ?_)
  · skip
    refine EV.steps cl_232 2 (q2 := (68, [some (.ref 110), some (.int v1), some (.int v2), some (.int v3), some (.int (kI 0))], [], SH, w)) rfl ?_
    exact i1 h1
  · skip
    refine EV.steps cl_232 3 (q2 := (20, [some (.ref 110), some (.int v1), some (.int v2), some (.int v3), some (.int v4)], [.int v4, .ref 138], SH, w)) rfl ?_
    refine EV.iaload cl_232 rfl rfl (by decide) (i2 h1) ?_
    refine EV.z_gt cl_232 rfl (fun h2 => ?_) (fun h2 => ?_)
    · skip
      refine EV.steps cl_232 2 (q2 := (30, [some (.ref 110), some (.int v1), some (.int v2), some (.int v3), some (.int v4)], [.int v4, .int v1], SH, w)) rfl ?_
      refine EV.callF (kc := 161) (av := [.int v1, .int v4]) (r := []) (rv := some (.int (F_161 v1 v4 w))) (w2 := w) cl_232 rfl rfl rfl (m_161 w v1 v4) ?_
      refine EV.z_eq cl_232 rfl (fun h3 => ?_) (fun h3 => ?_)
      · skip
        refine EV.steps cl_232 4 (q2 := (56, [some (.ref 110), some (.int v1), some (.int v2), some (.int v3), some (.int v4)], [.int v4, .ref 138, .int v2], SH, w)) rfl ?_
        refine EV.iaload cl_232 rfl rfl (by decide) (i3 h1 h2 h3) ?_
        refine EV.steps cl_232 4 (q2 := (7, [some (.ref 110), some (.int v1), some (.int (v2 + (w 138 v4.toNatClampNeg))), some (.int v3), some (.int (v4 + (kI 1)))], [], SH, w)) rfl ?_
        exact i4 h1 h2 h3
      · skip
        refine EV.steps cl_232 4 (q2 := (43, [some (.ref 110), some (.int v1), some (.int v2), some (.int v3), some (.int v4)], [.int v4, .ref 115, .int v3], SH, w)) rfl ?_
        refine EV.iaload cl_232 rfl rfl (by decide) (i5 h1 h2 h3) ?_
        refine EV.steps cl_232 5 (q2 := (7, [some (.ref 110), some (.int v1), some (.int v2), some (.int (v3 ||| (w 115 v4.toNatClampNeg))), some (.int (v4 + (kI 1)))], [], SH, w)) rfl ?_
        exact i6 h1 h2 h3
    · skip
      refine EV.steps cl_232 3 (q2 := (7, [some (.ref 110), some (.int v1), some (.int v2), some (.int v3), some (.int (v4 + (kI 1)))], [], SH, w)) rfl ?_
      exact i7 h1 h2
theorem s_232_110_at68 {X : Scr} {d : Nat} {Q : Option Value → Sh → Wd → Prop} (w : Wd) (v1 : Int32) (v2 : Int32) (v3 : Int32) (v4 : Int32) (i1 : (kI 6) ≤ v4 → (Q (some (.int v2)) SH w)) (i2 : ¬ (kI 6) ≤ v4 → (F_161 v3 v4 w) = 0 → (EV X (d + 1) 232 (68, [some (.ref 110), some (.int v1), some (.int v2), some (.int v3), some (.int (v4 + (kI 1)))], [], SH, w) Q)) (i3 : ¬ (kI 6) ≤ v4 → ¬ (F_161 v3 v4 w) = 0 → (inB v4 6 = true)) (i4 : ¬ (kI 6) ≤ v4 → ¬ (F_161 v3 v4 w) = 0 → 0 ≤ (w 138 v4.toNatClampNeg) → (EV X (d + 1) 232 (68, [some (.ref 110), some (.int v1), some (.int v2), some (.int v3), some (.int (v4 + (kI 1)))], [], SH, w) Q)) (i5 : ¬ (kI 6) ≤ v4 → ¬ (F_161 v3 v4 w) = 0 → ¬ 0 ≤ (w 138 v4.toNatClampNeg) → (inB v4 6 = true)) (i6 : ¬ (kI 6) ≤ v4 → ¬ (F_161 v3 v4 w) = 0 → ¬ 0 ≤ (w 138 v4.toNatClampNeg) → (EV X (d + 1) 232 (68, [some (.ref 110), some (.int v1), some (.int (v2 - (w 138 v4.toNatClampNeg))), some (.int v3), some (.int (v4 + (kI 1)))], [], SH, w) Q)) : EV X (d + 1) 232 (68, [some (.ref 110), some (.int v1), some (.int v2), some (.int v3), some (.int v4)], [], SH, w) Q := by
  refine EV.steps cl_232 2 (q2 := (72, [some (.ref 110), some (.int v1), some (.int v2), some (.int v3), some (.int v4)], [.int (kI 6), .int v4], SH, w)) rfl ?_
  refine EV.i_ge cl_232 rfl (fun h1 => ?_) (fun h1 => ?_)
  · skip
    refine EV.steps cl_232 1 (q2 := (111, [some (.ref 110), some (.int v1), some (.int v2), some (.int v3), some (.int v4)], [.int v2], SH, w)) rfl ?_
    refine EV.ret cl_232 rfl rfl rfl ?_
    exact i1 h1
  · skip
    refine EV.steps cl_232 2 (q2 := (78, [some (.ref 110), some (.int v1), some (.int v2), some (.int v3), some (.int v4)], [.int v4, .int v3], SH, w)) rfl ?_
    refine EV.callF (kc := 161) (av := [.int v3, .int v4]) (r := []) (rv := some (.int (F_161 v3 v4 w))) (w2 := w) cl_232 rfl rfl rfl (m_161 w v3 v4) ?_
    refine EV.z_eq cl_232 rfl (fun h2 => ?_) (fun h2 => ?_)
    · skip
      refine EV.steps cl_232 2 (q2 := (68, [some (.ref 110), some (.int v1), some (.int v2), some (.int v3), some (.int (v4 + (kI 1)))], [], SH, w)) rfl ?_
      exact i2 h1 h2
    · skip
      refine EV.steps cl_232 3 (q2 := (90, [some (.ref 110), some (.int v1), some (.int v2), some (.int v3), some (.int v4)], [.int v4, .ref 138], SH, w)) rfl ?_
      refine EV.iaload cl_232 rfl rfl (by decide) (i3 h1 h2) ?_
      refine EV.z_ge cl_232 rfl (fun h3 => ?_) (fun h3 => ?_)
      · skip
        refine EV.steps cl_232 2 (q2 := (68, [some (.ref 110), some (.int v1), some (.int v2), some (.int v3), some (.int (v4 + (kI 1)))], [], SH, w)) rfl ?_
        exact i4 h1 h2 h3
      · skip
        refine EV.steps cl_232 4 (q2 := (101, [some (.ref 110), some (.int v1), some (.int v2), some (.int v3), some (.int v4)], [.int v4, .ref 138, .int v2], SH, w)) rfl ?_
        refine EV.iaload cl_232 rfl rfl (by decide) (i5 h1 h2 h3) ?_
        refine EV.steps cl_232 4 (q2 := (68, [some (.ref 110), some (.int v1), some (.int (v2 - (w 138 v4.toNatClampNeg))), some (.int v3), some (.int (v4 + (kI 1)))], [], SH, w)) rfl ?_
        exact i6 h1 h2 h3
set_option maxRecDepth 20000 in
theorem cl_241 : RCT[241]? = some rc_241 := rfl
theorem s_241_110_at0 {X : Scr} {d : Nat} {Q : Option Value → Sh → Wd → Prop} (w : Wd) (v1 : Int32) (v2 : Int32) (v3 : Int32) (i1 : (EV X (d + 1) 241 (6, [some (.ref 110), some (.int v1), some (.int v2), some (.int v3), some (.int (kI 0)), some (.int (kI 0))], [], SH, w) Q)) : EV X (d + 1) 241 (0, [some (.ref 110), some (.int v1), some (.int v2), some (.int v3), none, none], [], SH, w) Q := by
  refine EV.steps cl_241 4 (q2 := (6, [some (.ref 110), some (.int v1), some (.int v2), some (.int v3), some (.int (kI 0)), some (.int (kI 0))], [], SH, w)) rfl ?_
  exact i1
theorem s_241_110_at6 {X : Scr} {d : Nat} {Q : Option Value → Sh → Wd → Prop} (w : Wd) (v1 : Int32) (v2 : Int32) (v3 : Int32) (v4 : Int32) (v5 : Int32) (i1 : (kI 20) ≤ v5 → (Q (some (.int v4)) SH w)) (i2 : ¬ (kI 20) ≤ v5 → (F_161 (w 110 56) v5 w) = 0 → (EV X (d + 1) 241 (6, [some (.ref 110), some (.int v1), some (.int v2), some (.int v3), some (.int v4), some (.int (v5 + (kI 1)))], [], SH, w) Q)) (i3 : ¬ (kI 20) ≤ v5 → ¬ (F_161 (w 110 56) v5 w) = 0 → (inB v5 20 = true)) (i4 : ¬ (kI 20) ≤ v5 → ¬ (F_161 (w 110 56) v5 w) = 0 → ¬ (w 143 v5.toNatClampNeg) = v1 → (EV X (d + 1) 241 (6, [some (.ref 110), some (.int v1), some (.int v2), some (.int v3), some (.int v4), some (.int (v5 + (kI 1)))], [], SH, w) Q)) (i5 : ¬ (kI 20) ≤ v5 → ¬ (F_161 (w 110 56) v5 w) = 0 → (w 143 v5.toNatClampNeg) = v1 → (inB v5 20 = true)) (i6 : ¬ (kI 20) ≤ v5 → ¬ (F_161 (w 110 56) v5 w) = 0 → (w 143 v5.toNatClampNeg) = v1 → (F_157 (w 141 v5.toNatClampNeg) v2 v3 w) = 0 → (EV X (d + 1) 241 (6, [some (.ref 110), some (.int v1), some (.int v2), some (.int v3), some (.int v4), some (.int (v5 + (kI 1)))], [], SH, w) Q)) (i7 : ¬ (kI 20) ≤ v5 → ¬ (F_161 (w 110 56) v5 w) = 0 → (w 143 v5.toNatClampNeg) = v1 → ¬ (F_157 (w 141 v5.toNatClampNeg) v2 v3 w) = 0 → (EV X (d + 1) 241 (6, [some (.ref 110), some (.int v1), some (.int v2), some (.int v3), some (.int (v4 + (kI 1))), some (.int (v5 + (kI 1)))], [], SH, w) Q)) : EV X (d + 1) 241 (6, [some (.ref 110), some (.int v1), some (.int v2), some (.int v3), some (.int v4), some (.int v5)], [], SH, w) Q := by
  refine EV.steps cl_241 2 (q2 := (10, [some (.ref 110), some (.int v1), some (.int v2), some (.int v3), some (.int v4), some (.int v5)], [.int (kI 20), .int v5], SH, w)) rfl ?_
  refine EV.i_ge cl_241 rfl (fun h1 => ?_) (fun h1 => ?_)
  · skip
    refine EV.steps cl_241 1 (q2 := (65, [some (.ref 110), some (.int v1), some (.int v2), some (.int v3), some (.int v4), some (.int v5)], [.int v4], SH, w)) rfl ?_
    refine EV.ret cl_241 rfl rfl rfl ?_
    exact i1 h1
  · skip
    refine EV.steps cl_241 3 (q2 := (19, [some (.ref 110), some (.int v1), some (.int v2), some (.int v3), some (.int v4), some (.int v5)], [.int v5, .int (w 110 56)], SH, w)) rfl ?_
    refine EV.callF (kc := 161) (av := [.int (w 110 56), .int v5]) (r := []) (rv := some (.int (F_161 (w 110 56) v5 w))) (w2 := w) cl_241 rfl rfl rfl (m_161 w (w 110 56) v5) ?_
    refine EV.z_eq cl_241 rfl (fun h2 => ?_) (fun h2 => ?_)
    · skip
      refine EV.steps cl_241 2 (q2 := (6, [some (.ref 110), some (.int v1), some (.int v2), some (.int v3), some (.int v4), some (.int (v5 + (kI 1)))], [], SH, w)) rfl ?_
      exact i2 h1 h2
    · skip
      refine EV.steps cl_241 3 (q2 := (31, [some (.ref 110), some (.int v1), some (.int v2), some (.int v3), some (.int v4), some (.int v5)], [.int v5, .ref 143], SH, w)) rfl ?_
      refine EV.iaload cl_241 rfl rfl (by decide) (i3 h1 h2) ?_
      refine EV.steps cl_241 1 (q2 := (33, [some (.ref 110), some (.int v1), some (.int v2), some (.int v3), some (.int v4), some (.int v5)], [.int v1, .int (w 143 v5.toNatClampNeg)], SH, w)) rfl ?_
      refine EV.i_ne cl_241 rfl (fun h3 => ?_) (fun h3 => ?_)
      · skip
        refine EV.steps cl_241 2 (q2 := (6, [some (.ref 110), some (.int v1), some (.int v2), some (.int v3), some (.int v4), some (.int (v5 + (kI 1)))], [], SH, w)) rfl ?_
        exact i4 h1 h2 h3
      · skip
        refine EV.steps cl_241 3 (q2 := (42, [some (.ref 110), some (.int v1), some (.int v2), some (.int v3), some (.int v4), some (.int v5)], [.int v5, .ref 141], SH, w)) rfl ?_
        refine EV.iaload cl_241 rfl rfl (by decide) (i5 h1 h2 h3) ?_
        refine EV.steps cl_241 2 (q2 := (45, [some (.ref 110), some (.int v1), some (.int v2), some (.int v3), some (.int v4), some (.int v5)], [.int v3, .int v2, .int (w 141 v5.toNatClampNeg)], SH, w)) rfl ?_
        refine EV.callF (kc := 157) (av := [.int (w 141 v5.toNatClampNeg), .int v2, .int v3]) (r := []) (rv := some (.int (F_157 (w 141 v5.toNatClampNeg) v2 v3 w))) (w2 := w) cl_241 rfl rfl rfl (m_157 w (w 141 v5.toNatClampNeg) v2 v3) ?_
        refine EV.z_eq cl_241 rfl (fun h4 => ?_) (fun h4 => ?_)
        · skip
          refine EV.steps cl_241 2 (q2 := (6, [some (.ref 110), some (.int v1), some (.int v2), some (.int v3), some (.int v4), some (.int (v5 + (kI 1)))], [], SH, w)) rfl ?_
          exact i6 h1 h2 h3 h4
        · skip
          refine EV.steps cl_241 6 (q2 := (6, [some (.ref 110), some (.int v1), some (.int v2), some (.int v3), some (.int (v4 + (kI 1))), some (.int (v5 + (kI 1)))], [], SH, w)) rfl ?_
          exact i7 h1 h2 h3 h4
set_option maxRecDepth 20000 in
theorem cl_245 : RCT[245]? = some rc_245 := rfl
theorem s_245_110_at0 {X : Scr} {d : Nat} {Q : Option Value → Sh → Wd → Prop} (w : Wd) (v1 : Int32) (i1 : ¬ (F_165_110 v1 w) = 0 → (EV X (d + 2) 245 (12, [some (.ref 110), some (.int v1), some (.int (kI 0))], [], SH, w) Q)) (i2 : (F_165_110 v1 w) = 0 → (Q (some (.int (kI (-1)))) SH w)) : EV X (d + 2) 245 (0, [some (.ref 110), some (.int v1), none], [], SH, w) Q := by
  refine EV.steps cl_245 2 (q2 := (2, [some (.ref 110), some (.int v1), none], [.int v1, .ref 110], SH, w)) rfl ?_
  refine EV.callF (kc := 165) (av := [.ref 110, .int v1]) (r := []) (rv := some (.int (F_165_110 v1 w))) (w2 := w) cl_245 rfl rfl rfl (m_165_110 w v1) ?_
  refine EV.z_ne cl_245 rfl (fun h1 => ?_) (fun h1 => ?_)
  · skip
    refine EV.steps cl_245 2 (q2 := (12, [some (.ref 110), some (.int v1), some (.int (kI 0))], [], SH, w)) rfl ?_
    exact i1 h1
  · skip
    refine EV.steps cl_245 1 (q2 := (9, [some (.ref 110), some (.int v1), none], [.int (kI (-1))], SH, w)) rfl ?_
    refine EV.ret cl_245 rfl rfl rfl ?_
    exact i2 h1
theorem s_245_110_at12 {X : Scr} {d : Nat} {Q : Option Value → Sh → Wd → Prop} (w : Wd) (v1 : Int32) (v2 : Int32) (i1 : (kI 8) ≤ v2 → (Q (some (.int v2)) SH w)) (i2 : ¬ (kI 8) ≤ v2 → (inB (((kI 108) + ((kI 8) * v1)) + v2) 162 = true)) (i3 : ¬ (kI 8) ≤ v2 → (inB v1 6 = true)) (i4 : ¬ (kI 8) ≤ v2 → ¬ (w 111 (((kI 108) + ((kI 8) * v1)) + v2).toNatClampNeg) = (w 116 v1.toNatClampNeg) → (Q (some (.int v2)) SH w)) (i5 : ¬ (kI 8) ≤ v2 → (w 111 (((kI 108) + ((kI 8) * v1)) + v2).toNatClampNeg) = (w 116 v1.toNatClampNeg) → (EV X (d + 1) 245 (12, [some (.ref 110), some (.int v1), some (.int (v2 + (kI 1)))], [], SH, w) Q)) : EV X (d + 1) 245 (12, [some (.ref 110), some (.int v1), some (.int v2)], [], SH, w) Q := by
  refine EV.steps cl_245 2 (q2 := (15, [some (.ref 110), some (.int v1), some (.int v2)], [.int (kI 8), .int v2], SH, w)) rfl ?_
  refine EV.i_ge cl_245 rfl (fun h1 => ?_) (fun h1 => ?_)
  · skip
    refine EV.steps cl_245 1 (q2 := (49, [some (.ref 110), some (.int v1), some (.int v2)], [.int v2], SH, w)) rfl ?_
    refine EV.ret cl_245 rfl rfl rfl ?_
    exact i1 h1
  · skip
    refine EV.steps cl_245 9 (q2 := (31, [some (.ref 110), some (.int v1), some (.int v2)], [.int (((kI 108) + ((kI 8) * v1)) + v2), .ref 111], SH, w)) rfl ?_
    refine EV.iaload cl_245 rfl rfl (by decide) (i2 h1) ?_
    refine EV.steps cl_245 3 (q2 := (37, [some (.ref 110), some (.int v1), some (.int v2)], [.int v1, .ref 116, .int (w 111 (((kI 108) + ((kI 8) * v1)) + v2).toNatClampNeg)], SH, w)) rfl ?_
    refine EV.iaload cl_245 rfl rfl (by decide) (i3 h1) ?_
    refine EV.i_ne cl_245 rfl (fun h2 => ?_) (fun h2 => ?_)
    · skip
      refine EV.steps cl_245 1 (q2 := (49, [some (.ref 110), some (.int v1), some (.int v2)], [.int v2], SH, w)) rfl ?_
      refine EV.ret cl_245 rfl rfl rfl ?_
      exact i4 h1 h2
    · skip
      refine EV.steps cl_245 5 (q2 := (12, [some (.ref 110), some (.int v1), some (.int (v2 + (kI 1)))], [], SH, w)) rfl ?_
      exact i5 h1 h2
set_option maxRecDepth 20000 in
theorem cl_248 : RCT[248]? = some rc_248 := rfl
theorem s_248_110_at0 {X : Scr} {d : Nat} {Q : Option Value → Sh → Wd → Prop} (w : Wd) (v1 : Int32) (i1 : (EV X (d + 1) 248 (2, [some (.ref 110), some (.int v1), some (.int v1), none, none], [], SH, w) Q)) : EV X (d + 1) 248 (0, [some (.ref 110), some (.int v1), none, none, none], [], SH, w) Q := by
  refine EV.steps cl_248 2 (q2 := (2, [some (.ref 110), some (.int v1), some (.int v1), none, none], [], SH, w)) rfl ?_
  exact i1
theorem s_248_110_at2 {X : Scr} {d : Nat} {Q : Option Value → Sh → Wd → Prop} (w : Wd) (v1 : Int32) (v2 : Int32) (i1 : v2 = (kI (-1)) → (Q (none) SH w)) (i2 : ¬ v2 = (kI (-1)) → (inB v2 20 = true)) (i3 : ¬ v2 = (kI (-1)) → (inB (w 149 v2.toNatClampNeg) 20 = true)) (i4 : ¬ v2 = (kI (-1)) → (EV X (d + 1) 248 (2, [some (.ref 110), some (.int v1), some (.int (w 148 (w 149 v2.toNatClampNeg).toNatClampNeg)), some (.int (w 149 v2.toNatClampNeg)), some (.int (w 148 (w 149 v2.toNatClampNeg).toNatClampNeg))], [], SH, (up2 (up2 w 148 (w 149 v2.toNatClampNeg).toNatClampNeg v2) 148 v2.toNatClampNeg (w 149 v2.toNatClampNeg))) Q)) : EV X (d + 1) 248 (2, [some (.ref 110), some (.int v1), some (.int v2), none, none], [], SH, w) Q := by
  refine EV.steps cl_248 2 (q2 := (4, [some (.ref 110), some (.int v1), some (.int v2), none, none], [.int (kI (-1)), .int v2], SH, w)) rfl ?_
  refine EV.i_eq cl_248 rfl (fun h1 => ?_) (fun h1 => ?_)
  · skip
    refine EV.ret cl_248 rfl rfl rfl ?_
    exact i1 h1
  · skip
    refine EV.steps cl_248 3 (q2 := (12, [some (.ref 110), some (.int v1), some (.int v2), none, none], [.int v2, .ref 149], SH, w)) rfl ?_
    refine EV.iaload cl_248 rfl rfl (by decide) (i2 h1) ?_
    refine EV.steps cl_248 4 (q2 := (19, [some (.ref 110), some (.int v1), some (.int v2), some (.int (w 149 v2.toNatClampNeg)), none], [.int (w 149 v2.toNatClampNeg), .ref 148], SH, w)) rfl ?_
    refine EV.iaload cl_248 rfl rfl (by decide) (i3 h1) ?_
    refine EV.steps cl_248 5 (q2 := (28, [some (.ref 110), some (.int v1), some (.int v2), some (.int (w 149 v2.toNatClampNeg)), some (.int (w 148 (w 149 v2.toNatClampNeg).toNatClampNeg))], [.int v2, .int (w 149 v2.toNatClampNeg), .ref 148], SH, w)) rfl ?_
    refine EV.iastore cl_248 rfl rfl (by decide) (i3 h1) ?_
    refine EV.steps cl_248 4 (q2 := (35, [some (.ref 110), some (.int v1), some (.int v2), some (.int (w 149 v2.toNatClampNeg)), some (.int (w 148 (w 149 v2.toNatClampNeg).toNatClampNeg))], [.int (w 149 v2.toNatClampNeg), .int v2, .ref 148], SH, (up2 w 148 (w 149 v2.toNatClampNeg).toNatClampNeg v2))) rfl ?_
    refine EV.iastore cl_248 rfl rfl (by decide) (i2 h1) ?_
    refine EV.steps cl_248 3 (q2 := (2, [some (.ref 110), some (.int v1), some (.int (w 148 (w 149 v2.toNatClampNeg).toNatClampNeg)), some (.int (w 149 v2.toNatClampNeg)), some (.int (w 148 (w 149 v2.toNatClampNeg).toNatClampNeg))], [], SH, (up2 (up2 w 148 (w 149 v2.toNatClampNeg).toNatClampNeg v2) 148 v2.toNatClampNeg (w 149 v2.toNatClampNeg)))) rfl ?_
    exact i4 h1
set_option maxRecDepth 20000 in
theorem cl_250 : RCT[250]? = some rc_250 := rfl
theorem s_250_110_at0 {X : Scr} {d : Nat} {Q : Option Value → Sh → Wd → Prop} (w : Wd) (v1 : Int32) (i1 : (EV X (d + 1) 250 (2, [some (.ref 110), some (.int v1), some (.int (kI 0)), none, none], [], SH, w) Q)) : EV X (d + 1) 250 (0, [some (.ref 110), some (.int v1), none, none, none], [], SH, w) Q := by
  refine EV.steps cl_250 2 (q2 := (2, [some (.ref 110), some (.int v1), some (.int (kI 0)), none, none], [], SH, w)) rfl ?_
  exact i1
theorem s_250_110_at2 {X : Scr} {d : Nat} {Q : Option Value → Sh → Wd → Prop} (w : Wd) (v1 : Int32) (v2 : Int32) (i1 : (kI 12) ≤ v2 → (EV X (d + 1) 250 (86, [some (.ref 110), some (.int v1), some (.int (kI 11)), none, none], [], SH, w) Q)) (i2 : ¬ (kI 12) ≤ v2 → (inB (((kI 36) + ((kI 12) * v1)) + v2) 162 = true)) (i3 : ¬ (kI 12) ≤ v2 → (EV X (d + 1) 250 (26, [some (.ref 110), some (.int v1), some (.int v2), some (.int (w 111 (((kI 36) + ((kI 12) * v1)) + v2).toNatClampNeg)), some (.int v2)], [], SH, w) Q)) : EV X (d + 1) 250 (2, [some (.ref 110), some (.int v1), some (.int v2), none, none], [], SH, w) Q := by
  refine EV.steps cl_250 2 (q2 := (5, [some (.ref 110), some (.int v1), some (.int v2), none, none], [.int (kI 12), .int v2], SH, w)) rfl ?_
  refine EV.i_ge cl_250 rfl (fun h1 => ?_) (fun h1 => ?_)
  · skip
    refine EV.steps cl_250 2 (q2 := (86, [some (.ref 110), some (.int v1), some (.int (kI 11)), none, none], [], SH, w)) rfl ?_
    exact i1 h1
  · skip
    refine EV.steps cl_250 9 (q2 := (21, [some (.ref 110), some (.int v1), some (.int v2), none, none], [.int (((kI 36) + ((kI 12) * v1)) + v2), .ref 111], SH, w)) rfl ?_
    refine EV.iaload cl_250 rfl rfl (by decide) (i2 h1) ?_
    refine EV.steps cl_250 3 (q2 := (26, [some (.ref 110), some (.int v1), some (.int v2), some (.int (w 111 (((kI 36) + ((kI 12) * v1)) + v2).toNatClampNeg)), some (.int v2)], [], SH, w)) rfl ?_
    exact i3 h1
theorem s_250_110_at26 {X : Scr} {d : Nat} {Q : Option Value → Sh → Wd → Prop} (w : Wd) (v1 : Int32) (v2 : Int32) (v3 : Int32) (v4 : Int32) (i1 : v4 ≤ 0 → (inB v4 12 = true)) (i2 : v4 ≤ 0 → (EV X (d + 1) 250 (2, [some (.ref 110), some (.int v1), some (.int (v2 + (kI 1))), some (.int v3), some (.int v4)], [], SH, (up2 w 150 v4.toNatClampNeg v3)) Q)) (i3 : ¬ v4 ≤ 0 → (inB (v4 - (kI 1)) 12 = true)) (i4 : ¬ v4 ≤ 0 → (w 150 (v4 - (kI 1)).toNatClampNeg) ≤ v3 → (inB v4 12 = true)) (i5 : ¬ v4 ≤ 0 → (w 150 (v4 - (kI 1)).toNatClampNeg) ≤ v3 → (EV X (d + 1) 250 (2, [some (.ref 110), some (.int v1), some (.int (v2 + (kI 1))), some (.int v3), some (.int v4)], [], SH, (up2 w 150 v4.toNatClampNeg v3)) Q)) (i6 : ¬ v4 ≤ 0 → ¬ (w 150 (v4 - (kI 1)).toNatClampNeg) ≤ v3 → (inB (v4 - (kI 1)) 12 = true)) (i7 : ¬ v4 ≤ 0 → ¬ (w 150 (v4 - (kI 1)).toNatClampNeg) ≤ v3 → (inB v4 12 = true)) (i8 : ¬ v4 ≤ 0 → ¬ (w 150 (v4 - (kI 1)).toNatClampNeg) ≤ v3 → (EV X (d + 1) 250 (26, [some (.ref 110), some (.int v1), some (.int v2), some (.int v3), some (.int (v4 - (kI 1)))], [], SH, (up2 w 150 v4.toNatClampNeg (w 150 (v4 - (kI 1)).toNatClampNeg))) Q)) : EV X (d + 1) 250 (26, [some (.ref 110), some (.int v1), some (.int v2), some (.int v3), some (.int v4)], [], SH, w) Q := by
  refine EV.steps cl_250 1 (q2 := (28, [some (.ref 110), some (.int v1), some (.int v2), some (.int v3), some (.int v4)], [.int v4], SH, w)) rfl ?_
  refine EV.z_le cl_250 rfl (fun h1 => ?_) (fun h1 => ?_)
  · skip
    refine EV.steps cl_250 4 (q2 := (76, [some (.ref 110), some (.int v1), some (.int v2), some (.int v3), some (.int v4)], [.int v3, .int v4, .ref 150], SH, w)) rfl ?_
    refine EV.iastore cl_250 rfl rfl (by decide) (i1 h1) ?_
    refine EV.steps cl_250 2 (q2 := (2, [some (.ref 110), some (.int v1), some (.int (v2 + (kI 1))), some (.int v3), some (.int v4)], [], SH, (up2 w 150 v4.toNatClampNeg v3))) rfl ?_
    exact i2 h1
  · skip
    refine EV.steps cl_250 5 (q2 := (39, [some (.ref 110), some (.int v1), some (.int v2), some (.int v3), some (.int v4)], [.int (v4 - (kI 1)), .ref 150], SH, w)) rfl ?_
    refine EV.iaload cl_250 rfl rfl (by decide) (i3 h1) ?_
    refine EV.steps cl_250 1 (q2 := (41, [some (.ref 110), some (.int v1), some (.int v2), some (.int v3), some (.int v4)], [.int v3, .int (w 150 (v4 - (kI 1)).toNatClampNeg)], SH, w)) rfl ?_
    refine EV.i_le cl_250 rfl (fun h2 => ?_) (fun h2 => ?_)
    · skip
      refine EV.steps cl_250 4 (q2 := (76, [some (.ref 110), some (.int v1), some (.int v2), some (.int v3), some (.int v4)], [.int v3, .int v4, .ref 150], SH, w)) rfl ?_
      refine EV.iastore cl_250 rfl rfl (by decide) (i4 h1 h2) ?_
      refine EV.steps cl_250 2 (q2 := (2, [some (.ref 110), some (.int v1), some (.int (v2 + (kI 1))), some (.int v3), some (.int v4)], [], SH, (up2 w 150 v4.toNatClampNeg v3))) rfl ?_
      exact i5 h1 h2
    · skip
      refine EV.steps cl_250 8 (q2 := (58, [some (.ref 110), some (.int v1), some (.int v2), some (.int v3), some (.int v4)], [.int (v4 - (kI 1)), .ref 150, .int v4, .ref 150], SH, w)) rfl ?_
      refine EV.iaload cl_250 rfl rfl (by decide) (i6 h1 h2) ?_
      refine EV.iastore cl_250 rfl rfl (by decide) (i7 h1 h2) ?_
      refine EV.steps cl_250 5 (q2 := (26, [some (.ref 110), some (.int v1), some (.int v2), some (.int v3), some (.int (v4 - (kI 1)))], [], SH, (up2 w 150 v4.toNatClampNeg (w 150 (v4 - (kI 1)).toNatClampNeg)))) rfl ?_
      exact i8 h1 h2
theorem s_250_110_at86 {X : Scr} {d : Nat} {Q : Option Value → Sh → Wd → Prop} (w : Wd) (v1 : Int32) (v2 : Int32) (i1 : v2 < 0 → (Q (none) SH w)) (i2 : ¬ v2 < 0 → (EV X (d + 1) 250 (98, [some (.ref 110), some (.int v1), some (.int v2), some (.int (kI 100000000)), some (.int (kI 11))], [], SH, w) Q)) : EV X (d + 1) 250 (86, [some (.ref 110), some (.int v1), some (.int v2), none, none], [], SH, w) Q := by
  refine EV.steps cl_250 1 (q2 := (87, [some (.ref 110), some (.int v1), some (.int v2), none, none], [.int v2], SH, w)) rfl ?_
  refine EV.z_lt cl_250 rfl (fun h1 => ?_) (fun h1 => ?_)
  · skip
    refine EV.ret cl_250 rfl rfl rfl ?_
    exact i1 h1
  · skip
    refine EV.steps cl_250 4 (q2 := (98, [some (.ref 110), some (.int v1), some (.int v2), some (.int (kI 100000000)), some (.int (kI 11))], [], SH, w)) rfl ?_
    exact i2 h1
theorem s_250_110_at98 {X : Scr} {d : Nat} {Q : Option Value → Sh → Wd → Prop} (w : Wd) (v1 : Int32) (v2 : Int32) (v3 : Int32) (v4 : Int32) (i1 : v4 < 0 → (EV X (d + 1) 250 (86, [some (.ref 110), some (.int v1), some (.int (v2 + (kI (-1)))), some (.int v3), some (.int v4)], [], SH, w) Q)) (i2 : ¬ v4 < 0 → ¬ v2 = (kI 11) → (inB (((kI 12) * (v2 + (kI 1))) + v4) 144 = true)) (i3 : ¬ v4 < 0 → ¬ v2 = (kI 11) → (inB (((kI 36) + ((kI 12) * v1)) + v2) 162 = true)) (i4 : ¬ v4 < 0 → ¬ v2 = (kI 11) → (inB v4 12 = true)) (i5 : ¬ v4 < 0 → ¬ v2 = (kI 11) → (inB (((kI 12) * v2) + v4) 144 = true)) (i6 : ¬ v4 < 0 → ¬ v2 = (kI 11) → (EV X (d + 1) 250 (98, [some (.ref 110), some (.int v1), some (.int v2), some (.int (F_158 v3 (w 151 (((kI 12) * (v2 + (kI 1))) + v4).toNatClampNeg) w)), some (.int (v4 + (kI (-1))))], [], SH, (up2 w 151 (((kI 12) * v2) + v4).toNatClampNeg ((F_160 ((w 111 (((kI 36) + ((kI 12) * v1)) + v2).toNatClampNeg) - (w 150 v4.toNatClampNeg)) w) + (F_158 v3 (w 151 (((kI 12) * (v2 + (kI 1))) + v4).toNatClampNeg) w)))) Q)) (i7 : ¬ v4 < 0 → v2 = (kI 11) → (inB (((kI 36) + ((kI 12) * v1)) + v2) 162 = true)) (i8 : ¬ v4 < 0 → v2 = (kI 11) → (inB v4 12 = true)) (i9 : ¬ v4 < 0 → v2 = (kI 11) → (inB (((kI 12) * v2) + v4) 144 = true)) (i10 : ¬ v4 < 0 → v2 = (kI 11) → (EV X (d + 1) 250 (98, [some (.ref 110), some (.int v1), some (.int v2), some (.int (kI 0)), some (.int (v4 + (kI (-1))))], [], SH, (up2 w 151 (((kI 12) * v2) + v4).toNatClampNeg ((F_160 ((w 111 (((kI 36) + ((kI 12) * v1)) + v2).toNatClampNeg) - (w 150 v4.toNatClampNeg)) w) + (kI 0)))) Q)) : EV X (d + 1) 250 (98, [some (.ref 110), some (.int v1), some (.int v2), some (.int v3), some (.int v4)], [], SH, w) Q := by
  refine EV.steps cl_250 1 (q2 := (100, [some (.ref 110), some (.int v1), some (.int v2), some (.int v3), some (.int v4)], [.int v4], SH, w)) rfl ?_
  refine EV.z_lt cl_250 rfl (fun h1 => ?_) (fun h1 => ?_)
  · skip
    refine EV.steps cl_250 2 (q2 := (86, [some (.ref 110), some (.int v1), some (.int (v2 + (kI (-1)))), some (.int v3), some (.int v4)], [], SH, w)) rfl ?_
    exact i1 h1
  · skip
    refine EV.steps cl_250 2 (q2 := (106, [some (.ref 110), some (.int v1), some (.int v2), some (.int v3), some (.int v4)], [.int (kI 11), .int v2], SH, w)) rfl ?_
    refine EV.i_ne cl_250 rfl (fun h2 => ?_) (fun h2 => ?_)
    · skip
      refine EV.steps cl_250 10 (q2 := (127, [some (.ref 110), some (.int v1), some (.int v2), some (.int v3), some (.int v4)], [.int (((kI 12) * (v2 + (kI 1))) + v4), .ref 151, .int v3], SH, w)) rfl ?_
      refine EV.iaload cl_250 rfl rfl (by decide) (i2 h1 h2) ?_
      refine EV.callF (kc := 158) (av := [.int v3, .int (w 151 (((kI 12) * (v2 + (kI 1))) + v4).toNatClampNeg)]) (r := []) (rv := some (.int (F_158 v3 (w 151 (((kI 12) * (v2 + (kI 1))) + v4).toNatClampNeg) w))) (w2 := w) cl_250 rfl rfl rfl (m_158 w v3 (w 151 (((kI 12) * (v2 + (kI 1))) + v4).toNatClampNeg)) ?_
      refine EV.steps cl_250 17 (q2 := (156, [some (.ref 110), some (.int v1), some (.int v2), some (.int (F_158 v3 (w 151 (((kI 12) * (v2 + (kI 1))) + v4).toNatClampNeg) w)), some (.int v4)], [.int (((kI 36) + ((kI 12) * v1)) + v2), .ref 111, .int (((kI 12) * v2) + v4), .ref 151], SH, w)) rfl ?_
      refine EV.iaload cl_250 rfl rfl (by decide) (i3 h1 h2) ?_
      refine EV.steps cl_250 3 (q2 := (163, [some (.ref 110), some (.int v1), some (.int v2), some (.int (F_158 v3 (w 151 (((kI 12) * (v2 + (kI 1))) + v4).toNatClampNeg) w)), some (.int v4)], [.int v4, .ref 150, .int (w 111 (((kI 36) + ((kI 12) * v1)) + v2).toNatClampNeg), .int (((kI 12) * v2) + v4), .ref 151], SH, w)) rfl ?_
      refine EV.iaload cl_250 rfl rfl (by decide) (i4 h1 h2) ?_
      refine EV.steps cl_250 1 (q2 := (165, [some (.ref 110), some (.int v1), some (.int v2), some (.int (F_158 v3 (w 151 (((kI 12) * (v2 + (kI 1))) + v4).toNatClampNeg) w)), some (.int v4)], [.int ((w 111 (((kI 36) + ((kI 12) * v1)) + v2).toNatClampNeg) - (w 150 v4.toNatClampNeg)), .int (((kI 12) * v2) + v4), .ref 151], SH, w)) rfl ?_
      refine EV.callF (kc := 160) (av := [.int ((w 111 (((kI 36) + ((kI 12) * v1)) + v2).toNatClampNeg) - (w 150 v4.toNatClampNeg))]) (r := [.int (((kI 12) * v2) + v4), .ref 151]) (rv := some (.int (F_160 ((w 111 (((kI 36) + ((kI 12) * v1)) + v2).toNatClampNeg) - (w 150 v4.toNatClampNeg)) w))) (w2 := w) cl_250 rfl rfl rfl (m_160 w ((w 111 (((kI 36) + ((kI 12) * v1)) + v2).toNatClampNeg) - (w 150 v4.toNatClampNeg))) ?_
      refine EV.steps cl_250 2 (q2 := (170, [some (.ref 110), some (.int v1), some (.int v2), some (.int (F_158 v3 (w 151 (((kI 12) * (v2 + (kI 1))) + v4).toNatClampNeg) w)), some (.int v4)], [.int ((F_160 ((w 111 (((kI 36) + ((kI 12) * v1)) + v2).toNatClampNeg) - (w 150 v4.toNatClampNeg)) w) + (F_158 v3 (w 151 (((kI 12) * (v2 + (kI 1))) + v4).toNatClampNeg) w)), .int (((kI 12) * v2) + v4), .ref 151], SH, w)) rfl ?_
      refine EV.iastore cl_250 rfl rfl (by decide) (i5 h1 h2) ?_
      refine EV.steps cl_250 2 (q2 := (98, [some (.ref 110), some (.int v1), some (.int v2), some (.int (F_158 v3 (w 151 (((kI 12) * (v2 + (kI 1))) + v4).toNatClampNeg) w)), some (.int (v4 + (kI (-1))))], [], SH, (up2 w 151 (((kI 12) * v2) + v4).toNatClampNeg ((F_160 ((w 111 (((kI 36) + ((kI 12) * v1)) + v2).toNatClampNeg) - (w 150 v4.toNatClampNeg)) w) + (F_158 v3 (w 151 (((kI 12) * (v2 + (kI 1))) + v4).toNatClampNeg) w))))) rfl ?_
      exact i6 h1 h2
    · skip
      refine EV.steps cl_250 19 (q2 := (156, [some (.ref 110), some (.int v1), some (.int v2), some (.int (kI 0)), some (.int v4)], [.int (((kI 36) + ((kI 12) * v1)) + v2), .ref 111, .int (((kI 12) * v2) + v4), .ref 151], SH, w)) rfl ?_
      refine EV.iaload cl_250 rfl rfl (by decide) (i7 h1 h2) ?_
      refine EV.steps cl_250 3 (q2 := (163, [some (.ref 110), some (.int v1), some (.int v2), some (.int (kI 0)), some (.int v4)], [.int v4, .ref 150, .int (w 111 (((kI 36) + ((kI 12) * v1)) + v2).toNatClampNeg), .int (((kI 12) * v2) + v4), .ref 151], SH, w)) rfl ?_
      refine EV.iaload cl_250 rfl rfl (by decide) (i8 h1 h2) ?_
      refine EV.steps cl_250 1 (q2 := (165, [some (.ref 110), some (.int v1), some (.int v2), some (.int (kI 0)), some (.int v4)], [.int ((w 111 (((kI 36) + ((kI 12) * v1)) + v2).toNatClampNeg) - (w 150 v4.toNatClampNeg)), .int (((kI 12) * v2) + v4), .ref 151], SH, w)) rfl ?_
      refine EV.callF (kc := 160) (av := [.int ((w 111 (((kI 36) + ((kI 12) * v1)) + v2).toNatClampNeg) - (w 150 v4.toNatClampNeg))]) (r := [.int (((kI 12) * v2) + v4), .ref 151]) (rv := some (.int (F_160 ((w 111 (((kI 36) + ((kI 12) * v1)) + v2).toNatClampNeg) - (w 150 v4.toNatClampNeg)) w))) (w2 := w) cl_250 rfl rfl rfl (m_160 w ((w 111 (((kI 36) + ((kI 12) * v1)) + v2).toNatClampNeg) - (w 150 v4.toNatClampNeg))) ?_
      refine EV.steps cl_250 2 (q2 := (170, [some (.ref 110), some (.int v1), some (.int v2), some (.int (kI 0)), some (.int v4)], [.int ((F_160 ((w 111 (((kI 36) + ((kI 12) * v1)) + v2).toNatClampNeg) - (w 150 v4.toNatClampNeg)) w) + (kI 0)), .int (((kI 12) * v2) + v4), .ref 151], SH, w)) rfl ?_
      refine EV.iastore cl_250 rfl rfl (by decide) (i9 h1 h2) ?_
      refine EV.steps cl_250 2 (q2 := (98, [some (.ref 110), some (.int v1), some (.int v2), some (.int (kI 0)), some (.int (v4 + (kI (-1))))], [], SH, (up2 w 151 (((kI 12) * v2) + v4).toNatClampNeg ((F_160 ((w 111 (((kI 36) + ((kI 12) * v1)) + v2).toNatClampNeg) - (w 150 v4.toNatClampNeg)) w) + (kI 0))))) rfl ?_
      exact i10 h1 h2
set_option maxRecDepth 20000 in
theorem cl_256 : RCT[256]? = some rc_256 := rfl
theorem s_256_110_at0 {X : Scr} {d : Nat} {Q : Option Value → Sh → Wd → Prop} (w : Wd) (v1 : Int32) (v2 : Int32) (i1 : (F_165_110 v1 w) = 0 → (Q (some (.int (kI (-2)))) SH w)) (i2 : ¬ (F_165_110 v1 w) = 0 → (F_157 v2 (kI 0) (kI 6) w) = 0 → (Q (some (.int (kI (-2)))) SH w)) (i3 : ¬ (F_165_110 v1 w) = 0 → ¬ (F_157 v2 (kI 0) (kI 6) w) = 0 → v2 ≤ (w 110 10) → (EV X (d + 2) 256 (36, [some (.ref 110), some (.int v1), some (.int v2), some (.int (kI 0))], [], SH, (up2 w 110 10 (kI 0))) Q)) (i4 : ¬ (F_165_110 v1 w) = 0 → ¬ (F_157 v2 (kI 0) (kI 6) w) = 0 → ¬ v2 ≤ (w 110 10) → (Q (some (.int (kI (-2)))) SH w)) : EV X (d + 2) 256 (0, [some (.ref 110), some (.int v1), some (.int v2), none], [], SH, w) Q := by
  refine EV.steps cl_256 2 (q2 := (2, [some (.ref 110), some (.int v1), some (.int v2), none], [.int v1, .ref 110], SH, w)) rfl ?_
  refine EV.callF (kc := 165) (av := [.ref 110, .int v1]) (r := []) (rv := some (.int (F_165_110 v1 w))) (w2 := w) cl_256 rfl rfl rfl (m_165_110 w v1) ?_
  refine EV.z_eq cl_256 rfl (fun h1 => ?_) (fun h1 => ?_)
  · skip
    refine EV.steps cl_256 1 (q2 := (28, [some (.ref 110), some (.int v1), some (.int v2), none], [.int (kI (-2))], SH, w)) rfl ?_
    refine EV.ret cl_256 rfl rfl rfl ?_
    exact i1 h1
  · skip
    refine EV.steps cl_256 3 (q2 := (12, [some (.ref 110), some (.int v1), some (.int v2), none], [.int (kI 6), .int (kI 0), .int v2], SH, w)) rfl ?_
    refine EV.callF (kc := 157) (av := [.int v2, .int (kI 0), .int (kI 6)]) (r := []) (rv := some (.int (F_157 v2 (kI 0) (kI 6) w))) (w2 := w) cl_256 rfl rfl rfl (m_157 w v2 (kI 0) (kI 6)) ?_
    refine EV.z_eq cl_256 rfl (fun h2 => ?_) (fun h2 => ?_)
    · skip
      refine EV.steps cl_256 1 (q2 := (28, [some (.ref 110), some (.int v1), some (.int v2), none], [.int (kI (-2))], SH, w)) rfl ?_
      refine EV.ret cl_256 rfl rfl rfl ?_
      exact i2 h1 h2
    · skip
      refine EV.steps cl_256 3 (q2 := (23, [some (.ref 110), some (.int v1), some (.int v2), none], [.int (w 110 10), .int v2], SH, w)) rfl ?_
      refine EV.i_le cl_256 rfl (fun h3 => ?_) (fun h3 => ?_)
      · skip
        refine EV.steps cl_256 5 (q2 := (36, [some (.ref 110), some (.int v1), some (.int v2), some (.int (kI 0))], [], SH, (up2 w 110 10 (kI 0)))) rfl ?_
        exact i3 h1 h2 h3
      · skip
        refine EV.steps cl_256 1 (q2 := (28, [some (.ref 110), some (.int v1), some (.int v2), none], [.int (kI (-2))], SH, w)) rfl ?_
        refine EV.ret cl_256 rfl rfl rfl ?_
        exact i4 h1 h2 h3
theorem s_256_110_at36 {X : Scr} {d : Nat} {Q : Option Value → Sh → Wd → Prop} (w : Wd) (v1 : Int32) (v2 : Int32) (v3 : Int32) (i1 : v2 ≤ v3 → (Q (some (.int (kI (-1)))) SH w)) (i2 : ¬ v2 ≤ v3 → (inB v3 260 = true)) (i3 : ¬ v2 ≤ v3 → (F_164_110 v3 w) = 0 → ((w 117 v3.toNatClampNeg) &&& (kI 255)) = (kI 0) → (EV X (d + 2) 256 (36, [some (.ref 110), some (.int v1), some (.int v2), some (.int (v3 + (kI 1)))], [], SH, w) Q)) (i4 : ¬ v2 ≤ v3 → (F_164_110 v3 w) = 0 → ¬ ((w 117 v3.toNatClampNeg) &&& (kI 255)) = (kI 0) → (Q (some (.int v3)) SH w)) (i5 : ¬ v2 ≤ v3 → ¬ (F_164_110 v3 w) = 0 → ((inB (((kI 0) + ((kI 6) * v3)) + v1) 162 = true))) (i6 : ¬ v2 ≤ v3 → ¬ (F_164_110 v3 w) = 0 → ((w 117 v3.toNatClampNeg) &&& (kI 255)) = ((F_166_110 v3 v1 w) - (F_166_110 v3 v1 w) / (kI 256) * (kI 256)) → (EV X (d + 2) 256 (36, [some (.ref 110), some (.int v1), some (.int v2), some (.int (v3 + (kI 1)))], [], SH, w) Q)) (i7 : ¬ v2 ≤ v3 → ¬ (F_164_110 v3 w) = 0 → ¬ ((w 117 v3.toNatClampNeg) &&& (kI 255)) = ((F_166_110 v3 v1 w) - (F_166_110 v3 v1 w) / (kI 256) * (kI 256)) → (Q (some (.int v3)) SH w)) : EV X (d + 2) 256 (36, [some (.ref 110), some (.int v1), some (.int v2), some (.int v3)], [], SH, w) Q := by
  refine EV.steps cl_256 2 (q2 := (38, [some (.ref 110), some (.int v1), some (.int v2), some (.int v3)], [.int v2, .int v3], SH, w)) rfl ?_
  refine EV.i_ge cl_256 rfl (fun h1 => ?_) (fun h1 => ?_)
  · skip
    refine EV.steps cl_256 1 (q2 := (85, [some (.ref 110), some (.int v1), some (.int v2), some (.int v3)], [.int (kI (-1))], SH, w)) rfl ?_
    refine EV.ret cl_256 rfl rfl rfl ?_
    exact i1 h1
  · skip
    refine EV.steps cl_256 3 (q2 := (46, [some (.ref 110), some (.int v1), some (.int v2), some (.int v3)], [.int v3, .ref 117], SH, w)) rfl ?_
    refine EV.baload cl_256 rfl rfl (by decide) (i2 h1) ?_
    refine EV.steps cl_256 4 (q2 := (53, [some (.ref 110), some (.int v1), some (.int v2), some (.int v3)], [.int v3, .ref 110, .int ((w 117 v3.toNatClampNeg) &&& (kI 255))], SH, w)) rfl ?_
    refine EV.callF (kc := 164) (av := [.ref 110, .int v3]) (r := [.int ((w 117 v3.toNatClampNeg) &&& (kI 255))]) (rv := some (.int (F_164_110 v3 w))) (w2 := w) cl_256 rfl rfl rfl (m_164_110 w v3) ?_
    refine EV.z_eq cl_256 rfl (fun h2 => ?_) (fun h2 => ?_)
    · skip
      refine EV.steps cl_256 1 (q2 := (73, [some (.ref 110), some (.int v1), some (.int v2), some (.int v3)], [.int (kI 0), .int ((w 117 v3.toNatClampNeg) &&& (kI 255))], SH, w)) rfl ?_
      refine EV.i_eq cl_256 rfl (fun h3 => ?_) (fun h3 => ?_)
      · skip
        refine EV.steps cl_256 2 (q2 := (36, [some (.ref 110), some (.int v1), some (.int v2), some (.int (v3 + (kI 1)))], [], SH, w)) rfl ?_
        exact i3 h1 h2 h3
      · skip
        refine EV.steps cl_256 1 (q2 := (77, [some (.ref 110), some (.int v1), some (.int v2), some (.int v3)], [.int v3], SH, w)) rfl ?_
        refine EV.ret cl_256 rfl rfl rfl ?_
        exact i4 h1 h2 h3
    · skip
      refine EV.steps cl_256 3 (q2 := (62, [some (.ref 110), some (.int v1), some (.int v2), some (.int v3)], [.int v1, .int v3, .ref 110, .int ((w 117 v3.toNatClampNeg) &&& (kI 255))], SH, w)) rfl ?_
      refine EV.callF (kc := 166) (av := [.ref 110, .int v3, .int v1]) (r := [.int ((w 117 v3.toNatClampNeg) &&& (kI 255))]) (rv := some (.int (F_166_110 v3 v1 w))) (w2 := w) cl_256 rfl rfl rfl (m_166_110 w v3 v1 (i5 h1 h2)) ?_
      refine EV.steps cl_256 1 (q2 := (68, [some (.ref 110), some (.int v1), some (.int v2), some (.int v3)], [.int (kI 256), .int (F_166_110 v3 v1 w), .int ((w 117 v3.toNatClampNeg) &&& (kI 255))], SH, w)) rfl ?_
      refine EV.irem cl_256 rfl (by decide) ?_
      refine EV.steps cl_256 1 (q2 := (73, [some (.ref 110), some (.int v1), some (.int v2), some (.int v3)], [.int ((F_166_110 v3 v1 w) - (F_166_110 v3 v1 w) / (kI 256) * (kI 256)), .int ((w 117 v3.toNatClampNeg) &&& (kI 255))], SH, w)) rfl ?_
      refine EV.i_eq cl_256 rfl (fun h4 => ?_) (fun h4 => ?_)
      · skip
        refine EV.steps cl_256 2 (q2 := (36, [some (.ref 110), some (.int v1), some (.int v2), some (.int (v3 + (kI 1)))], [], SH, w)) rfl ?_
        exact i6 h1 h2 h4
      · skip
        refine EV.steps cl_256 1 (q2 := (77, [some (.ref 110), some (.int v1), some (.int v2), some (.int v3)], [.int v3], SH, w)) rfl ?_
        refine EV.ret cl_256 rfl rfl rfl ?_
        exact i7 h1 h2 h4
