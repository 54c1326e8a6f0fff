set_option maxRecDepth 20000 in
theorem cl_59 : RCT[59]? = some rc_59 := rfl
theorem s_59_3_at0 {X : Scr} {d : Nat} {Q : Option Value → Sh → Wd → Prop} (w : Wd) (v1 : Int32) (i1 : (EV X (d + 1) 59 (6, [some (.ref 3), some (.int v1), some (.int ((kI 1) <<< (v1 &&& 31))), some (.int (kI 0))], [], SH, w) Q)) : EV X (d + 1) 59 (0, [some (.ref 3), some (.int v1), none, none], [], SH, w) Q := by
  refine EV.steps cl_59 6 (q2 := (6, [some (.ref 3), some (.int v1), some (.int ((kI 1) <<< (v1 &&& 31))), some (.int (kI 0))], [], SH, w)) rfl ?_
  exact i1
theorem s_59_3_at6 {X : Scr} {d : Nat} {Q : Option Value → Sh → Wd → Prop} (w : Wd) (v1 : Int32) (v2 : Int32) (v3 : Int32) (i1 : (kI 6) ≤ v3 → (Q (some (.int v2)) SH w)) (i2 : ¬ (kI 6) ≤ v3 → (EV X (d + 2) 59 (6, [some (.ref 3), some (.int v1), some (.int (v2 ||| (F_58_3 v2 w))), some (.int (v3 + (kI 1)))], [], SH, w) Q)) : EV X (d + 2) 59 (6, [some (.ref 3), some (.int v1), some (.int v2), some (.int v3)], [], SH, w) Q := by
  refine EV.steps cl_59 2 (q2 := (9, [some (.ref 3), some (.int v1), some (.int v2), some (.int v3)], [.int (kI 6), .int v3], SH, w)) rfl ?_
  refine EV.i_ge cl_59 rfl (fun h1 => ?_) (fun h1 => ?_)
  · skip
    refine EV.steps cl_59 1 (q2 := (27, [some (.ref 3), some (.int v1), some (.int v2), some (.int v3)], [.int v2], SH, w)) rfl ?_
    refine EV.ret cl_59 rfl rfl rfl ?_
    exact i1 h1
  · skip
    refine EV.steps cl_59 3 (q2 := (15, [some (.ref 3), some (.int v1), some (.int v2), some (.int v3)], [.int v2, .ref 3, .int v2], SH, w)) rfl ?_
    refine EV.callF (kc := 58) (av := [.ref 3, .int v2]) (r := [.int v2]) (rv := some (.int (F_58_3 v2 w))) (w2 := w) cl_59 rfl rfl rfl (m_58_3 w v2) ?_
    refine EV.steps cl_59 4 (q2 := (6, [some (.ref 3), some (.int v1), some (.int (v2 ||| (F_58_3 v2 w))), some (.int (v3 + (kI 1)))], [], SH, w)) rfl ?_
    exact i2 h1
set_option maxRecDepth 20000 in
theorem cl_218 : RCT[218]? = some rc_218 := rfl
theorem s_218_110_at0 {X : Scr} {d : Nat} {Q : Option Value → Sh → Wd → Prop} (w : Wd) (v1 : Int32) (i1 : (EV X (d + 3) 218 (13, [some (.ref 110), some (.int v1), some (.int (F_168_110 w)), some (.int v1), some (.int (kI 0)), some (.int (kI 0)), none], [], SH, w) Q)) : EV X (d + 3) 218 (0, [some (.ref 110), some (.int v1), none, none, none, none, none], [], SH, w) Q := by
  refine EV.steps cl_218 1 (q2 := (1, [some (.ref 110), some (.int v1), none, none, none, none, none], [.ref 110], SH, w)) rfl ?_
  refine EV.callF (kc := 168) (av := [.ref 110]) (r := []) (rv := some (.int (F_168_110 w))) (w2 := w) cl_218 rfl rfl rfl (m_168_110 w ) ?_
  refine EV.steps cl_218 7 (q2 := (13, [some (.ref 110), some (.int v1), some (.int (F_168_110 w)), some (.int v1), some (.int (kI 0)), some (.int (kI 0)), none], [], SH, w)) rfl ?_
  exact i1
theorem s_218_110_at13 {X : Scr} {d : Nat} {Q : Option Value → Sh → Wd → Prop} (w : Wd) (v1 : Int32) (v2 : Int32) (v3 : Int32) (v4 : Int32) (v5 : Int32) (i1 : (kI 6) ≤ v5 → (EV X (d + 2) 218 (71, [some (.ref 110), some (.int v1), some (.int v2), some (.int v3), some (.int v4), some (.int v5), none], [], SH, w) Q)) (i2 : ¬ (kI 6) ≤ v5 → v2 ≤ 0 → (inB v5 6 = true)) (i3 : ¬ (kI 6) ≤ v5 → v2 ≤ 0 → (EV X (d + 2) 218 (13, [some (.ref 110), some (.int v1), some (.int v2), some (.int (v3 - ((up2 w 133 v5.toNatClampNeg (kI 0)) 133 v5.toNatClampNeg))), some (.int v4), some (.int (v5 + (kI 1))), none], [], SH, (up2 w 133 v5.toNatClampNeg (kI 0))) Q)) (i4 : ¬ (kI 6) ≤ v5 → ¬ v2 ≤ 0 → (F_164_110 v5 w) = 0 → (inB v5 6 = true)) (i5 : ¬ (kI 6) ≤ v5 → ¬ v2 ≤ 0 → (F_164_110 v5 w) = 0 → (EV X (d + 2) 218 (13, [some (.ref 110), some (.int v1), some (.int v2), some (.int (v3 - ((up2 w 133 v5.toNatClampNeg (kI 0)) 133 v5.toNatClampNeg))), some (.int v4), some (.int (v5 + (kI 1))), none], [], SH, (up2 w 133 v5.toNatClampNeg (kI 0))) Q)) (i6 : ¬ (kI 6) ≤ v5 → ¬ v2 ≤ 0 → ¬ (F_164_110 v5 w) = 0 → (inB v5 6 = true)) (i7 : ¬ (kI 6) ≤ v5 → ¬ v2 ≤ 0 → ¬ (F_164_110 v5 w) = 0 → (¬ v2 = 0)) (i8 : ¬ (kI 6) ≤ v5 → ¬ v2 ≤ 0 → ¬ (F_164_110 v5 w) = 0 → (EV X (d + 2) 218 (13, [some (.ref 110), some (.int v1), some (.int v2), some (.int (v3 - ((up2 w 133 v5.toNatClampNeg (((w 114 v5.toNatClampNeg) * v1) / v2)) 133 v5.toNatClampNeg))), some (.int v4), some (.int (v5 + (kI 1))), none], [], SH, (up2 w 133 v5.toNatClampNeg (((w 114 v5.toNatClampNeg) * v1) / v2))) Q)) : EV X (d + 2) 218 (13, [some (.ref 110), some (.int v1), some (.int v2), some (.int v3), some (.int v4), some (.int v5), none], [], SH, w) Q := by
  refine EV.steps cl_218 2 (q2 := (17, [some (.ref 110), some (.int v1), some (.int v2), some (.int v3), some (.int v4), some (.int v5), none], [.int (kI 6), .int v5], SH, w)) rfl ?_
  refine EV.i_ge cl_218 rfl (fun h1 => ?_) (fun h1 => ?_)
  · skip
    exact i1 h1
  · skip
    refine EV.steps cl_218 4 (q2 := (27, [some (.ref 110), some (.int v1), some (.int v2), some (.int v3), some (.int v4), some (.int v5), none], [.int v2, .int v5, .ref 133], SH, w)) rfl ?_
    refine EV.z_le cl_218 rfl (fun h2 => ?_) (fun h2 => ?_)
    · skip
      refine EV.steps cl_218 1 (q2 := (54, [some (.ref 110), some (.int v1), some (.int v2), some (.int v3), some (.int v4), some (.int v5), none], [.int (kI 0), .int v5, .ref 133], SH, w)) rfl ?_
      refine EV.iastore cl_218 rfl rfl (by decide) (i2 h1 h2) ?_
      refine EV.steps cl_218 4 (q2 := (62, [some (.ref 110), some (.int v1), some (.int v2), some (.int v3), some (.int v4), some (.int v5), none], [.int v5, .ref 133, .int v3], SH, (up2 w 133 v5.toNatClampNeg (kI 0)))) rfl ?_
      refine EV.iaload cl_218 rfl rfl (by decide) (i2 h1 h2) ?_
      refine EV.steps cl_218 4 (q2 := (13, [some (.ref 110), some (.int v1), some (.int v2), some (.int (v3 - ((up2 w 133 v5.toNatClampNeg (kI 0)) 133 v5.toNatClampNeg))), some (.int v4), some (.int (v5 + (kI 1))), none], [], SH, (up2 w 133 v5.toNatClampNeg (kI 0)))) rfl ?_
      exact i3 h1 h2
    · skip
      refine EV.steps cl_218 2 (q2 := (33, [some (.ref 110), some (.int v1), some (.int v2), some (.int v3), some (.int v4), some (.int v5), none], [.int v5, .ref 110, .int v5, .ref 133], SH, w)) rfl ?_
      refine EV.callF (kc := 164) (av := [.ref 110, .int v5]) (r := [.int v5, .ref 133]) (rv := some (.int (F_164_110 v5 w))) (w2 := w) cl_218 rfl rfl rfl (m_164_110 w v5) ?_
      refine EV.z_eq cl_218 rfl (fun h3 => ?_) (fun h3 => ?_)
      · skip
        refine EV.steps cl_218 1 (q2 := (54, [some (.ref 110), some (.int v1), some (.int v2), some (.int v3), some (.int v4), some (.int v5), none], [.int (kI 0), .int v5, .ref 133], SH, w)) rfl ?_
        refine EV.iastore cl_218 rfl rfl (by decide) (i4 h1 h2 h3) ?_
        refine EV.steps cl_218 4 (q2 := (62, [some (.ref 110), some (.int v1), some (.int v2), some (.int v3), some (.int v4), some (.int v5), none], [.int v5, .ref 133, .int v3], SH, (up2 w 133 v5.toNatClampNeg (kI 0)))) rfl ?_
        refine EV.iaload cl_218 rfl rfl (by decide) (i4 h1 h2 h3) ?_
        refine EV.steps cl_218 4 (q2 := (13, [some (.ref 110), some (.int v1), some (.int v2), some (.int (v3 - ((up2 w 133 v5.toNatClampNeg (kI 0)) 133 v5.toNatClampNeg))), some (.int v4), some (.int (v5 + (kI 1))), none], [], SH, (up2 w 133 v5.toNatClampNeg (kI 0)))) rfl ?_
        exact i5 h1 h2 h3
      · skip
        refine EV.steps cl_218 3 (q2 := (45, [some (.ref 110), some (.int v1), some (.int v2), some (.int v3), some (.int v4), some (.int v5), none], [.int v5, .ref 114, .int v5, .ref 133], SH, w)) rfl ?_
        refine EV.iaload cl_218 rfl rfl (by decide) (i6 h1 h2 h3) ?_
        refine EV.steps cl_218 3 (q2 := (49, [some (.ref 110), some (.int v1), some (.int v2), some (.int v3), some (.int v4), some (.int v5), none], [.int v2, .int ((w 114 v5.toNatClampNeg) * v1), .int v5, .ref 133], SH, w)) rfl ?_
        refine EV.idiv cl_218 rfl (i7 h1 h2 h3) ?_
        refine EV.steps cl_218 1 (q2 := (54, [some (.ref 110), some (.int v1), some (.int v2), some (.int v3), some (.int v4), some (.int v5), none], [.int (((w 114 v5.toNatClampNeg) * v1) / v2), .int v5, .ref 133], SH, w)) rfl ?_
        refine EV.iastore cl_218 rfl rfl (by decide) (i6 h1 h2 h3) ?_
        refine EV.steps cl_218 4 (q2 := (62, [some (.ref 110), some (.int v1), some (.int v2), some (.int v3), some (.int v4), some (.int v5), none], [.int v5, .ref 133, .int v3], SH, (up2 w 133 v5.toNatClampNeg (((w 114 v5.toNatClampNeg) * v1) / v2)))) rfl ?_
        refine EV.iaload cl_218 rfl rfl (by decide) (i6 h1 h2 h3) ?_
        refine EV.steps cl_218 4 (q2 := (13, [some (.ref 110), some (.int v1), some (.int v2), some (.int (v3 - ((up2 w 133 v5.toNatClampNeg (((w 114 v5.toNatClampNeg) * v1) / v2)) 133 v5.toNatClampNeg))), some (.int v4), some (.int (v5 + (kI 1))), none], [], SH, (up2 w 133 v5.toNatClampNeg (((w 114 v5.toNatClampNeg) * v1) / v2)))) rfl ?_
        exact i8 h1 h2 h3
theorem s_218_110_at71 {X : Scr} {d : Nat} {Q : Option Value → Sh → Wd → Prop} (w : Wd) (v1 : Int32) (v2 : Int32) (v3 : Int32) (v4 : Int32) (v5 : Int32) (i1 : v3 ≤ 0 → (Q (none) SH w)) (i2 : ¬ v3 ≤ 0 → v2 ≤ 0 → (Q (none) SH w)) (i3 : ¬ v3 ≤ 0 → ¬ v2 ≤ 0 → (EV X (d + 1) 218 (85, [some (.ref 110), some (.int v1), some (.int v2), some (.int v3), some (.int v4), some (.int (kI (-1))), some (.int (kI 0))], [], SH, w) Q)) : EV X (d + 1) 218 (71, [some (.ref 110), some (.int v1), some (.int v2), some (.int v3), some (.int v4), some (.int v5), none], [], SH, w) Q := by
  refine EV.steps cl_218 1 (q2 := (72, [some (.ref 110), some (.int v1), some (.int v2), some (.int v3), some (.int v4), some (.int v5), none], [.int v3], SH, w)) rfl ?_
  refine EV.z_le cl_218 rfl (fun h1 => ?_) (fun h1 => ?_)
  · skip
    refine EV.ret cl_218 rfl rfl rfl ?_
    exact i1 h1
  · skip
    refine EV.steps cl_218 1 (q2 := (76, [some (.ref 110), some (.int v1), some (.int v2), some (.int v3), some (.int v4), some (.int v5), none], [.int v2], SH, w)) rfl ?_
    refine EV.z_le cl_218 rfl (fun h2 => ?_) (fun h2 => ?_)
    · skip
      refine EV.ret cl_218 rfl rfl rfl ?_
      exact i2 h1 h2
    · skip
      refine EV.steps cl_218 4 (q2 := (85, [some (.ref 110), some (.int v1), some (.int v2), some (.int v3), some (.int v4), some (.int (kI (-1))), some (.int (kI 0))], [], SH, w)) rfl ?_
      exact i3 h1 h2
theorem s_218_110_at85 {X : Scr} {d : Nat} {Q : Option Value → Sh → Wd → Prop} (w : Wd) (v1 : Int32) (v2 : Int32) (v3 : Int32) (v4 : Int32) (v5 : Int32) (v6 : Int32) (i1 : (kI 6) ≤ v6 → (inB v5 6 = true)) (i2 : (kI 6) ≤ v6 → (EV X (d + 2) 218 (71, [some (.ref 110), some (.int v1), some (.int v2), some (.int (v3 - (kI 1))), some (.int (v4 ||| ((kI 1) <<< (v5 &&& 31)))), some (.int v5), some (.int v6)], [], SH, (up2 w 133 v5.toNatClampNeg ((w 133 v5.toNatClampNeg) + (kI 1)))) Q)) (i3 : ¬ (kI 6) ≤ v6 → (F_164_110 v6 w) = 0 → (EV X (d + 2) 218 (85, [some (.ref 110), some (.int v1), some (.int v2), some (.int v3), some (.int v4), some (.int v5), some (.int (v6 + (kI 1)))], [], SH, w) Q)) (i4 : ¬ (kI 6) ≤ v6 → ¬ (F_164_110 v6 w) = 0 → (inB v6 6 = true)) (i5 : ¬ (kI 6) ≤ v6 → ¬ (F_164_110 v6 w) = 0 → (w 114 v6.toNatClampNeg) = 0 → (EV X (d + 2) 218 (85, [some (.ref 110), some (.int v1), some (.int v2), some (.int v3), some (.int v4), some (.int v5), some (.int (v6 + (kI 1)))], [], SH, w) Q)) (i6 : ¬ (kI 6) ≤ v6 → ¬ (F_164_110 v6 w) = 0 → ¬ (w 114 v6.toNatClampNeg) = 0 → (F_161 v4 v6 w) = 0 → v5 = (kI (-1)) → (EV X (d + 2) 218 (85, [some (.ref 110), some (.int v1), some (.int v2), some (.int v3), some (.int v4), some (.int v6), some (.int (v6 + (kI 1)))], [], SH, w) Q)) (i7 : ¬ (kI 6) ≤ v6 → ¬ (F_164_110 v6 w) = 0 → ¬ (w 114 v6.toNatClampNeg) = 0 → (F_161 v4 v6 w) = 0 → ¬ v5 = (kI (-1)) → (inB v6 6 = true)) (i8 : ¬ (kI 6) ≤ v6 → ¬ (F_164_110 v6 w) = 0 → ¬ (w 114 v6.toNatClampNeg) = 0 → (F_161 v4 v6 w) = 0 → ¬ v5 = (kI (-1)) → (¬ v2 = 0)) (i9 : ¬ (kI 6) ≤ v6 → ¬ (F_164_110 v6 w) = 0 → ¬ (w 114 v6.toNatClampNeg) = 0 → (F_161 v4 v6 w) = 0 → ¬ v5 = (kI (-1)) → (inB v5 6 = true)) (i10 : ¬ (kI 6) ≤ v6 → ¬ (F_164_110 v6 w) = 0 → ¬ (w 114 v6.toNatClampNeg) = 0 → (F_161 v4 v6 w) = 0 → ¬ v5 = (kI (-1)) → (((w 114 v6.toNatClampNeg) * v1) - ((w 114 v6.toNatClampNeg) * v1) / v2 * v2) ≤ (((w 114 v5.toNatClampNeg) * v1) - ((w 114 v5.toNatClampNeg) * v1) / v2 * v2) → (EV X (d + 2) 218 (85, [some (.ref 110), some (.int v1), some (.int v2), some (.int v3), some (.int v4), some (.int v5), some (.int (v6 + (kI 1)))], [], SH, w) Q)) (i11 : ¬ (kI 6) ≤ v6 → ¬ (F_164_110 v6 w) = 0 → ¬ (w 114 v6.toNatClampNeg) = 0 → (F_161 v4 v6 w) = 0 → ¬ v5 = (kI (-1)) → ¬ (((w 114 v6.toNatClampNeg) * v1) - ((w 114 v6.toNatClampNeg) * v1) / v2 * v2) ≤ (((w 114 v5.toNatClampNeg) * v1) - ((w 114 v5.toNatClampNeg) * v1) / v2 * v2) → (EV X (d + 2) 218 (85, [some (.ref 110), some (.int v1), some (.int v2), some (.int v3), some (.int v4), some (.int v6), some (.int (v6 + (kI 1)))], [], SH, w) Q)) (i12 : ¬ (kI 6) ≤ v6 → ¬ (F_164_110 v6 w) = 0 → ¬ (w 114 v6.toNatClampNeg) = 0 → ¬ (F_161 v4 v6 w) = 0 → (EV X (d + 2) 218 (85, [some (.ref 110), some (.int v1), some (.int v2), some (.int v3), some (.int v4), some (.int v5), some (.int (v6 + (kI 1)))], [], SH, w) Q)) : EV X (d + 2) 218 (85, [some (.ref 110), some (.int v1), some (.int v2), some (.int v3), some (.int v4), some (.int v5), some (.int v6)], [], SH, w) Q := by
  refine EV.steps cl_218 2 (q2 := (89, [some (.ref 110), some (.int v1), some (.int v2), some (.int v3), some (.int v4), some (.int v5), some (.int v6)], [.int (kI 6), .int v6], SH, w)) rfl ?_
  refine EV.i_ge cl_218 rfl (fun h1 => ?_) (fun h1 => ?_)
  · skip
    refine EV.steps cl_218 12 (q2 := (186, [some (.ref 110), some (.int v1), some (.int v2), some (.int v3), some (.int (v4 ||| ((kI 1) <<< (v5 &&& 31)))), some (.int v5), some (.int v6)], [.int v5, .ref 133, .int v5, .ref 133], SH, w)) rfl ?_
    refine EV.iaload cl_218 rfl rfl (by decide) (i1 h1) ?_
    refine EV.steps cl_218 2 (q2 := (189, [some (.ref 110), some (.int v1), some (.int v2), some (.int v3), some (.int (v4 ||| ((kI 1) <<< (v5 &&& 31)))), some (.int v5), some (.int v6)], [.int ((w 133 v5.toNatClampNeg) + (kI 1)), .int v5, .ref 133], SH, w)) rfl ?_
    refine EV.iastore cl_218 rfl rfl (by decide) (i1 h1) ?_
    refine EV.steps cl_218 5 (q2 := (71, [some (.ref 110), some (.int v1), some (.int v2), some (.int (v3 - (kI 1))), some (.int (v4 ||| ((kI 1) <<< (v5 &&& 31)))), some (.int v5), some (.int v6)], [], SH, (up2 w 133 v5.toNatClampNeg ((w 133 v5.toNatClampNeg) + (kI 1))))) rfl ?_
    exact i2 h1
  · skip
    refine EV.steps cl_218 2 (q2 := (95, [some (.ref 110), some (.int v1), some (.int v2), some (.int v3), some (.int v4), some (.int v5), some (.int v6)], [.int v6, .ref 110], SH, w)) rfl ?_
    refine EV.callF (kc := 164) (av := [.ref 110, .int v6]) (r := []) (rv := some (.int (F_164_110 v6 w))) (w2 := w) cl_218 rfl rfl rfl (m_164_110 w v6) ?_
    refine EV.z_eq cl_218 rfl (fun h2 => ?_) (fun h2 => ?_)
    · skip
      refine EV.steps cl_218 2 (q2 := (85, [some (.ref 110), some (.int v1), some (.int v2), some (.int v3), some (.int v4), some (.int v5), some (.int (v6 + (kI 1)))], [], SH, w)) rfl ?_
      exact i3 h1 h2
    · skip
      refine EV.steps cl_218 3 (q2 := (107, [some (.ref 110), some (.int v1), some (.int v2), some (.int v3), some (.int v4), some (.int v5), some (.int v6)], [.int v6, .ref 114], SH, w)) rfl ?_
      refine EV.iaload cl_218 rfl rfl (by decide) (i4 h1 h2) ?_
      refine EV.z_eq cl_218 rfl (fun h3 => ?_) (fun h3 => ?_)
      · skip
        refine EV.steps cl_218 2 (q2 := (85, [some (.ref 110), some (.int v1), some (.int v2), some (.int v3), some (.int v4), some (.int v5), some (.int (v6 + (kI 1)))], [], SH, w)) rfl ?_
        exact i5 h1 h2 h3
      · skip
        refine EV.steps cl_218 2 (q2 := (115, [some (.ref 110), some (.int v1), some (.int v2), some (.int v3), some (.int v4), some (.int v5), some (.int v6)], [.int v6, .int v4], SH, w)) rfl ?_
        refine EV.callF (kc := 161) (av := [.int v4, .int v6]) (r := []) (rv := some (.int (F_161 v4 v6 w))) (w2 := w) cl_218 rfl rfl rfl (m_161 w v4 v6) ?_
        refine EV.z_eq cl_218 rfl (fun h4 => ?_) (fun h4 => ?_)
        · skip
          refine EV.steps cl_218 2 (q2 := (127, [some (.ref 110), some (.int v1), some (.int v2), some (.int v3), some (.int v4), some (.int v5), some (.int v6)], [.int (kI (-1)), .int v5], SH, w)) rfl ?_
          refine EV.i_eq cl_218 rfl (fun h5 => ?_) (fun h5 => ?_)
          · skip
            refine EV.steps cl_218 4 (q2 := (85, [some (.ref 110), some (.int v1), some (.int v2), some (.int v3), some (.int v4), some (.int v6), some (.int (v6 + (kI 1)))], [], SH, w)) rfl ?_
            exact i6 h1 h2 h3 h4 h5
          · skip
            refine EV.steps cl_218 3 (q2 := (136, [some (.ref 110), some (.int v1), some (.int v2), some (.int v3), some (.int v4), some (.int v5), some (.int v6)], [.int v6, .ref 114], SH, w)) rfl ?_
            refine EV.iaload cl_218 rfl rfl (by decide) (i7 h1 h2 h3 h4 h5) ?_
            refine EV.steps cl_218 3 (q2 := (140, [some (.ref 110), some (.int v1), some (.int v2), some (.int v3), some (.int v4), some (.int v5), some (.int v6)], [.int v2, .int ((w 114 v6.toNatClampNeg) * v1)], SH, w)) rfl ?_
            refine EV.irem cl_218 rfl (i8 h1 h2 h3 h4 h5) ?_
            refine EV.steps cl_218 3 (q2 := (147, [some (.ref 110), some (.int v1), some (.int v2), some (.int v3), some (.int v4), some (.int v5), some (.int v6)], [.int v5, .ref 114, .int (((w 114 v6.toNatClampNeg) * v1) - ((w 114 v6.toNatClampNeg) * v1) / v2 * v2)], SH, w)) rfl ?_
            refine EV.iaload cl_218 rfl rfl (by decide) (i9 h1 h2 h3 h4 h5) ?_
            refine EV.steps cl_218 3 (q2 := (151, [some (.ref 110), some (.int v1), some (.int v2), some (.int v3), some (.int v4), some (.int v5), some (.int v6)], [.int v2, .int ((w 114 v5.toNatClampNeg) * v1), .int (((w 114 v6.toNatClampNeg) * v1) - ((w 114 v6.toNatClampNeg) * v1) / v2 * v2)], SH, w)) rfl ?_
            refine EV.irem cl_218 rfl (i8 h1 h2 h3 h4 h5) ?_
            refine EV.i_le cl_218 rfl (fun h6 => ?_) (fun h6 => ?_)
            · skip
              refine EV.steps cl_218 2 (q2 := (85, [some (.ref 110), some (.int v1), some (.int v2), some (.int v3), some (.int v4), some (.int v5), some (.int (v6 + (kI 1)))], [], SH, w)) rfl ?_
              exact i10 h1 h2 h3 h4 h5 h6
            · skip
              refine EV.steps cl_218 4 (q2 := (85, [some (.ref 110), some (.int v1), some (.int v2), some (.int v3), some (.int v4), some (.int v6), some (.int (v6 + (kI 1)))], [], SH, w)) rfl ?_
              exact i11 h1 h2 h3 h4 h5 h6
        · skip
          refine EV.steps cl_218 3 (q2 := (85, [some (.ref 110), some (.int v1), some (.int v2), some (.int v3), some (.int v4), some (.int v5), some (.int (v6 + (kI 1)))], [], SH, w)) rfl ?_
          exact i12 h1 h2 h3 h4
set_option maxRecDepth 20000 in
theorem cl_221 : RCT[221]? = some rc_221 := rfl
theorem s_221_110_at0 {X : Scr} {d : Nat} {Q : Option Value → Sh → Wd → Prop} (w : Wd) (v1 : Int32) (v2 : Int32) (i1 : (EV X (d + 1) 221 (2, [some (.ref 110), some (.int v1), some (.int v2), some (.int (kI 0)), none, none], [], SH, w) Q)) : EV X (d + 1) 221 (0, [some (.ref 110), some (.int v1), some (.int v2), none, none, none], [], SH, w) Q := by
  refine EV.steps cl_221 2 (q2 := (2, [some (.ref 110), some (.int v1), some (.int v2), some (.int (kI 0)), none, none], [], SH, w)) rfl ?_
  exact i1
theorem s_221_110_at2 {X : Scr} {d : Nat} {Q : Option Value → Sh → Wd → Prop} (w : Wd) (v1 : Int32) (v2 : Int32) (v3 : Int32) (i1 : (kI 6) ≤ v3 → (EV X (d + 1) 221 (23, [some (.ref 110), some (.int v1), some (.int v2), some (.int (kI 0)), none, none], [], SH, w) Q)) (i2 : ¬ (kI 6) ≤ v3 → (inB v3 6 = true)) (i3 : ¬ (kI 6) ≤ v3 → (EV X (d + 1) 221 (2, [some (.ref 110), some (.int v1), some (.int v2), some (.int (v3 + (kI 1))), none, none], [], SH, (up2 w 133 v3.toNatClampNeg (kI 0))) Q)) : EV X (d + 1) 221 (2, [some (.ref 110), some (.int v1), some (.int v2), some (.int v3), none, none], [], SH, w) Q := by
  refine EV.steps cl_221 2 (q2 := (5, [some (.ref 110), some (.int v1), some (.int v2), some (.int v3), none, none], [.int (kI 6), .int v3], SH, w)) rfl ?_
  refine EV.i_ge cl_221 rfl (fun h1 => ?_) (fun h1 => ?_)
  · skip
    refine EV.steps cl_221 2 (q2 := (23, [some (.ref 110), some (.int v1), some (.int v2), some (.int (kI 0)), none, none], [], SH, w)) rfl ?_
    exact i1 h1
  · skip
    refine EV.steps cl_221 4 (q2 := (14, [some (.ref 110), some (.int v1), some (.int v2), some (.int v3), none, none], [.int (kI 0), .int v3, .ref 133], SH, w)) rfl ?_
    refine EV.iastore cl_221 rfl rfl (by decide) (i2 h1) ?_
    refine EV.steps cl_221 2 (q2 := (2, [some (.ref 110), some (.int v1), some (.int v2), some (.int (v3 + (kI 1))), none, none], [], SH, (up2 w 133 v3.toNatClampNeg (kI 0)))) rfl ?_
    exact i3 h1
theorem s_221_110_at23 {X : Scr} {d : Nat} {Q : Option Value → Sh → Wd → Prop} (w : Wd) (v1 : Int32) (v2 : Int32) (v3 : Int32) (i1 : v1 ≤ v3 → (Q (none) SH w)) (i2 : ¬ v1 ≤ v3 → (F_168_110 w) ≤ 0 → (Q (none) SH w)) (i3 : ¬ v1 ≤ v3 → ¬ (F_168_110 w) ≤ 0 → (EV X (d + 3) 221 (41, [some (.ref 110), some (.int v1), some (.int v2), some (.int v3), some (.int (kI (-1))), some (.int (kI 0))], [], SH, w) Q)) : EV X (d + 3) 221 (23, [some (.ref 110), some (.int v1), some (.int v2), some (.int v3), none, none], [], SH, w) Q := by
  refine EV.steps cl_221 2 (q2 := (25, [some (.ref 110), some (.int v1), some (.int v2), some (.int v3), none, none], [.int v1, .int v3], SH, w)) rfl ?_
  refine EV.i_ge cl_221 rfl (fun h1 => ?_) (fun h1 => ?_)
  · skip
    refine EV.ret cl_221 rfl rfl rfl ?_
    exact i1 h1
  · skip
    refine EV.steps cl_221 1 (q2 := (29, [some (.ref 110), some (.int v1), some (.int v2), some (.int v3), none, none], [.ref 110], SH, w)) rfl ?_
    refine EV.callF (kc := 168) (av := [.ref 110]) (r := []) (rv := some (.int (F_168_110 w))) (w2 := w) cl_221 rfl rfl rfl (m_168_110 w ) ?_
    refine EV.z_le cl_221 rfl (fun h2 => ?_) (fun h2 => ?_)
    · skip
      refine EV.ret cl_221 rfl rfl rfl ?_
      exact i2 h1 h2
    · skip
      refine EV.steps cl_221 4 (q2 := (41, [some (.ref 110), some (.int v1), some (.int v2), some (.int v3), some (.int (kI (-1))), some (.int (kI 0))], [], SH, w)) rfl ?_
      exact i3 h1 h2
theorem s_221_110_at41 {X : Scr} {d : Nat} {Q : Option Value → Sh → Wd → Prop} (w : Wd) (v1 : Int32) (v2 : Int32) (v3 : Int32) (v4 : Int32) (v5 : Int32) (i1 : (kI 6) ≤ v5 → (inB v4 6 = true)) (i2 : (kI 6) ≤ v5 → (EV X (d + 2) 221 (23, [some (.ref 110), some (.int v1), some (.int v2), some (.int (v3 + (kI 1))), some (.int v4), some (.int v5)], [], SH, (up2 w 133 v4.toNatClampNeg ((w 133 v4.toNatClampNeg) + (kI 1)))) Q)) (i3 : ¬ (kI 6) ≤ v5 → (F_164_110 v5 w) = 0 → (EV X (d + 2) 221 (41, [some (.ref 110), some (.int v1), some (.int v2), some (.int v3), some (.int v4), some (.int (v5 + (kI 1)))], [], SH, w) Q)) (i4 : ¬ (kI 6) ≤ v5 → ¬ (F_164_110 v5 w) = 0 → (inB v5 6 = true)) (i5 : ¬ (kI 6) ≤ v5 → ¬ (F_164_110 v5 w) = 0 → ¬ (w 114 v5.toNatClampNeg) = 0 → v4 = (kI (-1)) → (EV X (d + 2) 221 (41, [some (.ref 110), some (.int v1), some (.int v2), some (.int v3), some (.int v5), some (.int (v5 + (kI 1)))], [], SH, w) Q)) (i6 : ¬ (kI 6) ≤ v5 → ¬ (F_164_110 v5 w) = 0 → ¬ (w 114 v5.toNatClampNeg) = 0 → ¬ v4 = (kI (-1)) → ((¬ v2 = (kI 1) → ¬ v2 = (kI 2) → (inB v5 6 = true)))) (i7 : ¬ (kI 6) ≤ v5 → ¬ (F_164_110 v5 w) = 0 → ¬ (w 114 v5.toNatClampNeg) = 0 → ¬ v4 = (kI (-1)) → ((¬ v2 = (kI 1) → v2 = (kI 2) → (inB v5 6 = true)))) (i8 : ¬ (kI 6) ≤ v5 → ¬ (F_164_110 v5 w) = 0 → ¬ (w 114 v5.toNatClampNeg) = 0 → ¬ v4 = (kI (-1)) → ((v2 = (kI 1) → (inB v5 6 = true)))) (i9 : ¬ (kI 6) ≤ v5 → ¬ (F_164_110 v5 w) = 0 → ¬ (w 114 v5.toNatClampNeg) = 0 → ¬ v4 = (kI (-1)) → ((¬ v2 = (kI 1) → ¬ v2 = (kI 2) → (inB v4 6 = true)))) (i10 : ¬ (kI 6) ≤ v5 → ¬ (F_164_110 v5 w) = 0 → ¬ (w 114 v5.toNatClampNeg) = 0 → ¬ v4 = (kI (-1)) → ((¬ v2 = (kI 1) → v2 = (kI 2) → (inB v4 6 = true)))) (i11 : ¬ (kI 6) ≤ v5 → ¬ (F_164_110 v5 w) = 0 → ¬ (w 114 v5.toNatClampNeg) = 0 → ¬ v4 = (kI (-1)) → ((v2 = (kI 1) → (inB v4 6 = true)))) (i12 : ¬ (kI 6) ≤ v5 → ¬ (F_164_110 v5 w) = 0 → ¬ (w 114 v5.toNatClampNeg) = 0 → ¬ v4 = (kI (-1)) → (¬ (F_219_110 v5 v2 w) = 0 → ¬ (F_219_110 v4 v2 w) = 0 → (inB v5 6 = true))) (i13 : ¬ (kI 6) ≤ v5 → ¬ (F_164_110 v5 w) = 0 → ¬ (w 114 v5.toNatClampNeg) = 0 → ¬ v4 = (kI (-1)) → (¬ (F_219_110 v5 v2 w) = 0 → ¬ (F_219_110 v4 v2 w) = 0 → (inB v4 6 = true))) (i14 : ¬ (kI 6) ≤ v5 → ¬ (F_164_110 v5 w) = 0 → ¬ (w 114 v5.toNatClampNeg) = 0 → ¬ v4 = (kI (-1)) → (F_220_110 v5 v4 v2 w) = 0 → (EV X (d + 2) 221 (41, [some (.ref 110), some (.int v1), some (.int v2), some (.int v3), some (.int v4), some (.int (v5 + (kI 1)))], [], SH, w) Q)) (i15 : ¬ (kI 6) ≤ v5 → ¬ (F_164_110 v5 w) = 0 → ¬ (w 114 v5.toNatClampNeg) = 0 → ¬ v4 = (kI (-1)) → ¬ (F_220_110 v5 v4 v2 w) = 0 → (EV X (d + 2) 221 (41, [some (.ref 110), some (.int v1), some (.int v2), some (.int v3), some (.int v5), some (.int (v5 + (kI 1)))], [], SH, w) Q)) (i16 : ¬ (kI 6) ≤ v5 → ¬ (F_164_110 v5 w) = 0 → (w 114 v5.toNatClampNeg) = 0 → (EV X (d + 2) 221 (41, [some (.ref 110), some (.int v1), some (.int v2), some (.int v3), some (.int v4), some (.int (v5 + (kI 1)))], [], SH, w) Q)) : EV X (d + 2) 221 (41, [some (.ref 110), some (.int v1), some (.int v2), some (.int v3), some (.int v4), some (.int v5)], [], SH, w) Q := by
  refine EV.steps cl_221 2 (q2 := (45, [some (.ref 110), some (.int v1), some (.int v2), some (.int v3), some (.int v4), some (.int v5)], [.int (kI 6), .int v5], SH, w)) rfl ?_
  refine EV.i_ge cl_221 rfl (fun h1 => ?_) (fun h1 => ?_)
  · skip
    refine EV.steps cl_221 6 (q2 := (110, [some (.ref 110), some (.int v1), some (.int v2), some (.int v3), some (.int v4), some (.int v5)], [.int v4, .ref 133, .int v4, .ref 133], SH, w)) rfl ?_
    refine EV.iaload cl_221 rfl rfl (by decide) (i1 h1) ?_
    refine EV.steps cl_221 2 (q2 := (113, [some (.ref 110), some (.int v1), some (.int v2), some (.int v3), some (.int v4), some (.int v5)], [.int ((w 133 v4.toNatClampNeg) + (kI 1)), .int v4, .ref 133], SH, w)) rfl ?_
    refine EV.iastore cl_221 rfl rfl (by decide) (i1 h1) ?_
    refine EV.steps cl_221 2 (q2 := (23, [some (.ref 110), some (.int v1), some (.int v2), some (.int (v3 + (kI 1))), some (.int v4), some (.int v5)], [], SH, (up2 w 133 v4.toNatClampNeg ((w 133 v4.toNatClampNeg) + (kI 1))))) rfl ?_
    exact i2 h1
  · skip
    refine EV.steps cl_221 2 (q2 := (51, [some (.ref 110), some (.int v1), some (.int v2), some (.int v3), some (.int v4), some (.int v5)], [.int v5, .ref 110], SH, w)) rfl ?_
    refine EV.callF (kc := 164) (av := [.ref 110, .int v5]) (r := []) (rv := some (.int (F_164_110 v5 w))) (w2 := w) cl_221 rfl rfl rfl (m_164_110 w v5) ?_
    refine EV.z_eq cl_221 rfl (fun h2 => ?_) (fun h2 => ?_)
    · skip
      refine EV.steps cl_221 2 (q2 := (41, [some (.ref 110), some (.int v1), some (.int v2), some (.int v3), some (.int v4), some (.int (v5 + (kI 1)))], [], SH, w)) rfl ?_
      exact i3 h1 h2
    · skip
      refine EV.steps cl_221 3 (q2 := (63, [some (.ref 110), some (.int v1), some (.int v2), some (.int v3), some (.int v4), some (.int v5)], [.int v5, .ref 114], SH, w)) rfl ?_
      refine EV.iaload cl_221 rfl rfl (by decide) (i4 h1 h2) ?_
      refine EV.z_ne cl_221 rfl (fun h3 => ?_) (fun h3 => ?_)
      · skip
        refine EV.steps cl_221 2 (q2 := (73, [some (.ref 110), some (.int v1), some (.int v2), some (.int v3), some (.int v4), some (.int v5)], [.int (kI (-1)), .int v4], SH, w)) rfl ?_
        refine EV.i_eq cl_221 rfl (fun h4 => ?_) (fun h4 => ?_)
        · skip
          refine EV.steps cl_221 4 (q2 := (41, [some (.ref 110), some (.int v1), some (.int v2), some (.int v3), some (.int v5), some (.int (v5 + (kI 1)))], [], SH, w)) rfl ?_
          exact i5 h1 h2 h3 h4
        · skip
          refine EV.steps cl_221 4 (q2 := (82, [some (.ref 110), some (.int v1), some (.int v2), some (.int v3), some (.int v4), some (.int v5)], [.int v2, .int v4, .int v5, .ref 110], SH, w)) rfl ?_
          refine EV.callF (kc := 220) (av := [.ref 110, .int v5, .int v4, .int v2]) (r := []) (rv := some (.int (F_220_110 v5 v4 v2 w))) (w2 := w) cl_221 rfl rfl rfl (m_220_110 w v5 v4 v2 (i6 h1 h2 h3 h4) (i7 h1 h2 h3 h4) (i8 h1 h2 h3 h4) (i9 h1 h2 h3 h4) (i10 h1 h2 h3 h4) (i11 h1 h2 h3 h4) (i12 h1 h2 h3 h4) (i13 h1 h2 h3 h4)) ?_
          refine EV.z_eq cl_221 rfl (fun h5 => ?_) (fun h5 => ?_)
          · skip
            refine EV.steps cl_221 2 (q2 := (41, [some (.ref 110), some (.int v1), some (.int v2), some (.int v3), some (.int v4), some (.int (v5 + (kI 1)))], [], SH, w)) rfl ?_
            exact i14 h1 h2 h3 h4 h5
          · skip
            refine EV.steps cl_221 4 (q2 := (41, [some (.ref 110), some (.int v1), some (.int v2), some (.int v3), some (.int v5), some (.int (v5 + (kI 1)))], [], SH, w)) rfl ?_
            exact i15 h1 h2 h3 h4 h5
      · skip
        refine EV.steps cl_221 3 (q2 := (41, [some (.ref 110), some (.int v1), some (.int v2), some (.int v3), some (.int v4), some (.int (v5 + (kI 1)))], [], SH, w)) rfl ?_
        exact i16 h1 h2 h3
set_option maxRecDepth 20000 in
theorem cl_257 : RCT[257]? = some rc_257 := rfl
def F_257_110 (p1 : Int32) (w : Wd) : Int32 := (if p1 = (kI 0) then (w 111 (kI 158).toNatClampNeg) else (if p1 = (kI 1) then (w 111 (kI 157).toNatClampNeg) else (if p1 = (kI 2) then (w 110 6) else (if p1 = (kI 3) then (w 110 7) else (if p1 = (kI 4) then (w 111 (kI 160).toNatClampNeg) else (if p1 = (kI 5) then (w 111 (kI 159).toNatClampNeg) else (if p1 = (kI 6) then (w 110 8) else (if p1 = (kI 7) then (w 110 19) else (if p1 = (kI 8) then (w 110 10) else (if p1 = (kI 9) then (w 111 (kI 161).toNatClampNeg) else (if p1 = (kI 10) then (w 110 56) else (if p1 = (kI 11) then (w 110 57) else (if p1 = (kI 12) then (F_168_110 w) else (if (F_164_110 (p1 - (kI 20)) w) = 0 then (if (F_164_110 (p1 - (kI 30)) w) = 0 then (kI (-1)) else (w 114 (p1 - (kI 30)).toNatClampNeg)) else (w 115 (p1 - (kI 20)).toNatClampNeg)))))))))))))))
theorem m_257_110 {X : Scr} {d : Nat} (w : Wd) (p1 : Int32) (i1 : ¬ p1 = (kI 0) → ¬ p1 = (kI 1) → ¬ p1 = (kI 2) → ¬ p1 = (kI 3) → ¬ p1 = (kI 4) → ¬ p1 = (kI 5) → ¬ p1 = (kI 6) → ¬ p1 = (kI 7) → ¬ p1 = (kI 8) → ¬ p1 = (kI 9) → ¬ p1 = (kI 10) → ¬ p1 = (kI 11) → ¬ p1 = (kI 12) → (F_164_110 (p1 - (kI 20)) w) = 0 → ¬ (F_164_110 (p1 - (kI 30)) w) = 0 → (inB (p1 - (kI 30)) 6 = true)) (i2 : ¬ p1 = (kI 0) → ¬ p1 = (kI 1) → ¬ p1 = (kI 2) → ¬ p1 = (kI 3) → ¬ p1 = (kI 4) → ¬ p1 = (kI 5) → ¬ p1 = (kI 6) → ¬ p1 = (kI 7) → ¬ p1 = (kI 8) → ¬ p1 = (kI 9) → ¬ p1 = (kI 10) → ¬ p1 = (kI 11) → ¬ p1 = (kI 12) → ¬ (F_164_110 (p1 - (kI 20)) w) = 0 → (inB (p1 - (kI 20)) 6 = true)) : CV X (d + 4) 257 [.ref 110, .int p1] SH w (fun r s1 w1 => r = some (.int (F_257_110 p1 w)) ∧ s1 = SH ∧ w1 = w) := by
  refine CV.of rfl ?_
  refine EV.steps cl_257 1 (q2 := (1, [some (.ref 110), some (.int p1)], [.int p1], SH, w)) rfl ?_
  by_cases h1 : p1 = (kI 0)
  · refine EV.swEq (e := (kI 0)) cl_257 rfl rfl h1 rfl ?_
    refine EV.steps cl_257 3 (q2 := (75, [some (.ref 110), some (.int p1)], [.int (kI 158), .ref 111], SH, w)) rfl ?_
    refine EV.iaload cl_257 rfl rfl (by decide) rfl ?_
    refine EV.ret cl_257 rfl rfl rfl ?_
    exact ⟨(by simp only [F_257_110, if_pos h1]), rfl, rfl⟩
  by_cases h2 : p1 = (kI 1)
  · refine EV.swEq (e := (kI 1)) cl_257 rfl rfl h2 rfl ?_
    refine EV.steps cl_257 3 (q2 := (84, [some (.ref 110), some (.int p1)], [.int (kI 157), .ref 111], SH, w)) rfl ?_
    refine EV.iaload cl_257 rfl rfl (by decide) rfl ?_
    refine EV.ret cl_257 rfl rfl rfl ?_
    exact ⟨(by simp only [F_257_110, if_neg h1, if_pos h2]), rfl, rfl⟩
  by_cases h3 : p1 = (kI 2)
  · refine EV.swEq (e := (kI 2)) cl_257 rfl rfl h3 rfl ?_
    refine EV.steps cl_257 2 (q2 := (90, [some (.ref 110), some (.int p1)], [.int (w 110 6)], SH, w)) rfl ?_
    refine EV.ret cl_257 rfl rfl rfl ?_
    exact ⟨(by simp only [F_257_110, if_neg h1, if_neg h2, if_pos h3]), rfl, rfl⟩
  by_cases h4 : p1 = (kI 3)
  · refine EV.swEq (e := (kI 3)) cl_257 rfl rfl h4 rfl ?_
    refine EV.steps cl_257 2 (q2 := (95, [some (.ref 110), some (.int p1)], [.int (w 110 7)], SH, w)) rfl ?_
    refine EV.ret cl_257 rfl rfl rfl ?_
    exact ⟨(by simp only [F_257_110, if_neg h1, if_neg h2, if_neg h3, if_pos h4]), rfl, rfl⟩
  by_cases h5 : p1 = (kI 4)
  · refine EV.swEq (e := (kI 4)) cl_257 rfl rfl h5 rfl ?_
    refine EV.steps cl_257 3 (q2 := (103, [some (.ref 110), some (.int p1)], [.int (kI 160), .ref 111], SH, w)) rfl ?_
    refine EV.iaload cl_257 rfl rfl (by decide) rfl ?_
    refine EV.ret cl_257 rfl rfl rfl ?_
    exact ⟨(by simp only [F_257_110, if_neg h1, if_neg h2, if_neg h3, if_neg h4, if_pos h5]), rfl, rfl⟩
  by_cases h6 : p1 = (kI 5)
  · refine EV.swEq (e := (kI 5)) cl_257 rfl rfl h6 rfl ?_
    refine EV.steps cl_257 3 (q2 := (112, [some (.ref 110), some (.int p1)], [.int (kI 159), .ref 111], SH, w)) rfl ?_
    refine EV.iaload cl_257 rfl rfl (by decide) rfl ?_
    refine EV.ret cl_257 rfl rfl rfl ?_
    exact ⟨(by simp only [F_257_110, if_neg h1, if_neg h2, if_neg h3, if_neg h4, if_neg h5, if_pos h6]), rfl, rfl⟩
  by_cases h7 : p1 = (kI 6)
  · refine EV.swEq (e := (kI 6)) cl_257 rfl rfl h7 rfl ?_
    refine EV.steps cl_257 2 (q2 := (118, [some (.ref 110), some (.int p1)], [.int (w 110 8)], SH, w)) rfl ?_
    refine EV.ret cl_257 rfl rfl rfl ?_
    exact ⟨(by simp only [F_257_110, if_neg h1, if_neg h2, if_neg h3, if_neg h4, if_neg h5, if_neg h6, if_pos h7]), rfl, rfl⟩
  by_cases h8 : p1 = (kI 7)
  · refine EV.swEq (e := (kI 7)) cl_257 rfl rfl h8 rfl ?_
    refine EV.steps cl_257 2 (q2 := (123, [some (.ref 110), some (.int p1)], [.int (w 110 19)], SH, w)) rfl ?_
    refine EV.ret cl_257 rfl rfl rfl ?_
    exact ⟨(by simp only [F_257_110, if_neg h1, if_neg h2, if_neg h3, if_neg h4, if_neg h5, if_neg h6, if_neg h7, if_pos h8]), rfl, rfl⟩
  by_cases h9 : p1 = (kI 8)
  · refine EV.swEq (e := (kI 8)) cl_257 rfl rfl h9 rfl ?_
    refine EV.steps cl_257 2 (q2 := (128, [some (.ref 110), some (.int p1)], [.int (w 110 10)], SH, w)) rfl ?_
    refine EV.ret cl_257 rfl rfl rfl ?_
    exact ⟨(by simp only [F_257_110, if_neg h1, if_neg h2, if_neg h3, if_neg h4, if_neg h5, if_neg h6, if_neg h7, if_neg h8, if_pos h9]), rfl, rfl⟩
  by_cases h10 : p1 = (kI 9)
  · refine EV.swEq (e := (kI 9)) cl_257 rfl rfl h10 rfl ?_
    refine EV.steps cl_257 3 (q2 := (136, [some (.ref 110), some (.int p1)], [.int (kI 161), .ref 111], SH, w)) rfl ?_
    refine EV.iaload cl_257 rfl rfl (by decide) rfl ?_
    refine EV.ret cl_257 rfl rfl rfl ?_
    exact ⟨(by simp only [F_257_110, if_neg h1, if_neg h2, if_neg h3, if_neg h4, if_neg h5, if_neg h6, if_neg h7, if_neg h8, if_neg h9, if_pos h10]), rfl, rfl⟩
  by_cases h11 : p1 = (kI 10)
  · refine EV.swEq (e := (kI 10)) cl_257 rfl rfl h11 rfl ?_
    refine EV.steps cl_257 2 (q2 := (142, [some (.ref 110), some (.int p1)], [.int (w 110 56)], SH, w)) rfl ?_
    refine EV.ret cl_257 rfl rfl rfl ?_
    exact ⟨(by simp only [F_257_110, if_neg h1, if_neg h2, if_neg h3, if_neg h4, if_neg h5, if_neg h6, if_neg h7, if_neg h8, if_neg h9, if_neg h10, if_pos h11]), rfl, rfl⟩
  by_cases h12 : p1 = (kI 11)
  · refine EV.swEq (e := (kI 11)) cl_257 rfl rfl h12 rfl ?_
    refine EV.steps cl_257 2 (q2 := (147, [some (.ref 110), some (.int p1)], [.int (w 110 57)], SH, w)) rfl ?_
    refine EV.ret cl_257 rfl rfl rfl ?_
    exact ⟨(by simp only [F_257_110, if_neg h1, if_neg h2, if_neg h3, if_neg h4, if_neg h5, if_neg h6, if_neg h7, if_neg h8, if_neg h9, if_neg h10, if_neg h11, if_pos h12]), rfl, rfl⟩
  by_cases h13 : p1 = (kI 12)
  · refine EV.swEq (e := (kI 12)) cl_257 rfl rfl h13 rfl ?_
    refine EV.steps cl_257 1 (q2 := (149, [some (.ref 110), some (.int p1)], [.ref 110], SH, w)) rfl ?_
    refine EV.callF (kc := 168) (av := [.ref 110]) (r := []) (rv := some (.int (F_168_110 w))) (w2 := w) cl_257 rfl rfl rfl (m_168_110 w ) ?_
    refine EV.ret cl_257 rfl rfl rfl ?_
    exact ⟨(by simp only [F_257_110, if_neg h1, if_neg h2, if_neg h3, if_neg h4, if_neg h5, if_neg h6, if_neg h7, if_neg h8, if_neg h9, if_neg h10, if_neg h11, if_neg h12, if_pos h13]), rfl, rfl⟩
  refine EV.swT cl_257 rfl (by have a0 := sw_ne h1 (by decide); have a1 := sw_ne h2 (by decide); have a2 := sw_ne h3 (by decide); have a3 := sw_ne h4 (by decide); have a4 := sw_ne h5 (by decide); have a5 := sw_ne h6 (by decide); have a6 := sw_ne h7 (by decide); have a7 := sw_ne h8 (by decide); have a8 := sw_ne h9 (by decide); have a9 := sw_ne h10 (by decide); have a10 := sw_ne h11 (by decide); have a11 := sw_ne h12 (by decide); have a12 := sw_ne h13 (by decide); clear h1 h2 h3 h4 h5 h6 h7 h8 h9 h10 h11 h12 h13; omega) ?_
  refine EV.steps cl_257 4 (q2 := (158, [some (.ref 110), some (.int p1)], [.int (p1 - (kI 20)), .ref 110], SH, w)) rfl ?_
  refine EV.callF (kc := 164) (av := [.ref 110, .int (p1 - (kI 20))]) (r := []) (rv := some (.int (F_164_110 (p1 - (kI 20)) w))) (w2 := w) cl_257 rfl rfl rfl (m_164_110 w (p1 - (kI 20))) ?_
  refine EV.z_eq cl_257 rfl (fun h14 => ?_) (fun h14 => ?_)
  · skip
    refine EV.steps cl_257 4 (q2 := (179, [some (.ref 110), some (.int p1)], [.int (p1 - (kI 30)), .ref 110], SH, w)) rfl ?_
    refine EV.callF (kc := 164) (av := [.ref 110, .int (p1 - (kI 30))]) (r := []) (rv := some (.int (F_164_110 (p1 - (kI 30)) w))) (w2 := w) cl_257 rfl rfl rfl (m_164_110 w (p1 - (kI 30))) ?_
    refine EV.z_eq cl_257 rfl (fun h15 => ?_) (fun h15 => ?_)
    · skip
      refine EV.steps cl_257 1 (q2 := (198, [some (.ref 110), some (.int p1)], [.int (kI (-1))], SH, w)) rfl ?_
      refine EV.ret cl_257 rfl rfl rfl ?_
      exact ⟨(by simp only [F_257_110, if_neg h1, if_neg h2, if_neg h3, if_neg h4, if_neg h5, if_neg h6, if_neg h7, if_neg h8, if_neg h9, if_neg h10, if_neg h11, if_neg h12, if_neg h13, if_pos h14, if_pos h15]), rfl, rfl⟩
    · skip
      refine EV.steps cl_257 5 (q2 := (193, [some (.ref 110), some (.int p1)], [.int (p1 - (kI 30)), .ref 114], SH, w)) rfl ?_
      refine EV.iaload cl_257 rfl rfl (by decide) (i1 h1 h2 h3 h4 h5 h6 h7 h8 h9 h10 h11 h12 h13 h14 h15) ?_
      refine EV.steps cl_257 1 (q2 := (198, [some (.ref 110), some (.int p1)], [.int (w 114 (p1 - (kI 30)).toNatClampNeg)], SH, w)) rfl ?_
      refine EV.ret cl_257 rfl rfl rfl ?_
      exact ⟨(by simp only [F_257_110, if_neg h1, if_neg h2, if_neg h3, if_neg h4, if_neg h5, if_neg h6, if_neg h7, if_neg h8, if_neg h9, if_neg h10, if_neg h11, if_neg h12, if_neg h13, if_pos h14, if_neg h15]), rfl, rfl⟩
  · skip
    refine EV.steps cl_257 5 (q2 := (172, [some (.ref 110), some (.int p1)], [.int (p1 - (kI 20)), .ref 115], SH, w)) rfl ?_
    refine EV.iaload cl_257 rfl rfl (by decide) (i2 h1 h2 h3 h4 h5 h6 h7 h8 h9 h10 h11 h12 h13 h14) ?_
    refine EV.ret cl_257 rfl rfl rfl ?_
    exact ⟨(by simp only [F_257_110, if_neg h1, if_neg h2, if_neg h3, if_neg h4, if_neg h5, if_neg h6, if_neg h7, if_neg h8, if_neg h9, if_neg h10, if_neg h11, if_neg h12, if_neg h13, if_neg h14]), rfl, rfl⟩
