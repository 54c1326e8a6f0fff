set_option maxRecDepth 20000 in
theorem cl_258 : RCT[258]? = some rc_258 := rfl
theorem s_258_90_at0 {X : Scr} {d : Nat} {Q : Option Value → Sh → Wd → Prop} (w : Wd) (v1 : Int32) (i1 : (EV X (d + 1) 258 (5, [some (.ref 90), some (.int v1), some (.int (kI 0)), some (.int (Int32.ofNat 6))], [], SH, w) Q)) : EV X (d + 1) 258 (0, [some (.ref 90), some (.int v1), none, none], [], SH, w) Q := by
  refine EV.steps cl_258 5 (q2 := (5, [some (.ref 90), some (.int v1), some (.int (kI 0)), some (.int (Int32.ofNat 6))], [], SH, w)) rfl ?_
  exact i1
theorem s_258_90_at5 {X : Scr} {d : Nat} {Q : Option Value → Sh → Wd → Prop} (w : Wd) (v1 : Int32) (v2 : Int32) (v3 : Int32) (i1 : v3 ≤ v2 → (Q (none) SH w)) (i2 : ¬ v3 ≤ v2 → (inB v2 6 = true)) (i3 : ¬ v3 ≤ v2 → (EV X (d + 1) 258 (5, [some (.ref 90), some (.int v1), some (.int (v2 + (kI 1))), some (.int v3)], [], SH, (up2 w 90 v2.toNatClampNeg v1)) Q)) : EV X (d + 1) 258 (5, [some (.ref 90), some (.int v1), some (.int v2), some (.int v3)], [], SH, w) Q := by
  refine EV.steps cl_258 2 (q2 := (7, [some (.ref 90), some (.int v1), some (.int v2), some (.int v3)], [.int v3, .int v2], SH, w)) rfl ?_
  refine EV.i_ge cl_258 rfl (fun h1 => ?_) (fun h1 => ?_)
  · skip
    refine EV.ret cl_258 rfl rfl rfl ?_
    exact i1 h1
  · skip
    refine EV.steps cl_258 3 (q2 := (13, [some (.ref 90), some (.int v1), some (.int v2), some (.int v3)], [.int v1, .int v2, .ref 90], SH, w)) rfl ?_
    refine EV.iastore cl_258 rfl rfl (by decide) (i2 h1) ?_
    refine EV.steps cl_258 2 (q2 := (5, [some (.ref 90), some (.int v1), some (.int (v2 + (kI 1))), some (.int v3)], [], SH, (up2 w 90 v2.toNatClampNeg v1))) rfl ?_
    exact i3 h1
theorem s_258_107_at0 {X : Scr} {d : Nat} {Q : Option Value → Sh → Wd → Prop} (w : Wd) (v1 : Int32) (i1 : (EV X (d + 1) 258 (5, [some (.ref 107), some (.int v1), some (.int (kI 0)), some (.int (Int32.ofNat 100))], [], SH, w) Q)) : EV X (d + 1) 258 (0, [some (.ref 107), some (.int v1), none, none], [], SH, w) Q := by
  refine EV.steps cl_258 5 (q2 := (5, [some (.ref 107), some (.int v1), some (.int (kI 0)), some (.int (Int32.ofNat 100))], [], SH, w)) rfl ?_
  exact i1
theorem s_258_107_at5 {X : Scr} {d : Nat} {Q : Option Value → Sh → Wd → Prop} (w : Wd) (v1 : Int32) (v2 : Int32) (v3 : Int32) (i1 : v3 ≤ v2 → (Q (none) SH w)) (i2 : ¬ v3 ≤ v2 → (inB v2 100 = true)) (i3 : ¬ v3 ≤ v2 → (EV X (d + 1) 258 (5, [some (.ref 107), some (.int v1), some (.int (v2 + (kI 1))), some (.int v3)], [], SH, (up2 w 107 v2.toNatClampNeg v1)) Q)) : EV X (d + 1) 258 (5, [some (.ref 107), some (.int v1), some (.int v2), some (.int v3)], [], SH, w) Q := by
  refine EV.steps cl_258 2 (q2 := (7, [some (.ref 107), some (.int v1), some (.int v2), some (.int v3)], [.int v3, .int v2], SH, w)) rfl ?_
  refine EV.i_ge cl_258 rfl (fun h1 => ?_) (fun h1 => ?_)
  · skip
    refine EV.ret cl_258 rfl rfl rfl ?_
    exact i1 h1
  · skip
    refine EV.steps cl_258 3 (q2 := (13, [some (.ref 107), some (.int v1), some (.int v2), some (.int v3)], [.int v1, .int v2, .ref 107], SH, w)) rfl ?_
    refine EV.iastore cl_258 rfl rfl (by decide) (i2 h1) ?_
    refine EV.steps cl_258 2 (q2 := (5, [some (.ref 107), some (.int v1), some (.int (v2 + (kI 1))), some (.int v3)], [], SH, (up2 w 107 v2.toNatClampNeg v1))) rfl ?_
    exact i3 h1
theorem s_258_108_at0 {X : Scr} {d : Nat} {Q : Option Value → Sh → Wd → Prop} (w : Wd) (v1 : Int32) (i1 : (EV X (d + 1) 258 (5, [some (.ref 108), some (.int v1), some (.int (kI 0)), some (.int (Int32.ofNat 20))], [], SH, w) Q)) : EV X (d + 1) 258 (0, [some (.ref 108), some (.int v1), none, none], [], SH, w) Q := by
  refine EV.steps cl_258 5 (q2 := (5, [some (.ref 108), some (.int v1), some (.int (kI 0)), some (.int (Int32.ofNat 20))], [], SH, w)) rfl ?_
  exact i1
theorem s_258_108_at5 {X : Scr} {d : Nat} {Q : Option Value → Sh → Wd → Prop} (w : Wd) (v1 : Int32) (v2 : Int32) (v3 : Int32) (i1 : v3 ≤ v2 → (Q (none) SH w)) (i2 : ¬ v3 ≤ v2 → (inB v2 20 = true)) (i3 : ¬ v3 ≤ v2 → (EV X (d + 1) 258 (5, [some (.ref 108), some (.int v1), some (.int (v2 + (kI 1))), some (.int v3)], [], SH, (up2 w 108 v2.toNatClampNeg v1)) Q)) : EV X (d + 1) 258 (5, [some (.ref 108), some (.int v1), some (.int v2), some (.int v3)], [], SH, w) Q := by
  refine EV.steps cl_258 2 (q2 := (7, [some (.ref 108), some (.int v1), some (.int v2), some (.int v3)], [.int v3, .int v2], SH, w)) rfl ?_
  refine EV.i_ge cl_258 rfl (fun h1 => ?_) (fun h1 => ?_)
  · skip
    refine EV.ret cl_258 rfl rfl rfl ?_
    exact i1 h1
  · skip
    refine EV.steps cl_258 3 (q2 := (13, [some (.ref 108), some (.int v1), some (.int v2), some (.int v3)], [.int v1, .int v2, .ref 108], SH, w)) rfl ?_
    refine EV.iastore cl_258 rfl rfl (by decide) (i2 h1) ?_
    refine EV.steps cl_258 2 (q2 := (5, [some (.ref 108), some (.int v1), some (.int (v2 + (kI 1))), some (.int v3)], [], SH, (up2 w 108 v2.toNatClampNeg v1))) rfl ?_
    exact i3 h1
theorem s_258_97_at0 {X : Scr} {d : Nat} {Q : Option Value → Sh → Wd → Prop} (w : Wd) (v1 : Int32) (i1 : (EV X (d + 1) 258 (5, [some (.ref 97), some (.int v1), some (.int (kI 0)), some (.int (Int32.ofNat 6))], [], SH, w) Q)) : EV X (d + 1) 258 (0, [some (.ref 97), some (.int v1), none, none], [], SH, w) Q := by
  refine EV.steps cl_258 5 (q2 := (5, [some (.ref 97), some (.int v1), some (.int (kI 0)), some (.int (Int32.ofNat 6))], [], SH, w)) rfl ?_
  exact i1
theorem s_258_97_at5 {X : Scr} {d : Nat} {Q : Option Value → Sh → Wd → Prop} (w : Wd) (v1 : Int32) (v2 : Int32) (v3 : Int32) (i1 : v3 ≤ v2 → (Q (none) SH w)) (i2 : ¬ v3 ≤ v2 → (inB v2 6 = true)) (i3 : ¬ v3 ≤ v2 → (EV X (d + 1) 258 (5, [some (.ref 97), some (.int v1), some (.int (v2 + (kI 1))), some (.int v3)], [], SH, (up2 w 97 v2.toNatClampNeg v1)) Q)) : EV X (d + 1) 258 (5, [some (.ref 97), some (.int v1), some (.int v2), some (.int v3)], [], SH, w) Q := by
  refine EV.steps cl_258 2 (q2 := (7, [some (.ref 97), some (.int v1), some (.int v2), some (.int v3)], [.int v3, .int v2], SH, w)) rfl ?_
  refine EV.i_ge cl_258 rfl (fun h1 => ?_) (fun h1 => ?_)
  · skip
    refine EV.ret cl_258 rfl rfl rfl ?_
    exact i1 h1
  · skip
    refine EV.steps cl_258 3 (q2 := (13, [some (.ref 97), some (.int v1), some (.int v2), some (.int v3)], [.int v1, .int v2, .ref 97], SH, w)) rfl ?_
    refine EV.iastore cl_258 rfl rfl (by decide) (i2 h1) ?_
    refine EV.steps cl_258 2 (q2 := (5, [some (.ref 97), some (.int v1), some (.int (v2 + (kI 1))), some (.int v3)], [], SH, (up2 w 97 v2.toNatClampNeg v1))) rfl ?_
    exact i3 h1
theorem s_258_85_at0 {X : Scr} {d : Nat} {Q : Option Value → Sh → Wd → Prop} (w : Wd) (v1 : Int32) (i1 : (EV X (d + 1) 258 (5, [some (.ref 85), some (.int v1), some (.int (kI 0)), some (.int (Int32.ofNat 12))], [], SH, w) Q)) : EV X (d + 1) 258 (0, [some (.ref 85), some (.int v1), none, none], [], SH, w) Q := by
  refine EV.steps cl_258 5 (q2 := (5, [some (.ref 85), some (.int v1), some (.int (kI 0)), some (.int (Int32.ofNat 12))], [], SH, w)) rfl ?_
  exact i1
theorem s_258_85_at5 {X : Scr} {d : Nat} {Q : Option Value → Sh → Wd → Prop} (w : Wd) (v1 : Int32) (v2 : Int32) (v3 : Int32) (i1 : v3 ≤ v2 → (Q (none) SH w)) (i2 : ¬ v3 ≤ v2 → (inB v2 12 = true)) (i3 : ¬ v3 ≤ v2 → (EV X (d + 1) 258 (5, [some (.ref 85), some (.int v1), some (.int (v2 + (kI 1))), some (.int v3)], [], SH, (up2 w 85 v2.toNatClampNeg v1)) Q)) : EV X (d + 1) 258 (5, [some (.ref 85), some (.int v1), some (.int v2), some (.int v3)], [], SH, w) Q := by
  refine EV.steps cl_258 2 (q2 := (7, [some (.ref 85), some (.int v1), some (.int v2), some (.int v3)], [.int v3, .int v2], SH, w)) rfl ?_
  refine EV.i_ge cl_258 rfl (fun h1 => ?_) (fun h1 => ?_)
  · skip
    refine EV.ret cl_258 rfl rfl rfl ?_
    exact i1 h1
  · skip
    refine EV.steps cl_258 3 (q2 := (13, [some (.ref 85), some (.int v1), some (.int v2), some (.int v3)], [.int v1, .int v2, .ref 85], SH, w)) rfl ?_
    refine EV.iastore cl_258 rfl rfl (by decide) (i2 h1) ?_
    refine EV.steps cl_258 2 (q2 := (5, [some (.ref 85), some (.int v1), some (.int (v2 + (kI 1))), some (.int v3)], [], SH, (up2 w 85 v2.toNatClampNeg v1))) rfl ?_
    exact i3 h1
theorem s_258_8_at0 {X : Scr} {d : Nat} {Q : Option Value → Sh → Wd → Prop} (w : Wd) (v1 : Int32) (i1 : (EV X (d + 1) 258 (5, [some (.ref 8), some (.int v1), some (.int (kI 0)), some (.int (Int32.ofNat 36))], [], SH, w) Q)) : EV X (d + 1) 258 (0, [some (.ref 8), some (.int v1), none, none], [], SH, w) Q := by
  refine EV.steps cl_258 5 (q2 := (5, [some (.ref 8), some (.int v1), some (.int (kI 0)), some (.int (Int32.ofNat 36))], [], SH, w)) rfl ?_
  exact i1
theorem s_258_8_at5 {X : Scr} {d : Nat} {Q : Option Value → Sh → Wd → Prop} (w : Wd) (v1 : Int32) (v2 : Int32) (v3 : Int32) (i1 : v3 ≤ v2 → (Q (none) SH w)) (i2 : ¬ v3 ≤ v2 → (inB v2 36 = true)) (i3 : ¬ v3 ≤ v2 → (EV X (d + 1) 258 (5, [some (.ref 8), some (.int v1), some (.int (v2 + (kI 1))), some (.int v3)], [], SH, (up2 w 8 v2.toNatClampNeg v1)) Q)) : EV X (d + 1) 258 (5, [some (.ref 8), some (.int v1), some (.int v2), some (.int v3)], [], SH, w) Q := by
  refine EV.steps cl_258 2 (q2 := (7, [some (.ref 8), some (.int v1), some (.int v2), some (.int v3)], [.int v3, .int v2], SH, w)) rfl ?_
  refine EV.i_ge cl_258 rfl (fun h1 => ?_) (fun h1 => ?_)
  · skip
    refine EV.ret cl_258 rfl rfl rfl ?_
    exact i1 h1
  · skip
    refine EV.steps cl_258 3 (q2 := (13, [some (.ref 8), some (.int v1), some (.int v2), some (.int v3)], [.int v1, .int v2, .ref 8], SH, w)) rfl ?_
    refine EV.iastore cl_258 rfl rfl (by decide) (i2 h1) ?_
    refine EV.steps cl_258 2 (q2 := (5, [some (.ref 8), some (.int v1), some (.int (v2 + (kI 1))), some (.int v3)], [], SH, (up2 w 8 v2.toNatClampNeg v1))) rfl ?_
    exact i3 h1
theorem s_258_9_at0 {X : Scr} {d : Nat} {Q : Option Value → Sh → Wd → Prop} (w : Wd) (v1 : Int32) (i1 : (EV X (d + 1) 258 (5, [some (.ref 9), some (.int v1), some (.int (kI 0)), some (.int (Int32.ofNat 6))], [], SH, w) Q)) : EV X (d + 1) 258 (0, [some (.ref 9), some (.int v1), none, none], [], SH, w) Q := by
  refine EV.steps cl_258 5 (q2 := (5, [some (.ref 9), some (.int v1), some (.int (kI 0)), some (.int (Int32.ofNat 6))], [], SH, w)) rfl ?_
  exact i1
theorem s_258_9_at5 {X : Scr} {d : Nat} {Q : Option Value → Sh → Wd → Prop} (w : Wd) (v1 : Int32) (v2 : Int32) (v3 : Int32) (i1 : v3 ≤ v2 → (Q (none) SH w)) (i2 : ¬ v3 ≤ v2 → (inB v2 6 = true)) (i3 : ¬ v3 ≤ v2 → (EV X (d + 1) 258 (5, [some (.ref 9), some (.int v1), some (.int (v2 + (kI 1))), some (.int v3)], [], SH, (up2 w 9 v2.toNatClampNeg v1)) Q)) : EV X (d + 1) 258 (5, [some (.ref 9), some (.int v1), some (.int v2), some (.int v3)], [], SH, w) Q := by
  refine EV.steps cl_258 2 (q2 := (7, [some (.ref 9), some (.int v1), some (.int v2), some (.int v3)], [.int v3, .int v2], SH, w)) rfl ?_
  refine EV.i_ge cl_258 rfl (fun h1 => ?_) (fun h1 => ?_)
  · skip
    refine EV.ret cl_258 rfl rfl rfl ?_
    exact i1 h1
  · skip
    refine EV.steps cl_258 3 (q2 := (13, [some (.ref 9), some (.int v1), some (.int v2), some (.int v3)], [.int v1, .int v2, .ref 9], SH, w)) rfl ?_
    refine EV.iastore cl_258 rfl rfl (by decide) (i2 h1) ?_
    refine EV.steps cl_258 2 (q2 := (5, [some (.ref 9), some (.int v1), some (.int (v2 + (kI 1))), some (.int v3)], [], SH, (up2 w 9 v2.toNatClampNeg v1))) rfl ?_
    exact i3 h1
theorem s_258_10_at0 {X : Scr} {d : Nat} {Q : Option Value → Sh → Wd → Prop} (w : Wd) (v1 : Int32) (i1 : (EV X (d + 1) 258 (5, [some (.ref 10), some (.int v1), some (.int (kI 0)), some (.int (Int32.ofNat 72))], [], SH, w) Q)) : EV X (d + 1) 258 (0, [some (.ref 10), some (.int v1), none, none], [], SH, w) Q := by
  refine EV.steps cl_258 5 (q2 := (5, [some (.ref 10), some (.int v1), some (.int (kI 0)), some (.int (Int32.ofNat 72))], [], SH, w)) rfl ?_
  exact i1
theorem s_258_10_at5 {X : Scr} {d : Nat} {Q : Option Value → Sh → Wd → Prop} (w : Wd) (v1 : Int32) (v2 : Int32) (v3 : Int32) (i1 : v3 ≤ v2 → (Q (none) SH w)) (i2 : ¬ v3 ≤ v2 → (inB v2 72 = true)) (i3 : ¬ v3 ≤ v2 → (EV X (d + 1) 258 (5, [some (.ref 10), some (.int v1), some (.int (v2 + (kI 1))), some (.int v3)], [], SH, (up2 w 10 v2.toNatClampNeg v1)) Q)) : EV X (d + 1) 258 (5, [some (.ref 10), some (.int v1), some (.int v2), some (.int v3)], [], SH, w) Q := by
  refine EV.steps cl_258 2 (q2 := (7, [some (.ref 10), some (.int v1), some (.int v2), some (.int v3)], [.int v3, .int v2], SH, w)) rfl ?_
  refine EV.i_ge cl_258 rfl (fun h1 => ?_) (fun h1 => ?_)
  · skip
    refine EV.ret cl_258 rfl rfl rfl ?_
    exact i1 h1
  · skip
    refine EV.steps cl_258 3 (q2 := (13, [some (.ref 10), some (.int v1), some (.int v2), some (.int v3)], [.int v1, .int v2, .ref 10], SH, w)) rfl ?_
    refine EV.iastore cl_258 rfl rfl (by decide) (i2 h1) ?_
    refine EV.steps cl_258 2 (q2 := (5, [some (.ref 10), some (.int v1), some (.int (v2 + (kI 1))), some (.int v3)], [], SH, (up2 w 10 v2.toNatClampNeg v1))) rfl ?_
    exact i3 h1
theorem s_258_18_at0 {X : Scr} {d : Nat} {Q : Option Value → Sh → Wd → Prop} (w : Wd) (v1 : Int32) (i1 : (EV X (d + 1) 258 (5, [some (.ref 18), some (.int v1), some (.int (kI 0)), some (.int (Int32.ofNat 36))], [], SH, w) Q)) : EV X (d + 1) 258 (0, [some (.ref 18), some (.int v1), none, none], [], SH, w) Q := by
  refine EV.steps cl_258 5 (q2 := (5, [some (.ref 18), some (.int v1), some (.int (kI 0)), some (.int (Int32.ofNat 36))], [], SH, w)) rfl ?_
  exact i1
theorem s_258_18_at5 {X : Scr} {d : Nat} {Q : Option Value → Sh → Wd → Prop} (w : Wd) (v1 : Int32) (v2 : Int32) (v3 : Int32) (i1 : v3 ≤ v2 → (Q (none) SH w)) (i2 : ¬ v3 ≤ v2 → (inB v2 36 = true)) (i3 : ¬ v3 ≤ v2 → (EV X (d + 1) 258 (5, [some (.ref 18), some (.int v1), some (.int (v2 + (kI 1))), some (.int v3)], [], SH, (up2 w 18 v2.toNatClampNeg v1)) Q)) : EV X (d + 1) 258 (5, [some (.ref 18), some (.int v1), some (.int v2), some (.int v3)], [], SH, w) Q := by
  refine EV.steps cl_258 2 (q2 := (7, [some (.ref 18), some (.int v1), some (.int v2), some (.int v3)], [.int v3, .int v2], SH, w)) rfl ?_
  refine EV.i_ge cl_258 rfl (fun h1 => ?_) (fun h1 => ?_)
  · skip
    refine EV.ret cl_258 rfl rfl rfl ?_
    exact i1 h1
  · skip
    refine EV.steps cl_258 3 (q2 := (13, [some (.ref 18), some (.int v1), some (.int v2), some (.int v3)], [.int v1, .int v2, .ref 18], SH, w)) rfl ?_
    refine EV.iastore cl_258 rfl rfl (by decide) (i2 h1) ?_
    refine EV.steps cl_258 2 (q2 := (5, [some (.ref 18), some (.int v1), some (.int (v2 + (kI 1))), some (.int v3)], [], SH, (up2 w 18 v2.toNatClampNeg v1))) rfl ?_
    exact i3 h1
theorem s_258_19_at0 {X : Scr} {d : Nat} {Q : Option Value → Sh → Wd → Prop} (w : Wd) (v1 : Int32) (i1 : (EV X (d + 1) 258 (5, [some (.ref 19), some (.int v1), some (.int (kI 0)), some (.int (Int32.ofNat 6))], [], SH, w) Q)) : EV X (d + 1) 258 (0, [some (.ref 19), some (.int v1), none, none], [], SH, w) Q := by
  refine EV.steps cl_258 5 (q2 := (5, [some (.ref 19), some (.int v1), some (.int (kI 0)), some (.int (Int32.ofNat 6))], [], SH, w)) rfl ?_
  exact i1
theorem s_258_19_at5 {X : Scr} {d : Nat} {Q : Option Value → Sh → Wd → Prop} (w : Wd) (v1 : Int32) (v2 : Int32) (v3 : Int32) (i1 : v3 ≤ v2 → (Q (none) SH w)) (i2 : ¬ v3 ≤ v2 → (inB v2 6 = true)) (i3 : ¬ v3 ≤ v2 → (EV X (d + 1) 258 (5, [some (.ref 19), some (.int v1), some (.int (v2 + (kI 1))), some (.int v3)], [], SH, (up2 w 19 v2.toNatClampNeg v1)) Q)) : EV X (d + 1) 258 (5, [some (.ref 19), some (.int v1), some (.int v2), some (.int v3)], [], SH, w) Q := by
  refine EV.steps cl_258 2 (q2 := (7, [some (.ref 19), some (.int v1), some (.int v2), some (.int v3)], [.int v3, .int v2], SH, w)) rfl ?_
  refine EV.i_ge cl_258 rfl (fun h1 => ?_) (fun h1 => ?_)
  · skip
    refine EV.ret cl_258 rfl rfl rfl ?_
    exact i1 h1
  · skip
    refine EV.steps cl_258 3 (q2 := (13, [some (.ref 19), some (.int v1), some (.int v2), some (.int v3)], [.int v1, .int v2, .ref 19], SH, w)) rfl ?_
    refine EV.iastore cl_258 rfl rfl (by decide) (i2 h1) ?_
    refine EV.steps cl_258 2 (q2 := (5, [some (.ref 19), some (.int v1), some (.int (v2 + (kI 1))), some (.int v3)], [], SH, (up2 w 19 v2.toNatClampNeg v1))) rfl ?_
    exact i3 h1
theorem s_258_20_at0 {X : Scr} {d : Nat} {Q : Option Value → Sh → Wd → Prop} (w : Wd) (v1 : Int32) (i1 : (EV X (d + 1) 258 (5, [some (.ref 20), some (.int v1), some (.int (kI 0)), some (.int (Int32.ofNat 72))], [], SH, w) Q)) : EV X (d + 1) 258 (0, [some (.ref 20), some (.int v1), none, none], [], SH, w) Q := by
  refine EV.steps cl_258 5 (q2 := (5, [some (.ref 20), some (.int v1), some (.int (kI 0)), some (.int (Int32.ofNat 72))], [], SH, w)) rfl ?_
  exact i1
theorem s_258_20_at5 {X : Scr} {d : Nat} {Q : Option Value → Sh → Wd → Prop} (w : Wd) (v1 : Int32) (v2 : Int32) (v3 : Int32) (i1 : v3 ≤ v2 → (Q (none) SH w)) (i2 : ¬ v3 ≤ v2 → (inB v2 72 = true)) (i3 : ¬ v3 ≤ v2 → (EV X (d + 1) 258 (5, [some (.ref 20), some (.int v1), some (.int (v2 + (kI 1))), some (.int v3)], [], SH, (up2 w 20 v2.toNatClampNeg v1)) Q)) : EV X (d + 1) 258 (5, [some (.ref 20), some (.int v1), some (.int v2), some (.int v3)], [], SH, w) Q := by
  refine EV.steps cl_258 2 (q2 := (7, [some (.ref 20), some (.int v1), some (.int v2), some (.int v3)], [.int v3, .int v2], SH, w)) rfl ?_
  refine EV.i_ge cl_258 rfl (fun h1 => ?_) (fun h1 => ?_)
  · skip
    refine EV.ret cl_258 rfl rfl rfl ?_
    exact i1 h1
  · skip
    refine EV.steps cl_258 3 (q2 := (13, [some (.ref 20), some (.int v1), some (.int v2), some (.int v3)], [.int v1, .int v2, .ref 20], SH, w)) rfl ?_
    refine EV.iastore cl_258 rfl rfl (by decide) (i2 h1) ?_
    refine EV.steps cl_258 2 (q2 := (5, [some (.ref 20), some (.int v1), some (.int (v2 + (kI 1))), some (.int v3)], [], SH, (up2 w 20 v2.toNatClampNeg v1))) rfl ?_
    exact i3 h1
/-- a row filled up to a place -/
def fillW (w : Wd) (r n : Nat) (v : Int32) : Wd := fun b => if b = r then (fun j => if j < n then v else w r j) else w b
theorem fillW_0 (w : Wd) (r : Nat) (v : Int32) : fillW w r 0 v = w := by
  funext b j
  by_cases h : b = r
  · subst h; simp [fillW]
  · simp [fillW, h]
theorem fillW_up (w : Wd) (r n : Nat) (v : Int32) : up2 (fillW w r n v) r n v = fillW w r (n + 1) v := by
  funext b j
  by_cases h : b = r
  · subst h
    by_cases h2 : j = n
    · subst h2; simp [up2, upd, fillW]
    · have h3 : (j < n + 1) = (j < n) := by apply propext; omega
      simp [up2, upd, fillW, h2, h3]
  · simp [up2, fillW, h]
theorem lp_258_90 {X : Scr} {d : Nat} (w : Wd) (v : Int32) : ∀ (m n : Nat), n + m = 6 → EV X (d + 1) 258 (5, [some (.ref 90), some (.int v), some (.int (nI n)), some (.int (Int32.ofNat 6))], [], SH, fillW w 90 n v) (fun r s1 w1 => r = none ∧ s1 = SH ∧ w1 = fillW w 90 6 v) := by
  intro m
  induction m with
  | zero =>
    intro n h
    have hn : n = 6 := by omega
    subst hn
    have hle : (Int32.ofNat 6) ≤ nI 6 := by decide
    exact s_258_90_at5 _ v (nI 6) (Int32.ofNat 6) (fun _ => ⟨rfl, rfl, rfl⟩) (fun h => absurd hle h) (fun h => absurd hle h)
  | succ m ih =>
    intro n h
    have hlt : ¬ (Int32.ofNat 6) ≤ nI n := nI_ge (b := 6) (by omega) (by decide)
    refine s_258_90_at5 _ v (nI n) (Int32.ofNat 6) (fun h => absurd h hlt) (fun _ => inB_nI (by omega) (by decide)) (fun _ => ?_)
    rw [nI_clamp (show n < 2 ^ 31 by omega), kI_1, nI_1, fillW_up]
    exact ih (n + 1) (by omega)
def G_258_90 (p1 : Int32) (w : Wd) : Wd := fillW w 90 6 p1
theorem m_258_90 {X : Scr} {d : Nat} (w : Wd) (p1 : Int32) : CV X (d + 2) 258 [.ref 90, .int p1] SH w (fun r s1 w1 => r = none ∧ s1 = SH ∧ w1 = G_258_90 p1 w) :=
  CV.of rfl (s_258_90_at0 w p1 (by have h := lp_258_90 (X := X) (d := d) w p1 6 0 rfl; rw [fillW_0] at h; exact h))
theorem lp_258_107 {X : Scr} {d : Nat} (w : Wd) (v : Int32) : ∀ (m n : Nat), n + m = 100 → EV X (d + 1) 258 (5, [some (.ref 107), some (.int v), some (.int (nI n)), some (.int (Int32.ofNat 100))], [], SH, fillW w 107 n v) (fun r s1 w1 => r = none ∧ s1 = SH ∧ w1 = fillW w 107 100 v) := by
  intro m
  induction m with
  | zero =>
    intro n h
    have hn : n = 100 := by omega
    subst hn
    have hle : (Int32.ofNat 100) ≤ nI 100 := by decide
    exact s_258_107_at5 _ v (nI 100) (Int32.ofNat 100) (fun _ => ⟨rfl, rfl, rfl⟩) (fun h => absurd hle h) (fun h => absurd hle h)
  | succ m ih =>
    intro n h
    have hlt : ¬ (Int32.ofNat 100) ≤ nI n := nI_ge (b := 100) (by omega) (by decide)
    refine s_258_107_at5 _ v (nI n) (Int32.ofNat 100) (fun h => absurd h hlt) (fun _ => inB_nI (by omega) (by decide)) (fun _ => ?_)
    rw [nI_clamp (show n < 2 ^ 31 by omega), kI_1, nI_1, fillW_up]
    exact ih (n + 1) (by omega)
def G_258_107 (p1 : Int32) (w : Wd) : Wd := fillW w 107 100 p1
theorem m_258_107 {X : Scr} {d : Nat} (w : Wd) (p1 : Int32) : CV X (d + 2) 258 [.ref 107, .int p1] SH w (fun r s1 w1 => r = none ∧ s1 = SH ∧ w1 = G_258_107 p1 w) :=
  CV.of rfl (s_258_107_at0 w p1 (by have h := lp_258_107 (X := X) (d := d) w p1 100 0 rfl; rw [fillW_0] at h; exact h))
theorem lp_258_108 {X : Scr} {d : Nat} (w : Wd) (v : Int32) : ∀ (m n : Nat), n + m = 20 → EV X (d + 1) 258 (5, [some (.ref 108), some (.int v), some (.int (nI n)), some (.int (Int32.ofNat 20))], [], SH, fillW w 108 n v) (fun r s1 w1 => r = none ∧ s1 = SH ∧ w1 = fillW w 108 20 v) := by
  intro m
  induction m with
  | zero =>
    intro n h
    have hn : n = 20 := by omega
    subst hn
    have hle : (Int32.ofNat 20) ≤ nI 20 := by decide
    exact s_258_108_at5 _ v (nI 20) (Int32.ofNat 20) (fun _ => ⟨rfl, rfl, rfl⟩) (fun h => absurd hle h) (fun h => absurd hle h)
  | succ m ih =>
    intro n h
    have hlt : ¬ (Int32.ofNat 20) ≤ nI n := nI_ge (b := 20) (by omega) (by decide)
    refine s_258_108_at5 _ v (nI n) (Int32.ofNat 20) (fun h => absurd h hlt) (fun _ => inB_nI (by omega) (by decide)) (fun _ => ?_)
    rw [nI_clamp (show n < 2 ^ 31 by omega), kI_1, nI_1, fillW_up]
    exact ih (n + 1) (by omega)
def G_258_108 (p1 : Int32) (w : Wd) : Wd := fillW w 108 20 p1
theorem m_258_108 {X : Scr} {d : Nat} (w : Wd) (p1 : Int32) : CV X (d + 2) 258 [.ref 108, .int p1] SH w (fun r s1 w1 => r = none ∧ s1 = SH ∧ w1 = G_258_108 p1 w) :=
  CV.of rfl (s_258_108_at0 w p1 (by have h := lp_258_108 (X := X) (d := d) w p1 20 0 rfl; rw [fillW_0] at h; exact h))
theorem lp_258_97 {X : Scr} {d : Nat} (w : Wd) (v : Int32) : ∀ (m n : Nat), n + m = 6 → EV X (d + 1) 258 (5, [some (.ref 97), some (.int v), some (.int (nI n)), some (.int (Int32.ofNat 6))], [], SH, fillW w 97 n v) (fun r s1 w1 => r = none ∧ s1 = SH ∧ w1 = fillW w 97 6 v) := by
  intro m
  induction m with
  | zero =>
    intro n h
    have hn : n = 6 := by omega
    subst hn
    have hle : (Int32.ofNat 6) ≤ nI 6 := by decide
    exact s_258_97_at5 _ v (nI 6) (Int32.ofNat 6) (fun _ => ⟨rfl, rfl, rfl⟩) (fun h => absurd hle h) (fun h => absurd hle h)
  | succ m ih =>
    intro n h
    have hlt : ¬ (Int32.ofNat 6) ≤ nI n := nI_ge (b := 6) (by omega) (by decide)
    refine s_258_97_at5 _ v (nI n) (Int32.ofNat 6) (fun h => absurd h hlt) (fun _ => inB_nI (by omega) (by decide)) (fun _ => ?_)
    rw [nI_clamp (show n < 2 ^ 31 by omega), kI_1, nI_1, fillW_up]
    exact ih (n + 1) (by omega)
def G_258_97 (p1 : Int32) (w : Wd) : Wd := fillW w 97 6 p1
theorem m_258_97 {X : Scr} {d : Nat} (w : Wd) (p1 : Int32) : CV X (d + 2) 258 [.ref 97, .int p1] SH w (fun r s1 w1 => r = none ∧ s1 = SH ∧ w1 = G_258_97 p1 w) :=
  CV.of rfl (s_258_97_at0 w p1 (by have h := lp_258_97 (X := X) (d := d) w p1 6 0 rfl; rw [fillW_0] at h; exact h))
theorem lp_258_85 {X : Scr} {d : Nat} (w : Wd) (v : Int32) : ∀ (m n : Nat), n + m = 12 → EV X (d + 1) 258 (5, [some (.ref 85), some (.int v), some (.int (nI n)), some (.int (Int32.ofNat 12))], [], SH, fillW w 85 n v) (fun r s1 w1 => r = none ∧ s1 = SH ∧ w1 = fillW w 85 12 v) := by
  intro m
  induction m with
  | zero =>
    intro n h
    have hn : n = 12 := by omega
    subst hn
    have hle : (Int32.ofNat 12) ≤ nI 12 := by decide
    exact s_258_85_at5 _ v (nI 12) (Int32.ofNat 12) (fun _ => ⟨rfl, rfl, rfl⟩) (fun h => absurd hle h) (fun h => absurd hle h)
  | succ m ih =>
    intro n h
    have hlt : ¬ (Int32.ofNat 12) ≤ nI n := nI_ge (b := 12) (by omega) (by decide)
    refine s_258_85_at5 _ v (nI n) (Int32.ofNat 12) (fun h => absurd h hlt) (fun _ => inB_nI (by omega) (by decide)) (fun _ => ?_)
    rw [nI_clamp (show n < 2 ^ 31 by omega), kI_1, nI_1, fillW_up]
    exact ih (n + 1) (by omega)
def G_258_85 (p1 : Int32) (w : Wd) : Wd := fillW w 85 12 p1
theorem m_258_85 {X : Scr} {d : Nat} (w : Wd) (p1 : Int32) : CV X (d + 2) 258 [.ref 85, .int p1] SH w (fun r s1 w1 => r = none ∧ s1 = SH ∧ w1 = G_258_85 p1 w) :=
  CV.of rfl (s_258_85_at0 w p1 (by have h := lp_258_85 (X := X) (d := d) w p1 12 0 rfl; rw [fillW_0] at h; exact h))
theorem lp_258_8 {X : Scr} {d : Nat} (w : Wd) (v : Int32) : ∀ (m n : Nat), n + m = 36 → EV X (d + 1) 258 (5, [some (.ref 8), some (.int v), some (.int (nI n)), some (.int (Int32.ofNat 36))], [], SH, fillW w 8 n v) (fun r s1 w1 => r = none ∧ s1 = SH ∧ w1 = fillW w 8 36 v) := by
  intro m
  induction m with
  | zero =>
    intro n h
    have hn : n = 36 := by omega
    subst hn
    have hle : (Int32.ofNat 36) ≤ nI 36 := by decide
    exact s_258_8_at5 _ v (nI 36) (Int32.ofNat 36) (fun _ => ⟨rfl, rfl, rfl⟩) (fun h => absurd hle h) (fun h => absurd hle h)
  | succ m ih =>
    intro n h
    have hlt : ¬ (Int32.ofNat 36) ≤ nI n := nI_ge (b := 36) (by omega) (by decide)
    refine s_258_8_at5 _ v (nI n) (Int32.ofNat 36) (fun h => absurd h hlt) (fun _ => inB_nI (by omega) (by decide)) (fun _ => ?_)
    rw [nI_clamp (show n < 2 ^ 31 by omega), kI_1, nI_1, fillW_up]
    exact ih (n + 1) (by omega)
def G_258_8 (p1 : Int32) (w : Wd) : Wd := fillW w 8 36 p1
theorem m_258_8 {X : Scr} {d : Nat} (w : Wd) (p1 : Int32) : CV X (d + 2) 258 [.ref 8, .int p1] SH w (fun r s1 w1 => r = none ∧ s1 = SH ∧ w1 = G_258_8 p1 w) :=
  CV.of rfl (s_258_8_at0 w p1 (by have h := lp_258_8 (X := X) (d := d) w p1 36 0 rfl; rw [fillW_0] at h; exact h))
theorem lp_258_9 {X : Scr} {d : Nat} (w : Wd) (v : Int32) : ∀ (m n : Nat), n + m = 6 → EV X (d + 1) 258 (5, [some (.ref 9), some (.int v), some (.int (nI n)), some (.int (Int32.ofNat 6))], [], SH, fillW w 9 n v) (fun r s1 w1 => r = none ∧ s1 = SH ∧ w1 = fillW w 9 6 v) := by
  intro m
  induction m with
  | zero =>
    intro n h
    have hn : n = 6 := by omega
    subst hn
    have hle : (Int32.ofNat 6) ≤ nI 6 := by decide
    exact s_258_9_at5 _ v (nI 6) (Int32.ofNat 6) (fun _ => ⟨rfl, rfl, rfl⟩) (fun h => absurd hle h) (fun h => absurd hle h)
  | succ m ih =>
    intro n h
    have hlt : ¬ (Int32.ofNat 6) ≤ nI n := nI_ge (b := 6) (by omega) (by decide)
    refine s_258_9_at5 _ v (nI n) (Int32.ofNat 6) (fun h => absurd h hlt) (fun _ => inB_nI (by omega) (by decide)) (fun _ => ?_)
    rw [nI_clamp (show n < 2 ^ 31 by omega), kI_1, nI_1, fillW_up]
    exact ih (n + 1) (by omega)
def G_258_9 (p1 : Int32) (w : Wd) : Wd := fillW w 9 6 p1
theorem m_258_9 {X : Scr} {d : Nat} (w : Wd) (p1 : Int32) : CV X (d + 2) 258 [.ref 9, .int p1] SH w (fun r s1 w1 => r = none ∧ s1 = SH ∧ w1 = G_258_9 p1 w) :=
  CV.of rfl (s_258_9_at0 w p1 (by have h := lp_258_9 (X := X) (d := d) w p1 6 0 rfl; rw [fillW_0] at h; exact h))
theorem lp_258_10 {X : Scr} {d : Nat} (w : Wd) (v : Int32) : ∀ (m n : Nat), n + m = 72 → EV X (d + 1) 258 (5, [some (.ref 10), some (.int v), some (.int (nI n)), some (.int (Int32.ofNat 72))], [], SH, fillW w 10 n v) (fun r s1 w1 => r = none ∧ s1 = SH ∧ w1 = fillW w 10 72 v) := by
  intro m
  induction m with
  | zero =>
    intro n h
    have hn : n = 72 := by omega
    subst hn
    have hle : (Int32.ofNat 72) ≤ nI 72 := by decide
    exact s_258_10_at5 _ v (nI 72) (Int32.ofNat 72) (fun _ => ⟨rfl, rfl, rfl⟩) (fun h => absurd hle h) (fun h => absurd hle h)
  | succ m ih =>
    intro n h
    have hlt : ¬ (Int32.ofNat 72) ≤ nI n := nI_ge (b := 72) (by omega) (by decide)
    refine s_258_10_at5 _ v (nI n) (Int32.ofNat 72) (fun h => absurd h hlt) (fun _ => inB_nI (by omega) (by decide)) (fun _ => ?_)
    rw [nI_clamp (show n < 2 ^ 31 by omega), kI_1, nI_1, fillW_up]
    exact ih (n + 1) (by omega)
def G_258_10 (p1 : Int32) (w : Wd) : Wd := fillW w 10 72 p1
theorem m_258_10 {X : Scr} {d : Nat} (w : Wd) (p1 : Int32) : CV X (d + 2) 258 [.ref 10, .int p1] SH w (fun r s1 w1 => r = none ∧ s1 = SH ∧ w1 = G_258_10 p1 w) :=
  CV.of rfl (s_258_10_at0 w p1 (by have h := lp_258_10 (X := X) (d := d) w p1 72 0 rfl; rw [fillW_0] at h; exact h))
theorem lp_258_18 {X : Scr} {d : Nat} (w : Wd) (v : Int32) : ∀ (m n : Nat), n + m = 36 → EV X (d + 1) 258 (5, [some (.ref 18), some (.int v), some (.int (nI n)), some (.int (Int32.ofNat 36))], [], SH, fillW w 18 n v) (fun r s1 w1 => r = none ∧ s1 = SH ∧ w1 = fillW w 18 36 v) := by
  intro m
  induction m with
  | zero =>
    intro n h
    have hn : n = 36 := by omega
    subst hn
    have hle : (Int32.ofNat 36) ≤ nI 36 := by decide
    exact s_258_18_at5 _ v (nI 36) (Int32.ofNat 36) (fun _ => ⟨rfl, rfl, rfl⟩) (fun h => absurd hle h) (fun h => absurd hle h)
  | succ m ih =>
    intro n h
    have hlt : ¬ (Int32.ofNat 36) ≤ nI n := nI_ge (b := 36) (by omega) (by decide)
    refine s_258_18_at5 _ v (nI n) (Int32.ofNat 36) (fun h => absurd h hlt) (fun _ => inB_nI (by omega) (by decide)) (fun _ => ?_)
    rw [nI_clamp (show n < 2 ^ 31 by omega), kI_1, nI_1, fillW_up]
    exact ih (n + 1) (by omega)
def G_258_18 (p1 : Int32) (w : Wd) : Wd := fillW w 18 36 p1
theorem m_258_18 {X : Scr} {d : Nat} (w : Wd) (p1 : Int32) : CV X (d + 2) 258 [.ref 18, .int p1] SH w (fun r s1 w1 => r = none ∧ s1 = SH ∧ w1 = G_258_18 p1 w) :=
  CV.of rfl (s_258_18_at0 w p1 (by have h := lp_258_18 (X := X) (d := d) w p1 36 0 rfl; rw [fillW_0] at h; exact h))
theorem lp_258_19 {X : Scr} {d : Nat} (w : Wd) (v : Int32) : ∀ (m n : Nat), n + m = 6 → EV X (d + 1) 258 (5, [some (.ref 19), some (.int v), some (.int (nI n)), some (.int (Int32.ofNat 6))], [], SH, fillW w 19 n v) (fun r s1 w1 => r = none ∧ s1 = SH ∧ w1 = fillW w 19 6 v) := by
  intro m
  induction m with
  | zero =>
    intro n h
    have hn : n = 6 := by omega
    subst hn
    have hle : (Int32.ofNat 6) ≤ nI 6 := by decide
    exact s_258_19_at5 _ v (nI 6) (Int32.ofNat 6) (fun _ => ⟨rfl, rfl, rfl⟩) (fun h => absurd hle h) (fun h => absurd hle h)
  | succ m ih =>
    intro n h
    have hlt : ¬ (Int32.ofNat 6) ≤ nI n := nI_ge (b := 6) (by omega) (by decide)
    refine s_258_19_at5 _ v (nI n) (Int32.ofNat 6) (fun h => absurd h hlt) (fun _ => inB_nI (by omega) (by decide)) (fun _ => ?_)
    rw [nI_clamp (show n < 2 ^ 31 by omega), kI_1, nI_1, fillW_up]
    exact ih (n + 1) (by omega)
def G_258_19 (p1 : Int32) (w : Wd) : Wd := fillW w 19 6 p1
theorem m_258_19 {X : Scr} {d : Nat} (w : Wd) (p1 : Int32) : CV X (d + 2) 258 [.ref 19, .int p1] SH w (fun r s1 w1 => r = none ∧ s1 = SH ∧ w1 = G_258_19 p1 w) :=
  CV.of rfl (s_258_19_at0 w p1 (by have h := lp_258_19 (X := X) (d := d) w p1 6 0 rfl; rw [fillW_0] at h; exact h))
theorem lp_258_20 {X : Scr} {d : Nat} (w : Wd) (v : Int32) : ∀ (m n : Nat), n + m = 72 → EV X (d + 1) 258 (5, [some (.ref 20), some (.int v), some (.int (nI n)), some (.int (Int32.ofNat 72))], [], SH, fillW w 20 n v) (fun r s1 w1 => r = none ∧ s1 = SH ∧ w1 = fillW w 20 72 v) := by
  intro m
  induction m with
  | zero =>
    intro n h
    have hn : n = 72 := by omega
    subst hn
    have hle : (Int32.ofNat 72) ≤ nI 72 := by decide
    exact s_258_20_at5 _ v (nI 72) (Int32.ofNat 72) (fun _ => ⟨rfl, rfl, rfl⟩) (fun h => absurd hle h) (fun h => absurd hle h)
  | succ m ih =>
    intro n h
    have hlt : ¬ (Int32.ofNat 72) ≤ nI n := nI_ge (b := 72) (by omega) (by decide)
    refine s_258_20_at5 _ v (nI n) (Int32.ofNat 72) (fun h => absurd h hlt) (fun _ => inB_nI (by omega) (by decide)) (fun _ => ?_)
    rw [nI_clamp (show n < 2 ^ 31 by omega), kI_1, nI_1, fillW_up]
    exact ih (n + 1) (by omega)
def G_258_20 (p1 : Int32) (w : Wd) : Wd := fillW w 20 72 p1
theorem m_258_20 {X : Scr} {d : Nat} (w : Wd) (p1 : Int32) : CV X (d + 2) 258 [.ref 20, .int p1] SH w (fun r s1 w1 => r = none ∧ s1 = SH ∧ w1 = G_258_20 p1 w) :=
  CV.of rfl (s_258_20_at0 w p1 (by have h := lp_258_20 (X := X) (d := d) w p1 72 0 rfl; rw [fillW_0] at h; exact h))
