set_option maxRecDepth 20000 in
theorem cl_3 : RCT[3]? = some rc_3 := rfl
theorem s_3_102_at0 {X : Scr} {d : Nat} {Q : Option Value → Sh → Wd → Prop} (w : Wd)  (i1 : (EV X (d + 1) 3 (4, [some (.ref 102), some (.int (kI 0)), some (.int (kI 0))], [], SH, w) Q)) : EV X (d + 1) 3 (0, [some (.ref 102), none, none], [], SH, w) Q := by
  refine EV.steps cl_3 4 (q2 := (4, [some (.ref 102), some (.int (kI 0)), some (.int (kI 0))], [], SH, w)) rfl ?_
  exact i1
theorem s_3_102_at4 {X : Scr} {d : Nat} {Q : Option Value → Sh → Wd → Prop} (w : Wd) (v1 : Int32) (v2 : Int32) (i1 : (kI 100) ≤ v2 → (Q (some (.int (kI (-2)))) SH w)) (i2 : ¬ (kI 100) ≤ v2 → (inB v2 100 = true)) (i3 : ¬ (kI 100) ≤ v2 → (v1 + (w 107 v2.toNatClampNeg)) ≤ 0 → (EV X (d + 1) 3 (4, [some (.ref 102), some (.int (v1 + (w 107 v2.toNatClampNeg))), some (.int (v2 + (kI 1)))], [], SH, w) Q)) (i4 : ¬ (kI 100) ≤ v2 → ¬ (v1 + (w 107 v2.toNatClampNeg)) ≤ 0 → ((kI 2) * (v1 + (w 107 v2.toNatClampNeg))) < (w 102 7) → (EV X (d + 1) 3 (4, [some (.ref 102), some (.int (v1 + (w 107 v2.toNatClampNeg))), some (.int (v2 + (kI 1)))], [], SH, w) Q)) (i5 : ¬ (kI 100) ≤ v2 → ¬ (v1 + (w 107 v2.toNatClampNeg)) ≤ 0 → ¬ ((kI 2) * (v1 + (w 107 v2.toNatClampNeg))) < (w 102 7) → (Q (some (.int v2)) SH w)) : EV X (d + 1) 3 (4, [some (.ref 102), some (.int v1), some (.int v2)], [], SH, w) Q := by
  refine EV.steps cl_3 2 (q2 := (7, [some (.ref 102), some (.int v1), some (.int v2)], [.int (kI 100), .int v2], SH, w)) rfl ?_
  refine EV.i_ge cl_3 rfl (fun h1 => ?_) (fun h1 => ?_)
  · skip
    refine EV.steps cl_3 1 (q2 := (43, [some (.ref 102), some (.int v1), some (.int v2)], [.int (kI (-2))], SH, w)) rfl ?_
    refine EV.ret cl_3 rfl rfl rfl ?_
    exact i1 h1
  · skip
    refine EV.steps cl_3 4 (q2 := (16, [some (.ref 102), some (.int v1), some (.int v2)], [.int v2, .ref 107, .int v1], SH, w)) rfl ?_
    refine EV.iaload cl_3 rfl rfl (by decide) (i2 h1) ?_
    refine EV.steps cl_3 3 (q2 := (20, [some (.ref 102), some (.int (v1 + (w 107 v2.toNatClampNeg))), some (.int v2)], [.int (v1 + (w 107 v2.toNatClampNeg))], SH, w)) rfl ?_
    refine EV.z_le cl_3 rfl (fun h2 => ?_) (fun h2 => ?_)
    · skip
      refine EV.steps cl_3 2 (q2 := (4, [some (.ref 102), some (.int (v1 + (w 107 v2.toNatClampNeg))), some (.int (v2 + (kI 1)))], [], SH, w)) rfl ?_
      exact i3 h1 h2
    · skip
      refine EV.steps cl_3 5 (q2 := (30, [some (.ref 102), some (.int (v1 + (w 107 v2.toNatClampNeg))), some (.int v2)], [.int (w 102 7), .int ((kI 2) * (v1 + (w 107 v2.toNatClampNeg)))], SH, w)) rfl ?_
      refine EV.i_lt cl_3 rfl (fun h3 => ?_) (fun h3 => ?_)
      · skip
        refine EV.steps cl_3 2 (q2 := (4, [some (.ref 102), some (.int (v1 + (w 107 v2.toNatClampNeg))), some (.int (v2 + (kI 1)))], [], SH, w)) rfl ?_
        exact i4 h1 h2 h3
      · skip
        refine EV.steps cl_3 1 (q2 := (34, [some (.ref 102), some (.int (v1 + (w 107 v2.toNatClampNeg))), some (.int v2)], [.int v2], SH, w)) rfl ?_
        refine EV.ret cl_3 rfl rfl rfl ?_
        exact i5 h1 h2 h3
set_option maxRecDepth 20000 in
theorem cl_5 : RCT[5]? = some rc_5 := rfl
theorem s_5_102_at0 {X : Scr} {d : Nat} {Q : Option Value → Sh → Wd → Prop} (w : Wd)  (i1 : (EV X (d + 1) 5 (4, [some (.ref 102), some (.int (kI 0)), some (.int (kI 0)), none], [], SH, w) Q)) : EV X (d + 1) 5 (0, [some (.ref 102), none, none, none], [], SH, w) Q := by
  refine EV.steps cl_5 4 (q2 := (4, [some (.ref 102), some (.int (kI 0)), some (.int (kI 0)), none], [], SH, w)) rfl ?_
  exact i1
theorem s_5_102_at4 {X : Scr} {d : Nat} {Q : Option Value → Sh → Wd → Prop} (w : Wd) (v1 : Int32) (v2 : Int32) (i1 : (kI 20) ≤ v2 → (Q (some (.int v1)) SH w)) (i2 : ¬ (kI 20) ≤ v2 → (EV X (d + 1) 5 (12, [some (.ref 102), some (.int v1), some (.int v2), some (.int (kI 0))], [], SH, w) Q)) : EV X (d + 1) 5 (4, [some (.ref 102), some (.int v1), some (.int v2), none], [], SH, w) Q := by
  refine EV.steps cl_5 2 (q2 := (7, [some (.ref 102), some (.int v1), some (.int v2), none], [.int (kI 20), .int v2], SH, w)) rfl ?_
  refine EV.i_ge cl_5 rfl (fun h1 => ?_) (fun h1 => ?_)
  · skip
    refine EV.steps cl_5 1 (q2 := (42, [some (.ref 102), some (.int v1), some (.int v2), none], [.int v1], SH, w)) rfl ?_
    refine EV.ret cl_5 rfl rfl rfl ?_
    exact i1 h1
  · skip
    refine EV.steps cl_5 2 (q2 := (12, [some (.ref 102), some (.int v1), some (.int v2), some (.int (kI 0))], [], SH, w)) rfl ?_
    exact i2 h1
theorem s_5_102_at12 {X : Scr} {d : Nat} {Q : Option Value → Sh → Wd → Prop} (w : Wd) (v1 : Int32) (v2 : Int32) (v3 : Int32) (i1 : v2 ≤ v3 → (EV X (d + 2) 5 (4, [some (.ref 102), some (.int v1), some (.int (v2 + (kI 1))), some (.int v3)], [], SH, w) Q)) (i2 : ¬ v2 ≤ v3 → (F_8_102 v2 v3 w) = 0 → (EV X (d + 2) 5 (12, [some (.ref 102), some (.int v1), some (.int v2), some (.int (v3 + (kI 1)))], [], SH, w) Q)) (i3 : ¬ v2 ≤ v3 → ¬ (F_8_102 v2 v3 w) = 0 → (EV X (d + 2) 5 (12, [some (.ref 102), some (.int (v1 + (kI 1))), some (.int v2), some (.int (v3 + (kI 1)))], [], SH, w) Q)) : EV X (d + 2) 5 (12, [some (.ref 102), some (.int v1), some (.int v2), some (.int v3)], [], SH, w) Q := by
  refine EV.steps cl_5 2 (q2 := (14, [some (.ref 102), some (.int v1), some (.int v2), some (.int v3)], [.int v2, .int v3], SH, w)) rfl ?_
  refine EV.i_ge cl_5 rfl (fun h1 => ?_) (fun h1 => ?_)
  · skip
    refine EV.steps cl_5 2 (q2 := (4, [some (.ref 102), some (.int v1), some (.int (v2 + (kI 1))), some (.int v3)], [], SH, w)) rfl ?_
    exact i1 h1
  · skip
    refine EV.steps cl_5 3 (q2 := (20, [some (.ref 102), some (.int v1), some (.int v2), some (.int v3)], [.int v3, .int v2, .ref 102], SH, w)) rfl ?_
    refine EV.callF (kc := 8) (av := [.ref 102, .int v2, .int v3]) (r := []) (rv := some (.int (F_8_102 v2 v3 w))) (w2 := w) cl_5 rfl rfl rfl (m_8_102 w v2 v3) ?_
    refine EV.z_eq cl_5 rfl (fun h2 => ?_) (fun h2 => ?_)
    · skip
      refine EV.steps cl_5 2 (q2 := (12, [some (.ref 102), some (.int v1), some (.int v2), some (.int (v3 + (kI 1)))], [], SH, w)) rfl ?_
      exact i2 h1 h2
    · skip
      refine EV.steps cl_5 3 (q2 := (12, [some (.ref 102), some (.int (v1 + (kI 1))), some (.int v2), some (.int (v3 + (kI 1)))], [], SH, w)) rfl ?_
      exact i3 h1 h2
set_option maxRecDepth 20000 in
theorem cl_15 : RCT[15]? = some rc_15 := rfl
theorem s_15_7_at0 {X : Scr} {d : Nat} {Q : Option Value → Sh → Wd → Prop} (w : Wd) (v1 : Int32) (i1 : (kI 1) ≤ (w 7 4) → (EV X (d + 1) 15 (15, [some (.ref 7), some (.int v1), some (.int (kI 0)), some (.int (kI 0))], [], SH, w) Q)) (i2 : ¬ (kI 1) ≤ (w 7 4) → (Q (some (.int (kI (-2)))) SH w)) : EV X (d + 1) 15 (0, [some (.ref 7), some (.int v1), none, none], [], SH, w) Q := by
  refine EV.steps cl_15 3 (q2 := (5, [some (.ref 7), some (.int v1), none, none], [.int (kI 1), .int (w 7 4)], SH, w)) rfl ?_
  refine EV.i_ge cl_15 rfl (fun h1 => ?_) (fun h1 => ?_)
  · skip
    refine EV.steps cl_15 4 (q2 := (15, [some (.ref 7), some (.int v1), some (.int (kI 0)), some (.int (kI 0))], [], SH, w)) rfl ?_
    exact i1 h1
  · skip
    refine EV.steps cl_15 1 (q2 := (10, [some (.ref 7), some (.int v1), none, none], [.int (kI (-2))], SH, w)) rfl ?_
    refine EV.ret cl_15 rfl rfl rfl ?_
    exact i2 h1
theorem s_15_7_at15 {X : Scr} {d : Nat} {Q : Option Value → Sh → Wd → Prop} (w : Wd) (v1 : Int32) (v2 : Int32) (v3 : Int32) (i1 : (w 7 4) ≤ v3 → (¬ ((kI 2) * (w 7 4)) = 0)) (i2 : (w 7 4) ≤ v3 → (Q (some (.int ((((kI 24) * v2) + (w 7 4)) / ((kI 2) * (w 7 4))))) SH w)) (i3 : ¬ (w 7 4) ≤ v3 → (EV X (d + 2) 15 (15, [some (.ref 7), some (.int v1), some (.int (v2 + (F_12_7 v1 v3 w))), some (.int (v3 + (kI 1)))], [], SH, w) Q)) : EV X (d + 2) 15 (15, [some (.ref 7), some (.int v1), some (.int v2), some (.int v3)], [], SH, w) Q := by
  refine EV.steps cl_15 3 (q2 := (20, [some (.ref 7), some (.int v1), some (.int v2), some (.int v3)], [.int (w 7 4), .int v3], SH, w)) rfl ?_
  refine EV.i_ge cl_15 rfl (fun h1 => ?_) (fun h1 => ?_)
  · skip
    refine EV.steps cl_15 10 (q2 := (53, [some (.ref 7), some (.int v1), some (.int v2), some (.int v3)], [.int ((kI 2) * (w 7 4)), .int (((kI 24) * v2) + (w 7 4))], SH, w)) rfl ?_
    refine EV.idiv cl_15 rfl (i1 h1) ?_
    refine EV.ret cl_15 rfl rfl rfl ?_
    exact i2 h1
  · skip
    refine EV.steps cl_15 4 (q2 := (27, [some (.ref 7), some (.int v1), some (.int v2), some (.int v3)], [.int v3, .int v1, .ref 7, .int v2], SH, w)) rfl ?_
    refine EV.callF (kc := 12) (av := [.ref 7, .int v1, .int v3]) (r := [.int v2]) (rv := some (.int (F_12_7 v1 v3 w))) (w2 := w) cl_15 rfl rfl rfl (m_12_7 w v1 v3) ?_
    refine EV.steps cl_15 4 (q2 := (15, [some (.ref 7), some (.int v1), some (.int (v2 + (F_12_7 v1 v3 w))), some (.int (v3 + (kI 1)))], [], SH, w)) rfl ?_
    exact i3 h1
theorem s_15_12_at0 {X : Scr} {d : Nat} {Q : Option Value → Sh → Wd → Prop} (w : Wd) (v1 : Int32) (i1 : (kI 1) ≤ (w 12 4) → (EV X (d + 1) 15 (15, [some (.ref 12), some (.int v1), some (.int (kI 0)), some (.int (kI 0))], [], SH, w) Q)) (i2 : ¬ (kI 1) ≤ (w 12 4) → (Q (some (.int (kI (-2)))) SH w)) : EV X (d + 1) 15 (0, [some (.ref 12), some (.int v1), none, none], [], SH, w) Q := by
  refine EV.steps cl_15 3 (q2 := (5, [some (.ref 12), some (.int v1), none, none], [.int (kI 1), .int (w 12 4)], SH, w)) rfl ?_
  refine EV.i_ge cl_15 rfl (fun h1 => ?_) (fun h1 => ?_)
  · skip
    refine EV.steps cl_15 4 (q2 := (15, [some (.ref 12), some (.int v1), some (.int (kI 0)), some (.int (kI 0))], [], SH, w)) rfl ?_
    exact i1 h1
  · skip
    refine EV.steps cl_15 1 (q2 := (10, [some (.ref 12), some (.int v1), none, none], [.int (kI (-2))], SH, w)) rfl ?_
    refine EV.ret cl_15 rfl rfl rfl ?_
    exact i2 h1
theorem s_15_12_at15 {X : Scr} {d : Nat} {Q : Option Value → Sh → Wd → Prop} (w : Wd) (v1 : Int32) (v2 : Int32) (v3 : Int32) (i1 : (w 12 4) ≤ v3 → (¬ ((kI 2) * (w 12 4)) = 0)) (i2 : (w 12 4) ≤ v3 → (Q (some (.int ((((kI 24) * v2) + (w 12 4)) / ((kI 2) * (w 12 4))))) SH w)) (i3 : ¬ (w 12 4) ≤ v3 → (EV X (d + 2) 15 (15, [some (.ref 12), some (.int v1), some (.int (v2 + (F_12_12 v1 v3 w))), some (.int (v3 + (kI 1)))], [], SH, w) Q)) : EV X (d + 2) 15 (15, [some (.ref 12), some (.int v1), some (.int v2), some (.int v3)], [], SH, w) Q := by
  refine EV.steps cl_15 3 (q2 := (20, [some (.ref 12), some (.int v1), some (.int v2), some (.int v3)], [.int (w 12 4), .int v3], SH, w)) rfl ?_
  refine EV.i_ge cl_15 rfl (fun h1 => ?_) (fun h1 => ?_)
  · skip
    refine EV.steps cl_15 10 (q2 := (53, [some (.ref 12), some (.int v1), some (.int v2), some (.int v3)], [.int ((kI 2) * (w 12 4)), .int (((kI 24) * v2) + (w 12 4))], SH, w)) rfl ?_
    refine EV.idiv cl_15 rfl (i1 h1) ?_
    refine EV.ret cl_15 rfl rfl rfl ?_
    exact i2 h1
  · skip
    refine EV.steps cl_15 4 (q2 := (27, [some (.ref 12), some (.int v1), some (.int v2), some (.int v3)], [.int v3, .int v1, .ref 12, .int v2], SH, w)) rfl ?_
    refine EV.callF (kc := 12) (av := [.ref 12, .int v1, .int v3]) (r := [.int v2]) (rv := some (.int (F_12_12 v1 v3 w))) (w2 := w) cl_15 rfl rfl rfl (m_12_12 w v1 v3) ?_
    refine EV.steps cl_15 4 (q2 := (15, [some (.ref 12), some (.int v1), some (.int (v2 + (F_12_12 v1 v3 w))), some (.int (v3 + (kI 1)))], [], SH, w)) rfl ?_
    exact i3 h1
theorem s_15_17_at0 {X : Scr} {d : Nat} {Q : Option Value → Sh → Wd → Prop} (w : Wd) (v1 : Int32) (i1 : (kI 1) ≤ (w 17 4) → (EV X (d + 1) 15 (15, [some (.ref 17), some (.int v1), some (.int (kI 0)), some (.int (kI 0))], [], SH, w) Q)) (i2 : ¬ (kI 1) ≤ (w 17 4) → (Q (some (.int (kI (-2)))) SH w)) : EV X (d + 1) 15 (0, [some (.ref 17), some (.int v1), none, none], [], SH, w) Q := by
  refine EV.steps cl_15 3 (q2 := (5, [some (.ref 17), some (.int v1), none, none], [.int (kI 1), .int (w 17 4)], SH, w)) rfl ?_
  refine EV.i_ge cl_15 rfl (fun h1 => ?_) (fun h1 => ?_)
  · skip
    refine EV.steps cl_15 4 (q2 := (15, [some (.ref 17), some (.int v1), some (.int (kI 0)), some (.int (kI 0))], [], SH, w)) rfl ?_
    exact i1 h1
  · skip
    refine EV.steps cl_15 1 (q2 := (10, [some (.ref 17), some (.int v1), none, none], [.int (kI (-2))], SH, w)) rfl ?_
    refine EV.ret cl_15 rfl rfl rfl ?_
    exact i2 h1
theorem s_15_17_at15 {X : Scr} {d : Nat} {Q : Option Value → Sh → Wd → Prop} (w : Wd) (v1 : Int32) (v2 : Int32) (v3 : Int32) (i1 : (w 17 4) ≤ v3 → (¬ ((kI 2) * (w 17 4)) = 0)) (i2 : (w 17 4) ≤ v3 → (Q (some (.int ((((kI 24) * v2) + (w 17 4)) / ((kI 2) * (w 17 4))))) SH w)) (i3 : ¬ (w 17 4) ≤ v3 → (EV X (d + 2) 15 (15, [some (.ref 17), some (.int v1), some (.int (v2 + (F_12_17 v1 v3 w))), some (.int (v3 + (kI 1)))], [], SH, w) Q)) : EV X (d + 2) 15 (15, [some (.ref 17), some (.int v1), some (.int v2), some (.int v3)], [], SH, w) Q := by
  refine EV.steps cl_15 3 (q2 := (20, [some (.ref 17), some (.int v1), some (.int v2), some (.int v3)], [.int (w 17 4), .int v3], SH, w)) rfl ?_
  refine EV.i_ge cl_15 rfl (fun h1 => ?_) (fun h1 => ?_)
  · skip
    refine EV.steps cl_15 10 (q2 := (53, [some (.ref 17), some (.int v1), some (.int v2), some (.int v3)], [.int ((kI 2) * (w 17 4)), .int (((kI 24) * v2) + (w 17 4))], SH, w)) rfl ?_
    refine EV.idiv cl_15 rfl (i1 h1) ?_
    refine EV.ret cl_15 rfl rfl rfl ?_
    exact i2 h1
  · skip
    refine EV.steps cl_15 4 (q2 := (27, [some (.ref 17), some (.int v1), some (.int v2), some (.int v3)], [.int v3, .int v1, .ref 17, .int v2], SH, w)) rfl ?_
    refine EV.callF (kc := 12) (av := [.ref 17, .int v1, .int v3]) (r := [.int v2]) (rv := some (.int (F_12_17 v1 v3 w))) (w2 := w) cl_15 rfl rfl rfl (m_12_17 w v1 v3) ?_
    refine EV.steps cl_15 4 (q2 := (15, [some (.ref 17), some (.int v1), some (.int (v2 + (F_12_17 v1 v3 w))), some (.int (v3 + (kI 1)))], [], SH, w)) rfl ?_
    exact i3 h1
set_option maxRecDepth 20000 in
theorem cl_26 : RCT[26]? = some rc_26 := rfl
theorem s_26_87_at0 {X : Scr} {d : Nat} {Q : Option Value → Sh → Wd → Prop} (w : Wd) (v1 : Int32) (i1 : (EV X (d + 1) 26 (4, [some (.ref 87), some (.int v1), some (.int (kI 0)), some (.int (kI 0))], [], SH, w) Q)) : EV X (d + 1) 26 (0, [some (.ref 87), some (.int v1), none, none], [], SH, w) Q := by
  refine EV.steps cl_26 4 (q2 := (4, [some (.ref 87), some (.int v1), some (.int (kI 0)), some (.int (kI 0))], [], SH, w)) rfl ?_
  exact i1
theorem s_26_87_at4 {X : Scr} {d : Nat} {Q : Option Value → Sh → Wd → Prop} (w : Wd) (v1 : Int32) (v2 : Int32) (v3 : Int32) (i1 : (kI 6) ≤ v3 → (Q (some (.int v2)) SH w)) (i2 : ¬ (kI 6) ≤ v3 → (F_154 v1 v3 w) = 0 → (EV X (d + 1) 26 (4, [some (.ref 87), some (.int v1), some (.int v2), some (.int (v3 + (kI 1)))], [], SH, w) Q)) (i3 : ¬ (kI 6) ≤ v3 → ¬ (F_154 v1 v3 w) = 0 → (inB v3 6 = true)) (i4 : ¬ (kI 6) ≤ v3 → ¬ (F_154 v1 v3 w) = 0 → ¬ (w 88 v3.toNatClampNeg) = (kI (-2)) → (inB v3 6 = true)) (i5 : ¬ (kI 6) ≤ v3 → ¬ (F_154 v1 v3 w) = 0 → ¬ (w 88 v3.toNatClampNeg) = (kI (-2)) → (EV X (d + 1) 26 (4, [some (.ref 87), some (.int v1), some (.int (v2 + (w 88 v3.toNatClampNeg))), some (.int (v3 + (kI 1)))], [], SH, w) Q)) (i6 : ¬ (kI 6) ≤ v3 → ¬ (F_154 v1 v3 w) = 0 → (w 88 v3.toNatClampNeg) = (kI (-2)) → (Q (some (.int (kI (-2)))) SH w)) : EV X (d + 1) 26 (4, [some (.ref 87), some (.int v1), some (.int v2), some (.int v3)], [], SH, w) Q := by
  refine EV.steps cl_26 2 (q2 := (7, [some (.ref 87), some (.int v1), some (.int v2), some (.int v3)], [.int (kI 6), .int v3], SH, w)) rfl ?_
  refine EV.i_ge cl_26 rfl (fun h1 => ?_) (fun h1 => ?_)
  · skip
    refine EV.steps cl_26 1 (q2 := (48, [some (.ref 87), some (.int v1), some (.int v2), some (.int v3)], [.int v2], SH, w)) rfl ?_
    refine EV.ret cl_26 rfl rfl rfl ?_
    exact i1 h1
  · skip
    refine EV.steps cl_26 2 (q2 := (12, [some (.ref 87), some (.int v1), some (.int v2), some (.int v3)], [.int v3, .int v1], SH, w)) rfl ?_
    refine EV.callF (kc := 154) (av := [.int v1, .int v3]) (r := []) (rv := some (.int (F_154 v1 v3 w))) (w2 := w) cl_26 rfl rfl rfl (m_154 w v1 v3) ?_
    refine EV.z_eq cl_26 rfl (fun h2 => ?_) (fun h2 => ?_)
    · skip
      refine EV.steps cl_26 2 (q2 := (4, [some (.ref 87), some (.int v1), some (.int v2), some (.int (v3 + (kI 1)))], [], SH, w)) rfl ?_
      exact i2 h1 h2
    · skip
      refine EV.steps cl_26 3 (q2 := (23, [some (.ref 87), some (.int v1), some (.int v2), some (.int v3)], [.int v3, .ref 88], SH, w)) rfl ?_
      refine EV.iaload cl_26 rfl rfl (by decide) (i3 h1 h2) ?_
      refine EV.steps cl_26 1 (q2 := (26, [some (.ref 87), some (.int v1), some (.int v2), some (.int v3)], [.int (kI (-2)), .int (w 88 v3.toNatClampNeg)], SH, w)) rfl ?_
      refine EV.i_ne cl_26 rfl (fun h3 => ?_) (fun h3 => ?_)
      · skip
        refine EV.steps cl_26 4 (q2 := (38, [some (.ref 87), some (.int v1), some (.int v2), some (.int v3)], [.int v3, .ref 88, .int v2], SH, w)) rfl ?_
        refine EV.iaload cl_26 rfl rfl (by decide) (i4 h1 h2 h3) ?_
        refine EV.steps cl_26 4 (q2 := (4, [some (.ref 87), some (.int v1), some (.int (v2 + (w 88 v3.toNatClampNeg))), some (.int (v3 + (kI 1)))], [], SH, w)) rfl ?_
        exact i5 h1 h2 h3
      · skip
        refine EV.steps cl_26 1 (q2 := (31, [some (.ref 87), some (.int v1), some (.int v2), some (.int v3)], [.int (kI (-2))], SH, w)) rfl ?_
        refine EV.ret cl_26 rfl rfl rfl ?_
        exact i6 h1 h2 h3
set_option maxRecDepth 20000 in
theorem cl_35 : RCT[35]? = some rc_35 := rfl
theorem s_35_95_at0 {X : Scr} {d : Nat} {Q : Option Value → Sh → Wd → Prop} (w : Wd) (v1 : Int32) (i1 : (EV X (d + 1) 35 (7, [some (.ref 95), some (.int v1), some (.int (kI 0)), some (.int (kI 0)), some (.int (kI 0))], [], SH, w) Q)) : EV X (d + 1) 35 (0, [some (.ref 95), some (.int v1), none, none, none], [], SH, w) Q := by
  refine EV.steps cl_35 6 (q2 := (7, [some (.ref 95), some (.int v1), some (.int (kI 0)), some (.int (kI 0)), some (.int (kI 0))], [], SH, w)) rfl ?_
  exact i1
theorem s_35_95_at7 {X : Scr} {d : Nat} {Q : Option Value → Sh → Wd → Prop} (w : Wd) (v1 : Int32) (v2 : Int32) (v3 : Int32) (v4 : Int32) (i1 : (w 95 7) ≤ v4 → (if 0 ≤ v3 then v3 else 0 - v3) < v1 → (Q (some (.int v2)) SH w)) (i2 : (w 95 7) ≤ v4 → ¬ (if 0 ≤ v3 then v3 else 0 - v3) < v1 → (Q (some (.int (kI (-1)))) SH w)) (i3 : ¬ (w 95 7) ≤ v4 → (kI 6) ≤ v4 → (if 0 ≤ v3 then v3 else 0 - v3) < v1 → (Q (some (.int v2)) SH w)) (i4 : ¬ (w 95 7) ≤ v4 → (kI 6) ≤ v4 → ¬ (if 0 ≤ v3 then v3 else 0 - v3) < v1 → (Q (some (.int (kI (-1)))) SH w)) (i5 : ¬ (w 95 7) ≤ v4 → ¬ (kI 6) ≤ v4 → (inB v4 6 = true)) (i6 : ¬ (w 95 7) ≤ v4 → ¬ (kI 6) ≤ v4 → (if 0 ≤ (w 97 v4.toNatClampNeg) then (w 97 v4.toNatClampNeg) else 0 - (w 97 v4.toNatClampNeg)) < v1 → (inB v4 6 = true)) (i7 : ¬ (w 95 7) ≤ v4 → ¬ (kI 6) ≤ v4 → (if 0 ≤ (w 97 v4.toNatClampNeg) then (w 97 v4.toNatClampNeg) else 0 - (w 97 v4.toNatClampNeg)) < v1 → (EV X (d + 1) 35 (7, [some (.ref 95), some (.int v1), some (.int (v2 + (if 0 ≤ (w 97 v4.toNatClampNeg) then (w 97 v4.toNatClampNeg) else 0 - (w 97 v4.toNatClampNeg)))), some (.int (v3 + (w 97 v4.toNatClampNeg))), some (.int (v4 + (kI 1)))], [], SH, w) Q)) (i8 : ¬ (w 95 7) ≤ v4 → ¬ (kI 6) ≤ v4 → ¬ (if 0 ≤ (w 97 v4.toNatClampNeg) then (w 97 v4.toNatClampNeg) else 0 - (w 97 v4.toNatClampNeg)) < v1 → (Q (some (.int (kI (-1)))) SH w)) : EV X (d + 1) 35 (7, [some (.ref 95), some (.int v1), some (.int v2), some (.int v3), some (.int v4)], [], SH, w) Q := by
  refine EV.steps cl_35 3 (q2 := (13, [some (.ref 95), some (.int v1), some (.int v2), some (.int v3), some (.int v4)], [.int (w 95 7), .int v4], SH, w)) rfl ?_
  refine EV.i_ge cl_35 rfl (fun h1 => ?_) (fun h1 => ?_)
  · skip
    refine EV.steps cl_35 3 (q2 := (73, [some (.ref 95), some (.int v1), some (.int v2), some (.int v3), some (.int v4)], [.int v1, .int (if 0 ≤ v3 then v3 else 0 - v3)], SH, w)) rfl ?_
    refine EV.i_lt cl_35 rfl (fun h2 => ?_) (fun h2 => ?_)
    · skip
      refine EV.steps cl_35 1 (q2 := (81, [some (.ref 95), some (.int v1), some (.int v2), some (.int v3), some (.int v4)], [.int v2], SH, w)) rfl ?_
      refine EV.ret cl_35 rfl rfl rfl ?_
      exact i1 h1 h2
    · skip
      refine EV.steps cl_35 2 (q2 := (81, [some (.ref 95), some (.int v1), some (.int v2), some (.int v3), some (.int v4)], [.int (kI (-1))], SH, w)) rfl ?_
      refine EV.ret cl_35 rfl rfl rfl ?_
      exact i2 h1 h2
  · skip
    refine EV.steps cl_35 2 (q2 := (20, [some (.ref 95), some (.int v1), some (.int v2), some (.int v3), some (.int v4)], [.int (kI 6), .int v4], SH, w)) rfl ?_
    refine EV.i_ge cl_35 rfl (fun h3 => ?_) (fun h3 => ?_)
    · skip
      refine EV.steps cl_35 3 (q2 := (73, [some (.ref 95), some (.int v1), some (.int v2), some (.int v3), some (.int v4)], [.int v1, .int (if 0 ≤ v3 then v3 else 0 - v3)], SH, w)) rfl ?_
      refine EV.i_lt cl_35 rfl (fun h4 => ?_) (fun h4 => ?_)
      · skip
        refine EV.steps cl_35 1 (q2 := (81, [some (.ref 95), some (.int v1), some (.int v2), some (.int v3), some (.int v4)], [.int v2], SH, w)) rfl ?_
        refine EV.ret cl_35 rfl rfl rfl ?_
        exact i3 h1 h3 h4
      · skip
        refine EV.steps cl_35 2 (q2 := (81, [some (.ref 95), some (.int v1), some (.int v2), some (.int v3), some (.int v4)], [.int (kI (-1))], SH, w)) rfl ?_
        refine EV.ret cl_35 rfl rfl rfl ?_
        exact i4 h1 h3 h4
    · skip
      refine EV.steps cl_35 3 (q2 := (29, [some (.ref 95), some (.int v1), some (.int v2), some (.int v3), some (.int v4)], [.int v4, .ref 97], SH, w)) rfl ?_
      refine EV.iaload cl_35 rfl rfl (by decide) (i5 h1 h3) ?_
      refine EV.steps cl_35 2 (q2 := (34, [some (.ref 95), some (.int v1), some (.int v2), some (.int v3), some (.int v4)], [.int v1, .int (if 0 ≤ (w 97 v4.toNatClampNeg) then (w 97 v4.toNatClampNeg) else 0 - (w 97 v4.toNatClampNeg))], SH, w)) rfl ?_
      refine EV.i_lt cl_35 rfl (fun h5 => ?_) (fun h5 => ?_)
      · skip
        refine EV.steps cl_35 4 (q2 := (46, [some (.ref 95), some (.int v1), some (.int v2), some (.int v3), some (.int v4)], [.int v4, .ref 97, .int v2], SH, w)) rfl ?_
        refine EV.iaload cl_35 rfl rfl (by decide) (i6 h1 h3 h5) ?_
        refine EV.steps cl_35 7 (q2 := (59, [some (.ref 95), some (.int v1), some (.int (v2 + (if 0 ≤ (w 97 v4.toNatClampNeg) then (w 97 v4.toNatClampNeg) else 0 - (w 97 v4.toNatClampNeg)))), some (.int v3), some (.int v4)], [.int v4, .ref 97, .int v3], SH, w)) rfl ?_
        refine EV.iaload cl_35 rfl rfl (by decide) (i6 h1 h3 h5) ?_
        refine EV.steps cl_35 4 (q2 := (7, [some (.ref 95), some (.int v1), some (.int (v2 + (if 0 ≤ (w 97 v4.toNatClampNeg) then (w 97 v4.toNatClampNeg) else 0 - (w 97 v4.toNatClampNeg)))), some (.int (v3 + (w 97 v4.toNatClampNeg))), some (.int (v4 + (kI 1)))], [], SH, w)) rfl ?_
        exact i7 h1 h3 h5
      · skip
        refine EV.steps cl_35 1 (q2 := (38, [some (.ref 95), some (.int v1), some (.int v2), some (.int v3), some (.int v4)], [.int (kI (-1))], SH, w)) rfl ?_
        refine EV.ret cl_35 rfl rfl rfl ?_
        exact i8 h1 h3 h5
set_option maxRecDepth 20000 in
theorem cl_38 : RCT[38]? = some rc_38 := rfl
theorem s_38_95_at0 {X : Scr} {d : Nat} {Q : Option Value → Sh → Wd → Prop} (w : Wd)  (i1 : (EV X (d + 1) 38 (2, [some (.ref 95), some (.int (kI 0)), none, none], [], SH, w) Q)) : EV X (d + 1) 38 (0, [some (.ref 95), none, none, none], [], SH, w) Q := by
  refine EV.steps cl_38 2 (q2 := (2, [some (.ref 95), some (.int (kI 0)), none, none], [], SH, w)) rfl ?_
  exact i1
theorem s_38_95_at2 {X : Scr} {d : Nat} {Q : Option Value → Sh → Wd → Prop} (w : Wd) (v1 : Int32) (i1 : (kI 12) ≤ v1 → (Q (none) SH w)) (i2 : ¬ (kI 12) ≤ v1 → (EV X (d + 1) 38 (12, [some (.ref 95), some (.int v1), some (.int v1), some (.int (kI 0))], [], SH, w) Q)) : EV X (d + 1) 38 (2, [some (.ref 95), some (.int v1), none, none], [], SH, w) Q := by
  refine EV.steps cl_38 2 (q2 := (5, [some (.ref 95), some (.int v1), none, none], [.int (kI 12), .int v1], SH, w)) rfl ?_
  refine EV.i_ge cl_38 rfl (fun h1 => ?_) (fun h1 => ?_)
  · skip
    refine EV.ret cl_38 rfl rfl rfl ?_
    exact i1 h1
  · skip
    refine EV.steps cl_38 4 (q2 := (12, [some (.ref 95), some (.int v1), some (.int v1), some (.int (kI 0))], [], SH, w)) rfl ?_
    exact i2 h1
theorem s_38_95_at12 {X : Scr} {d : Nat} {Q : Option Value → Sh → Wd → Prop} (w : Wd) (v1 : Int32) (v2 : Int32) (v3 : Int32) (i1 : (kI 12) ≤ v3 → (inB v1 12 = true)) (i2 : (kI 12) ≤ v3 → (inB v2 12 = true)) (i3 : (kI 12) ≤ v3 → (EV X (d + 1) 38 (2, [some (.ref 95), some (.int (v1 + (kI 1))), some (.int v2), some (.int v3)], [], SH, (up2 w 99 v2.toNatClampNeg (w 98 v1.toNatClampNeg))) Q)) (i4 : ¬ (kI 12) ≤ v3 → v2 ≤ 0 → (inB v1 12 = true)) (i5 : ¬ (kI 12) ≤ v3 → v2 ≤ 0 → (inB v2 12 = true)) (i6 : ¬ (kI 12) ≤ v3 → v2 ≤ 0 → (EV X (d + 1) 38 (2, [some (.ref 95), some (.int (v1 + (kI 1))), some (.int v2), some (.int v3)], [], SH, (up2 w 99 v2.toNatClampNeg (w 98 v1.toNatClampNeg))) Q)) (i7 : ¬ (kI 12) ≤ v3 → ¬ v2 ≤ 0 → (inB (v2 - (kI 1)) 12 = true)) (i8 : ¬ (kI 12) ≤ v3 → ¬ v2 ≤ 0 → (inB v1 12 = true)) (i9 : ¬ (kI 12) ≤ v3 → ¬ v2 ≤ 0 → (w 99 (v2 - (kI 1)).toNatClampNeg) ≤ (w 98 v1.toNatClampNeg) → (inB v1 12 = true)) (i10 : ¬ (kI 12) ≤ v3 → ¬ v2 ≤ 0 → (w 99 (v2 - (kI 1)).toNatClampNeg) ≤ (w 98 v1.toNatClampNeg) → (inB v2 12 = true)) (i11 : ¬ (kI 12) ≤ v3 → ¬ v2 ≤ 0 → (w 99 (v2 - (kI 1)).toNatClampNeg) ≤ (w 98 v1.toNatClampNeg) → (EV X (d + 1) 38 (2, [some (.ref 95), some (.int (v1 + (kI 1))), some (.int v2), some (.int v3)], [], SH, (up2 w 99 v2.toNatClampNeg (w 98 v1.toNatClampNeg))) Q)) (i12 : ¬ (kI 12) ≤ v3 → ¬ v2 ≤ 0 → ¬ (w 99 (v2 - (kI 1)).toNatClampNeg) ≤ (w 98 v1.toNatClampNeg) → (inB (v2 - (kI 1)) 12 = true)) (i13 : ¬ (kI 12) ≤ v3 → ¬ v2 ≤ 0 → ¬ (w 99 (v2 - (kI 1)).toNatClampNeg) ≤ (w 98 v1.toNatClampNeg) → (inB v2 12 = true)) (i14 : ¬ (kI 12) ≤ v3 → ¬ v2 ≤ 0 → ¬ (w 99 (v2 - (kI 1)).toNatClampNeg) ≤ (w 98 v1.toNatClampNeg) → (EV X (d + 1) 38 (12, [some (.ref 95), some (.int v1), some (.int (v2 + (kI (-1)))), some (.int (v3 + (kI 1)))], [], SH, (up2 w 99 v2.toNatClampNeg (w 99 (v2 - (kI 1)).toNatClampNeg))) Q)) : EV X (d + 1) 38 (12, [some (.ref 95), some (.int v1), some (.int v2), some (.int v3)], [], SH, w) Q := by
  refine EV.steps cl_38 2 (q2 := (15, [some (.ref 95), some (.int v1), some (.int v2), some (.int v3)], [.int (kI 12), .int v3], SH, w)) rfl ?_
  refine EV.i_ge cl_38 rfl (fun h1 => ?_) (fun h1 => ?_)
  · skip
    refine EV.steps cl_38 6 (q2 := (72, [some (.ref 95), some (.int v1), some (.int v2), some (.int v3)], [.int v1, .ref 98, .int v2, .ref 99], SH, w)) rfl ?_
    refine EV.iaload cl_38 rfl rfl (by decide) (i1 h1) ?_
    refine EV.iastore cl_38 rfl rfl (by decide) (i2 h1) ?_
    refine EV.steps cl_38 2 (q2 := (2, [some (.ref 95), some (.int (v1 + (kI 1))), some (.int v2), some (.int v3)], [], SH, (up2 w 99 v2.toNatClampNeg (w 98 v1.toNatClampNeg)))) rfl ?_
    exact i3 h1
  · skip
    refine EV.steps cl_38 1 (q2 := (19, [some (.ref 95), some (.int v1), some (.int v2), some (.int v3)], [.int v2], SH, w)) rfl ?_
    refine EV.z_le cl_38 rfl (fun h2 => ?_) (fun h2 => ?_)
    · skip
      refine EV.steps cl_38 6 (q2 := (72, [some (.ref 95), some (.int v1), some (.int v2), some (.int v3)], [.int v1, .ref 98, .int v2, .ref 99], SH, w)) rfl ?_
      refine EV.iaload cl_38 rfl rfl (by decide) (i4 h1 h2) ?_
      refine EV.iastore cl_38 rfl rfl (by decide) (i5 h1 h2) ?_
      refine EV.steps cl_38 2 (q2 := (2, [some (.ref 95), some (.int (v1 + (kI 1))), some (.int v2), some (.int v3)], [], SH, (up2 w 99 v2.toNatClampNeg (w 98 v1.toNatClampNeg)))) rfl ?_
      exact i6 h1 h2
    · skip
      refine EV.steps cl_38 5 (q2 := (29, [some (.ref 95), some (.int v1), some (.int v2), some (.int v3)], [.int (v2 - (kI 1)), .ref 99], SH, w)) rfl ?_
      refine EV.iaload cl_38 rfl rfl (by decide) (i7 h1 h2) ?_
      refine EV.steps cl_38 3 (q2 := (35, [some (.ref 95), some (.int v1), some (.int v2), some (.int v3)], [.int v1, .ref 98, .int (w 99 (v2 - (kI 1)).toNatClampNeg)], SH, w)) rfl ?_
      refine EV.iaload cl_38 rfl rfl (by decide) (i8 h1 h2) ?_
      refine EV.i_le cl_38 rfl (fun h3 => ?_) (fun h3 => ?_)
      · skip
        refine EV.steps cl_38 6 (q2 := (72, [some (.ref 95), some (.int v1), some (.int v2), some (.int v3)], [.int v1, .ref 98, .int v2, .ref 99], SH, w)) rfl ?_
        refine EV.iaload cl_38 rfl rfl (by decide) (i9 h1 h2 h3) ?_
        refine EV.iastore cl_38 rfl rfl (by decide) (i10 h1 h2 h3) ?_
        refine EV.steps cl_38 2 (q2 := (2, [some (.ref 95), some (.int (v1 + (kI 1))), some (.int v2), some (.int v3)], [], SH, (up2 w 99 v2.toNatClampNeg (w 98 v1.toNatClampNeg)))) rfl ?_
        exact i11 h1 h2 h3
      · skip
        refine EV.steps cl_38 8 (q2 := (51, [some (.ref 95), some (.int v1), some (.int v2), some (.int v3)], [.int (v2 - (kI 1)), .ref 99, .int v2, .ref 99], SH, w)) rfl ?_
        refine EV.iaload cl_38 rfl rfl (by decide) (i12 h1 h2 h3) ?_
        refine EV.iastore cl_38 rfl rfl (by decide) (i13 h1 h2 h3) ?_
        refine EV.steps cl_38 3 (q2 := (12, [some (.ref 95), some (.int v1), some (.int (v2 + (kI (-1)))), some (.int (v3 + (kI 1)))], [], SH, (up2 w 99 v2.toNatClampNeg (w 99 (v2 - (kI 1)).toNatClampNeg)))) rfl ?_
        exact i14 h1 h2 h3
set_option maxRecDepth 20000 in
theorem cl_39 : RCT[39]? = some rc_39 := rfl
theorem s_39_95_at0 {X : Scr} {d : Nat} {Q : Option Value → Sh → Wd → Prop} (w : Wd)  (i1 : (EV X (d + 1) 39 (2, [some (.ref 95), some (.int (kI 0)), none, none], [], SH, w) Q)) : EV X (d + 1) 39 (0, [some (.ref 95), none, none, none], [], SH, w) Q := by
  refine EV.steps cl_39 2 (q2 := (2, [some (.ref 95), some (.int (kI 0)), none, none], [], SH, w)) rfl ?_
  exact i1
theorem s_39_95_at2 {X : Scr} {d : Nat} {Q : Option Value → Sh → Wd → Prop} (w : Wd) (v1 : Int32) (i1 : (kI 12) ≤ v1 → (EV X (d + 1) 39 (28, [some (.ref 95), some (.int (kI 11)), none, none], [], SH, w) Q)) (i2 : ¬ (kI 12) ≤ v1 → (inB ((kI 144) + v1) 156 = true)) (i3 : ¬ (kI 12) ≤ v1 → (EV X (d + 1) 39 (2, [some (.ref 95), some (.int (v1 + (kI 1))), none, none], [], SH, (up2 w 100 ((kI 144) + v1).toNatClampNeg (kI 0))) Q)) : EV X (d + 1) 39 (2, [some (.ref 95), some (.int v1), none, none], [], SH, w) Q := by
  refine EV.steps cl_39 2 (q2 := (5, [some (.ref 95), some (.int v1), none, none], [.int (kI 12), .int v1], SH, w)) rfl ?_
  refine EV.i_ge cl_39 rfl (fun h1 => ?_) (fun h1 => ?_)
  · skip
    refine EV.steps cl_39 2 (q2 := (28, [some (.ref 95), some (.int (kI 11)), none, none], [], SH, w)) rfl ?_
    exact i1 h1
  · skip
    refine EV.steps cl_39 6 (q2 := (18, [some (.ref 95), some (.int v1), none, none], [.int (kI 0), .int ((kI 144) + v1), .ref 100], SH, w)) rfl ?_
    refine EV.iastore cl_39 rfl rfl (by decide) (i2 h1) ?_
    refine EV.steps cl_39 2 (q2 := (2, [some (.ref 95), some (.int (v1 + (kI 1))), none, none], [], SH, (up2 w 100 ((kI 144) + v1).toNatClampNeg (kI 0)))) rfl ?_
    exact i3 h1
theorem s_39_95_at28 {X : Scr} {d : Nat} {Q : Option Value → Sh → Wd → Prop} (w : Wd) (v1 : Int32) (i1 : v1 < 0 → (Q (none) SH w)) (i2 : ¬ v1 < 0 → (EV X (d + 3) 39 (43, [some (.ref 95), some (.int v1), some (.int (F_40_95 v1 (kI 11) w)), some (.int (kI 11))], [], SH, w) Q)) : EV X (d + 3) 39 (28, [some (.ref 95), some (.int v1), none, none], [], SH, w) Q := by
  refine EV.steps cl_39 1 (q2 := (29, [some (.ref 95), some (.int v1), none, none], [.int v1], SH, w)) rfl ?_
  refine EV.z_lt cl_39 rfl (fun h1 => ?_) (fun h1 => ?_)
  · skip
    refine EV.ret cl_39 rfl rfl rfl ?_
    exact i1 h1
  · skip
    refine EV.steps cl_39 3 (q2 := (36, [some (.ref 95), some (.int v1), none, none], [.int (kI 11), .int v1, .ref 95], SH, w)) rfl ?_
    refine EV.callF (kc := 40) (av := [.ref 95, .int v1, .int (kI 11)]) (r := []) (rv := some (.int (F_40_95 v1 (kI 11) w))) (w2 := w) cl_39 rfl rfl rfl (m_40_95 w v1 (kI 11)) ?_
    refine EV.steps cl_39 3 (q2 := (43, [some (.ref 95), some (.int v1), some (.int (F_40_95 v1 (kI 11) w)), some (.int (kI 11))], [], SH, w)) rfl ?_
    exact i2 h1
theorem s_39_95_at43 {X : Scr} {d : Nat} {Q : Option Value → Sh → Wd → Prop} (w : Wd) (v1 : Int32) (v2 : Int32) (v3 : Int32) (i1 : v3 < 0 → (EV X (d + 3) 39 (28, [some (.ref 95), some (.int (v1 + (kI (-1)))), some (.int v2), some (.int v3)], [], SH, w) Q)) (i2 : ¬ v3 < 0 → (inB ((v1 * (kI 12)) + v3) 156 = true)) (i3 : ¬ v3 < 0 → (EV X (d + 3) 39 (43, [some (.ref 95), some (.int v1), some (.int (if (F_40_95 v1 v3 w) < v2 then (F_40_95 v1 v3 w) else v2)), some (.int (v3 + (kI (-1))))], [], SH, (up2 w 100 ((v1 * (kI 12)) + v3).toNatClampNeg (if (F_40_95 v1 v3 w) < v2 then (F_40_95 v1 v3 w) else v2))) Q)) : EV X (d + 3) 39 (43, [some (.ref 95), some (.int v1), some (.int v2), some (.int v3)], [], SH, w) Q := by
  refine EV.steps cl_39 1 (q2 := (44, [some (.ref 95), some (.int v1), some (.int v2), some (.int v3)], [.int v3], SH, w)) rfl ?_
  refine EV.z_lt cl_39 rfl (fun h1 => ?_) (fun h1 => ?_)
  · skip
    refine EV.steps cl_39 2 (q2 := (28, [some (.ref 95), some (.int (v1 + (kI (-1)))), some (.int v2), some (.int v3)], [], SH, w)) rfl ?_
    exact i1 h1
  · skip
    refine EV.steps cl_39 4 (q2 := (51, [some (.ref 95), some (.int v1), some (.int v2), some (.int v3)], [.int v3, .int v1, .ref 95, .int v2], SH, w)) rfl ?_
    refine EV.callF (kc := 40) (av := [.ref 95, .int v1, .int v3]) (r := [.int v2]) (rv := some (.int (F_40_95 v1 v3 w))) (w2 := w) cl_39 rfl rfl rfl (m_40_95 w v1 v3) ?_
    refine EV.steps cl_39 10 (q2 := (69, [some (.ref 95), some (.int v1), some (.int (if (F_40_95 v1 v3 w) < v2 then (F_40_95 v1 v3 w) else v2)), some (.int v3)], [.int (if (F_40_95 v1 v3 w) < v2 then (F_40_95 v1 v3 w) else v2), .int ((v1 * (kI 12)) + v3), .ref 100], SH, w)) rfl ?_
    refine EV.iastore cl_39 rfl rfl (by decide) (i2 h1) ?_
    refine EV.steps cl_39 2 (q2 := (43, [some (.ref 95), some (.int v1), some (.int (if (F_40_95 v1 v3 w) < v2 then (F_40_95 v1 v3 w) else v2)), some (.int (v3 + (kI (-1))))], [], SH, (up2 w 100 ((v1 * (kI 12)) + v3).toNatClampNeg (if (F_40_95 v1 v3 w) < v2 then (F_40_95 v1 v3 w) else v2)))) rfl ?_
    exact i3 h1
set_option maxRecDepth 20000 in
theorem cl_57 : RCT[57]? = some rc_57 := rfl
theorem s_57_3_at0 {X : Scr} {d : Nat} {Q : Option Value → Sh → Wd → Prop} (w : Wd)  (i1 : (EV X (d + 1) 57 (4, [some (.ref 3), some (.int (kI 0)), some (.int (kI 0))], [], SH, w) Q)) : EV X (d + 1) 57 (0, [some (.ref 3), none, none], [], SH, w) Q := by
  refine EV.steps cl_57 4 (q2 := (4, [some (.ref 3), some (.int (kI 0)), some (.int (kI 0))], [], SH, w)) rfl ?_
  exact i1
theorem s_57_3_at4 {X : Scr} {d : Nat} {Q : Option Value → Sh → Wd → Prop} (w : Wd) (v1 : Int32) (v2 : Int32) (i1 : (kI 6) ≤ v2 → (Q (some (.int v1)) SH w)) (i2 : ¬ (kI 6) ≤ v2 → (inB v2 6 = true)) (i3 : ¬ (kI 6) ≤ v2 → (EV X (d + 1) 57 (4, [some (.ref 3), some (.int (v1 + (w 4 v2.toNatClampNeg))), some (.int (v2 + (kI 1)))], [], SH, w) Q)) : EV X (d + 1) 57 (4, [some (.ref 3), some (.int v1), some (.int v2)], [], SH, w) Q := by
  refine EV.steps cl_57 2 (q2 := (7, [some (.ref 3), some (.int v1), some (.int v2)], [.int (kI 6), .int v2], SH, w)) rfl ?_
  refine EV.i_ge cl_57 rfl (fun h1 => ?_) (fun h1 => ?_)
  · skip
    refine EV.steps cl_57 1 (q2 := (26, [some (.ref 3), some (.int v1), some (.int v2)], [.int v1], SH, w)) rfl ?_
    refine EV.ret cl_57 rfl rfl rfl ?_
    exact i1 h1
  · skip
    refine EV.steps cl_57 4 (q2 := (16, [some (.ref 3), some (.int v1), some (.int v2)], [.int v2, .ref 4, .int v1], SH, w)) rfl ?_
    refine EV.iaload cl_57 rfl rfl (by decide) (i2 h1) ?_
    refine EV.steps cl_57 4 (q2 := (4, [some (.ref 3), some (.int (v1 + (w 4 v2.toNatClampNeg))), some (.int (v2 + (kI 1)))], [], SH, w)) rfl ?_
    exact i3 h1
set_option maxRecDepth 20000 in
theorem cl_58 : RCT[58]? = some rc_58 := rfl
theorem s_58_3_at0 {X : Scr} {d : Nat} {Q : Option Value → Sh → Wd → Prop} (w : Wd) (v1 : Int32) (i1 : (EV X (d + 1) 58 (4, [some (.ref 3), some (.int v1), some (.int (kI 0)), some (.int (kI 0))], [], SH, w) Q)) : EV X (d + 1) 58 (0, [some (.ref 3), some (.int v1), none, none], [], SH, w) Q := by
  refine EV.steps cl_58 4 (q2 := (4, [some (.ref 3), some (.int v1), some (.int (kI 0)), some (.int (kI 0))], [], SH, w)) rfl ?_
  exact i1
theorem s_58_3_at4 {X : Scr} {d : Nat} {Q : Option Value → Sh → Wd → Prop} (w : Wd) (v1 : Int32) (v2 : Int32) (v3 : Int32) (i1 : (kI 6) ≤ v3 → (Q (some (.int v2)) SH w)) (i2 : ¬ (kI 6) ≤ v3 → (F_154 v1 v3 w) = 0 → (EV X (d + 1) 58 (4, [some (.ref 3), some (.int v1), some (.int v2), some (.int (v3 + (kI 1)))], [], SH, w) Q)) (i3 : ¬ (kI 6) ≤ v3 → ¬ (F_154 v1 v3 w) = 0 → (inB v3 6 = true)) (i4 : ¬ (kI 6) ≤ v3 → ¬ (F_154 v1 v3 w) = 0 → (EV X (d + 1) 58 (4, [some (.ref 3), some (.int v1), some (.int (v2 ||| (w 6 v3.toNatClampNeg))), some (.int (v3 + (kI 1)))], [], SH, w) Q)) : EV X (d + 1) 58 (4, [some (.ref 3), some (.int v1), some (.int v2), some (.int v3)], [], SH, w) Q := by
  refine EV.steps cl_58 2 (q2 := (7, [some (.ref 3), some (.int v1), some (.int v2), some (.int v3)], [.int (kI 6), .int v3], SH, w)) rfl ?_
  refine EV.i_ge cl_58 rfl (fun h1 => ?_) (fun h1 => ?_)
  · skip
    refine EV.steps cl_58 1 (q2 := (34, [some (.ref 3), some (.int v1), some (.int v2), some (.int v3)], [.int v2], SH, w)) rfl ?_
    refine EV.ret cl_58 rfl rfl rfl ?_
    exact i1 h1
  · skip
    refine EV.steps cl_58 2 (q2 := (12, [some (.ref 3), some (.int v1), some (.int v2), some (.int v3)], [.int v3, .int v1], SH, w)) rfl ?_
    refine EV.callF (kc := 154) (av := [.int v1, .int v3]) (r := []) (rv := some (.int (F_154 v1 v3 w))) (w2 := w) cl_58 rfl rfl rfl (m_154 w v1 v3) ?_
    refine EV.z_eq cl_58 rfl (fun h2 => ?_) (fun h2 => ?_)
    · skip
      refine EV.steps cl_58 2 (q2 := (4, [some (.ref 3), some (.int v1), some (.int v2), some (.int (v3 + (kI 1)))], [], SH, w)) rfl ?_
      exact i2 h1 h2
    · skip
      refine EV.steps cl_58 4 (q2 := (24, [some (.ref 3), some (.int v1), some (.int v2), some (.int v3)], [.int v3, .ref 6, .int v2], SH, w)) rfl ?_
      refine EV.iaload cl_58 rfl rfl (by decide) (i3 h1 h2) ?_
      refine EV.steps cl_58 4 (q2 := (4, [some (.ref 3), some (.int v1), some (.int (v2 ||| (w 6 v3.toNatClampNeg))), some (.int (v3 + (kI 1)))], [], SH, w)) rfl ?_
      exact i4 h1 h2
set_option maxRecDepth 20000 in
theorem cl_92 : RCT[92]? = some rc_92 := rfl
theorem s_92_89_at0 {X : Scr} {d : Nat} {Q : Option Value → Sh → Wd → Prop} (w : Wd) (v1 : Int32) (v2 : Int32) (i1 : (EV X (d + 1) 92 (5, [some (.ref 89), some (.int v1), some (.int v2), some (.int v1), some (.int (kI 0)), none, none], [], SH, w) Q)) : EV X (d + 1) 92 (0, [some (.ref 89), some (.int v1), some (.int v2), none, none, none, none], [], SH, w) Q := by
  refine EV.steps cl_92 4 (q2 := (5, [some (.ref 89), some (.int v1), some (.int v2), some (.int v1), some (.int (kI 0)), none, none], [], SH, w)) rfl ?_
  exact i1
theorem s_92_89_at5 {X : Scr} {d : Nat} {Q : Option Value → Sh → Wd → Prop} (w : Wd) (v1 : Int32) (v2 : Int32) (v3 : Int32) (v4 : Int32) (i1 : (kI 6) ≤ v4 → (EV X (d + 2) 92 (70, [some (.ref 89), some (.int v1), some (.int v2), some (.int v3), some (.int (kI 0)), none, none], [], SH, w) Q)) (i2 : ¬ (kI 6) ≤ v4 → v2 ≤ 0 → (EV X (d + 2) 92 (70, [some (.ref 89), some (.int v1), some (.int v2), some (.int v3), some (.int (kI 0)), none, none], [], SH, w) Q)) (i3 : ¬ (kI 6) ≤ v4 → ¬ v2 ≤ 0 → (¬ v2 = 0)) (i4 : ¬ (kI 6) ≤ v4 → ¬ v2 ≤ 0 → (inB v4 6 = true)) (i5 : ¬ (kI 6) ≤ v4 → ¬ v2 ≤ 0 → (EV X (d + 2) 92 (5, [some (.ref 89), some (.int v1), some (.int v2), some (.int (v3 - ((up2 w 90 v4.toNatClampNeg (((F_53_3 v4 w) * v1) / v2)) 90 v4.toNatClampNeg))), some (.int (v4 + (kI 1))), some (.int ((F_53_3 v4 w) * v1)), none], [], SH, (up2 (up2 w 90 v4.toNatClampNeg (((F_53_3 v4 w) * v1) / v2)) 92 v4.toNatClampNeg (((F_53_3 v4 w) * v1) - ((F_53_3 v4 w) * v1) / v2 * v2))) Q)) : EV X (d + 2) 92 (5, [some (.ref 89), some (.int v1), some (.int v2), some (.int v3), some (.int v4), none, none], [], SH, w) Q := by
  refine EV.steps cl_92 2 (q2 := (9, [some (.ref 89), some (.int v1), some (.int v2), some (.int v3), some (.int v4), none, none], [.int (kI 6), .int v4], SH, w)) rfl ?_
  refine EV.i_ge cl_92 rfl (fun h1 => ?_) (fun h1 => ?_)
  · skip
    refine EV.steps cl_92 2 (q2 := (70, [some (.ref 89), some (.int v1), some (.int v2), some (.int v3), some (.int (kI 0)), none, none], [], SH, w)) rfl ?_
    exact i1 h1
  · skip
    refine EV.steps cl_92 1 (q2 := (13, [some (.ref 89), some (.int v1), some (.int v2), some (.int v3), some (.int v4), none, none], [.int v2], SH, w)) rfl ?_
    refine EV.z_le cl_92 rfl (fun h2 => ?_) (fun h2 => ?_)
    · skip
      refine EV.steps cl_92 2 (q2 := (70, [some (.ref 89), some (.int v1), some (.int v2), some (.int v3), some (.int (kI 0)), none, none], [], SH, w)) rfl ?_
      exact i2 h1 h2
    · skip
      refine EV.steps cl_92 3 (q2 := (22, [some (.ref 89), some (.int v1), some (.int v2), some (.int v3), some (.int v4), none, none], [.int v4, .ref 3], SH, w)) rfl ?_
      refine EV.callF (kc := 53) (av := [.ref 3, .int v4]) (r := []) (rv := some (.int (F_53_3 v4 w))) (w2 := w) cl_92 rfl rfl rfl (m_53_3 w v4) ?_
      refine EV.steps cl_92 8 (q2 := (38, [some (.ref 89), some (.int v1), some (.int v2), some (.int v3), some (.int v4), some (.int ((F_53_3 v4 w) * v1)), none], [.int v2, .int ((F_53_3 v4 w) * v1), .int v4, .ref 90], SH, w)) rfl ?_
      refine EV.idiv cl_92 rfl (i3 h1 h2) ?_
      refine EV.iastore cl_92 rfl rfl (by decide) (i4 h1 h2) ?_
      refine EV.steps cl_92 5 (q2 := (49, [some (.ref 89), some (.int v1), some (.int v2), some (.int v3), some (.int v4), some (.int ((F_53_3 v4 w) * v1)), none], [.int v2, .int ((F_53_3 v4 w) * v1), .int v4, .ref 92], SH, (up2 w 90 v4.toNatClampNeg (((F_53_3 v4 w) * v1) / v2)))) rfl ?_
      refine EV.irem cl_92 rfl (i3 h1 h2) ?_
      refine EV.iastore cl_92 rfl rfl (by decide) (i4 h1 h2) ?_
      refine EV.steps cl_92 4 (q2 := (58, [some (.ref 89), some (.int v1), some (.int v2), some (.int v3), some (.int v4), some (.int ((F_53_3 v4 w) * v1)), none], [.int v4, .ref 90, .int v3], SH, (up2 (up2 w 90 v4.toNatClampNeg (((F_53_3 v4 w) * v1) / v2)) 92 v4.toNatClampNeg (((F_53_3 v4 w) * v1) - ((F_53_3 v4 w) * v1) / v2 * v2)))) rfl ?_
      refine EV.iaload cl_92 rfl rfl (by decide) (i4 h1 h2) ?_
      refine EV.steps cl_92 4 (q2 := (5, [some (.ref 89), some (.int v1), some (.int v2), some (.int (v3 - ((up2 w 90 v4.toNatClampNeg (((F_53_3 v4 w) * v1) / v2)) 90 v4.toNatClampNeg))), some (.int (v4 + (kI 1))), some (.int ((F_53_3 v4 w) * v1)), none], [], SH, (up2 (up2 w 90 v4.toNatClampNeg (((F_53_3 v4 w) * v1) / v2)) 92 v4.toNatClampNeg (((F_53_3 v4 w) * v1) - ((F_53_3 v4 w) * v1) / v2 * v2)))) rfl ?_
      exact i5 h1 h2
theorem s_92_89_at70 {X : Scr} {d : Nat} {Q : Option Value → Sh → Wd → Prop} (w : Wd) (v1 : Int32) (v2 : Int32) (v3 : Int32) (v4 : Int32) (i1 : (kI 6) ≤ v4 → (Q (none) SH w)) (i2 : ¬ (kI 6) ≤ v4 → v3 ≤ 0 → (Q (none) SH w)) (i3 : ¬ (kI 6) ≤ v4 → ¬ v3 ≤ 0 → (EV X (d + 1) 92 (87, [some (.ref 89), some (.int v1), some (.int v2), some (.int v3), some (.int v4), some (.int (kI 0)), some (.int (kI 1))], [], SH, w) Q)) : EV X (d + 1) 92 (70, [some (.ref 89), some (.int v1), some (.int v2), some (.int v3), some (.int v4), none, none], [], SH, w) Q := by
  refine EV.steps cl_92 2 (q2 := (74, [some (.ref 89), some (.int v1), some (.int v2), some (.int v3), some (.int v4), none, none], [.int (kI 6), .int v4], SH, w)) rfl ?_
  refine EV.i_ge cl_92 rfl (fun h1 => ?_) (fun h1 => ?_)
  · skip
    refine EV.ret cl_92 rfl rfl rfl ?_
    exact i1 h1
  · skip
    refine EV.steps cl_92 1 (q2 := (78, [some (.ref 89), some (.int v1), some (.int v2), some (.int v3), some (.int v4), none, none], [.int v3], SH, w)) rfl ?_
    refine EV.z_le cl_92 rfl (fun h2 => ?_) (fun h2 => ?_)
    · skip
      refine EV.ret cl_92 rfl rfl rfl ?_
      exact i2 h1 h2
    · skip
      refine EV.steps cl_92 4 (q2 := (87, [some (.ref 89), some (.int v1), some (.int v2), some (.int v3), some (.int v4), some (.int (kI 0)), some (.int (kI 1))], [], SH, w)) rfl ?_
      exact i3 h1 h2
theorem s_92_89_at87 {X : Scr} {d : Nat} {Q : Option Value → Sh → Wd → Prop} (w : Wd) (v1 : Int32) (v2 : Int32) (v3 : Int32) (v4 : Int32) (v5 : Int32) (v6 : Int32) (i1 : (kI 6) ≤ v6 → (inB v5 6 = true)) (i2 : (kI 6) ≤ v6 → (EV X (d + 1) 92 (70, [some (.ref 89), some (.int v1), some (.int v2), some (.int (v3 + (kI (-1)))), some (.int (v4 + (kI 1))), some (.int v5), some (.int v6)], [], SH, (up2 (up2 w 90 v5.toNatClampNeg ((w 90 v5.toNatClampNeg) + (kI 1))) 92 v5.toNatClampNeg (kI (-1)))) Q)) (i3 : ¬ (kI 6) ≤ v6 → (inB v6 6 = true)) (i4 : ¬ (kI 6) ≤ v6 → (inB v5 6 = true)) (i5 : ¬ (kI 6) ≤ v6 → (w 92 v6.toNatClampNeg) ≤ (w 92 v5.toNatClampNeg) → (EV X (d + 1) 92 (87, [some (.ref 89), some (.int v1), some (.int v2), some (.int v3), some (.int v4), some (.int v5), some (.int (v6 + (kI 1)))], [], SH, w) Q)) (i6 : ¬ (kI 6) ≤ v6 → ¬ (w 92 v6.toNatClampNeg) ≤ (w 92 v5.toNatClampNeg) → (EV X (d + 1) 92 (87, [some (.ref 89), some (.int v1), some (.int v2), some (.int v3), some (.int v4), some (.int v6), some (.int (v6 + (kI 1)))], [], SH, w) Q)) : EV X (d + 1) 92 (87, [some (.ref 89), some (.int v1), some (.int v2), some (.int v3), some (.int v4), some (.int v5), some (.int v6)], [], SH, w) Q := by
  refine EV.steps cl_92 2 (q2 := (91, [some (.ref 89), some (.int v1), some (.int v2), some (.int v3), some (.int v4), some (.int v5), some (.int v6)], [.int (kI 6), .int v6], SH, w)) rfl ?_
  refine EV.i_ge cl_92 rfl (fun h1 => ?_) (fun h1 => ?_)
  · skip
    refine EV.steps cl_92 4 (q2 := (128, [some (.ref 89), some (.int v1), some (.int v2), some (.int v3), some (.int v4), some (.int v5), some (.int v6)], [.int v5, .ref 90, .int v5, .ref 90], SH, w)) rfl ?_
    refine EV.iaload cl_92 rfl rfl (by decide) (i1 h1) ?_
    refine EV.steps cl_92 2 (q2 := (131, [some (.ref 89), some (.int v1), some (.int v2), some (.int v3), some (.int v4), some (.int v5), some (.int v6)], [.int ((w 90 v5.toNatClampNeg) + (kI 1)), .int v5, .ref 90], SH, w)) rfl ?_
    refine EV.iastore cl_92 rfl rfl (by decide) (i1 h1) ?_
    refine EV.steps cl_92 4 (q2 := (139, [some (.ref 89), some (.int v1), some (.int v2), some (.int v3), some (.int v4), some (.int v5), some (.int v6)], [.int (kI (-1)), .int v5, .ref 92], SH, (up2 w 90 v5.toNatClampNeg ((w 90 v5.toNatClampNeg) + (kI 1))))) rfl ?_
    refine EV.iastore cl_92 rfl rfl (by decide) (i1 h1) ?_
    refine EV.steps cl_92 3 (q2 := (70, [some (.ref 89), some (.int v1), some (.int v2), some (.int (v3 + (kI (-1)))), some (.int (v4 + (kI 1))), some (.int v5), some (.int v6)], [], SH, (up2 (up2 w 90 v5.toNatClampNeg ((w 90 v5.toNatClampNeg) + (kI 1))) 92 v5.toNatClampNeg (kI (-1))))) rfl ?_
    exact i2 h1
  · skip
    refine EV.steps cl_92 3 (q2 := (100, [some (.ref 89), some (.int v1), some (.int v2), some (.int v3), some (.int v4), some (.int v5), some (.int v6)], [.int v6, .ref 92], SH, w)) rfl ?_
    refine EV.iaload cl_92 rfl rfl (by decide) (i3 h1) ?_
    refine EV.steps cl_92 3 (q2 := (107, [some (.ref 89), some (.int v1), some (.int v2), some (.int v3), some (.int v4), some (.int v5), some (.int v6)], [.int v5, .ref 92, .int (w 92 v6.toNatClampNeg)], SH, w)) rfl ?_
    refine EV.iaload cl_92 rfl rfl (by decide) (i4 h1) ?_
    refine EV.i_le cl_92 rfl (fun h2 => ?_) (fun h2 => ?_)
    · skip
      refine EV.steps cl_92 2 (q2 := (87, [some (.ref 89), some (.int v1), some (.int v2), some (.int v3), some (.int v4), some (.int v5), some (.int (v6 + (kI 1)))], [], SH, w)) rfl ?_
      exact i5 h1 h2
    · skip
      refine EV.steps cl_92 4 (q2 := (87, [some (.ref 89), some (.int v1), some (.int v2), some (.int v3), some (.int v4), some (.int v6), some (.int (v6 + (kI 1)))], [], SH, w)) rfl ?_
      exact i6 h1 h2
set_option maxRecDepth 20000 in
theorem cl_93 : RCT[93]? = some rc_93 := rfl
theorem s_93_89_at0 {X : Scr} {d : Nat} {Q : Option Value → Sh → Wd → Prop} (w : Wd) (v1 : Int32) (v2 : Int32) (i1 : (EV X (d + 1) 93 (2, [some (.ref 89), some (.int v1), some (.int v2), some (.int (kI 0)), none, none], [], SH, w) Q)) : EV X (d + 1) 93 (0, [some (.ref 89), some (.int v1), some (.int v2), none, none, none], [], SH, w) Q := by
  refine EV.steps cl_93 2 (q2 := (2, [some (.ref 89), some (.int v1), some (.int v2), some (.int (kI 0)), none, none], [], SH, w)) rfl ?_
  exact i1
theorem s_93_89_at2 {X : Scr} {d : Nat} {Q : Option Value → Sh → Wd → Prop} (w : Wd) (v1 : Int32) (v2 : Int32) (v3 : Int32) (i1 : v1 ≤ v3 → (Q (none) SH w)) (i2 : ¬ v1 ≤ v3 → (EV X (d + 1) 93 (13, [some (.ref 89), some (.int v1), some (.int v2), some (.int v3), some (.int (kI (-1))), some (.int (kI 0))], [], SH, w) Q)) : EV X (d + 1) 93 (2, [some (.ref 89), some (.int v1), some (.int v2), some (.int v3), none, none], [], SH, w) Q := by
  refine EV.steps cl_93 2 (q2 := (4, [some (.ref 89), some (.int v1), some (.int v2), some (.int v3), none, none], [.int v1, .int v3], SH, w)) rfl ?_
  refine EV.i_ge cl_93 rfl (fun h1 => ?_) (fun h1 => ?_)
  · skip
    refine EV.ret cl_93 rfl rfl rfl ?_
    exact i1 h1
  · skip
    refine EV.steps cl_93 4 (q2 := (13, [some (.ref 89), some (.int v1), some (.int v2), some (.int v3), some (.int (kI (-1))), some (.int (kI 0))], [], SH, w)) rfl ?_
    exact i2 h1
theorem s_93_89_at13 {X : Scr} {d : Nat} {Q : Option Value → Sh → Wd → Prop} (w : Wd) (v1 : Int32) (v2 : Int32) (v3 : Int32) (v4 : Int32) (v5 : Int32) (i1 : (kI 6) ≤ v5 → v4 = (kI (-1)) → (EV X (d + 3) 93 (2, [some (.ref 89), some (.int v1), some (.int v2), some (.int (v3 + (kI 1))), some (.int v4), some (.int v5)], [], SH, w) Q)) (i2 : (kI 6) ≤ v5 → ¬ v4 = (kI (-1)) → (inB v4 6 = true)) (i3 : (kI 6) ≤ v5 → ¬ v4 = (kI (-1)) → (EV X (d + 3) 93 (2, [some (.ref 89), some (.int v1), some (.int v2), some (.int (v3 + (kI 1))), some (.int v4), some (.int v5)], [], SH, (up2 w 90 v4.toNatClampNeg ((w 90 v4.toNatClampNeg) + (kI 1)))) Q)) (i4 : ¬ (kI 6) ≤ v5 → (F_53_3 v5 w) ≤ 0 → (EV X (d + 3) 93 (13, [some (.ref 89), some (.int v1), some (.int v2), some (.int v3), some (.int v4), some (.int (v5 + (kI 1)))], [], SH, w) Q)) (i5 : ¬ (kI 6) ≤ v5 → ¬ (F_53_3 v5 w) ≤ 0 → v4 = (kI (-1)) → (EV X (d + 3) 93 (13, [some (.ref 89), some (.int v1), some (.int v2), some (.int v3), some (.int v5), some (.int (v5 + (kI 1)))], [], SH, w) Q)) (i6 : ¬ (kI 6) ≤ v5 → ¬ (F_53_3 v5 w) ≤ 0 → ¬ v4 = (kI (-1)) → (F_94_89 v5 v4 v2 w) = 0 → (EV X (d + 3) 93 (13, [some (.ref 89), some (.int v1), some (.int v2), some (.int v3), some (.int v4), some (.int (v5 + (kI 1)))], [], SH, w) Q)) (i7 : ¬ (kI 6) ≤ v5 → ¬ (F_53_3 v5 w) ≤ 0 → ¬ v4 = (kI (-1)) → ¬ (F_94_89 v5 v4 v2 w) = 0 → (EV X (d + 3) 93 (13, [some (.ref 89), some (.int v1), some (.int v2), some (.int v3), some (.int v5), some (.int (v5 + (kI 1)))], [], SH, w) Q)) : EV X (d + 3) 93 (13, [some (.ref 89), some (.int v1), some (.int v2), some (.int v3), some (.int v4), some (.int v5)], [], SH, w) Q := by
  refine EV.steps cl_93 2 (q2 := (17, [some (.ref 89), some (.int v1), some (.int v2), some (.int v3), some (.int v4), some (.int v5)], [.int (kI 6), .int v5], SH, w)) rfl ?_
  refine EV.i_ge cl_93 rfl (fun h1 => ?_) (fun h1 => ?_)
  · skip
    refine EV.steps cl_93 2 (q2 := (63, [some (.ref 89), some (.int v1), some (.int v2), some (.int v3), some (.int v4), some (.int v5)], [.int (kI (-1)), .int v4], SH, w)) rfl ?_
    refine EV.i_eq cl_93 rfl (fun h2 => ?_) (fun h2 => ?_)
    · skip
      refine EV.steps cl_93 2 (q2 := (2, [some (.ref 89), some (.int v1), some (.int v2), some (.int (v3 + (kI 1))), some (.int v4), some (.int v5)], [], SH, w)) rfl ?_
      exact i1 h1 h2
    · skip
      refine EV.steps cl_93 4 (q2 := (73, [some (.ref 89), some (.int v1), some (.int v2), some (.int v3), some (.int v4), some (.int v5)], [.int v4, .ref 90, .int v4, .ref 90], SH, w)) rfl ?_
      refine EV.iaload cl_93 rfl rfl (by decide) (i2 h1 h2) ?_
      refine EV.steps cl_93 2 (q2 := (76, [some (.ref 89), some (.int v1), some (.int v2), some (.int v3), some (.int v4), some (.int v5)], [.int ((w 90 v4.toNatClampNeg) + (kI 1)), .int v4, .ref 90], SH, w)) rfl ?_
      refine EV.iastore cl_93 rfl rfl (by decide) (i2 h1 h2) ?_
      refine EV.steps cl_93 2 (q2 := (2, [some (.ref 89), some (.int v1), some (.int v2), some (.int (v3 + (kI 1))), some (.int v4), some (.int v5)], [], SH, (up2 w 90 v4.toNatClampNeg ((w 90 v4.toNatClampNeg) + (kI 1))))) rfl ?_
      exact i3 h1 h2
  · skip
    refine EV.steps cl_93 3 (q2 := (26, [some (.ref 89), some (.int v1), some (.int v2), some (.int v3), some (.int v4), some (.int v5)], [.int v5, .ref 3], SH, w)) rfl ?_
    refine EV.callF (kc := 53) (av := [.ref 3, .int v5]) (r := []) (rv := some (.int (F_53_3 v5 w))) (w2 := w) cl_93 rfl rfl rfl (m_53_3 w v5) ?_
    refine EV.z_le cl_93 rfl (fun h3 => ?_) (fun h3 => ?_)
    · skip
      refine EV.steps cl_93 2 (q2 := (13, [some (.ref 89), some (.int v1), some (.int v2), some (.int v3), some (.int v4), some (.int (v5 + (kI 1)))], [], SH, w)) rfl ?_
      exact i4 h1 h3
    · skip
      refine EV.steps cl_93 2 (q2 := (35, [some (.ref 89), some (.int v1), some (.int v2), some (.int v3), some (.int v4), some (.int v5)], [.int (kI (-1)), .int v4], SH, w)) rfl ?_
      refine EV.i_eq cl_93 rfl (fun h4 => ?_) (fun h4 => ?_)
      · skip
        refine EV.steps cl_93 4 (q2 := (13, [some (.ref 89), some (.int v1), some (.int v2), some (.int v3), some (.int v5), some (.int (v5 + (kI 1)))], [], SH, w)) rfl ?_
        exact i5 h1 h3 h4
      · skip
        refine EV.steps cl_93 4 (q2 := (44, [some (.ref 89), some (.int v1), some (.int v2), some (.int v3), some (.int v4), some (.int v5)], [.int v2, .int v4, .int v5, .ref 89], SH, w)) rfl ?_
        refine EV.callF (kc := 94) (av := [.ref 89, .int v5, .int v4, .int v2]) (r := []) (rv := some (.int (F_94_89 v5 v4 v2 w))) (w2 := w) cl_93 rfl rfl rfl (m_94_89 w v5 v4 v2) ?_
        refine EV.z_eq cl_93 rfl (fun h5 => ?_) (fun h5 => ?_)
        · skip
          refine EV.steps cl_93 2 (q2 := (13, [some (.ref 89), some (.int v1), some (.int v2), some (.int v3), some (.int v4), some (.int (v5 + (kI 1)))], [], SH, w)) rfl ?_
          exact i6 h1 h3 h4 h5
        · skip
          refine EV.steps cl_93 4 (q2 := (13, [some (.ref 89), some (.int v1), some (.int v2), some (.int v3), some (.int v5), some (.int (v5 + (kI 1)))], [], SH, w)) rfl ?_
          exact i7 h1 h3 h4 h5
set_option maxRecDepth 20000 in
theorem cl_104 : RCT[104]? = some rc_104 := rfl
theorem s_104_1_at0 {X : Scr} {d : Nat} {Q : Option Value → Sh → Wd → Prop} (w : Wd) (v1 : Int32) (i1 : (EV X (d + 1) 104 (3, [some (.ref 1), some (.int v1), some (.int (kI 24))], [], SH, w) Q)) : EV X (d + 1) 104 (0, [some (.ref 1), some (.int v1), none], [], SH, w) Q := by
  refine EV.steps cl_104 2 (q2 := (3, [some (.ref 1), some (.int v1), some (.int (kI 24))], [], SH, w)) rfl ?_
  exact i1
theorem s_104_1_at3 {X : Scr} {d : Nat} {Q : Option Value → Sh → Wd → Prop} (w : Wd) (v1 : Int32) (v2 : Int32) (i1 : v2 < 0 → (Q (none) SH w)) (i2 : ¬ v2 < 0 → (kI 260) ≤ (w 1 1) → (Q (none) SH w)) (i3 : ¬ v2 < 0 → ¬ (kI 260) ≤ (w 1 1) → (inB (w 1 1) 260 = true)) (i4 : ¬ v2 < 0 → ¬ (kI 260) ≤ (w 1 1) → (EV X (d + 1) 104 (3, [some (.ref 1), some (.int v1), some (.int (v2 + (kI (-8))))], [], SH, (up2 (up2 w 2 (w 1 1).toNatClampNeg ((v1 >>> (v2 &&& 31)) &&& (kI 255))) 1 1 ((w 1 1) + (kI 1)))) Q)) : EV X (d + 1) 104 (3, [some (.ref 1), some (.int v1), some (.int v2)], [], SH, w) Q := by
  refine EV.steps cl_104 1 (q2 := (4, [some (.ref 1), some (.int v1), some (.int v2)], [.int v2], SH, w)) rfl ?_
  refine EV.z_lt cl_104 rfl (fun h1 => ?_) (fun h1 => ?_)
  · skip
    refine EV.ret cl_104 rfl rfl rfl ?_
    exact i1 h1
  · skip
    refine EV.steps cl_104 3 (q2 := (14, [some (.ref 1), some (.int v1), some (.int v2)], [.int (kI 260), .int (w 1 1)], SH, w)) rfl ?_
    refine EV.i_ge cl_104 rfl (fun h2 => ?_) (fun h2 => ?_)
    · skip
      refine EV.ret cl_104 rfl rfl rfl ?_
      exact i2 h1 h2
    · skip
      refine EV.steps cl_104 9 (q2 := (32, [some (.ref 1), some (.int v1), some (.int v2)], [.int ((v1 >>> (v2 &&& 31)) &&& (kI 255)), .int (w 1 1), .ref 2], SH, w)) rfl ?_
      refine EV.iastore cl_104 rfl rfl (by decide) (i3 h1 h2) ?_
      refine EV.steps cl_104 8 (q2 := (3, [some (.ref 1), some (.int v1), some (.int (v2 + (kI (-8))))], [], SH, (up2 (up2 w 2 (w 1 1).toNatClampNeg ((v1 >>> (v2 &&& 31)) &&& (kI 255))) 1 1 ((w 1 1) + (kI 1))))) rfl ?_
      exact i4 h1 h2
set_option maxRecDepth 20000 in
theorem cl_114 : RCT[114]? = some rc_114 := rfl
theorem s_114_1_at0 {X : Scr} {d : Nat} {Q : Option Value → Sh → Wd → Prop} (w : Wd) (v1 : Int32) (i1 : ((¬ (w 1 2) ≤ (w 1 3) → (¬ (w 1 1) ≤ (w 1 3) → (inB (w 1 3) 260 = true))))) (i2 : ¬ (F_111_1 w) = 0 → (EV X (d + 3) 114 (19, [some (.ref 1), some (.int v1), some (.int (kI 0)), some (.int (kI 0))], [], SH, w) Q)) (i3 : (F_111_1 w) = 0 → (Q (some (.int (kI (-1)))) SH (G_115_1 (kI 1) w))) : EV X (d + 3) 114 (0, [some (.ref 1), some (.int v1), none, none], [], SH, w) Q := by
  refine EV.steps cl_114 1 (q2 := (1, [some (.ref 1), some (.int v1), none, none], [.ref 1], SH, w)) rfl ?_
  refine EV.callF (kc := 111) (av := [.ref 1]) (r := []) (rv := some (.int (F_111_1 w))) (w2 := w) cl_114 rfl rfl rfl (m_111_1 w  (i1)) ?_
  refine EV.z_ne cl_114 rfl (fun h1 => ?_) (fun h1 => ?_)
  · skip
    refine EV.steps cl_114 4 (q2 := (19, [some (.ref 1), some (.int v1), some (.int (kI 0)), some (.int (kI 0))], [], SH, w)) rfl ?_
    exact i2 h1
  · skip
    refine EV.steps cl_114 2 (q2 := (9, [some (.ref 1), some (.int v1), none, none], [.int (kI 1), .ref 1], SH, w)) rfl ?_
    refine EV.callF (kc := 115) (av := [.ref 1, .int (kI 1)]) (r := []) (rv := some (.int (F_115_1 (kI 1) w))) (w2 := (G_115_1 (kI 1) w)) cl_114 rfl rfl rfl (m_115_1 w (kI 1)) ?_
    refine EV.steps cl_114 2 (q2 := (14, [some (.ref 1), some (.int v1), none, none], [.int (kI (-1))], SH, (G_115_1 (kI 1) w))) rfl ?_
    refine EV.ret cl_114 rfl rfl rfl ?_
    exact i3 h1
theorem s_114_1_at19 {X : Scr} {d : Nat} {Q : Option Value → Sh → Wd → Prop} (w : Wd) (v1 : Int32) (v2 : Int32) (v3 : Int32) (i1 : v1 ≤ v3 → ((¬ (w 1 2) ≤ (w 1 3) → (¬ (w 1 1) ≤ (w 1 3) → (inB (w 1 3) 260 = true))))) (i2 : v1 ≤ v3 → (F_111_1 w) = 0 → (Q (some (.int v2)) SH w)) (i3 : v1 ≤ v3 → ¬ (F_111_1 w) = 0 → (Q (some (.int (kI (-1)))) SH (G_115_1 (kI 2) w))) (i4 : ¬ v1 ≤ v3 → ((¬ (w 1 2) ≤ (w 1 3) → (¬ (w 1 1) ≤ (w 1 3) → (inB (w 1 3) 260 = true))))) (i5 : ¬ v1 ≤ v3 → (F_111_1 w) = 0 → ((¬ (w 1 2) ≤ (w 1 3) → (¬ (w 1 1) ≤ (w 1 3) → (inB (w 1 3) 260 = true))))) (i6 : ¬ v1 ≤ v3 → (F_111_1 w) = 0 → (Q (some (.int v2)) SH w)) (i7 : ¬ v1 ≤ v3 → ¬ (F_111_1 w) = 0 → (¬ (w 1 2) ≤ (w 1 3) → (¬ (w 1 1) ≤ (w 1 3) → (inB (w 1 3) 260 = true)))) (i8 : ¬ v1 ≤ v3 → ¬ (F_111_1 w) = 0 → (EV X (d + 3) 114 (19, [some (.ref 1), some (.int v1), some (.int (((v2 * (kI 10)) + (F_110_1 w)) - (kI 48))), some (.int (v3 + (kI 1)))], [], SH, (up2 w 1 3 ((w 1 3) + (kI 1)))) Q)) : EV X (d + 3) 114 (19, [some (.ref 1), some (.int v1), some (.int v2), some (.int v3)], [], SH, w) Q := by
  refine EV.steps cl_114 2 (q2 := (21, [some (.ref 1), some (.int v1), some (.int v2), some (.int v3)], [.int v1, .int v3], SH, w)) rfl ?_
  refine EV.i_ge cl_114 rfl (fun h1 => ?_) (fun h1 => ?_)
  · skip
    refine EV.steps cl_114 1 (q2 := (61, [some (.ref 1), some (.int v1), some (.int v2), some (.int v3)], [.ref 1], SH, w)) rfl ?_
    refine EV.callF (kc := 111) (av := [.ref 1]) (r := []) (rv := some (.int (F_111_1 w))) (w2 := w) cl_114 rfl rfl rfl (m_111_1 w  (i1 h1)) ?_
    refine EV.z_eq cl_114 rfl (fun h2 => ?_) (fun h2 => ?_)
    · skip
      refine EV.steps cl_114 1 (q2 := (76, [some (.ref 1), some (.int v1), some (.int v2), some (.int v3)], [.int v2], SH, w)) rfl ?_
      refine EV.ret cl_114 rfl rfl rfl ?_
      exact i2 h1 h2
    · skip
      refine EV.steps cl_114 2 (q2 := (69, [some (.ref 1), some (.int v1), some (.int v2), some (.int v3)], [.int (kI 2), .ref 1], SH, w)) rfl ?_
      refine EV.callF (kc := 115) (av := [.ref 1, .int (kI 2)]) (r := []) (rv := some (.int (F_115_1 (kI 2) w))) (w2 := (G_115_1 (kI 2) w)) cl_114 rfl rfl rfl (m_115_1 w (kI 2)) ?_
      refine EV.steps cl_114 2 (q2 := (74, [some (.ref 1), some (.int v1), some (.int v2), some (.int v3)], [.int (kI (-1))], SH, (G_115_1 (kI 2) w))) rfl ?_
      refine EV.ret cl_114 rfl rfl rfl ?_
      exact i3 h1 h2
  · skip
    refine EV.steps cl_114 1 (q2 := (25, [some (.ref 1), some (.int v1), some (.int v2), some (.int v3)], [.ref 1], SH, w)) rfl ?_
    refine EV.callF (kc := 111) (av := [.ref 1]) (r := []) (rv := some (.int (F_111_1 w))) (w2 := w) cl_114 rfl rfl rfl (m_111_1 w  (i4 h1)) ?_
    refine EV.z_eq cl_114 rfl (fun h3 => ?_) (fun h3 => ?_)
    · skip
      refine EV.steps cl_114 1 (q2 := (61, [some (.ref 1), some (.int v1), some (.int v2), some (.int v3)], [.ref 1], SH, w)) rfl ?_
      refine EV.callF (kc := 111) (av := [.ref 1]) (r := []) (rv := some (.int (F_111_1 w))) (w2 := w) cl_114 rfl rfl rfl (m_111_1 w  (i5 h1 h3)) ?_
      refine EV.z_eq cl_114 rfl (fun h4 => ?_) (fun h4 => ?_)
      · skip
        refine EV.steps cl_114 1 (q2 := (76, [some (.ref 1), some (.int v1), some (.int v2), some (.int v3)], [.int v2], SH, w)) rfl ?_
        refine EV.ret cl_114 rfl rfl rfl ?_
        exact i6 h1 h3
      · skip
        exact absurd h3 h4
    · skip
      refine EV.steps cl_114 4 (q2 := (36, [some (.ref 1), some (.int v1), some (.int v2), some (.int v3)], [.ref 1, .int (v2 * (kI 10))], SH, w)) rfl ?_
      refine EV.callF (kc := 110) (av := [.ref 1]) (r := [.int (v2 * (kI 10))]) (rv := some (.int (F_110_1 w))) (w2 := w) cl_114 rfl rfl rfl (m_110_1 w  (i7 h1 h3)) ?_
      refine EV.steps cl_114 12 (q2 := (19, [some (.ref 1), some (.int v1), some (.int (((v2 * (kI 10)) + (F_110_1 w)) - (kI 48))), some (.int (v3 + (kI 1)))], [], SH, (up2 w 1 3 ((w 1 3) + (kI 1))))) rfl ?_
      exact i8 h1 h3
