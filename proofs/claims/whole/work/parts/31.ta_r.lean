theorem t123_0_at0 {X : Scr} {d : Nat} {Q : Int32 → Wd → Prop} (w : Wd) (v1 : Int32)
    (H : (if (F_105_1 v1 (kI 1) (kI 120) w) = 0 then Q (kI (-1)) w else CI X (d + 2) 85 [.ref 80, .int v1] w (fun x1 w1 => (if 0 ≤ x1 then CU X (d + 2) 86 [.ref 80, .ref 7] w1 (fun w2 => Q (w2 80 5) w2) else Q x1 w1)))) : EI X (d + 2) 123 (0, [some (.ref 0), some (.int v1), none], [], SH, w) Q := by
  unfold EI
  refine EV.steps cl_123 5 (q2 := (8, [some (.ref 0), some (.int v1), none], [.int (kI 120), .int (kI 1), .int v1, .ref 1], SH, w)) rfl ?_
  refine EV.callF (kc := 105) (av := [.ref 1, .int v1, .int (kI 1), .int (kI 120)]) (r := []) (rv := some (.int (F_105_1 v1 (kI 1) (kI 120) w))) (w2 := w) cl_123 rfl rfl rfl (m_105_1 w v1 (kI 1) (kI 120)) ?_
  refine EV.z_ne cl_123 rfl (fun h1 => ?_) (fun h1 => ?_)
  · skip
    rw [if_neg h1] at H
    refine EV.steps cl_123 3 (q2 := (21, [some (.ref 0), some (.int v1), none], [.int v1, .ref 80], SH, w)) rfl ?_
    refine EV.call (kc := 85) (av := [.ref 80, .int v1]) (r := []) cl_123 rfl rfl rfl H ?_
    clear H; intro y1 s1 w1 e1
    obtain ⟨x1, rfl, rfl, H⟩ := e1
    refine EV.steps cl_123 2 (q2 := (26, [some (.ref 0), some (.int v1), some (.int x1)], [.int x1], SH, w1)) rfl ?_
    refine EV.z_ge cl_123 rfl (fun h2 => ?_) (fun h2 => ?_)
    · skip
      rw [if_pos h2] at H
      refine EV.steps cl_123 4 (q2 := (39, [some (.ref 0), some (.int v1), some (.int x1)], [.ref 7, .ref 80], SH, w1)) rfl ?_
      refine EV.call (kc := 86) (av := [.ref 80, .ref 7]) (r := []) cl_123 rfl rfl rfl H ?_
      clear H; intro y2 s2 w2 e2
      obtain ⟨rfl, rfl, H⟩ := e2
      refine EV.steps cl_123 3 (q2 := (49, [some (.ref 0), some (.int v1), some (.int x1)], [.int (w2 80 5)], SH, w2)) rfl ?_
      refine EV.ret cl_123 rfl rfl rfl ?_
      exact ⟨_, rfl, rfl, H⟩
    · skip
      rw [if_neg h2] at H
      refine EV.steps cl_123 1 (q2 := (30, [some (.ref 0), some (.int v1), some (.int x1)], [.int x1], SH, w1)) rfl ?_
      refine EV.ret cl_123 rfl rfl rfl ?_
      exact ⟨_, rfl, rfl, H⟩
  · skip
    rw [if_pos h1] at H
    refine EV.steps cl_123 1 (q2 := (15, [some (.ref 0), some (.int v1), none], [.int (kI (-1))], SH, w)) rfl ?_
    refine EV.ret cl_123 rfl rfl rfl ?_
    exact ⟨_, rfl, rfl, H⟩
theorem t124_0_at0 {X : Scr} {d : Nat} {Q : Int32 → Wd → Prop} (w : Wd) (v1 : Int32)
    (H : (if (F_153 v1 (kI 1) (kI 60) w) = 0 then Q (kI (-1)) w else CU X (d + 1) 21 [.ref 87, .ref 7, .int v1] w (fun w1 => Q (w1 87 4) w1))) : EI X (d + 1) 124 (0, [some (.ref 0), some (.int v1)], [], SH, w) Q := by
  unfold EI
  refine EV.steps cl_124 3 (q2 := (4, [some (.ref 0), some (.int v1)], [.int (kI 60), .int (kI 1), .int v1], SH, w)) rfl ?_
  refine EV.callF (kc := 153) (av := [.int v1, .int (kI 1), .int (kI 60)]) (r := []) (rv := some (.int (F_153 v1 (kI 1) (kI 60) w))) (w2 := w) cl_124 rfl rfl rfl (m_153 w v1 (kI 1) (kI 60)) ?_
  refine EV.z_ne cl_124 rfl (fun h1 => ?_) (fun h1 => ?_)
  · skip
    rw [if_neg h1] at H
    refine EV.steps cl_124 5 (q2 := (21, [some (.ref 0), some (.int v1)], [.int v1, .ref 7, .ref 87], SH, w)) rfl ?_
    refine EV.call (kc := 21) (av := [.ref 87, .ref 7, .int v1]) (r := []) cl_124 rfl rfl rfl H ?_
    clear H; intro y1 s1 w1 e1
    obtain ⟨rfl, rfl, H⟩ := e1
    refine EV.steps cl_124 3 (q2 := (31, [some (.ref 0), some (.int v1)], [.int (w1 87 4)], SH, w1)) rfl ?_
    refine EV.ret cl_124 rfl rfl rfl ?_
    exact ⟨_, rfl, rfl, H⟩
  · skip
    rw [if_pos h1] at H
    refine EV.steps cl_124 1 (q2 := (11, [some (.ref 0), some (.int v1)], [.int (kI (-1))], SH, w)) rfl ?_
    refine EV.ret cl_124 rfl rfl rfl ?_
    exact ⟨_, rfl, rfl, H⟩
theorem t125_0_at0 {X : Scr} {d : Nat} {Q : Int32 → Wd → Prop} (w : Wd) (v1 : Int32) (v2 : Int32)
    (H : (if (F_153 v1 (kI 1) (kI 60) w) = 0 then Q (kI (-1)) w else (if (F_153 v2 (kI 0) (kI 3) w) = 0 then (if (F_52_3 (v2 - (kI 10)) w) = 0 then Q (kI (-1)) w else CU X (d + 2) 21 [.ref 87, .ref 17, .int v1] (G_10_17_7 w) (fun w2 => (if v2 = (kI 0) then Q (w2 87 4) w2 else (if v2 = (kI 1) then Q ((w2 17 7) - (w2 7 7)) w2 else (if v2 = (kI 2) then Q (w2 87 5) w2 else (if v2 = (kI 3) then Q (w2 87 6) w2 else Q (F_14_17 (v2 - (kI 10)) w2) w2)))))) else CU X (d + 2) 21 [.ref 87, .ref 17, .int v1] (G_10_17_7 w) (fun w1 => (if v2 = (kI 0) then Q (w1 87 4) w1 else (if v2 = (kI 1) then Q ((w1 17 7) - (w1 7 7)) w1 else (if v2 = (kI 2) then Q (w1 87 5) w1 else (if v2 = (kI 3) then Q (w1 87 6) w1 else Q (F_14_17 (v2 - (kI 10)) w1) w1)))))))) : EI X (d + 2) 125 (0, [some (.ref 0), some (.int v1), some (.int v2), none], [], SH, w) Q := by
  unfold EI
  refine EV.steps cl_125 5 (q2 := (8, [some (.ref 0), some (.int v1), some (.int v2), none], [.int (v2 - (kI 10)), .ref 3], SH, w)) rfl ?_
  refine EV.callF (kc := 52) (av := [.ref 3, .int (v2 - (kI 10))]) (r := []) (rv := some (.int (F_52_3 (v2 - (kI 10)) w))) (w2 := w) cl_125 rfl rfl rfl (m_52_3 w (v2 - (kI 10))) ?_
  refine EV.steps cl_125 4 (q2 := (16, [some (.ref 0), some (.int v1), some (.int v2), some (.int (F_52_3 (v2 - (kI 10)) w))], [.int (kI 60), .int (kI 1), .int v1], SH, w)) rfl ?_
  refine EV.callF (kc := 153) (av := [.int v1, .int (kI 1), .int (kI 60)]) (r := []) (rv := some (.int (F_153 v1 (kI 1) (kI 60) w))) (w2 := w) cl_125 rfl rfl rfl (m_153 w v1 (kI 1) (kI 60)) ?_
  refine EV.z_eq cl_125 rfl (fun h1 => ?_) (fun h1 => ?_)
  · skip
    rw [if_pos h1] at H
    refine EV.steps cl_125 1 (q2 := (36, [some (.ref 0), some (.int v1), some (.int v2), some (.int (F_52_3 (v2 - (kI 10)) w))], [.int (kI (-1))], SH, w)) rfl ?_
    refine EV.ret cl_125 rfl rfl rfl ?_
    exact ⟨_, rfl, rfl, H⟩
  · skip
    rw [if_neg h1] at H
    refine EV.steps cl_125 3 (q2 := (25, [some (.ref 0), some (.int v1), some (.int v2), some (.int (F_52_3 (v2 - (kI 10)) w))], [.int (kI 3), .int (kI 0), .int v2], SH, w)) rfl ?_
    refine EV.callF (kc := 153) (av := [.int v2, .int (kI 0), .int (kI 3)]) (r := []) (rv := some (.int (F_153 v2 (kI 0) (kI 3) w))) (w2 := w) cl_125 rfl rfl rfl (m_153 w v2 (kI 0) (kI 3)) ?_
    refine EV.z_ne cl_125 rfl (fun h2 => ?_) (fun h2 => ?_)
    · skip
      rw [if_neg h2] at H
      refine EV.steps cl_125 4 (q2 := (45, [some (.ref 0), some (.int v1), some (.int v2), some (.int (F_52_3 (v2 - (kI 10)) w))], [.ref 7, .ref 17], SH, w)) rfl ?_
      refine EV.callF (kc := 10) (av := [.ref 17, .ref 7]) (r := []) (rv := none) (w2 := (G_10_17_7 w)) cl_125 rfl rfl rfl (m_10_17_7 w ) ?_
      refine EV.steps cl_125 5 (q2 := (57, [some (.ref 0), some (.int v1), some (.int v2), some (.int (F_52_3 (v2 - (kI 10)) w))], [.int v1, .ref 17, .ref 87], SH, (G_10_17_7 w))) rfl ?_
      refine EV.call (kc := 21) (av := [.ref 87, .ref 17, .int v1]) (r := []) cl_125 rfl rfl rfl H ?_
      clear H; intro y1 s1 w1 e1
      obtain ⟨rfl, rfl, H⟩ := e1
      refine EV.steps cl_125 1 (q2 := (61, [some (.ref 0), some (.int v1), some (.int v2), some (.int (F_52_3 (v2 - (kI 10)) w))], [.int v2], SH, w1)) rfl ?_
      by_cases h3 : v2 = (kI 0)
      · refine EV.swEq (e := (kI 0)) cl_125 rfl rfl h3 rfl ?_
        rw [if_pos h3] at H
        refine EV.steps cl_125 3 (q2 := (99, [some (.ref 0), some (.int v1), some (.int v2), some (.int (F_52_3 (v2 - (kI 10)) w))], [.int (w1 87 4)], SH, w1)) rfl ?_
        refine EV.ret cl_125 rfl rfl rfl ?_
        exact ⟨_, rfl, rfl, H⟩
      rw [if_neg h3] at H
      by_cases h4 : v2 = (kI 1)
      · refine EV.swEq (e := (kI 1)) cl_125 rfl rfl h4 rfl ?_
        rw [if_pos h4] at H
        refine EV.steps cl_125 7 (q2 := (115, [some (.ref 0), some (.int v1), some (.int v2), some (.int (F_52_3 (v2 - (kI 10)) w))], [.int ((w1 17 7) - (w1 7 7))], SH, w1)) rfl ?_
        refine EV.ret cl_125 rfl rfl rfl ?_
        exact ⟨_, rfl, rfl, H⟩
      rw [if_neg h4] at H
      by_cases h5 : v2 = (kI 2)
      · refine EV.swEq (e := (kI 2)) cl_125 rfl rfl h5 rfl ?_
        rw [if_pos h5] at H
        refine EV.steps cl_125 3 (q2 := (123, [some (.ref 0), some (.int v1), some (.int v2), some (.int (F_52_3 (v2 - (kI 10)) w))], [.int (w1 87 5)], SH, w1)) rfl ?_
        refine EV.ret cl_125 rfl rfl rfl ?_
        exact ⟨_, rfl, rfl, H⟩
      rw [if_neg h5] at H
      by_cases h6 : v2 = (kI 3)
      · refine EV.swEq (e := (kI 3)) cl_125 rfl rfl h6 rfl ?_
        rw [if_pos h6] at H
        refine EV.steps cl_125 3 (q2 := (131, [some (.ref 0), some (.int v1), some (.int v2), some (.int (F_52_3 (v2 - (kI 10)) w))], [.int (w1 87 6)], SH, w1)) rfl ?_
        refine EV.ret cl_125 rfl rfl rfl ?_
        exact ⟨_, rfl, rfl, H⟩
      rw [if_neg h6] at H
      refine EV.swT cl_125 rfl (by have a0 := sw_ne h3 (by decide); have a1 := sw_ne h4 (by decide); have a2 := sw_ne h5 (by decide); have a3 := sw_ne h6 (by decide); clear h3 h4 h5 h6; omega) ?_
      refine EV.steps cl_125 5 (q2 := (140, [some (.ref 0), some (.int v1), some (.int v2), some (.int (F_52_3 (v2 - (kI 10)) w))], [.int (v2 - (kI 10)), .ref 17], SH, w1)) rfl ?_
      refine EV.callF (kc := 14) (av := [.ref 17, .int (v2 - (kI 10))]) (r := []) (rv := some (.int (F_14_17 (v2 - (kI 10)) w1))) (w2 := w1) cl_125 rfl rfl rfl (m_14_17 w1 (v2 - (kI 10))) ?_
      refine EV.ret cl_125 rfl rfl rfl ?_
      exact ⟨_, rfl, rfl, H⟩
    · skip
      rw [if_pos h2] at H
      refine EV.steps cl_125 1 (q2 := (32, [some (.ref 0), some (.int v1), some (.int v2), some (.int (F_52_3 (v2 - (kI 10)) w))], [.int (F_52_3 (v2 - (kI 10)) w)], SH, w)) rfl ?_
      refine EV.z_ne cl_125 rfl (fun h7 => ?_) (fun h7 => ?_)
      · skip
        rw [if_neg h7] at H
        refine EV.steps cl_125 4 (q2 := (45, [some (.ref 0), some (.int v1), some (.int v2), some (.int (F_52_3 (v2 - (kI 10)) w))], [.ref 7, .ref 17], SH, w)) rfl ?_
        refine EV.callF (kc := 10) (av := [.ref 17, .ref 7]) (r := []) (rv := none) (w2 := (G_10_17_7 w)) cl_125 rfl rfl rfl (m_10_17_7 w ) ?_
        refine EV.steps cl_125 5 (q2 := (57, [some (.ref 0), some (.int v1), some (.int v2), some (.int (F_52_3 (v2 - (kI 10)) w))], [.int v1, .ref 17, .ref 87], SH, (G_10_17_7 w))) rfl ?_
        refine EV.call (kc := 21) (av := [.ref 87, .ref 17, .int v1]) (r := []) cl_125 rfl rfl rfl H ?_
        clear H; intro y2 s2 w2 e2
        obtain ⟨rfl, rfl, H⟩ := e2
        refine EV.steps cl_125 1 (q2 := (61, [some (.ref 0), some (.int v1), some (.int v2), some (.int (F_52_3 (v2 - (kI 10)) w))], [.int v2], SH, w2)) rfl ?_
        by_cases h8 : v2 = (kI 0)
        · refine EV.swEq (e := (kI 0)) cl_125 rfl rfl h8 rfl ?_
          rw [if_pos h8] at H
          refine EV.steps cl_125 3 (q2 := (99, [some (.ref 0), some (.int v1), some (.int v2), some (.int (F_52_3 (v2 - (kI 10)) w))], [.int (w2 87 4)], SH, w2)) rfl ?_
          refine EV.ret cl_125 rfl rfl rfl ?_
          exact ⟨_, rfl, rfl, H⟩
        rw [if_neg h8] at H
        by_cases h9 : v2 = (kI 1)
        · refine EV.swEq (e := (kI 1)) cl_125 rfl rfl h9 rfl ?_
          rw [if_pos h9] at H
          refine EV.steps cl_125 7 (q2 := (115, [some (.ref 0), some (.int v1), some (.int v2), some (.int (F_52_3 (v2 - (kI 10)) w))], [.int ((w2 17 7) - (w2 7 7))], SH, w2)) rfl ?_
          refine EV.ret cl_125 rfl rfl rfl ?_
          exact ⟨_, rfl, rfl, H⟩
        rw [if_neg h9] at H
        by_cases h10 : v2 = (kI 2)
        · refine EV.swEq (e := (kI 2)) cl_125 rfl rfl h10 rfl ?_
          rw [if_pos h10] at H
          refine EV.steps cl_125 3 (q2 := (123, [some (.ref 0), some (.int v1), some (.int v2), some (.int (F_52_3 (v2 - (kI 10)) w))], [.int (w2 87 5)], SH, w2)) rfl ?_
          refine EV.ret cl_125 rfl rfl rfl ?_
          exact ⟨_, rfl, rfl, H⟩
        rw [if_neg h10] at H
        by_cases h11 : v2 = (kI 3)
        · refine EV.swEq (e := (kI 3)) cl_125 rfl rfl h11 rfl ?_
          rw [if_pos h11] at H
          refine EV.steps cl_125 3 (q2 := (131, [some (.ref 0), some (.int v1), some (.int v2), some (.int (F_52_3 (v2 - (kI 10)) w))], [.int (w2 87 6)], SH, w2)) rfl ?_
          refine EV.ret cl_125 rfl rfl rfl ?_
          exact ⟨_, rfl, rfl, H⟩
        rw [if_neg h11] at H
        refine EV.swT cl_125 rfl (by have a0 := sw_ne h8 (by decide); have a1 := sw_ne h9 (by decide); have a2 := sw_ne h10 (by decide); have a3 := sw_ne h11 (by decide); clear h8 h9 h10 h11; omega) ?_
        refine EV.steps cl_125 5 (q2 := (140, [some (.ref 0), some (.int v1), some (.int v2), some (.int (F_52_3 (v2 - (kI 10)) w))], [.int (v2 - (kI 10)), .ref 17], SH, w2)) rfl ?_
        refine EV.callF (kc := 14) (av := [.ref 17, .int (v2 - (kI 10))]) (r := []) (rv := some (.int (F_14_17 (v2 - (kI 10)) w2))) (w2 := w2) cl_125 rfl rfl rfl (m_14_17 w2 (v2 - (kI 10))) ?_
        refine EV.ret cl_125 rfl rfl rfl ?_
        exact ⟨_, rfl, rfl, H⟩
      · skip
        rw [if_pos h7] at H
        refine EV.steps cl_125 1 (q2 := (36, [some (.ref 0), some (.int v1), some (.int v2), some (.int (F_52_3 (v2 - (kI 10)) w))], [.int (kI (-1))], SH, w)) rfl ?_
        refine EV.ret cl_125 rfl rfl rfl ?_
        exact ⟨_, rfl, rfl, H⟩
theorem t127_0_at0 {X : Scr} {d : Nat} {Q : Int32 → Wd → Prop} (w : Wd) (v1 : Int32) (v2 : Int32)
    (H : (if (F_52_3 v1 w) = 0 then Q (kI (-1)) w else (if (F_153 v2 (kI 10) (kI 21) w) = 0 then (if v2 = (kI 0) then Q (F_54_3 v1 w) w else (if v2 = (kI 1) then Q (F_14_7 v1 w) w else (if v2 = (kI 2) then CI X (d + 2) 15 [.ref 7, .int v1] w (fun x1 w1 => Q x1 w1) else (if v2 = (kI 3) then CI X (d + 2) 24 [.ref 87, .ref 17, .int v1] (G_10_17_7 w) (fun x2 w2 => Q x2 w2) else Q (kI (-1)) w)))) else Q (F_12_7 v1 (v2 - (kI 10)) w) w))) : EI X (d + 2) 127 (0, [some (.ref 0), some (.int v1), some (.int v2)], [], SH, w) Q := by
  unfold EI
  refine EV.steps cl_127 3 (q2 := (5, [some (.ref 0), some (.int v1), some (.int v2)], [.int v1, .ref 3], SH, w)) rfl ?_
  refine EV.callF (kc := 52) (av := [.ref 3, .int v1]) (r := []) (rv := some (.int (F_52_3 v1 w))) (w2 := w) cl_127 rfl rfl rfl (m_52_3 w v1) ?_
  refine EV.z_ne cl_127 rfl (fun h1 => ?_) (fun h1 => ?_)
  · skip
    rw [if_neg h1] at H
    refine EV.steps cl_127 3 (q2 := (18, [some (.ref 0), some (.int v1), some (.int v2)], [.int (kI 21), .int (kI 10), .int v2], SH, w)) rfl ?_
    refine EV.callF (kc := 153) (av := [.int v2, .int (kI 10), .int (kI 21)]) (r := []) (rv := some (.int (F_153 v2 (kI 10) (kI 21) w))) (w2 := w) cl_127 rfl rfl rfl (m_153 w v2 (kI 10) (kI 21)) ?_
    refine EV.z_eq cl_127 rfl (fun h2 => ?_) (fun h2 => ?_)
    · skip
      rw [if_pos h2] at H
      refine EV.steps cl_127 1 (q2 := (38, [some (.ref 0), some (.int v1), some (.int v2)], [.int v2], SH, w)) rfl ?_
      by_cases h3 : v2 = (kI 0)
      · refine EV.swEq (e := (kI 0)) cl_127 rfl rfl h3 rfl ?_
        rw [if_pos h3] at H
        refine EV.steps cl_127 3 (q2 := (73, [some (.ref 0), some (.int v1), some (.int v2)], [.int v1, .ref 3], SH, w)) rfl ?_
        refine EV.callF (kc := 54) (av := [.ref 3, .int v1]) (r := []) (rv := some (.int (F_54_3 v1 w))) (w2 := w) cl_127 rfl rfl rfl (m_54_3 w v1) ?_
        refine EV.ret cl_127 rfl rfl rfl ?_
        exact ⟨_, rfl, rfl, H⟩
      rw [if_neg h3] at H
      by_cases h4 : v2 = (kI 1)
      · refine EV.swEq (e := (kI 1)) cl_127 rfl rfl h4 rfl ?_
        rw [if_pos h4] at H
        refine EV.steps cl_127 3 (q2 := (82, [some (.ref 0), some (.int v1), some (.int v2)], [.int v1, .ref 7], SH, w)) rfl ?_
        refine EV.callF (kc := 14) (av := [.ref 7, .int v1]) (r := []) (rv := some (.int (F_14_7 v1 w))) (w2 := w) cl_127 rfl rfl rfl (m_14_7 w v1) ?_
        refine EV.ret cl_127 rfl rfl rfl ?_
        exact ⟨_, rfl, rfl, H⟩
      rw [if_neg h4] at H
      by_cases h5 : v2 = (kI 2)
      · refine EV.swEq (e := (kI 2)) cl_127 rfl rfl h5 rfl ?_
        rw [if_pos h5] at H
        refine EV.steps cl_127 3 (q2 := (91, [some (.ref 0), some (.int v1), some (.int v2)], [.int v1, .ref 7], SH, w)) rfl ?_
        refine EV.call (kc := 15) (av := [.ref 7, .int v1]) (r := []) cl_127 rfl rfl rfl H ?_
        clear H; intro y1 s1 w1 e1
        obtain ⟨x1, rfl, rfl, H⟩ := e1
        refine EV.ret cl_127 rfl rfl rfl ?_
        exact ⟨_, rfl, rfl, H⟩
      rw [if_neg h5] at H
      by_cases h6 : v2 = (kI 3)
      · refine EV.swEq (e := (kI 3)) cl_127 rfl rfl h6 rfl ?_
        rw [if_pos h6] at H
        refine EV.steps cl_127 4 (q2 := (103, [some (.ref 0), some (.int v1), some (.int v2)], [.ref 7, .ref 17], SH, w)) rfl ?_
        refine EV.callF (kc := 10) (av := [.ref 17, .ref 7]) (r := []) (rv := none) (w2 := (G_10_17_7 w)) cl_127 rfl rfl rfl (m_10_17_7 w ) ?_
        refine EV.steps cl_127 5 (q2 := (115, [some (.ref 0), some (.int v1), some (.int v2)], [.int v1, .ref 17, .ref 87], SH, (G_10_17_7 w))) rfl ?_
        refine EV.call (kc := 24) (av := [.ref 87, .ref 17, .int v1]) (r := []) cl_127 rfl rfl rfl H ?_
        clear H; intro y2 s2 w2 e2
        obtain ⟨x2, rfl, rfl, H⟩ := e2
        refine EV.ret cl_127 rfl rfl rfl ?_
        exact ⟨_, rfl, rfl, H⟩
      rw [if_neg h6] at H
      refine EV.swT cl_127 rfl (by have a0 := sw_ne h3 (by decide); have a1 := sw_ne h4 (by decide); have a2 := sw_ne h5 (by decide); have a3 := sw_ne h6 (by decide); clear h3 h4 h5 h6; omega) ?_
      refine EV.steps cl_127 1 (q2 := (120, [some (.ref 0), some (.int v1), some (.int v2)], [.int (kI (-1))], SH, w)) rfl ?_
      refine EV.ret cl_127 rfl rfl rfl ?_
      exact ⟨_, rfl, rfl, H⟩
    · skip
      rw [if_neg h2] at H
      refine EV.steps cl_127 6 (q2 := (33, [some (.ref 0), some (.int v1), some (.int v2)], [.int (v2 - (kI 10)), .int v1, .ref 7], SH, w)) rfl ?_
      refine EV.callF (kc := 12) (av := [.ref 7, .int v1, .int (v2 - (kI 10))]) (r := []) (rv := some (.int (F_12_7 v1 (v2 - (kI 10)) w))) (w2 := w) cl_127 rfl rfl rfl (m_12_7 w v1 (v2 - (kI 10))) ?_
      refine EV.ret cl_127 rfl rfl rfl ?_
      exact ⟨_, rfl, rfl, H⟩
  · skip
    rw [if_pos h1] at H
    refine EV.steps cl_127 1 (q2 := (12, [some (.ref 0), some (.int v1), some (.int v2)], [.int (kI (-1))], SH, w)) rfl ?_
    refine EV.ret cl_127 rfl rfl rfl ?_
    exact ⟨_, rfl, rfl, H⟩
theorem t128_0_at0 {X : Scr} {d : Nat} {Q : Int32 → Wd → Prop} (w : Wd) (v1 : Int32) (v2 : Int32) (v3 : Int32)
    (H : (if (F_51_3 v1 w) = 0 then Q (kI (-1)) w else (if (F_153 v2 (kI 0) (kI 999) w) = 0 then Q (kI (-1)) w else (if (F_153 v3 (kI 0) (kI 3) w) = 0 then Q (kI (-1)) w else CU X (d + 2) 91 [.ref 89, .int v2, .int v3] w (fun w1 => Q (F_90_89 v1 w1) w1))))) : EI X (d + 2) 128 (0, [some (.ref 0), some (.int v1), some (.int v2), some (.int v3)], [], SH, w) Q := by
  unfold EI
  refine EV.steps cl_128 3 (q2 := (5, [some (.ref 0), some (.int v1), some (.int v2), some (.int v3)], [.int v1, .ref 3], SH, w)) rfl ?_
  refine EV.callF (kc := 51) (av := [.ref 3, .int v1]) (r := []) (rv := some (.int (F_51_3 v1 w))) (w2 := w) cl_128 rfl rfl rfl (m_51_3 w v1) ?_
  refine EV.z_eq cl_128 rfl (fun h1 => ?_) (fun h1 => ?_)
  · skip
    rw [if_pos h1] at H
    refine EV.steps cl_128 1 (q2 := (32, [some (.ref 0), some (.int v1), some (.int v2), some (.int v3)], [.int (kI (-1))], SH, w)) rfl ?_
    refine EV.ret cl_128 rfl rfl rfl ?_
    exact ⟨_, rfl, rfl, H⟩
  · skip
    rw [if_neg h1] at H
    refine EV.steps cl_128 3 (q2 := (16, [some (.ref 0), some (.int v1), some (.int v2), some (.int v3)], [.int (kI 999), .int (kI 0), .int v2], SH, w)) rfl ?_
    refine EV.callF (kc := 153) (av := [.int v2, .int (kI 0), .int (kI 999)]) (r := []) (rv := some (.int (F_153 v2 (kI 0) (kI 999) w))) (w2 := w) cl_128 rfl rfl rfl (m_153 w v2 (kI 0) (kI 999)) ?_
    refine EV.z_eq cl_128 rfl (fun h2 => ?_) (fun h2 => ?_)
    · skip
      rw [if_pos h2] at H
      refine EV.steps cl_128 1 (q2 := (32, [some (.ref 0), some (.int v1), some (.int v2), some (.int v3)], [.int (kI (-1))], SH, w)) rfl ?_
      refine EV.ret cl_128 rfl rfl rfl ?_
      exact ⟨_, rfl, rfl, H⟩
    · skip
      rw [if_neg h2] at H
      refine EV.steps cl_128 3 (q2 := (25, [some (.ref 0), some (.int v1), some (.int v2), some (.int v3)], [.int (kI 3), .int (kI 0), .int v3], SH, w)) rfl ?_
      refine EV.callF (kc := 153) (av := [.int v3, .int (kI 0), .int (kI 3)]) (r := []) (rv := some (.int (F_153 v3 (kI 0) (kI 3) w))) (w2 := w) cl_128 rfl rfl rfl (m_153 w v3 (kI 0) (kI 3)) ?_
      refine EV.z_ne cl_128 rfl (fun h3 => ?_) (fun h3 => ?_)
      · skip
        rw [if_neg h3] at H
        refine EV.steps cl_128 4 (q2 := (39, [some (.ref 0), some (.int v1), some (.int v2), some (.int v3)], [.int v3, .int v2, .ref 89], SH, w)) rfl ?_
        refine EV.call (kc := 91) (av := [.ref 89, .int v2, .int v3]) (r := []) cl_128 rfl rfl rfl H ?_
        clear H; intro y1 s1 w1 e1
        obtain ⟨rfl, rfl, H⟩ := e1
        refine EV.steps cl_128 3 (q2 := (47, [some (.ref 0), some (.int v1), some (.int v2), some (.int v3)], [.int v1, .ref 89], SH, w1)) rfl ?_
        refine EV.callF (kc := 90) (av := [.ref 89, .int v1]) (r := []) (rv := some (.int (F_90_89 v1 w1))) (w2 := w1) cl_128 rfl rfl rfl (m_90_89 w1 v1) ?_
        refine EV.ret cl_128 rfl rfl rfl ?_
        exact ⟨_, rfl, rfl, H⟩
      · skip
        rw [if_pos h3] at H
        refine EV.steps cl_128 1 (q2 := (32, [some (.ref 0), some (.int v1), some (.int v2), some (.int v3)], [.int (kI (-1))], SH, w)) rfl ?_
        refine EV.ret cl_128 rfl rfl rfl ?_
        exact ⟨_, rfl, rfl, H⟩
theorem t129_0_at0 {X : Scr} {d : Nat} {Q : Int32 → Wd → Prop} (w : Wd) (v1 : Int32) (v2 : Int32)
    (H : (if (F_153 v1 (kI 0) (kI 3) w) = 0 then Q (kI (-1)) w else (if (F_153 v2 (kI 0) (kI 1) w) = 0 then Q (kI (-1)) w else CI X (d + 1) 96 [.ref 89, .int v1] w (fun x1 w1 => (if x1 = 0 then Q (kI (-2)) w1 else (if v2 = 0 then Q (w1 89 6) w1 else Q (w1 89 7) w1)))))) : EI X (d + 1) 129 (0, [some (.ref 0), some (.int v1), some (.int v2)], [], SH, w) Q := by
  unfold EI
  refine EV.steps cl_129 3 (q2 := (3, [some (.ref 0), some (.int v1), some (.int v2)], [.int (kI 3), .int (kI 0), .int v1], SH, w)) rfl ?_
  refine EV.callF (kc := 153) (av := [.int v1, .int (kI 0), .int (kI 3)]) (r := []) (rv := some (.int (F_153 v1 (kI 0) (kI 3) w))) (w2 := w) cl_129 rfl rfl rfl (m_153 w v1 (kI 0) (kI 3)) ?_
  refine EV.z_eq cl_129 rfl (fun h1 => ?_) (fun h1 => ?_)
  · skip
    rw [if_pos h1] at H
    refine EV.steps cl_129 1 (q2 := (19, [some (.ref 0), some (.int v1), some (.int v2)], [.int (kI (-1))], SH, w)) rfl ?_
    refine EV.ret cl_129 rfl rfl rfl ?_
    exact ⟨_, rfl, rfl, H⟩
  · skip
    rw [if_neg h1] at H
    refine EV.steps cl_129 3 (q2 := (12, [some (.ref 0), some (.int v1), some (.int v2)], [.int (kI 1), .int (kI 0), .int v2], SH, w)) rfl ?_
    refine EV.callF (kc := 153) (av := [.int v2, .int (kI 0), .int (kI 1)]) (r := []) (rv := some (.int (F_153 v2 (kI 0) (kI 1) w))) (w2 := w) cl_129 rfl rfl rfl (m_153 w v2 (kI 0) (kI 1)) ?_
    refine EV.z_ne cl_129 rfl (fun h2 => ?_) (fun h2 => ?_)
    · skip
      rw [if_neg h2] at H
      refine EV.steps cl_129 3 (q2 := (25, [some (.ref 0), some (.int v1), some (.int v2)], [.int v1, .ref 89], SH, w)) rfl ?_
      refine EV.call (kc := 96) (av := [.ref 89, .int v1]) (r := []) cl_129 rfl rfl rfl H ?_
      clear H; intro y1 s1 w1 e1
      obtain ⟨x1, rfl, rfl, H⟩ := e1
      refine EV.z_ne cl_129 rfl (fun h3 => ?_) (fun h3 => ?_)
      · skip
        rw [if_neg h3] at H
        refine EV.steps cl_129 1 (q2 := (35, [some (.ref 0), some (.int v1), some (.int v2)], [.int v2], SH, w1)) rfl ?_
        refine EV.z_ne cl_129 rfl (fun h4 => ?_) (fun h4 => ?_)
        · skip
          rw [if_neg h4] at H
          refine EV.steps cl_129 3 (q2 := (55, [some (.ref 0), some (.int v1), some (.int v2)], [.int (w1 89 7)], SH, w1)) rfl ?_
          refine EV.ret cl_129 rfl rfl rfl ?_
          exact ⟨_, rfl, rfl, H⟩
        · skip
          rw [if_pos h4] at H
          refine EV.steps cl_129 4 (q2 := (55, [some (.ref 0), some (.int v1), some (.int v2)], [.int (w1 89 6)], SH, w1)) rfl ?_
          refine EV.ret cl_129 rfl rfl rfl ?_
          exact ⟨_, rfl, rfl, H⟩
      · skip
        rw [if_pos h3] at H
        refine EV.steps cl_129 1 (q2 := (33, [some (.ref 0), some (.int v1), some (.int v2)], [.int (kI (-2))], SH, w1)) rfl ?_
        refine EV.ret cl_129 rfl rfl rfl ?_
        exact ⟨_, rfl, rfl, H⟩
    · skip
      rw [if_pos h2] at H
      refine EV.steps cl_129 1 (q2 := (19, [some (.ref 0), some (.int v1), some (.int v2)], [.int (kI (-1))], SH, w)) rfl ?_
      refine EV.ret cl_129 rfl rfl rfl ?_
      exact ⟨_, rfl, rfl, H⟩
theorem t130_0_at0 {X : Scr} {d : Nat} {Q : Int32 → Wd → Prop} (w : Wd) (v1 : Int32) (v2 : Int32)
    (H : (if (F_153 v1 (kI 0) (kI 999) w) = 0 then Q (kI (-1)) w else (if (F_153 v2 (kI 0) (kI 3) w) = 0 then Q (kI (-1)) w else CU X (d + 1) 91 [.ref 89, .int v1, .int v2] w (fun w1 => CI X (d + 1) 97 [.ref 89, .int v1] w1 (fun x2 w2 => Q x2 w2))))) : EI X (d + 1) 130 (0, [some (.ref 0), some (.int v1), some (.int v2)], [], SH, w) Q := by
  unfold EI
  refine EV.steps cl_130 3 (q2 := (5, [some (.ref 0), some (.int v1), some (.int v2)], [.int (kI 999), .int (kI 0), .int v1], SH, w)) rfl ?_
  refine EV.callF (kc := 153) (av := [.int v1, .int (kI 0), .int (kI 999)]) (r := []) (rv := some (.int (F_153 v1 (kI 0) (kI 999) w))) (w2 := w) cl_130 rfl rfl rfl (m_153 w v1 (kI 0) (kI 999)) ?_
  refine EV.z_eq cl_130 rfl (fun h1 => ?_) (fun h1 => ?_)
  · skip
    rw [if_pos h1] at H
    refine EV.steps cl_130 1 (q2 := (21, [some (.ref 0), some (.int v1), some (.int v2)], [.int (kI (-1))], SH, w)) rfl ?_
    refine EV.ret cl_130 rfl rfl rfl ?_
    exact ⟨_, rfl, rfl, H⟩
  · skip
    rw [if_neg h1] at H
    refine EV.steps cl_130 3 (q2 := (14, [some (.ref 0), some (.int v1), some (.int v2)], [.int (kI 3), .int (kI 0), .int v2], SH, w)) rfl ?_
    refine EV.callF (kc := 153) (av := [.int v2, .int (kI 0), .int (kI 3)]) (r := []) (rv := some (.int (F_153 v2 (kI 0) (kI 3) w))) (w2 := w) cl_130 rfl rfl rfl (m_153 w v2 (kI 0) (kI 3)) ?_
    refine EV.z_ne cl_130 rfl (fun h2 => ?_) (fun h2 => ?_)
    · skip
      rw [if_neg h2] at H
      refine EV.steps cl_130 4 (q2 := (28, [some (.ref 0), some (.int v1), some (.int v2)], [.int v2, .int v1, .ref 89], SH, w)) rfl ?_
      refine EV.call (kc := 91) (av := [.ref 89, .int v1, .int v2]) (r := []) cl_130 rfl rfl rfl H ?_
      clear H; intro y1 s1 w1 e1
      obtain ⟨rfl, rfl, H⟩ := e1
      refine EV.steps cl_130 3 (q2 := (36, [some (.ref 0), some (.int v1), some (.int v2)], [.int v1, .ref 89], SH, w1)) rfl ?_
      refine EV.call (kc := 97) (av := [.ref 89, .int v1]) (r := []) cl_130 rfl rfl rfl H ?_
      clear H; intro y2 s2 w2 e2
      obtain ⟨x2, rfl, rfl, H⟩ := e2
      refine EV.ret cl_130 rfl rfl rfl ?_
      exact ⟨_, rfl, rfl, H⟩
    · skip
      rw [if_pos h2] at H
      refine EV.steps cl_130 1 (q2 := (21, [some (.ref 0), some (.int v1), some (.int v2)], [.int (kI (-1))], SH, w)) rfl ?_
      refine EV.ret cl_130 rfl rfl rfl ?_
      exact ⟨_, rfl, rfl, H⟩
theorem t131_0_at0 {X : Scr} {d : Nat} {Q : Int32 → Wd → Prop} (w : Wd) (v1 : Int32)
    (H : (if v1 = (kI 100) then CI X (d + 3) 60 [.ref 3] w (fun x1 w1 => Q x1 w1) else (if (F_51_3 v1 w) = 0 then Q (kI (-1)) w else Q (F_59_3 v1 w) w))) : EI X (d + 3) 131 (0, [some (.ref 0), some (.int v1)], [], SH, w) Q := by
  unfold EI
  refine EV.steps cl_131 2 (q2 := (3, [some (.ref 0), some (.int v1)], [.int (kI 100), .int v1], SH, w)) rfl ?_
  refine EV.i_ne cl_131 rfl (fun h1 => ?_) (fun h1 => ?_)
  · skip
    rw [if_neg h1] at H
    refine EV.steps cl_131 3 (q2 := (19, [some (.ref 0), some (.int v1)], [.int v1, .ref 3], SH, w)) rfl ?_
    refine EV.callF (kc := 51) (av := [.ref 3, .int v1]) (r := []) (rv := some (.int (F_51_3 v1 w))) (w2 := w) cl_131 rfl rfl rfl (m_51_3 w v1) ?_
    refine EV.z_eq cl_131 rfl (fun h2 => ?_) (fun h2 => ?_)
    · skip
      rw [if_pos h2] at H
      refine EV.steps cl_131 1 (q2 := (37, [some (.ref 0), some (.int v1)], [.int (kI (-1))], SH, w)) rfl ?_
      refine EV.ret cl_131 rfl rfl rfl ?_
      exact ⟨_, rfl, rfl, H⟩
    · skip
      rw [if_neg h2] at H
      refine EV.steps cl_131 3 (q2 := (30, [some (.ref 0), some (.int v1)], [.int v1, .ref 3], SH, w)) rfl ?_
      refine EV.callF (kc := 59) (av := [.ref 3, .int v1]) (r := []) (rv := some (.int (F_59_3 v1 w))) (w2 := w) cl_131 rfl rfl rfl (m_59_3 w v1) ?_
      refine EV.steps cl_131 1 (q2 := (37, [some (.ref 0), some (.int v1)], [.int (F_59_3 v1 w)], SH, w)) rfl ?_
      refine EV.ret cl_131 rfl rfl rfl ?_
      exact ⟨_, rfl, rfl, H⟩
  · skip
    rw [if_pos h1] at H
    refine EV.steps cl_131 2 (q2 := (10, [some (.ref 0), some (.int v1)], [.ref 3], SH, w)) rfl ?_
    refine EV.call (kc := 60) (av := [.ref 3]) (r := []) cl_131 rfl rfl rfl H ?_
    clear H; intro y1 s1 w1 e1
    obtain ⟨x1, rfl, rfl, H⟩ := e1
    refine EV.ret cl_131 rfl rfl rfl ?_
    exact ⟨_, rfl, rfl, H⟩
theorem t132_0_at0 {X : Scr} {d : Nat} {Q : Int32 → Wd → Prop} (w : Wd) (v1 : Int32) (v2 : Int32) (v3 : Int32) (v4 : Int32)
    (H : (if (F_155 v1 (w 3 3) (kI 4) w) = 0 then Q (kI (-1)) w else (if (F_155 v2 (w 3 4) (kI 3) w) = 0 then Q (kI (-1)) w else (if (F_153 v3 (kI 2) (kI 50) w) = 0 then Q (kI (-1)) w else (if (F_153 v4 (kI 0) (kI 1) w) = 0 then Q (kI (-1)) w else CI X (d + 2) 32 [.ref 95, .ref 7, .int v1, .int v2, .int v3] w (fun x1 w1 => (if x1 = 0 then Q (kI (-2)) w1 else (if v4 = 0 then Q (w1 95 8) w1 else Q (w1 95 9) w1)))))))) : EI X (d + 2) 132 (0, [some (.ref 0), some (.int v1), some (.int v2), some (.int v3), some (.int v4)], [], SH, w) Q := by
  unfold EI
  refine EV.steps cl_132 5 (q2 := (9, [some (.ref 0), some (.int v1), some (.int v2), some (.int v3), some (.int v4)], [.int (kI 4), .int (w 3 3), .int v1], SH, w)) rfl ?_
  refine EV.callF (kc := 155) (av := [.int v1, .int (w 3 3), .int (kI 4)]) (r := []) (rv := some (.int (F_155 v1 (w 3 3) (kI 4) w))) (w2 := w) cl_132 rfl rfl rfl (m_155 w v1 (w 3 3) (kI 4)) ?_
  refine EV.z_eq cl_132 rfl (fun h1 => ?_) (fun h1 => ?_)
  · skip
    rw [if_pos h1] at H
    refine EV.steps cl_132 1 (q2 := (31, [some (.ref 0), some (.int v1), some (.int v2), some (.int v3), some (.int v4)], [.int (kI (-1))], SH, w)) rfl ?_
    refine EV.ret cl_132 rfl rfl rfl ?_
    exact ⟨_, rfl, rfl, H⟩
  · skip
    rw [if_neg h1] at H
    refine EV.steps cl_132 5 (q2 := (24, [some (.ref 0), some (.int v1), some (.int v2), some (.int v3), some (.int v4)], [.int (kI 3), .int (w 3 4), .int v2], SH, w)) rfl ?_
    refine EV.callF (kc := 155) (av := [.int v2, .int (w 3 4), .int (kI 3)]) (r := []) (rv := some (.int (F_155 v2 (w 3 4) (kI 3) w))) (w2 := w) cl_132 rfl rfl rfl (m_155 w v2 (w 3 4) (kI 3)) ?_
    refine EV.z_ne cl_132 rfl (fun h2 => ?_) (fun h2 => ?_)
    · skip
      rw [if_neg h2] at H
      refine EV.steps cl_132 3 (q2 := (36, [some (.ref 0), some (.int v1), some (.int v2), some (.int v3), some (.int v4)], [.int (kI 50), .int (kI 2), .int v3], SH, w)) rfl ?_
      refine EV.callF (kc := 153) (av := [.int v3, .int (kI 2), .int (kI 50)]) (r := []) (rv := some (.int (F_153 v3 (kI 2) (kI 50) w))) (w2 := w) cl_132 rfl rfl rfl (m_153 w v3 (kI 2) (kI 50)) ?_
      refine EV.z_eq cl_132 rfl (fun h3 => ?_) (fun h3 => ?_)
      · skip
        rw [if_pos h3] at H
        refine EV.steps cl_132 1 (q2 := (53, [some (.ref 0), some (.int v1), some (.int v2), some (.int v3), some (.int v4)], [.int (kI (-1))], SH, w)) rfl ?_
        refine EV.ret cl_132 rfl rfl rfl ?_
        exact ⟨_, rfl, rfl, H⟩
      · skip
        rw [if_neg h3] at H
        refine EV.steps cl_132 3 (q2 := (46, [some (.ref 0), some (.int v1), some (.int v2), some (.int v3), some (.int v4)], [.int (kI 1), .int (kI 0), .int v4], SH, w)) rfl ?_
        refine EV.callF (kc := 153) (av := [.int v4, .int (kI 0), .int (kI 1)]) (r := []) (rv := some (.int (F_153 v4 (kI 0) (kI 1) w))) (w2 := w) cl_132 rfl rfl rfl (m_153 w v4 (kI 0) (kI 1)) ?_
        refine EV.z_ne cl_132 rfl (fun h4 => ?_) (fun h4 => ?_)
        · skip
          rw [if_neg h4] at H
          refine EV.steps cl_132 7 (q2 := (65, [some (.ref 0), some (.int v1), some (.int v2), some (.int v3), some (.int v4)], [.int v3, .int v2, .int v1, .ref 7, .ref 95], SH, w)) rfl ?_
          refine EV.call (kc := 32) (av := [.ref 95, .ref 7, .int v1, .int v2, .int v3]) (r := []) cl_132 rfl rfl rfl H ?_
          clear H; intro y1 s1 w1 e1
          obtain ⟨x1, rfl, rfl, H⟩ := e1
          refine EV.z_ne cl_132 rfl (fun h5 => ?_) (fun h5 => ?_)
          · skip
            rw [if_neg h5] at H
            refine EV.steps cl_132 1 (q2 := (76, [some (.ref 0), some (.int v1), some (.int v2), some (.int v3), some (.int v4)], [.int v4], SH, w1)) rfl ?_
            refine EV.z_ne cl_132 rfl (fun h6 => ?_) (fun h6 => ?_)
            · skip
              rw [if_neg h6] at H
              refine EV.steps cl_132 3 (q2 := (96, [some (.ref 0), some (.int v1), some (.int v2), some (.int v3), some (.int v4)], [.int (w1 95 9)], SH, w1)) rfl ?_
              refine EV.ret cl_132 rfl rfl rfl ?_
              exact ⟨_, rfl, rfl, H⟩
            · skip
              rw [if_pos h6] at H
              refine EV.steps cl_132 4 (q2 := (96, [some (.ref 0), some (.int v1), some (.int v2), some (.int v3), some (.int v4)], [.int (w1 95 8)], SH, w1)) rfl ?_
              refine EV.ret cl_132 rfl rfl rfl ?_
              exact ⟨_, rfl, rfl, H⟩
          · skip
            rw [if_pos h5] at H
            refine EV.steps cl_132 1 (q2 := (73, [some (.ref 0), some (.int v1), some (.int v2), some (.int v3), some (.int v4)], [.int (kI (-2))], SH, w1)) rfl ?_
            refine EV.ret cl_132 rfl rfl rfl ?_
            exact ⟨_, rfl, rfl, H⟩
        · skip
          rw [if_pos h4] at H
          refine EV.steps cl_132 1 (q2 := (53, [some (.ref 0), some (.int v1), some (.int v2), some (.int v3), some (.int v4)], [.int (kI (-1))], SH, w)) rfl ?_
          refine EV.ret cl_132 rfl rfl rfl ?_
          exact ⟨_, rfl, rfl, H⟩
    · skip
      rw [if_pos h2] at H
      refine EV.steps cl_132 1 (q2 := (31, [some (.ref 0), some (.int v1), some (.int v2), some (.int v3), some (.int v4)], [.int (kI (-1))], SH, w)) rfl ?_
      refine EV.ret cl_132 rfl rfl rfl ?_
      exact ⟨_, rfl, rfl, H⟩
theorem t133_0_at0 {X : Scr} {d : Nat} {Q : Int32 → Wd → Prop} (w : Wd) (v1 : Int32) (v2 : Int32)
    (H : (if (F_52_3 v1 w) = 0 then Q (kI (-1)) w else (if (F_153 v2 (kI 0) (kI 2) w) = 0 then Q (kI (-1)) w else CU X (d + 2) 98 [.ref 89, .ref 7, .int v1] w (fun w1 => (if v2 = (kI 0) then CI X (d + 2) 99 [.ref 89] w1 (fun x2 w2 => Q x2 w2) else (if v2 = (kI 1) then CI X (d + 2) 100 [.ref 89] w1 (fun x3 w3 => Q x3 w3) else CI X (d + 2) 101 [.ref 89] w1 (fun x4 w4 => Q x4 w4))))))) : EI X (d + 2) 133 (0, [some (.ref 0), some (.int v1), some (.int v2)], [], SH, w) Q := by
  unfold EI
  refine EV.steps cl_133 3 (q2 := (5, [some (.ref 0), some (.int v1), some (.int v2)], [.int v1, .ref 3], SH, w)) rfl ?_
  refine EV.callF (kc := 52) (av := [.ref 3, .int v1]) (r := []) (rv := some (.int (F_52_3 v1 w))) (w2 := w) cl_133 rfl rfl rfl (m_52_3 w v1) ?_
  refine EV.z_eq cl_133 rfl (fun h1 => ?_) (fun h1 => ?_)
  · skip
    rw [if_pos h1] at H
    refine EV.steps cl_133 1 (q2 := (21, [some (.ref 0), some (.int v1), some (.int v2)], [.int (kI (-1))], SH, w)) rfl ?_
    refine EV.ret cl_133 rfl rfl rfl ?_
    exact ⟨_, rfl, rfl, H⟩
  · skip
    rw [if_neg h1] at H
    refine EV.steps cl_133 3 (q2 := (14, [some (.ref 0), some (.int v1), some (.int v2)], [.int (kI 2), .int (kI 0), .int v2], SH, w)) rfl ?_
    refine EV.callF (kc := 153) (av := [.int v2, .int (kI 0), .int (kI 2)]) (r := []) (rv := some (.int (F_153 v2 (kI 0) (kI 2) w))) (w2 := w) cl_133 rfl rfl rfl (m_153 w v2 (kI 0) (kI 2)) ?_
    refine EV.z_ne cl_133 rfl (fun h2 => ?_) (fun h2 => ?_)
    · skip
      rw [if_neg h2] at H
      refine EV.steps cl_133 5 (q2 := (31, [some (.ref 0), some (.int v1), some (.int v2)], [.int v1, .ref 7, .ref 89], SH, w)) rfl ?_
      refine EV.call (kc := 98) (av := [.ref 89, .ref 7, .int v1]) (r := []) cl_133 rfl rfl rfl H ?_
      clear H; intro y1 s1 w1 e1
      obtain ⟨rfl, rfl, H⟩ := e1
      refine EV.steps cl_133 1 (q2 := (35, [some (.ref 0), some (.int v1), some (.int v2)], [.int v2], SH, w1)) rfl ?_
      by_cases h3 : v2 = (kI 0)
      · refine EV.swEq (e := (kI 0)) cl_133 rfl rfl h3 rfl ?_
        rw [if_pos h3] at H
        refine EV.steps cl_133 2 (q2 := (64, [some (.ref 0), some (.int v1), some (.int v2)], [.ref 89], SH, w1)) rfl ?_
        refine EV.call (kc := 99) (av := [.ref 89]) (r := []) cl_133 rfl rfl rfl H ?_
        clear H; intro y2 s2 w2 e2
        obtain ⟨x2, rfl, rfl, H⟩ := e2
        refine EV.ret cl_133 rfl rfl rfl ?_
        exact ⟨_, rfl, rfl, H⟩
      rw [if_neg h3] at H
      by_cases h4 : v2 = (kI 1)
      · refine EV.swEq (e := (kI 1)) cl_133 rfl rfl h4 rfl ?_
        rw [if_pos h4] at H
        refine EV.steps cl_133 2 (q2 := (72, [some (.ref 0), some (.int v1), some (.int v2)], [.ref 89], SH, w1)) rfl ?_
        refine EV.call (kc := 100) (av := [.ref 89]) (r := []) cl_133 rfl rfl rfl H ?_
        clear H; intro y3 s3 w3 e3
        obtain ⟨x3, rfl, rfl, H⟩ := e3
        refine EV.ret cl_133 rfl rfl rfl ?_
        exact ⟨_, rfl, rfl, H⟩
      rw [if_neg h4] at H
      refine EV.swL cl_133 rfl (by intro q hq; simp only [List.mem_cons, List.not_mem_nil, or_false] at hq; rcases hq with rfl | rfl <;> first | exact fun e => sw_ne h3 (by decide) e.symm | exact fun e => sw_ne h4 (by decide) e.symm) ?_
      refine EV.steps cl_133 2 (q2 := (80, [some (.ref 0), some (.int v1), some (.int v2)], [.ref 89], SH, w1)) rfl ?_
      refine EV.call (kc := 101) (av := [.ref 89]) (r := []) cl_133 rfl rfl rfl H ?_
      clear H; intro y4 s4 w4 e4
      obtain ⟨x4, rfl, rfl, H⟩ := e4
      refine EV.ret cl_133 rfl rfl rfl ?_
      exact ⟨_, rfl, rfl, H⟩
    · skip
      rw [if_pos h2] at H
      refine EV.steps cl_133 1 (q2 := (21, [some (.ref 0), some (.int v1), some (.int v2)], [.int (kI (-1))], SH, w)) rfl ?_
      refine EV.ret cl_133 rfl rfl rfl ?_
      exact ⟨_, rfl, rfl, H⟩
theorem t134_0_at0 {X : Scr} {d : Nat} {Q : Int32 → Wd → Prop} (w : Wd) (v1 : Int32)
    (H : (if (F_153 v1 (kI 0) (kI 2) w) = 0 then Q (kI (-1)) w else EI X (d + 2) 134 (13, [some (.ref 0), some (.int v1), some (.int (kI 0))], [], SH, w) Q)) : EI X (d + 2) 134 (0, [some (.ref 0), some (.int v1), none], [], SH, w) Q := by
  unfold EI
  refine EV.steps cl_134 3 (q2 := (3, [some (.ref 0), some (.int v1), none], [.int (kI 2), .int (kI 0), .int v1], SH, w)) rfl ?_
  refine EV.callF (kc := 153) (av := [.int v1, .int (kI 0), .int (kI 2)]) (r := []) (rv := some (.int (F_153 v1 (kI 0) (kI 2) w))) (w2 := w) cl_134 rfl rfl rfl (m_153 w v1 (kI 0) (kI 2)) ?_
  refine EV.z_ne cl_134 rfl (fun h1 => ?_) (fun h1 => ?_)
  · skip
    rw [if_neg h1] at H
    refine EV.steps cl_134 2 (q2 := (13, [some (.ref 0), some (.int v1), some (.int (kI 0))], [], SH, w)) rfl ?_
    exact H
  · skip
    rw [if_pos h1] at H
    refine EV.steps cl_134 1 (q2 := (10, [some (.ref 0), some (.int v1), none], [.int (kI (-1))], SH, w)) rfl ?_
    refine EV.ret cl_134 rfl rfl rfl ?_
    exact ⟨_, rfl, rfl, H⟩
theorem t134_0_at13 {X : Scr} {d : Nat} {Q : Int32 → Wd → Prop} (w : Wd) (v1 : Int32) (v2 : Int32)
    (H : (if (kI 6) ≤ v2 then CU X (d + 2) 25 [.ref 87, .int (w 7 6)] w (fun w1 => (if v1 = (kI 0) then Q (F_259 (w1 87 7) w1) w1 else (if v1 = (kI 1) then Q (w1 87 7) w1 else Q (w1 87 8) w1))) else (if (F_52_3 v2 (G_10_17_7 w)) = 0 then (inB v2 6 = true ∧ EI X (d + 2) 134 (13, [some (.ref 0), some (.int v1), some (.int (v2 + (kI 1)))], [], SH, (up2 (G_10_17_7 w) 88 v2.toNatClampNeg (kI (-2)))) Q) else CI X (d + 2) 24 [.ref 87, .ref 17, .int v2] (G_10_17_7 w) (fun x2 w2 => (inB v2 6 = true ∧ EI X (d + 2) 134 (13, [some (.ref 0), some (.int v1), some (.int (v2 + (kI 1)))], [], SH, (up2 w2 88 v2.toNatClampNeg x2)) Q))))) : EI X (d + 2) 134 (13, [some (.ref 0), some (.int v1), some (.int v2)], [], SH, w) Q := by
  unfold EI
  refine EV.steps cl_134 2 (q2 := (16, [some (.ref 0), some (.int v1), some (.int v2)], [.int (kI 6), .int v2], SH, w)) rfl ?_
  refine EV.i_ge cl_134 rfl (fun h1 => ?_) (fun h1 => ?_)
  · skip
    rw [if_pos h1] at H
    refine EV.steps cl_134 5 (q2 := (84, [some (.ref 0), some (.int v1), some (.int v2)], [.int (w 7 6), .ref 87], SH, w)) rfl ?_
    refine EV.call (kc := 25) (av := [.ref 87, .int (w 7 6)]) (r := []) cl_134 rfl rfl rfl H ?_
    clear H; intro y1 s1 w1 e1
    obtain ⟨rfl, rfl, H⟩ := e1
    refine EV.steps cl_134 1 (q2 := (88, [some (.ref 0), some (.int v1), some (.int v2)], [.int v1], SH, w1)) rfl ?_
    by_cases h2 : v1 = (kI 0)
    · refine EV.swEq (e := (kI 0)) cl_134 rfl rfl h2 rfl ?_
      rw [if_pos h2] at H
      refine EV.steps cl_134 3 (q2 := (123, [some (.ref 0), some (.int v1), some (.int v2)], [.int (w1 87 7)], SH, w1)) rfl ?_
      refine EV.callF (kc := 259) (av := [.int (w1 87 7)]) (r := []) (rv := some (.int (F_259 (w1 87 7) w1))) (w2 := w1) cl_134 rfl rfl rfl (m_259 w1 (w1 87 7)) ?_
      refine EV.ret cl_134 rfl rfl rfl ?_
      exact ⟨_, rfl, rfl, H⟩
    rw [if_neg h2] at H
    by_cases h3 : v1 = (kI 1)
    · refine EV.swEq (e := (kI 1)) cl_134 rfl rfl h3 rfl ?_
      rw [if_pos h3] at H
      refine EV.steps cl_134 3 (q2 := (134, [some (.ref 0), some (.int v1), some (.int v2)], [.int (w1 87 7)], SH, w1)) rfl ?_
      refine EV.ret cl_134 rfl rfl rfl ?_
      exact ⟨_, rfl, rfl, H⟩
    rw [if_neg h3] at H
    refine EV.swL cl_134 rfl (by intro q hq; simp only [List.mem_cons, List.not_mem_nil, or_false] at hq; rcases hq with rfl | rfl <;> first | exact fun e => sw_ne h2 (by decide) e.symm | exact fun e => sw_ne h3 (by decide) e.symm) ?_
    refine EV.steps cl_134 3 (q2 := (142, [some (.ref 0), some (.int v1), some (.int v2)], [.int (w1 87 8)], SH, w1)) rfl ?_
    refine EV.ret cl_134 rfl rfl rfl ?_
    exact ⟨_, rfl, rfl, H⟩
  · skip
    rw [if_neg h1] at H
    refine EV.steps cl_134 4 (q2 := (27, [some (.ref 0), some (.int v1), some (.int v2)], [.ref 7, .ref 17], SH, w)) rfl ?_
    refine EV.callF (kc := 10) (av := [.ref 17, .ref 7]) (r := []) (rv := none) (w2 := (G_10_17_7 w)) cl_134 rfl rfl rfl (m_10_17_7 w ) ?_
    refine EV.steps cl_134 7 (q2 := (43, [some (.ref 0), some (.int v1), some (.int v2)], [.int v2, .ref 3, .int v2, .ref 88], SH, (G_10_17_7 w))) rfl ?_
    refine EV.callF (kc := 52) (av := [.ref 3, .int v2]) (r := [.int v2, .ref 88]) (rv := some (.int (F_52_3 v2 (G_10_17_7 w)))) (w2 := (G_10_17_7 w)) cl_134 rfl rfl rfl (m_52_3 (G_10_17_7 w) v2) ?_
    refine EV.z_eq cl_134 rfl (fun h4 => ?_) (fun h4 => ?_)
    · skip
      rw [if_pos h4] at H
      refine EV.steps cl_134 1 (q2 := (66, [some (.ref 0), some (.int v1), some (.int v2)], [.int (kI (-2)), .int v2, .ref 88], SH, (G_10_17_7 w))) rfl ?_
      obtain ⟨j5, H⟩ := H
      refine EV.iastore cl_134 rfl rfl (by decide) j5 ?_
      refine EV.steps cl_134 2 (q2 := (13, [some (.ref 0), some (.int v1), some (.int (v2 + (kI 1)))], [], SH, (up2 (G_10_17_7 w) 88 v2.toNatClampNeg (kI (-2))))) rfl ?_
      exact H
    · skip
      rw [if_neg h4] at H
      refine EV.steps cl_134 5 (q2 := (58, [some (.ref 0), some (.int v1), some (.int v2)], [.int v2, .ref 17, .ref 87, .int v2, .ref 88], SH, (G_10_17_7 w))) rfl ?_
      refine EV.call (kc := 24) (av := [.ref 87, .ref 17, .int v2]) (r := [.int v2, .ref 88]) cl_134 rfl rfl rfl H ?_
      clear H; intro y2 s2 w2 e2
      obtain ⟨x2, rfl, rfl, H⟩ := e2
      refine EV.steps cl_134 1 (q2 := (66, [some (.ref 0), some (.int v1), some (.int v2)], [.int x2, .int v2, .ref 88], SH, w2)) rfl ?_
      obtain ⟨j6, H⟩ := H
      refine EV.iastore cl_134 rfl rfl (by decide) j6 ?_
      refine EV.steps cl_134 2 (q2 := (13, [some (.ref 0), some (.int v1), some (.int (v2 + (kI 1)))], [], SH, (up2 w2 88 v2.toNatClampNeg x2))) rfl ?_
      exact H
theorem t136_0_c0_at0 {X : Scr} {d : Nat} {Q : Int32 → Wd → Prop} (w : Wd) (v2 : Int32)
    (H : (if (F_153 (kI 0) (kI 0) (kI 5) w) = 0 then Q (kI (-1)) w else (if (F_105_1 v2 (kI 1) (kI 80) w) = 0 then Q (kI (-1)) w else CI X (d + 2) 63 [.ref 79, .int v2] w (fun x1 w1 => (if 0 ≤ x1 then (((¬ ((if (Int32.ofNat 80) < (w1 29 6) then (Int32.ofNat 80) else (w1 29 6)) < 0 ∨ (kI 0) < 0 ∨ (kI 0) < 0 ∨ 240 < (kI 0).toNatClampNeg + (if (Int32.ofNat 80) < (w1 29 6) then (Int32.ofNat 80) else (w1 29 6)).toNatClampNeg ∨ 80 < (kI 0).toNatClampNeg + (if (Int32.ofNat 80) < (w1 29 6) then (Int32.ofNat 80) else (w1 29 6)).toNatClampNeg))) ∧ (((¬ (((cp2 (up2 (up2 w1 37 6 (if (Int32.ofNat 80) < (w1 29 6) then (Int32.ofNat 80) else (w1 29 6))) 37 7 (if (Int32.ofNat 1) < (w1 29 7) then (Int32.ofNat 1) else (w1 29 7))) 30 38 (kI 0).toNatClampNeg (kI 0).toNatClampNeg (if (Int32.ofNat 80) < (w1 29 6) then (Int32.ofNat 80) else (w1 29 6)).toNatClampNeg) 37 6) < 0 ∨ (kI 0) < 0 ∨ (kI 0) < 0 ∨ 240 < (kI 0).toNatClampNeg + ((cp2 (up2 (up2 w1 37 6 (if (Int32.ofNat 80) < (w1 29 6) then (Int32.ofNat 80) else (w1 29 6))) 37 7 (if (Int32.ofNat 1) < (w1 29 7) then (Int32.ofNat 1) else (w1 29 7))) 30 38 (kI 0).toNatClampNeg (kI 0).toNatClampNeg (if (Int32.ofNat 80) < (w1 29 6) then (Int32.ofNat 80) else (w1 29 6)).toNatClampNeg) 37 6).toNatClampNeg ∨ 80 < (kI 0).toNatClampNeg + ((cp2 (up2 (up2 w1 37 6 (if (Int32.ofNat 80) < (w1 29 6) then (Int32.ofNat 80) else (w1 29 6))) 37 7 (if (Int32.ofNat 1) < (w1 29 7) then (Int32.ofNat 1) else (w1 29 7))) 30 38 (kI 0).toNatClampNeg (kI 0).toNatClampNeg (if (Int32.ofNat 80) < (w1 29 6) then (Int32.ofNat 80) else (w1 29 6)).toNatClampNeg) 37 6).toNatClampNeg))) ∧ (((¬ (((cp2 (cp2 (up2 (up2 w1 37 6 (if (Int32.ofNat 80) < (w1 29 6) then (Int32.ofNat 80) else (w1 29 6))) 37 7 (if (Int32.ofNat 1) < (w1 29 7) then (Int32.ofNat 1) else (w1 29 7))) 30 38 (kI 0).toNatClampNeg (kI 0).toNatClampNeg (if (Int32.ofNat 80) < (w1 29 6) then (Int32.ofNat 80) else (w1 29 6)).toNatClampNeg) 31 39 (kI 0).toNatClampNeg (kI 0).toNatClampNeg ((cp2 (up2 (up2 w1 37 6 (if (Int32.ofNat 80) < (w1 29 6) then (Int32.ofNat 80) else (w1 29 6))) 37 7 (if (Int32.ofNat 1) < (w1 29 7) then (Int32.ofNat 1) else (w1 29 7))) 30 38 (kI 0).toNatClampNeg (kI 0).toNatClampNeg (if (Int32.ofNat 80) < (w1 29 6) then (Int32.ofNat 80) else (w1 29 6)).toNatClampNeg) 37 6).toNatClampNeg) 37 7) < 0 ∨ (kI 0) < 0 ∨ (kI 0) < 0 ∨ 16 < (kI 0).toNatClampNeg + ((cp2 (cp2 (up2 (up2 w1 37 6 (if (Int32.ofNat 80) < (w1 29 6) then (Int32.ofNat 80) else (w1 29 6))) 37 7 (if (Int32.ofNat 1) < (w1 29 7) then (Int32.ofNat 1) else (w1 29 7))) 30 38 (kI 0).toNatClampNeg (kI 0).toNatClampNeg (if (Int32.ofNat 80) < (w1 29 6) then (Int32.ofNat 80) else (w1 29 6)).toNatClampNeg) 31 39 (kI 0).toNatClampNeg (kI 0).toNatClampNeg ((cp2 (up2 (up2 w1 37 6 (if (Int32.ofNat 80) < (w1 29 6) then (Int32.ofNat 80) else (w1 29 6))) 37 7 (if (Int32.ofNat 1) < (w1 29 7) then (Int32.ofNat 1) else (w1 29 7))) 30 38 (kI 0).toNatClampNeg (kI 0).toNatClampNeg (if (Int32.ofNat 80) < (w1 29 6) then (Int32.ofNat 80) else (w1 29 6)).toNatClampNeg) 37 6).toNatClampNeg) 37 7).toNatClampNeg ∨ 1 < (kI 0).toNatClampNeg + ((cp2 (cp2 (up2 (up2 w1 37 6 (if (Int32.ofNat 80) < (w1 29 6) then (Int32.ofNat 80) else (w1 29 6))) 37 7 (if (Int32.ofNat 1) < (w1 29 7) then (Int32.ofNat 1) else (w1 29 7))) 30 38 (kI 0).toNatClampNeg (kI 0).toNatClampNeg (if (Int32.ofNat 80) < (w1 29 6) then (Int32.ofNat 80) else (w1 29 6)).toNatClampNeg) 31 39 (kI 0).toNatClampNeg (kI 0).toNatClampNeg ((cp2 (up2 (up2 w1 37 6 (if (Int32.ofNat 80) < (w1 29 6) then (Int32.ofNat 80) else (w1 29 6))) 37 7 (if (Int32.ofNat 1) < (w1 29 7) then (Int32.ofNat 1) else (w1 29 7))) 30 38 (kI 0).toNatClampNeg (kI 0).toNatClampNeg (if (Int32.ofNat 80) < (w1 29 6) then (Int32.ofNat 80) else (w1 29 6)).toNatClampNeg) 37 6).toNatClampNeg) 37 7).toNatClampNeg))) ∧ (((¬ (((cp2 (cp2 (cp2 (up2 (up2 w1 37 6 (if (Int32.ofNat 80) < (w1 29 6) then (Int32.ofNat 80) else (w1 29 6))) 37 7 (if (Int32.ofNat 1) < (w1 29 7) then (Int32.ofNat 1) else (w1 29 7))) 30 38 (kI 0).toNatClampNeg (kI 0).toNatClampNeg (if (Int32.ofNat 80) < (w1 29 6) then (Int32.ofNat 80) else (w1 29 6)).toNatClampNeg) 31 39 (kI 0).toNatClampNeg (kI 0).toNatClampNeg ((cp2 (up2 (up2 w1 37 6 (if (Int32.ofNat 80) < (w1 29 6) then (Int32.ofNat 80) else (w1 29 6))) 37 7 (if (Int32.ofNat 1) < (w1 29 7) then (Int32.ofNat 1) else (w1 29 7))) 30 38 (kI 0).toNatClampNeg (kI 0).toNatClampNeg (if (Int32.ofNat 80) < (w1 29 6) then (Int32.ofNat 80) else (w1 29 6)).toNatClampNeg) 37 6).toNatClampNeg) 32 40 (kI 0).toNatClampNeg (kI 0).toNatClampNeg ((cp2 (cp2 (up2 (up2 w1 37 6 (if (Int32.ofNat 80) < (w1 29 6) then (Int32.ofNat 80) else (w1 29 6))) 37 7 (if (Int32.ofNat 1) < (w1 29 7) then (Int32.ofNat 1) else (w1 29 7))) 30 38 (kI 0).toNatClampNeg (kI 0).toNatClampNeg (if (Int32.ofNat 80) < (w1 29 6) then (Int32.ofNat 80) else (w1 29 6)).toNatClampNeg) 31 39 (kI 0).toNatClampNeg (kI 0).toNatClampNeg ((cp2 (up2 (up2 w1 37 6 (if (Int32.ofNat 80) < (w1 29 6) then (Int32.ofNat 80) else (w1 29 6))) 37 7 (if (Int32.ofNat 1) < (w1 29 7) then (Int32.ofNat 1) else (w1 29 7))) 30 38 (kI 0).toNatClampNeg (kI 0).toNatClampNeg (if (Int32.ofNat 80) < (w1 29 6) then (Int32.ofNat 80) else (w1 29 6)).toNatClampNeg) 37 6).toNatClampNeg) 37 7).toNatClampNeg) 37 7) < 0 ∨ (kI 0) < 0 ∨ (kI 0) < 0 ∨ 16 < (kI 0).toNatClampNeg + ((cp2 (cp2 (cp2 (up2 (up2 w1 37 6 (if (Int32.ofNat 80) < (w1 29 6) then (Int32.ofNat 80) else (w1 29 6))) 37 7 (if (Int32.ofNat 1) < (w1 29 7) then (Int32.ofNat 1) else (w1 29 7))) 30 38 (kI 0).toNatClampNeg (kI 0).toNatClampNeg (if (Int32.ofNat 80) < (w1 29 6) then (Int32.ofNat 80) else (w1 29 6)).toNatClampNeg) 31 39 (kI 0).toNatClampNeg (kI 0).toNatClampNeg ((cp2 (up2 (up2 w1 37 6 (if (Int32.ofNat 80) < (w1 29 6) then (Int32.ofNat 80) else (w1 29 6))) 37 7 (if (Int32.ofNat 1) < (w1 29 7) then (Int32.ofNat 1) else (w1 29 7))) 30 38 (kI 0).toNatClampNeg (kI 0).toNatClampNeg (if (Int32.ofNat 80) < (w1 29 6) then (Int32.ofNat 80) else (w1 29 6)).toNatClampNeg) 37 6).toNatClampNeg) 32 40 (kI 0).toNatClampNeg (kI 0).toNatClampNeg ((cp2 (cp2 (up2 (up2 w1 37 6 (if (Int32.ofNat 80) < (w1 29 6) then (Int32.ofNat 80) else (w1 29 6))) 37 7 (if (Int32.ofNat 1) < (w1 29 7) then (Int32.ofNat 1) else (w1 29 7))) 30 38 (kI 0).toNatClampNeg (kI 0).toNatClampNeg (if (Int32.ofNat 80) < (w1 29 6) then (Int32.ofNat 80) else (w1 29 6)).toNatClampNeg) 31 39 (kI 0).toNatClampNeg (kI 0).toNatClampNeg ((cp2 (up2 (up2 w1 37 6 (if (Int32.ofNat 80) < (w1 29 6) then (Int32.ofNat 80) else (w1 29 6))) 37 7 (if (Int32.ofNat 1) < (w1 29 7) then (Int32.ofNat 1) else (w1 29 7))) 30 38 (kI 0).toNatClampNeg (kI 0).toNatClampNeg (if (Int32.ofNat 80) < (w1 29 6) then (Int32.ofNat 80) else (w1 29 6)).toNatClampNeg) 37 6).toNatClampNeg) 37 7).toNatClampNeg) 37 7).toNatClampNeg ∨ 1 < (kI 0).toNatClampNeg + ((cp2 (cp2 (cp2 (up2 (up2 w1 37 6 (if (Int32.ofNat 80) < (w1 29 6) then (Int32.ofNat 80) else (w1 29 6))) 37 7 (if (Int32.ofNat 1) < (w1 29 7) then (Int32.ofNat 1) else (w1 29 7))) 30 38 (kI 0).toNatClampNeg (kI 0).toNatClampNeg (if (Int32.ofNat 80) < (w1 29 6) then (Int32.ofNat 80) else (w1 29 6)).toNatClampNeg) 31 39 (kI 0).toNatClampNeg (kI 0).toNatClampNeg ((cp2 (up2 (up2 w1 37 6 (if (Int32.ofNat 80) < (w1 29 6) then (Int32.ofNat 80) else (w1 29 6))) 37 7 (if (Int32.ofNat 1) < (w1 29 7) then (Int32.ofNat 1) else (w1 29 7))) 30 38 (kI 0).toNatClampNeg (kI 0).toNatClampNeg (if (Int32.ofNat 80) < (w1 29 6) then (Int32.ofNat 80) else (w1 29 6)).toNatClampNeg) 37 6).toNatClampNeg) 32 40 (kI 0).toNatClampNeg (kI 0).toNatClampNeg ((cp2 (cp2 (up2 (up2 w1 37 6 (if (Int32.ofNat 80) < (w1 29 6) then (Int32.ofNat 80) else (w1 29 6))) 37 7 (if (Int32.ofNat 1) < (w1 29 7) then (Int32.ofNat 1) else (w1 29 7))) 30 38 (kI 0).toNatClampNeg (kI 0).toNatClampNeg (if (Int32.ofNat 80) < (w1 29 6) then (Int32.ofNat 80) else (w1 29 6)).toNatClampNeg) 31 39 (kI 0).toNatClampNeg (kI 0).toNatClampNeg ((cp2 (up2 (up2 w1 37 6 (if (Int32.ofNat 80) < (w1 29 6) then (Int32.ofNat 80) else (w1 29 6))) 37 7 (if (Int32.ofNat 1) < (w1 29 7) then (Int32.ofNat 1) else (w1 29 7))) 30 38 (kI 0).toNatClampNeg (kI 0).toNatClampNeg (if (Int32.ofNat 80) < (w1 29 6) then (Int32.ofNat 80) else (w1 29 6)).toNatClampNeg) 37 6).toNatClampNeg) 37 7).toNatClampNeg) 37 7).toNatClampNeg))) ∧ (((¬ (((cp2 (cp2 (cp2 (cp2 (up2 (up2 w1 37 6 (if (Int32.ofNat 80) < (w1 29 6) then (Int32.ofNat 80) else (w1 29 6))) 37 7 (if (Int32.ofNat 1) < (w1 29 7) then (Int32.ofNat 1) else (w1 29 7))) 30 38 (kI 0).toNatClampNeg (kI 0).toNatClampNeg (if (Int32.ofNat 80) < (w1 29 6) then (Int32.ofNat 80) else (w1 29 6)).toNatClampNeg) 31 39 (kI 0).toNatClampNeg (kI 0).toNatClampNeg ((cp2 (up2 (up2 w1 37 6 (if (Int32.ofNat 80) < (w1 29 6) then (Int32.ofNat 80) else (w1 29 6))) 37 7 (if (Int32.ofNat 1) < (w1 29 7) then (Int32.ofNat 1) else (w1 29 7))) 30 38 (kI 0).toNatClampNeg (kI 0).toNatClampNeg (if (Int32.ofNat 80) < (w1 29 6) then (Int32.ofNat 80) else (w1 29 6)).toNatClampNeg) 37 6).toNatClampNeg) 32 40 (kI 0).toNatClampNeg (kI 0).toNatClampNeg ((cp2 (cp2 (up2 (up2 w1 37 6 (if (Int32.ofNat 80) < (w1 29 6) then (Int32.ofNat 80) else (w1 29 6))) 37 7 (if (Int32.ofNat 1) < (w1 29 7) then (Int32.ofNat 1) else (w1 29 7))) 30 38 (kI 0).toNatClampNeg (kI 0).toNatClampNeg (if (Int32.ofNat 80) < (w1 29 6) then (Int32.ofNat 80) else (w1 29 6)).toNatClampNeg) 31 39 (kI 0).toNatClampNeg (kI 0).toNatClampNeg ((cp2 (up2 (up2 w1 37 6 (if (Int32.ofNat 80) < (w1 29 6) then (Int32.ofNat 80) else (w1 29 6))) 37 7 (if (Int32.ofNat 1) < (w1 29 7) then (Int32.ofNat 1) else (w1 29 7))) 30 38 (kI 0).toNatClampNeg (kI 0).toNatClampNeg (if (Int32.ofNat 80) < (w1 29 6) then (Int32.ofNat 80) else (w1 29 6)).toNatClampNeg) 37 6).toNatClampNeg) 37 7).toNatClampNeg) 33 41 (kI 0).toNatClampNeg (kI 0).toNatClampNeg ((cp2 (cp2 (cp2 (up2 (up2 w1 37 6 (if (Int32.ofNat 80) < (w1 29 6) then (Int32.ofNat 80) else (w1 29 6))) 37 7 (if (Int32.ofNat 1) < (w1 29 7) then (Int32.ofNat 1) else (w1 29 7))) 30 38 (kI 0).toNatClampNeg (kI 0).toNatClampNeg (if (Int32.ofNat 80) < (w1 29 6) then (Int32.ofNat 80) else (w1 29 6)).toNatClampNeg) 31 39 (kI 0).toNatClampNeg (kI 0).toNatClampNeg ((cp2 (up2 (up2 w1 37 6 (if (Int32.ofNat 80) < (w1 29 6) then (Int32.ofNat 80) else (w1 29 6))) 37 7 (if (Int32.ofNat 1) < (w1 29 7) then (Int32.ofNat 1) else (w1 29 7))) 30 38 (kI 0).toNatClampNeg (kI 0).toNatClampNeg (if (Int32.ofNat 80) < (w1 29 6) then (Int32.ofNat 80) else (w1 29 6)).toNatClampNeg) 37 6).toNatClampNeg) 32 40 (kI 0).toNatClampNeg (kI 0).toNatClampNeg ((cp2 (cp2 (up2 (up2 w1 37 6 (if (Int32.ofNat 80) < (w1 29 6) then (Int32.ofNat 80) else (w1 29 6))) 37 7 (if (Int32.ofNat 1) < (w1 29 7) then (Int32.ofNat 1) else (w1 29 7))) 30 38 (kI 0).toNatClampNeg (kI 0).toNatClampNeg (if (Int32.ofNat 80) < (w1 29 6) then (Int32.ofNat 80) else (w1 29 6)).toNatClampNeg) 31 39 (kI 0).toNatClampNeg (kI 0).toNatClampNeg ((cp2 (up2 (up2 w1 37 6 (if (Int32.ofNat 80) < (w1 29 6) then (Int32.ofNat 80) else (w1 29 6))) 37 7 (if (Int32.ofNat 1) < (w1 29 7) then (Int32.ofNat 1) else (w1 29 7))) 30 38 (kI 0).toNatClampNeg (kI 0).toNatClampNeg (if (Int32.ofNat 80) < (w1 29 6) then (Int32.ofNat 80) else (w1 29 6)).toNatClampNeg) 37 6).toNatClampNeg) 37 7).toNatClampNeg) 37 7).toNatClampNeg) 37 7) < 0 ∨ (kI 0) < 0 ∨ (kI 0) < 0 ∨ 16 < (kI 0).toNatClampNeg + ((cp2 (cp2 (cp2 (cp2 (up2 (up2 w1 37 6 (if (Int32.ofNat 80) < (w1 29 6) then (Int32.ofNat 80) else (w1 29 6))) 37 7 (if (Int32.ofNat 1) < (w1 29 7) then (Int32.ofNat 1) else (w1 29 7))) 30 38 (kI 0).toNatClampNeg (kI 0).toNatClampNeg (if (Int32.ofNat 80) < (w1 29 6) then (Int32.ofNat 80) else (w1 29 6)).toNatClampNeg) 31 39 (kI 0).toNatClampNeg (kI 0).toNatClampNeg ((cp2 (up2 (up2 w1 37 6 (if (Int32.ofNat 80) < (w1 29 6) then (Int32.ofNat 80) else (w1 29 6))) 37 7 (if (Int32.ofNat 1) < (w1 29 7) then (Int32.ofNat 1) else (w1 29 7))) 30 38 (kI 0).toNatClampNeg (kI 0).toNatClampNeg (if (Int32.ofNat 80) < (w1 29 6) then (Int32.ofNat 80) else (w1 29 6)).toNatClampNeg) 37 6).toNatClampNeg) 32 40 (kI 0).toNatClampNeg (kI 0).toNatClampNeg ((cp2 (cp2 (up2 (up2 w1 37 6 (if (Int32.ofNat 80) < (w1 29 6) then (Int32.ofNat 80) else (w1 29 6))) 37 7 (if (Int32.ofNat 1) < (w1 29 7) then (Int32.ofNat 1) else (w1 29 7))) 30 38 (kI 0).toNatClampNeg (kI 0).toNatClampNeg (if (Int32.ofNat 80) < (w1 29 6) then (Int32.ofNat 80) else (w1 29 6)).toNatClampNeg) 31 39 (kI 0).toNatClampNeg (kI 0).toNatClampNeg ((cp2 (up2 (up2 w1 37 6 (if (Int32.ofNat 80) < (w1 29 6) then (Int32.ofNat 80) else (w1 29 6))) 37 7 (if (Int32.ofNat 1) < (w1 29 7) then (Int32.ofNat 1) else (w1 29 7))) 30 38 (kI 0).toNatClampNeg (kI 0).toNatClampNeg (if (Int32.ofNat 80) < (w1 29 6) then (Int32.ofNat 80) else (w1 29 6)).toNatClampNeg) 37 6).toNatClampNeg) 37 7).toNatClampNeg) 33 41 (kI 0).toNatClampNeg (kI 0).toNatClampNeg ((cp2 (cp2 (cp2 (up2 (up2 w1 37 6 (if (Int32.ofNat 80) < (w1 29 6) then (Int32.ofNat 80) else (w1 29 6))) 37 7 (if (Int32.ofNat 1) < (w1 29 7) then (Int32.ofNat 1) else (w1 29 7))) 30 38 (kI 0).toNatClampNeg (kI 0).toNatClampNeg (if (Int32.ofNat 80) < (w1 29 6) then (Int32.ofNat 80) else (w1 29 6)).toNatClampNeg) 31 39 (kI 0).toNatClampNeg (kI 0).toNatClampNeg ((cp2 (up2 (up2 w1 37 6 (if (Int32.ofNat 80) < (w1 29 6) then (Int32.ofNat 80) else (w1 29 6))) 37 7 (if (Int32.ofNat 1) < (w1 29 7) then (Int32.ofNat 1) else (w1 29 7))) 30 38 (kI 0).toNatClampNeg (kI 0).toNatClampNeg (if (Int32.ofNat 80) < (w1 29 6) then (Int32.ofNat 80) else (w1 29 6)).toNatClampNeg) 37 6).toNatClampNeg) 32 40 (kI 0).toNatClampNeg (kI 0).toNatClampNeg ((cp2 (cp2 (up2 (up2 w1 37 6 (if (Int32.ofNat 80) < (w1 29 6) then (Int32.ofNat 80) else (w1 29 6))) 37 7 (if (Int32.ofNat 1) < (w1 29 7) then (Int32.ofNat 1) else (w1 29 7))) 30 38 (kI 0).toNatClampNeg (kI 0).toNatClampNeg (if (Int32.ofNat 80) < (w1 29 6) then (Int32.ofNat 80) else (w1 29 6)).toNatClampNeg) 31 39 (kI 0).toNatClampNeg (kI 0).toNatClampNeg ((cp2 (up2 (up2 w1 37 6 (if (Int32.ofNat 80) < (w1 29 6) then (Int32.ofNat 80) else (w1 29 6))) 37 7 (if (Int32.ofNat 1) < (w1 29 7) then (Int32.ofNat 1) else (w1 29 7))) 30 38 (kI 0).toNatClampNeg (kI 0).toNatClampNeg (if (Int32.ofNat 80) < (w1 29 6) then (Int32.ofNat 80) else (w1 29 6)).toNatClampNeg) 37 6).toNatClampNeg) 37 7).toNatClampNeg) 37 7).toNatClampNeg) 37 7).toNatClampNeg ∨ 1 < (kI 0).toNatClampNeg + ((cp2 (cp2 (cp2 (cp2 (up2 (up2 w1 37 6 (if (Int32.ofNat 80) < (w1 29 6) then (Int32.ofNat 80) else (w1 29 6))) 37 7 (if (Int32.ofNat 1) < (w1 29 7) then (Int32.ofNat 1) else (w1 29 7))) 30 38 (kI 0).toNatClampNeg (kI 0).toNatClampNeg (if (Int32.ofNat 80) < (w1 29 6) then (Int32.ofNat 80) else (w1 29 6)).toNatClampNeg) 31 39 (kI 0).toNatClampNeg (kI 0).toNatClampNeg ((cp2 (up2 (up2 w1 37 6 (if (Int32.ofNat 80) < (w1 29 6) then (Int32.ofNat 80) else (w1 29 6))) 37 7 (if (Int32.ofNat 1) < (w1 29 7) then (Int32.ofNat 1) else (w1 29 7))) 30 38 (kI 0).toNatClampNeg (kI 0).toNatClampNeg (if (Int32.ofNat 80) < (w1 29 6) then (Int32.ofNat 80) else (w1 29 6)).toNatClampNeg) 37 6).toNatClampNeg) 32 40 (kI 0).toNatClampNeg (kI 0).toNatClampNeg ((cp2 (cp2 (up2 (up2 w1 37 6 (if (Int32.ofNat 80) < (w1 29 6) then (Int32.ofNat 80) else (w1 29 6))) 37 7 (if (Int32.ofNat 1) < (w1 29 7) then (Int32.ofNat 1) else (w1 29 7))) 30 38 (kI 0).toNatClampNeg (kI 0).toNatClampNeg (if (Int32.ofNat 80) < (w1 29 6) then (Int32.ofNat 80) else (w1 29 6)).toNatClampNeg) 31 39 (kI 0).toNatClampNeg (kI 0).toNatClampNeg ((cp2 (up2 (up2 w1 37 6 (if (Int32.ofNat 80) < (w1 29 6) then (Int32.ofNat 80) else (w1 29 6))) 37 7 (if (Int32.ofNat 1) < (w1 29 7) then (Int32.ofNat 1) else (w1 29 7))) 30 38 (kI 0).toNatClampNeg (kI 0).toNatClampNeg (if (Int32.ofNat 80) < (w1 29 6) then (Int32.ofNat 80) else (w1 29 6)).toNatClampNeg) 37 6).toNatClampNeg) 37 7).toNatClampNeg) 33 41 (kI 0).toNatClampNeg (kI 0).toNatClampNeg ((cp2 (cp2 (cp2 (up2 (up2 w1 37 6 (if (Int32.ofNat 80) < (w1 29 6) then (Int32.ofNat 80) else (w1 29 6))) 37 7 (if (Int32.ofNat 1) < (w1 29 7) then (Int32.ofNat 1) else (w1 29 7))) 30 38 (kI 0).toNatClampNeg (kI 0).toNatClampNeg (if (Int32.ofNat 80) < (w1 29 6) then (Int32.ofNat 80) else (w1 29 6)).toNatClampNeg) 31 39 (kI 0).toNatClampNeg (kI 0).toNatClampNeg ((cp2 (up2 (up2 w1 37 6 (if (Int32.ofNat 80) < (w1 29 6) then (Int32.ofNat 80) else (w1 29 6))) 37 7 (if (Int32.ofNat 1) < (w1 29 7) then (Int32.ofNat 1) else (w1 29 7))) 30 38 (kI 0).toNatClampNeg (kI 0).toNatClampNeg (if (Int32.ofNat 80) < (w1 29 6) then (Int32.ofNat 80) else (w1 29 6)).toNatClampNeg) 37 6).toNatClampNeg) 32 40 (kI 0).toNatClampNeg (kI 0).toNatClampNeg ((cp2 (cp2 (up2 (up2 w1 37 6 (if (Int32.ofNat 80) < (w1 29 6) then (Int32.ofNat 80) else (w1 29 6))) 37 7 (if (Int32.ofNat 1) < (w1 29 7) then (Int32.ofNat 1) else (w1 29 7))) 30 38 (kI 0).toNatClampNeg (kI 0).toNatClampNeg (if (Int32.ofNat 80) < (w1 29 6) then (Int32.ofNat 80) else (w1 29 6)).toNatClampNeg) 31 39 (kI 0).toNatClampNeg (kI 0).toNatClampNeg ((cp2 (up2 (up2 w1 37 6 (if (Int32.ofNat 80) < (w1 29 6) then (Int32.ofNat 80) else (w1 29 6))) 37 7 (if (Int32.ofNat 1) < (w1 29 7) then (Int32.ofNat 1) else (w1 29 7))) 30 38 (kI 0).toNatClampNeg (kI 0).toNatClampNeg (if (Int32.ofNat 80) < (w1 29 6) then (Int32.ofNat 80) else (w1 29 6)).toNatClampNeg) 37 6).toNatClampNeg) 37 7).toNatClampNeg) 37 7).toNatClampNeg) 37 7).toNatClampNeg))) ∧ (((¬ (((cp2 (cp2 (cp2 (cp2 (cp2 (up2 (up2 w1 37 6 (if (Int32.ofNat 80) < (w1 29 6) then (Int32.ofNat 80) else (w1 29 6))) 37 7 (if (Int32.ofNat 1) < (w1 29 7) then (Int32.ofNat 1) else (w1 29 7))) 30 38 (kI 0).toNatClampNeg (kI 0).toNatClampNeg (if (Int32.ofNat 80) < (w1 29 6) then (Int32.ofNat 80) else (w1 29 6)).toNatClampNeg) 31 39 (kI 0).toNatClampNeg (kI 0).toNatClampNeg ((cp2 (up2 (up2 w1 37 6 (if (Int32.ofNat 80) < (w1 29 6) then (Int32.ofNat 80) else (w1 29 6))) 37 7 (if (Int32.ofNat 1) < (w1 29 7) then (Int32.ofNat 1) else (w1 29 7))) 30 38 (kI 0).toNatClampNeg (kI 0).toNatClampNeg (if (Int32.ofNat 80) < (w1 29 6) then (Int32.ofNat 80) else (w1 29 6)).toNatClampNeg) 37 6).toNatClampNeg) 32 40 (kI 0).toNatClampNeg (kI 0).toNatClampNeg ((cp2 (cp2 (up2 (up2 w1 37 6 (if (Int32.ofNat 80) < (w1 29 6) then (Int32.ofNat 80) else (w1 29 6))) 37 7 (if (Int32.ofNat 1) < (w1 29 7) then (Int32.ofNat 1) else (w1 29 7))) 30 38 (kI 0).toNatClampNeg (kI 0).toNatClampNeg (if (Int32.ofNat 80) < (w1 29 6) then (Int32.ofNat 80) else (w1 29 6)).toNatClampNeg) 31 39 (kI 0).toNatClampNeg (kI 0).toNatClampNeg ((cp2 (up2 (up2 w1 37 6 (if (Int32.ofNat 80) < (w1 29 6) then (Int32.ofNat 80) else (w1 29 6))) 37 7 (if (Int32.ofNat 1) < (w1 29 7) then (Int32.ofNat 1) else (w1 29 7))) 30 38 (kI 0).toNatClampNeg (kI 0).toNatClampNeg (if (Int32.ofNat 80) < (w1 29 6) then (Int32.ofNat 80) else (w1 29 6)).toNatClampNeg) 37 6).toNatClampNeg) 37 7).toNatClampNeg) 33 41 (kI 0).toNatClampNeg (kI 0).toNatClampNeg ((cp2 (cp2 (cp2 (up2 (up2 w1 37 6 (if (Int32.ofNat 80) < (w1 29 6) then (Int32.ofNat 80) else (w1 29 6))) 37 7 (if (Int32.ofNat 1) < (w1 29 7) then (Int32.ofNat 1) else (w1 29 7))) 30 38 (kI 0).toNatClampNeg (kI 0).toNatClampNeg (if (Int32.ofNat 80) < (w1 29 6) then (Int32.ofNat 80) else (w1 29 6)).toNatClampNeg) 31 39 (kI 0).toNatClampNeg (kI 0).toNatClampNeg ((cp2 (up2 (up2 w1 37 6 (if (Int32.ofNat 80) < (w1 29 6) then (Int32.ofNat 80) else (w1 29 6))) 37 7 (if (Int32.ofNat 1) < (w1 29 7) then (Int32.ofNat 1) else (w1 29 7))) 30 38 (kI 0).toNatClampNeg (kI 0).toNatClampNeg (if (Int32.ofNat 80) < (w1 29 6) then (Int32.ofNat 80) else (w1 29 6)).toNatClampNeg) 37 6).toNatClampNeg) 32 40 (kI 0).toNatClampNeg (kI 0).toNatClampNeg ((cp2 (cp2 (up2 (up2 w1 37 6 (if (Int32.ofNat 80) < (w1 29 6) then (Int32.ofNat 80) else (w1 29 6))) 37 7 (if (Int32.ofNat 1) < (w1 29 7) then (Int32.ofNat 1) else (w1 29 7))) 30 38 (kI 0).toNatClampNeg (kI 0).toNatClampNeg (if (Int32.ofNat 80) < (w1 29 6) then (Int32.ofNat 80) else (w1 29 6)).toNatClampNeg) 31 39 (kI 0).toNatClampNeg (kI 0).toNatClampNeg ((cp2 (up2 (up2 w1 37 6 (if (Int32.ofNat 80) < (w1 29 6) then (Int32.ofNat 80) else (w1 29 6))) 37 7 (if (Int32.ofNat 1) < (w1 29 7) then (Int32.ofNat 1) else (w1 29 7))) 30 38 (kI 0).toNatClampNeg (kI 0).toNatClampNeg (if (Int32.ofNat 80) < (w1 29 6) then (Int32.ofNat 80) else (w1 29 6)).toNatClampNeg) 37 6).toNatClampNeg) 37 7).toNatClampNeg) 37 7).toNatClampNeg) 34 42 (kI 0).toNatClampNeg (kI 0).toNatClampNeg ((cp2 (cp2 (cp2 (cp2 (up2 (up2 w1 37 6 (if (Int32.ofNat 80) < (w1 29 6) then (Int32.ofNat 80) else (w1 29 6))) 37 7 (if (Int32.ofNat 1) < (w1 29 7) then (Int32.ofNat 1) else (w1 29 7))) 30 38 (kI 0).toNatClampNeg (kI 0).toNatClampNeg (if (Int32.ofNat 80) < (w1 29 6) then (Int32.ofNat 80) else (w1 29 6)).toNatClampNeg) 31 39 (kI 0).toNatClampNeg (kI 0).toNatClampNeg ((cp2 (up2 (up2 w1 37 6 (if (Int32.ofNat 80) < (w1 29 6) then (Int32.ofNat 80) else (w1 29 6))) 37 7 (if (Int32.ofNat 1) < (w1 29 7) then (Int32.ofNat 1) else (w1 29 7))) 30 38 (kI 0).toNatClampNeg (kI 0).toNatClampNeg (if (Int32.ofNat 80) < (w1 29 6) then (Int32.ofNat 80) else (w1 29 6)).toNatClampNeg) 37 6).toNatClampNeg) 32 40 (kI 0).toNatClampNeg (kI 0).toNatClampNeg ((cp2 (cp2 (up2 (up2 w1 37 6 (if (Int32.ofNat 80) < (w1 29 6) then (Int32.ofNat 80) else (w1 29 6))) 37 7 (if (Int32.ofNat 1) < (w1 29 7) then (Int32.ofNat 1) else (w1 29 7))) 30 38 (kI 0).toNatClampNeg (kI 0).toNatClampNeg (if (Int32.ofNat 80) < (w1 29 6) then (Int32.ofNat 80) else (w1 29 6)).toNatClampNeg) 31 39 (kI 0).toNatClampNeg (kI 0).toNatClampNeg ((cp2 (up2 (up2 w1 37 6 (if (Int32.ofNat 80) < (w1 29 6) then (Int32.ofNat 80) else (w1 29 6))) 37 7 (if (Int32.ofNat 1) < (w1 29 7) then (Int32.ofNat 1) else (w1 29 7))) 30 38 (kI 0).toNatClampNeg (kI 0).toNatClampNeg (if (Int32.ofNat 80) < (w1 29 6) then (Int32.ofNat 80) else (w1 29 6)).toNatClampNeg) 37 6).toNatClampNeg) 37 7).toNatClampNeg) 33 41 (kI 0).toNatClampNeg (kI 0).toNatClampNeg ((cp2 (cp2 (cp2 (up2 (up2 w1 37 6 (if (Int32.ofNat 80) < (w1 29 6) then (Int32.ofNat 80) else (w1 29 6))) 37 7 (if (Int32.ofNat 1) < (w1 29 7) then (Int32.ofNat 1) else (w1 29 7))) 30 38 (kI 0).toNatClampNeg (kI 0).toNatClampNeg (if (Int32.ofNat 80) < (w1 29 6) then (Int32.ofNat 80) else (w1 29 6)).toNatClampNeg) 31 39 (kI 0).toNatClampNeg (kI 0).toNatClampNeg ((cp2 (up2 (up2 w1 37 6 (if (Int32.ofNat 80) < (w1 29 6) then (Int32.ofNat 80) else (w1 29 6))) 37 7 (if (Int32.ofNat 1) < (w1 29 7) then (Int32.ofNat 1) else (w1 29 7))) 30 38 (kI 0).toNatClampNeg (kI 0).toNatClampNeg (if (Int32.ofNat 80) < (w1 29 6) then (Int32.ofNat 80) else (w1 29 6)).toNatClampNeg) 37 6).toNatClampNeg) 32 40 (kI 0).toNatClampNeg (kI 0).toNatClampNeg ((cp2 (cp2 (up2 (up2 w1 37 6 (if (Int32.ofNat 80) < (w1 29 6) then (Int32.ofNat 80) else (w1 29 6))) 37 7 (if (Int32.ofNat 1) < (w1 29 7) then (Int32.ofNat 1) else (w1 29 7))) 30 38 (kI 0).toNatClampNeg (kI 0).toNatClampNeg (if (Int32.ofNat 80) < (w1 29 6) then (Int32.ofNat 80) else (w1 29 6)).toNatClampNeg) 31 39 (kI 0).toNatClampNeg (kI 0).toNatClampNeg ((cp2 (up2 (up2 w1 37 6 (if (Int32.ofNat 80) < (w1 29 6) then (Int32.ofNat 80) else (w1 29 6))) 37 7 (if (Int32.ofNat 1) < (w1 29 7) then (Int32.ofNat 1) else (w1 29 7))) 30 38 (kI 0).toNatClampNeg (kI 0).toNatClampNeg (if (Int32.ofNat 80) < (w1 29 6) then (Int32.ofNat 80) else (w1 29 6)).toNatClampNeg) 37 6).toNatClampNeg) 37 7).toNatClampNeg) 37 7).toNatClampNeg) 37 7).toNatClampNeg) 37 7) < 0 ∨ (kI 0) < 0 ∨ (kI 0) < 0 ∨ 16 < (kI 0).toNatClampNeg + ((cp2 (cp2 (cp2 (cp2 (cp2 (up2 (up2 w1 37 6 (if (Int32.ofNat 80) < (w1 29 6) then (Int32.ofNat 80) else (w1 29 6))) 37 7 (if (Int32.ofNat 1) < (w1 29 7) then (Int32.ofNat 1) else (w1 29 7))) 30 38 (kI 0).toNatClampNeg (kI 0).toNatClampNeg (if (Int32.ofNat 80) < (w1 29 6) then (Int32.ofNat 80) else (w1 29 6)).toNatClampNeg) 31 39 (kI 0).toNatClampNeg (kI 0).toNatClampNeg ((cp2 (up2 (up2 w1 37 6 (if (Int32.ofNat 80) < (w1 29 6) then (Int32.ofNat 80) else (w1 29 6))) 37 7 (if (Int32.ofNat 1) < (w1 29 7) then (Int32.ofNat 1) else (w1 29 7))) 30 38 (kI 0).toNatClampNeg (kI 0).toNatClampNeg (if (Int32.ofNat 80) < (w1 29 6) then (Int32.ofNat 80) else (w1 29 6)).toNatClampNeg) 37 6).toNatClampNeg) 32 40 (kI 0).toNatClampNeg (kI 0).toNatClampNeg ((cp2 (cp2 (up2 (up2 w1 37 6 (if (Int32.ofNat 80) < (w1 29 6) then (Int32.ofNat 80) else (w1 29 6))) 37 7 (if (Int32.ofNat 1) < (w1 29 7) then (Int32.ofNat 1) else (w1 29 7))) 30 38 (kI 0).toNatClampNeg (kI 0).toNatClampNeg (if (Int32.ofNat 80) < (w1 29 6) then (Int32.ofNat 80) else (w1 29 6)).toNatClampNeg) 31 39 (kI 0).toNatClampNeg (kI 0).toNatClampNeg ((cp2 (up2 (up2 w1 37 6 (if (Int32.ofNat 80) < (w1 29 6) then (Int32.ofNat 80) else (w1 29 6))) 37 7 (if (Int32.ofNat 1) < (w1 29 7) then (Int32.ofNat 1) else (w1 29 7))) 30 38 (kI 0).toNatClampNeg (kI 0).toNatClampNeg (if (Int32.ofNat 80) < (w1 29 6) then (Int32.ofNat 80) else (w1 29 6)).toNatClampNeg) 37 6).toNatClampNeg) 37 7).toNatClampNeg) 33 41 (kI 0).toNatClampNeg (kI 0).toNatClampNeg ((cp2 (cp2 (cp2 (up2 (up2 w1 37 6 (if (Int32.ofNat 80) < (w1 29 6) then (Int32.ofNat 80) else (w1 29 6))) 37 7 (if (Int32.ofNat 1) < (w1 29 7) then (Int32.ofNat 1) else (w1 29 7))) 30 38 (kI 0).toNatClampNeg (kI 0).toNatClampNeg (if (Int32.ofNat 80) < (w1 29 6) then (Int32.ofNat 80) else (w1 29 6)).toNatClampNeg) 31 39 (kI 0).toNatClampNeg (kI 0).toNatClampNeg ((cp2 (up2 (up2 w1 37 6 (if (Int32.ofNat 80) < (w1 29 6) then (Int32.ofNat 80) else (w1 29 6))) 37 7 (if (Int32.ofNat 1) < (w1 29 7) then (Int32.ofNat 1) else (w1 29 7))) 30 38 (kI 0).toNatClampNeg (kI 0).toNatClampNeg (if (Int32.ofNat 80) < (w1 29 6) then (Int32.ofNat 80) else (w1 29 6)).toNatClampNeg) 37 6).toNatClampNeg) 32 40 (kI 0).toNatClampNeg (kI 0).toNatClampNeg ((cp2 (cp2 (up2 (up2 w1 37 6 (if (Int32.ofNat 80) < (w1 29 6) then (Int32.ofNat 80) else (w1 29 6))) 37 7 (if (Int32.ofNat 1) < (w1 29 7) then (Int32.ofNat 1) else (w1 29 7))) 30 38 (kI 0).toNatClampNeg (kI 0).toNatClampNeg (if (Int32.ofNat 80) < (w1 29 6) then (Int32.ofNat 80) else (w1 29 6)).toNatClampNeg) 31 39 (kI 0).toNatClampNeg (kI 0).toNatClampNeg ((cp2 (up2 (up2 w1 37 6 (if (Int32.ofNat 80) < (w1 29 6) then (Int32.ofNat 80) else (w1 29 6))) 37 7 (if (Int32.ofNat 1) < (w1 29 7) then (Int32.ofNat 1) else (w1 29 7))) 30 38 (kI 0).toNatClampNeg (kI 0).toNatClampNeg (if (Int32.ofNat 80) < (w1 29 6) then (Int32.ofNat 80) else (w1 29 6)).toNatClampNeg) 37 6).toNatClampNeg) 37 7).toNatClampNeg) 37 7).toNatClampNeg) 34 42 (kI 0).toNatClampNeg (kI 0).toNatClampNeg ((cp2 (cp2 (cp2 (cp2 (up2 (up2 w1 37 6 (if (Int32.ofNat 80) < (w1 29 6) then (Int32.ofNat 80) else (w1 29 6))) 37 7 (if (Int32.ofNat 1) < (w1 29 7) then (Int32.ofNat 1) else (w1 29 7))) 30 38 (kI 0).toNatClampNeg (kI 0).toNatClampNeg (if (Int32.ofNat 80) < (w1 29 6) then (Int32.ofNat 80) else (w1 29 6)).toNatClampNeg) 31 39 (kI 0).toNatClampNeg (kI 0).toNatClampNeg ((cp2 (up2 (up2 w1 37 6 (if (Int32.ofNat 80) < (w1 29 6) then (Int32.ofNat 80) else (w1 29 6))) 37 7 (if (Int32.ofNat 1) < (w1 29 7) then (Int32.ofNat 1) else (w1 29 7))) 30 38 (kI 0).toNatClampNeg (kI 0).toNatClampNeg (if (Int32.ofNat 80) < (w1 29 6) then (Int32.ofNat 80) else (w1 29 6)).toNatClampNeg) 37 6).toNatClampNeg) 32 40 (kI 0).toNatClampNeg (kI 0).toNatClampNeg ((cp2 (cp2 (up2 (up2 w1 37 6 (if (Int32.ofNat 80) < (w1 29 6) then (Int32.ofNat 80) else (w1 29 6))) 37 7 (if (Int32.ofNat 1) < (w1 29 7) then (Int32.ofNat 1) else (w1 29 7))) 30 38 (kI 0).toNatClampNeg (kI 0).toNatClampNeg (if (Int32.ofNat 80) < (w1 29 6) then (Int32.ofNat 80) else (w1 29 6)).toNatClampNeg) 31 39 (kI 0).toNatClampNeg (kI 0).toNatClampNeg ((cp2 (up2 (up2 w1 37 6 (if (Int32.ofNat 80) < (w1 29 6) then (Int32.ofNat 80) else (w1 29 6))) 37 7 (if (Int32.ofNat 1) < (w1 29 7) then (Int32.ofNat 1) else (w1 29 7))) 30 38 (kI 0).toNatClampNeg (kI 0).toNatClampNeg (if (Int32.ofNat 80) < (w1 29 6) then (Int32.ofNat 80) else (w1 29 6)).toNatClampNeg) 37 6).toNatClampNeg) 37 7).toNatClampNeg) 33 41 (kI 0).toNatClampNeg (kI 0).toNatClampNeg ((cp2 (cp2 (cp2 (up2 (up2 w1 37 6 (if (Int32.ofNat 80) < (w1 29 6) then (Int32.ofNat 80) else (w1 29 6))) 37 7 (if (Int32.ofNat 1) < (w1 29 7) then (Int32.ofNat 1) else (w1 29 7))) 30 38 (kI 0).toNatClampNeg (kI 0).toNatClampNeg (if (Int32.ofNat 80) < (w1 29 6) then (Int32.ofNat 80) else (w1 29 6)).toNatClampNeg) 31 39 (kI 0).toNatClampNeg (kI 0).toNatClampNeg ((cp2 (up2 (up2 w1 37 6 (if (Int32.ofNat 80) < (w1 29 6) then (Int32.ofNat 80) else (w1 29 6))) 37 7 (if (Int32.ofNat 1) < (w1 29 7) then (Int32.ofNat 1) else (w1 29 7))) 30 38 (kI 0).toNatClampNeg (kI 0).toNatClampNeg (if (Int32.ofNat 80) < (w1 29 6) then (Int32.ofNat 80) else (w1 29 6)).toNatClampNeg) 37 6).toNatClampNeg) 32 40 (kI 0).toNatClampNeg (kI 0).toNatClampNeg ((cp2 (cp2 (up2 (up2 w1 37 6 (if (Int32.ofNat 80) < (w1 29 6) then (Int32.ofNat 80) else (w1 29 6))) 37 7 (if (Int32.ofNat 1) < (w1 29 7) then (Int32.ofNat 1) else (w1 29 7))) 30 38 (kI 0).toNatClampNeg (kI 0).toNatClampNeg (if (Int32.ofNat 80) < (w1 29 6) then (Int32.ofNat 80) else (w1 29 6)).toNatClampNeg) 31 39 (kI 0).toNatClampNeg (kI 0).toNatClampNeg ((cp2 (up2 (up2 w1 37 6 (if (Int32.ofNat 80) < (w1 29 6) then (Int32.ofNat 80) else (w1 29 6))) 37 7 (if (Int32.ofNat 1) < (w1 29 7) then (Int32.ofNat 1) else (w1 29 7))) 30 38 (kI 0).toNatClampNeg (kI 0).toNatClampNeg (if (Int32.ofNat 80) < (w1 29 6) then (Int32.ofNat 80) else (w1 29 6)).toNatClampNeg) 37 6).toNatClampNeg) 37 7).toNatClampNeg) 37 7).toNatClampNeg) 37 7).toNatClampNeg) 37 7).toNatClampNeg ∨ 1 < (kI 0).toNatClampNeg + ((cp2 (cp2 (cp2 (cp2 (cp2 (up2 (up2 w1 37 6 (if (Int32.ofNat 80) < (w1 29 6) then (Int32.ofNat 80) else (w1 29 6))) 37 7 (if (Int32.ofNat 1) < (w1 29 7) then (Int32.ofNat 1) else (w1 29 7))) 30 38 (kI 0).toNatClampNeg (kI 0).toNatClampNeg (if (Int32.ofNat 80) < (w1 29 6) then (Int32.ofNat 80) else (w1 29 6)).toNatClampNeg) 31 39 (kI 0).toNatClampNeg (kI 0).toNatClampNeg ((cp2 (up2 (up2 w1 37 6 (if (Int32.ofNat 80) < (w1 29 6) then (Int32.ofNat 80) else (w1 29 6))) 37 7 (if (Int32.ofNat 1) < (w1 29 7) then (Int32.ofNat 1) else (w1 29 7))) 30 38 (kI 0).toNatClampNeg (kI 0).toNatClampNeg (if (Int32.ofNat 80) < (w1 29 6) then (Int32.ofNat 80) else (w1 29 6)).toNatClampNeg) 37 6).toNatClampNeg) 32 40 (kI 0).toNatClampNeg (kI 0).toNatClampNeg ((cp2 (cp2 (up2 (up2 w1 37 6 (if (Int32.ofNat 80) < (w1 29 6) then (Int32.ofNat 80) else (w1 29 6))) 37 7 (if (Int32.ofNat 1) < (w1 29 7) then (Int32.ofNat 1) else (w1 29 7))) 30 38 (kI 0).toNatClampNeg (kI 0).toNatClampNeg (if (Int32.ofNat 80) < (w1 29 6) then (Int32.ofNat 80) else (w1 29 6)).toNatClampNeg) 31 39 (kI 0).toNatClampNeg (kI 0).toNatClampNeg ((cp2 (up2 (up2 w1 37 6 (if (Int32.ofNat 80) < (w1 29 6) then (Int32.ofNat 80) else (w1 29 6))) 37 7 (if (Int32.ofNat 1) < (w1 29 7) then (Int32.ofNat 1) else (w1 29 7))) 30 38 (kI 0).toNatClampNeg (kI 0).toNatClampNeg (if (Int32.ofNat 80) < (w1 29 6) then (Int32.ofNat 80) else (w1 29 6)).toNatClampNeg) 37 6).toNatClampNeg) 37 7).toNatClampNeg) 33 41 (kI 0).toNatClampNeg (kI 0).toNatClampNeg ((cp2 (cp2 (cp2 (up2 (up2 w1 37 6 (if (Int32.ofNat 80) < (w1 29 6) then (Int32.ofNat 80) else (w1 29 6))) 37 7 (if (Int32.ofNat 1) < (w1 29 7) then (Int32.ofNat 1) else (w1 29 7))) 30 38 (kI 0).toNatClampNeg (kI 0).toNatClampNeg (if (Int32.ofNat 80) < (w1 29 6) then (Int32.ofNat 80) else (w1 29 6)).toNatClampNeg) 31 39 (kI 0).toNatClampNeg (kI 0).toNatClampNeg ((cp2 (up2 (up2 w1 37 6 (if (Int32.ofNat 80) < (w1 29 6) then (Int32.ofNat 80) else (w1 29 6))) 37 7 (if (Int32.ofNat 1) < (w1 29 7) then (Int32.ofNat 1) else (w1 29 7))) 30 38 (kI 0).toNatClampNeg (kI 0).toNatClampNeg (if (Int32.ofNat 80) < (w1 29 6) then (Int32.ofNat 80) else (w1 29 6)).toNatClampNeg) 37 6).toNatClampNeg) 32 40 (kI 0).toNatClampNeg (kI 0).toNatClampNeg ((cp2 (cp2 (up2 (up2 w1 37 6 (if (Int32.ofNat 80) < (w1 29 6) then (Int32.ofNat 80) else (w1 29 6))) 37 7 (if (Int32.ofNat 1) < (w1 29 7) then (Int32.ofNat 1) else (w1 29 7))) 30 38 (kI 0).toNatClampNeg (kI 0).toNatClampNeg (if (Int32.ofNat 80) < (w1 29 6) then (Int32.ofNat 80) else (w1 29 6)).toNatClampNeg) 31 39 (kI 0).toNatClampNeg (kI 0).toNatClampNeg ((cp2 (up2 (up2 w1 37 6 (if (Int32.ofNat 80) < (w1 29 6) then (Int32.ofNat 80) else (w1 29 6))) 37 7 (if (Int32.ofNat 1) < (w1 29 7) then (Int32.ofNat 1) else (w1 29 7))) 30 38 (kI 0).toNatClampNeg (kI 0).toNatClampNeg (if (Int32.ofNat 80) < (w1 29 6) then (Int32.ofNat 80) else (w1 29 6)).toNatClampNeg) 37 6).toNatClampNeg) 37 7).toNatClampNeg) 37 7).toNatClampNeg) 34 42 (kI 0).toNatClampNeg (kI 0).toNatClampNeg ((cp2 (cp2 (cp2 (cp2 (up2 (up2 w1 37 6 (if (Int32.ofNat 80) < (w1 29 6) then (Int32.ofNat 80) else (w1 29 6))) 37 7 (if (Int32.ofNat 1) < (w1 29 7) then (Int32.ofNat 1) else (w1 29 7))) 30 38 (kI 0).toNatClampNeg (kI 0).toNatClampNeg (if (Int32.ofNat 80) < (w1 29 6) then (Int32.ofNat 80) else (w1 29 6)).toNatClampNeg) 31 39 (kI 0).toNatClampNeg (kI 0).toNatClampNeg ((cp2 (up2 (up2 w1 37 6 (if (Int32.ofNat 80) < (w1 29 6) then (Int32.ofNat 80) else (w1 29 6))) 37 7 (if (Int32.ofNat 1) < (w1 29 7) then (Int32.ofNat 1) else (w1 29 7))) 30 38 (kI 0).toNatClampNeg (kI 0).toNatClampNeg (if (Int32.ofNat 80) < (w1 29 6) then (Int32.ofNat 80) else (w1 29 6)).toNatClampNeg) 37 6).toNatClampNeg) 32 40 (kI 0).toNatClampNeg (kI 0).toNatClampNeg ((cp2 (cp2 (up2 (up2 w1 37 6 (if (Int32.ofNat 80) < (w1 29 6) then (Int32.ofNat 80) else (w1 29 6))) 37 7 (if (Int32.ofNat 1) < (w1 29 7) then (Int32.ofNat 1) else (w1 29 7))) 30 38 (kI 0).toNatClampNeg (kI 0).toNatClampNeg (if (Int32.ofNat 80) < (w1 29 6) then (Int32.ofNat 80) else (w1 29 6)).toNatClampNeg) 31 39 (kI 0).toNatClampNeg (kI 0).toNatClampNeg ((cp2 (up2 (up2 w1 37 6 (if (Int32.ofNat 80) < (w1 29 6) then (Int32.ofNat 80) else (w1 29 6))) 37 7 (if (Int32.ofNat 1) < (w1 29 7) then (Int32.ofNat 1) else (w1 29 7))) 30 38 (kI 0).toNatClampNeg (kI 0).toNatClampNeg (if (Int32.ofNat 80) < (w1 29 6) then (Int32.ofNat 80) else (w1 29 6)).toNatClampNeg) 37 6).toNatClampNeg) 37 7).toNatClampNeg) 33 41 (kI 0).toNatClampNeg (kI 0).toNatClampNeg ((cp2 (cp2 (cp2 (up2 (up2 w1 37 6 (if (Int32.ofNat 80) < (w1 29 6) then (Int32.ofNat 80) else (w1 29 6))) 37 7 (if (Int32.ofNat 1) < (w1 29 7) then (Int32.ofNat 1) else (w1 29 7))) 30 38 (kI 0).toNatClampNeg (kI 0).toNatClampNeg (if (Int32.ofNat 80) < (w1 29 6) then (Int32.ofNat 80) else (w1 29 6)).toNatClampNeg) 31 39 (kI 0).toNatClampNeg (kI 0).toNatClampNeg ((cp2 (up2 (up2 w1 37 6 (if (Int32.ofNat 80) < (w1 29 6) then (Int32.ofNat 80) else (w1 29 6))) 37 7 (if (Int32.ofNat 1) < (w1 29 7) then (Int32.ofNat 1) else (w1 29 7))) 30 38 (kI 0).toNatClampNeg (kI 0).toNatClampNeg (if (Int32.ofNat 80) < (w1 29 6) then (Int32.ofNat 80) else (w1 29 6)).toNatClampNeg) 37 6).toNatClampNeg) 32 40 (kI 0).toNatClampNeg (kI 0).toNatClampNeg ((cp2 (cp2 (up2 (up2 w1 37 6 (if (Int32.ofNat 80) < (w1 29 6) then (Int32.ofNat 80) else (w1 29 6))) 37 7 (if (Int32.ofNat 1) < (w1 29 7) then (Int32.ofNat 1) else (w1 29 7))) 30 38 (kI 0).toNatClampNeg (kI 0).toNatClampNeg (if (Int32.ofNat 80) < (w1 29 6) then (Int32.ofNat 80) else (w1 29 6)).toNatClampNeg) 31 39 (kI 0).toNatClampNeg (kI 0).toNatClampNeg ((cp2 (up2 (up2 w1 37 6 (if (Int32.ofNat 80) < (w1 29 6) then (Int32.ofNat 80) else (w1 29 6))) 37 7 (if (Int32.ofNat 1) < (w1 29 7) then (Int32.ofNat 1) else (w1 29 7))) 30 38 (kI 0).toNatClampNeg (kI 0).toNatClampNeg (if (Int32.ofNat 80) < (w1 29 6) then (Int32.ofNat 80) else (w1 29 6)).toNatClampNeg) 37 6).toNatClampNeg) 37 7).toNatClampNeg) 37 7).toNatClampNeg) 37 7).toNatClampNeg) 37 7).toNatClampNeg))) ∧ CI X (d + 2) 151 [.ref 0, .int (kI 0)] (up2 (G_76_37_29 w1) 0 16 (((G_76_37_29 w1) 0 16) ||| ((kI 1) <<< ((kI 0) &&& 31)))) (fun x2 w2 => Q (F_259 x2 w2) w2))))))) else Q x1 w1))))) : EI X (d + 2) 136 (0, [some (.ref 0), some (.int (kI 0)), some (.int v2), none], [], SH, w) Q := by
  unfold EI
  refine EV.steps cl_136 3 (q2 := (3, [some (.ref 0), some (.int (kI 0)), some (.int v2), none], [.int (kI 5), .int (kI 0), .int (kI 0)], SH, w)) rfl ?_
  refine EV.callF (kc := 153) (av := [.int (kI 0), .int (kI 0), .int (kI 5)]) (r := []) (rv := some (.int (F_153 (kI 0) (kI 0) (kI 5) w))) (w2 := w) cl_136 rfl rfl rfl (m_153 w (kI 0) (kI 0) (kI 5)) ?_
  refine EV.z_eq cl_136 rfl (fun h1 => ?_) (fun h1 => ?_)
  · skip
    rw [if_pos h1] at H
    refine EV.steps cl_136 1 (q2 := (24, [some (.ref 0), some (.int (kI 0)), some (.int v2), none], [.int (kI (-1))], SH, w)) rfl ?_
    refine EV.ret cl_136 rfl rfl rfl ?_
    exact ⟨_, rfl, rfl, H⟩
  · skip
    rw [if_neg h1] at H
    refine EV.steps cl_136 5 (q2 := (17, [some (.ref 0), some (.int (kI 0)), some (.int v2), none], [.int (kI 80), .int (kI 1), .int v2, .ref 1], SH, w)) rfl ?_
    refine EV.callF (kc := 105) (av := [.ref 1, .int v2, .int (kI 1), .int (kI 80)]) (r := []) (rv := some (.int (F_105_1 v2 (kI 1) (kI 80) w))) (w2 := w) cl_136 rfl rfl rfl (m_105_1 w v2 (kI 1) (kI 80)) ?_
    refine EV.z_ne cl_136 rfl (fun h2 => ?_) (fun h2 => ?_)
    · skip
      rw [if_neg h2] at H
      refine EV.steps cl_136 3 (q2 := (30, [some (.ref 0), some (.int (kI 0)), some (.int v2), none], [.int v2, .ref 79], SH, w)) rfl ?_
      refine EV.call (kc := 63) (av := [.ref 79, .int v2]) (r := []) cl_136 rfl rfl rfl H ?_
      clear H; intro y1 s1 w1 e1
      obtain ⟨x1, rfl, rfl, H⟩ := e1
      refine EV.steps cl_136 2 (q2 := (35, [some (.ref 0), some (.int (kI 0)), some (.int v2), some (.int x1)], [.int x1], SH, w1)) rfl ?_
      refine EV.z_ge cl_136 rfl (fun h3 => ?_) (fun h3 => ?_)
      · skip
        rw [if_pos h3] at H
        refine EV.steps cl_136 6 (q2 := (50, [some (.ref 0), some (.int (kI 0)), some (.int v2), some (.int x1)], [.ref 29, .ref 37], SH, w1)) rfl ?_
        obtain ⟨j4, H⟩ := H
        obtain ⟨j5, H⟩ := H
        obtain ⟨j6, H⟩ := H
        obtain ⟨j7, H⟩ := H
        obtain ⟨j8, H⟩ := H
        obtain ⟨j9, H⟩ := H
        refine EV.callF (kc := 76) (av := [.ref 37, .ref 29]) (r := []) (rv := none) (w2 := (G_76_37_29 w1)) cl_136 rfl rfl rfl (m_76_37_29 w1  j4 j5 j6 j7 j8 j9) ?_
        refine EV.steps cl_136 10 (q2 := (67, [some (.ref 0), some (.int (kI 0)), some (.int v2), some (.int x1)], [.int (kI 0), .ref 0], SH, (up2 (G_76_37_29 w1) 0 16 (((G_76_37_29 w1) 0 16) ||| ((kI 1) <<< ((kI 0) &&& 31)))))) rfl ?_
        refine EV.call (kc := 151) (av := [.ref 0, .int (kI 0)]) (r := []) cl_136 rfl rfl rfl H ?_
        clear H; intro y2 s2 w2 e2
        obtain ⟨x2, rfl, rfl, H⟩ := e2
        refine EV.callF (kc := 259) (av := [.int x2]) (r := []) (rv := some (.int (F_259 x2 w2))) (w2 := w2) cl_136 rfl rfl rfl (m_259 w2 x2) ?_
        refine EV.ret cl_136 rfl rfl rfl ?_
        exact ⟨_, rfl, rfl, H⟩
      · skip
        rw [if_neg h3] at H
        refine EV.steps cl_136 1 (q2 := (39, [some (.ref 0), some (.int (kI 0)), some (.int v2), some (.int x1)], [.int x1], SH, w1)) rfl ?_
        refine EV.ret cl_136 rfl rfl rfl ?_
        exact ⟨_, rfl, rfl, H⟩
    · skip
      rw [if_pos h2] at H
      refine EV.steps cl_136 1 (q2 := (24, [some (.ref 0), some (.int (kI 0)), some (.int v2), none], [.int (kI (-1))], SH, w)) rfl ?_
      refine EV.ret cl_136 rfl rfl rfl ?_
      exact ⟨_, rfl, rfl, H⟩
