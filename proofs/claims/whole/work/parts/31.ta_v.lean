theorem t142_0_at0 {X : Scr} {d : Nat} {Q : Int32 → Wd → Prop} (w : Wd) (v1 : Int32)
    (H : (if (F_52_3 v1 w) = 0 then Q (kI (-1)) w else EI X (d + 2) 142 (17, [some (.ref 0), some (.int v1), some (.int (kI 0)), some (.int (kI 0))], [], SH, w) Q)) : EI X (d + 2) 142 (0, [some (.ref 0), some (.int v1), none, none], [], SH, w) Q := by
  unfold EI
  refine EV.steps cl_142 3 (q2 := (5, [some (.ref 0), some (.int v1), none, none], [.int v1, .ref 3], SH, w)) rfl ?_
  refine EV.callF (kc := 52) (av := [.ref 3, .int v1]) (r := []) (rv := some (.int (F_52_3 v1 w))) (w2 := w) cl_142 rfl rfl rfl (m_52_3 w v1) ?_
  refine EV.z_ne cl_142 rfl (fun h1 => ?_) (fun h1 => ?_)
  · skip
    rw [if_neg h1] at H
    refine EV.steps cl_142 4 (q2 := (17, [some (.ref 0), some (.int v1), some (.int (kI 0)), some (.int (kI 0))], [], SH, w)) rfl ?_
    exact H
  · skip
    rw [if_pos h1] at H
    refine EV.steps cl_142 1 (q2 := (12, [some (.ref 0), some (.int v1), none, none], [.int (kI (-1))], SH, w)) rfl ?_
    refine EV.ret cl_142 rfl rfl rfl ?_
    exact ⟨_, rfl, rfl, H⟩
theorem t142_0_at17 {X : Scr} {d : Nat} {Q : Int32 → Wd → Prop} (w : Wd) (v1 : Int32) (v2 : Int32) (v3 : Int32)
    (H : (if (kI 8) ≤ v3 then Q v2 w else (if v2 = v3 then (if (F_13_7 v1 v3 w) = (F_54_3 v1 w) then EI X (d + 2) 142 (17, [some (.ref 0), some (.int v1), some (.int (v2 + (kI 1))), some (.int (v3 + (kI 1)))], [], SH, w) Q else EI X (d + 2) 142 (17, [some (.ref 0), some (.int v1), some (.int v2), some (.int (v3 + (kI 1)))], [], SH, w) Q) else Q v2 w))) : EI X (d + 2) 142 (17, [some (.ref 0), some (.int v1), some (.int v2), some (.int v3)], [], SH, w) Q := by
  unfold EI
  refine EV.steps cl_142 2 (q2 := (20, [some (.ref 0), some (.int v1), some (.int v2), some (.int v3)], [.int (kI 8), .int v3], SH, w)) rfl ?_
  refine EV.i_ge cl_142 rfl (fun h1 => ?_) (fun h1 => ?_)
  · skip
    rw [if_pos h1] at H
    refine EV.steps cl_142 1 (q2 := (58, [some (.ref 0), some (.int v1), some (.int v2), some (.int v3)], [.int v2], SH, w)) rfl ?_
    refine EV.ret cl_142 rfl rfl rfl ?_
    exact ⟨_, rfl, rfl, H⟩
  · skip
    rw [if_neg h1] at H
    refine EV.steps cl_142 2 (q2 := (25, [some (.ref 0), some (.int v1), some (.int v2), some (.int v3)], [.int v3, .int v2], SH, w)) rfl ?_
    refine EV.i_ne cl_142 rfl (fun h2 => ?_) (fun h2 => ?_)
    · skip
      rw [if_neg h2] at H
      refine EV.steps cl_142 1 (q2 := (58, [some (.ref 0), some (.int v1), some (.int v2), some (.int v3)], [.int v2], SH, w)) rfl ?_
      refine EV.ret cl_142 rfl rfl rfl ?_
      exact ⟨_, rfl, rfl, H⟩
    · skip
      rw [if_pos h2] at H
      refine EV.steps cl_142 4 (q2 := (34, [some (.ref 0), some (.int v1), some (.int v2), some (.int v3)], [.int v3, .int v1, .ref 7], SH, w)) rfl ?_
      refine EV.callF (kc := 13) (av := [.ref 7, .int v1, .int v3]) (r := []) (rv := some (.int (F_13_7 v1 v3 w))) (w2 := w) cl_142 rfl rfl rfl (m_13_7 w v1 v3) ?_
      refine EV.steps cl_142 3 (q2 := (42, [some (.ref 0), some (.int v1), some (.int v2), some (.int v3)], [.int v1, .ref 3, .int (F_13_7 v1 v3 w)], SH, w)) rfl ?_
      refine EV.callF (kc := 54) (av := [.ref 3, .int v1]) (r := [.int (F_13_7 v1 v3 w)]) (rv := some (.int (F_54_3 v1 w))) (w2 := w) cl_142 rfl rfl rfl (m_54_3 w v1) ?_
      refine EV.i_ne cl_142 rfl (fun h3 => ?_) (fun h3 => ?_)
      · skip
        rw [if_neg h3] at H
        refine EV.steps cl_142 2 (q2 := (17, [some (.ref 0), some (.int v1), some (.int v2), some (.int (v3 + (kI 1)))], [], SH, w)) rfl ?_
        exact H
      · skip
        rw [if_pos h3] at H
        refine EV.steps cl_142 3 (q2 := (17, [some (.ref 0), some (.int v1), some (.int (v2 + (kI 1))), some (.int (v3 + (kI 1)))], [], SH, w)) rfl ?_
        exact H
theorem t143_0_at0 {X : Scr} {d : Nat} {Q : Int32 → Wd → Prop} (w : Wd) (v1 : Int32)
    (H : (if (F_153 v1 (kI 0) (kI 1) w) = 0 then Q (kI (-1)) w else (if v1 = 0 then CI X (d + 1) 5 [.ref 102] w (fun x2 w2 => Q x2 w2) else CI X (d + 1) 6 [.ref 102] w (fun x1 w1 => Q x1 w1)))) : EI X (d + 1) 143 (0, [some (.ref 0), some (.int v1)], [], SH, w) Q := by
  unfold EI
  refine EV.steps cl_143 3 (q2 := (3, [some (.ref 0), some (.int v1)], [.int (kI 1), .int (kI 0), .int v1], SH, w)) rfl ?_
  refine EV.callF (kc := 153) (av := [.int v1, .int (kI 0), .int (kI 1)]) (r := []) (rv := some (.int (F_153 v1 (kI 0) (kI 1) w))) (w2 := w) cl_143 rfl rfl rfl (m_153 w v1 (kI 0) (kI 1)) ?_
  refine EV.z_ne cl_143 rfl (fun h1 => ?_) (fun h1 => ?_)
  · skip
    rw [if_neg h1] at H
    refine EV.steps cl_143 1 (q2 := (12, [some (.ref 0), some (.int v1)], [.int v1], SH, w)) rfl ?_
    refine EV.z_ne cl_143 rfl (fun h2 => ?_) (fun h2 => ?_)
    · skip
      rw [if_neg h2] at H
      refine EV.steps cl_143 2 (q2 := (29, [some (.ref 0), some (.int v1)], [.ref 102], SH, w)) rfl ?_
      refine EV.call (kc := 6) (av := [.ref 102]) (r := []) cl_143 rfl rfl rfl H ?_
      clear H; intro y1 s1 w1 e1
      obtain ⟨x1, rfl, rfl, H⟩ := e1
      refine EV.ret cl_143 rfl rfl rfl ?_
      exact ⟨_, rfl, rfl, H⟩
    · skip
      rw [if_pos h2] at H
      refine EV.steps cl_143 2 (q2 := (19, [some (.ref 0), some (.int v1)], [.ref 102], SH, w)) rfl ?_
      refine EV.call (kc := 5) (av := [.ref 102]) (r := []) cl_143 rfl rfl rfl H ?_
      clear H; intro y2 s2 w2 e2
      obtain ⟨x2, rfl, rfl, H⟩ := e2
      refine EV.steps cl_143 1 (q2 := (32, [some (.ref 0), some (.int v1)], [.int x2], SH, w2)) rfl ?_
      refine EV.ret cl_143 rfl rfl rfl ?_
      exact ⟨_, rfl, rfl, H⟩
  · skip
    rw [if_pos h1] at H
    refine EV.steps cl_143 1 (q2 := (10, [some (.ref 0), some (.int v1)], [.int (kI (-1))], SH, w)) rfl ?_
    refine EV.ret cl_143 rfl rfl rfl ?_
    exact ⟨_, rfl, rfl, H⟩
theorem t144_0_at0 {X : Scr} {d : Nat} {Q : Int32 → Wd → Prop} (w : Wd) (v1 : Int32) (v2 : Int32)
    (H : (if (F_52_3 v1 w) = 0 then Q (kI (-1)) w else (if (F_153 v2 (kI 0) (kI 11) w) = 0 then (if v2 = (kI 100) then CU X (d + 2) 36 [.ref 95, .ref 7, .int v1] w (fun w2 => Q (w2 95 10) w2) else Q (kI (-1)) w) else CU X (d + 2) 36 [.ref 95, .ref 7, .int v1] w (fun w1 => (if v2 = (kI 100) then Q (w1 95 10) w1 else Q (F_37_95 v2 w1) w1))))) : EI X (d + 2) 144 (0, [some (.ref 0), some (.int v1), some (.int v2)], [], SH, w) Q := by
  unfold EI
  refine EV.steps cl_144 3 (q2 := (5, [some (.ref 0), some (.int v1), some (.int v2)], [.int v1, .ref 3], SH, w)) rfl ?_
  refine EV.callF (kc := 52) (av := [.ref 3, .int v1]) (r := []) (rv := some (.int (F_52_3 v1 w))) (w2 := w) cl_144 rfl rfl rfl (m_52_3 w v1) ?_
  refine EV.z_eq cl_144 rfl (fun h1 => ?_) (fun h1 => ?_)
  · skip
    rw [if_pos h1] at H
    refine EV.steps cl_144 1 (q2 := (28, [some (.ref 0), some (.int v1), some (.int v2)], [.int (kI (-1))], SH, w)) rfl ?_
    refine EV.ret cl_144 rfl rfl rfl ?_
    exact ⟨_, rfl, rfl, H⟩
  · skip
    rw [if_neg h1] at H
    refine EV.steps cl_144 3 (q2 := (15, [some (.ref 0), some (.int v1), some (.int v2)], [.int (kI 11), .int (kI 0), .int v2], SH, w)) rfl ?_
    refine EV.callF (kc := 153) (av := [.int v2, .int (kI 0), .int (kI 11)]) (r := []) (rv := some (.int (F_153 v2 (kI 0) (kI 11) w))) (w2 := w) cl_144 rfl rfl rfl (m_153 w v2 (kI 0) (kI 11)) ?_
    refine EV.z_ne cl_144 rfl (fun h2 => ?_) (fun h2 => ?_)
    · skip
      rw [if_neg h2] at H
      refine EV.steps cl_144 5 (q2 := (38, [some (.ref 0), some (.int v1), some (.int v2)], [.int v1, .ref 7, .ref 95], SH, w)) rfl ?_
      refine EV.call (kc := 36) (av := [.ref 95, .ref 7, .int v1]) (r := []) cl_144 rfl rfl rfl H ?_
      clear H; intro y1 s1 w1 e1
      obtain ⟨rfl, rfl, H⟩ := e1
      refine EV.steps cl_144 2 (q2 := (44, [some (.ref 0), some (.int v1), some (.int v2)], [.int (kI 100), .int v2], SH, w1)) rfl ?_
      refine EV.i_ne cl_144 rfl (fun h3 => ?_) (fun h3 => ?_)
      · skip
        rw [if_neg h3] at H
        refine EV.steps cl_144 3 (q2 := (62, [some (.ref 0), some (.int v1), some (.int v2)], [.int v2, .ref 95], SH, w1)) rfl ?_
        refine EV.callF (kc := 37) (av := [.ref 95, .int v2]) (r := []) (rv := some (.int (F_37_95 v2 w1))) (w2 := w1) cl_144 rfl rfl rfl (m_37_95 w1 v2) ?_
        refine EV.ret cl_144 rfl rfl rfl ?_
        exact ⟨_, rfl, rfl, H⟩
      · skip
        rw [if_pos h3] at H
        refine EV.steps cl_144 4 (q2 := (65, [some (.ref 0), some (.int v1), some (.int v2)], [.int (w1 95 10)], SH, w1)) rfl ?_
        refine EV.ret cl_144 rfl rfl rfl ?_
        exact ⟨_, rfl, rfl, H⟩
    · skip
      rw [if_pos h2] at H
      refine EV.steps cl_144 2 (q2 := (24, [some (.ref 0), some (.int v1), some (.int v2)], [.int (kI 100), .int v2], SH, w)) rfl ?_
      refine EV.i_eq cl_144 rfl (fun h4 => ?_) (fun h4 => ?_)
      · skip
        rw [if_pos h4] at H
        refine EV.steps cl_144 5 (q2 := (38, [some (.ref 0), some (.int v1), some (.int v2)], [.int v1, .ref 7, .ref 95], SH, w)) rfl ?_
        refine EV.call (kc := 36) (av := [.ref 95, .ref 7, .int v1]) (r := []) cl_144 rfl rfl rfl H ?_
        clear H; intro y2 s2 w2 e2
        obtain ⟨rfl, rfl, H⟩ := e2
        refine EV.steps cl_144 2 (q2 := (44, [some (.ref 0), some (.int v1), some (.int v2)], [.int (kI 100), .int v2], SH, w2)) rfl ?_
        refine EV.i_ne cl_144 rfl (fun h5 => ?_) (fun h5 => ?_)
        · skip
          exact absurd h4 h5
        · skip
          refine EV.steps cl_144 4 (q2 := (65, [some (.ref 0), some (.int v1), some (.int v2)], [.int (w2 95 10)], SH, w2)) rfl ?_
          refine EV.ret cl_144 rfl rfl rfl ?_
          exact ⟨_, rfl, rfl, H⟩
      · skip
        rw [if_neg h4] at H
        refine EV.steps cl_144 1 (q2 := (28, [some (.ref 0), some (.int v1), some (.int v2)], [.int (kI (-1))], SH, w)) rfl ?_
        refine EV.ret cl_144 rfl rfl rfl ?_
        exact ⟨_, rfl, rfl, H⟩
theorem t145_0_at0 {X : Scr} {d : Nat} {Q : Int64 → Wd → Prop} (w : Wd) (v1 : Int32) (v2 : Int32) (v3 : Int32)
    (H : (if (F_153 v1 (kI 1) (kI 12) w) = 0 then Q (-1) w else (if (F_153 v2 (kI 1) (kI 60) w) = 0 then Q (-1) w else (if (F_153 v3 (kI 1) (kI 20) w) = 0 then Q (-1) w else (if v1 ≤ (v2 - ((v1 - (kI 1)) * (v3 - (kI 1)))) then EL X (d + 1) 145 (59, [some (.ref 0), some (.int v1), some (.int v2), some (.int v3), some (.int (v2 - ((v1 - (kI 1)) * (v3 - (kI 1))))), some (.long (Int64.ofNat 1)), none, some (.int (kI 1))], [], SH, w) Q else Q (Int64.ofNat 0) w))))) : EL X (d + 1) 145 (0, [some (.ref 0), some (.int v1), some (.int v2), some (.int v3), none, none, none, none], [], SH, w) Q := by
  unfold EL
  refine EV.steps cl_145 3 (q2 := (4, [some (.ref 0), some (.int v1), some (.int v2), some (.int v3), none, none, none, none], [.int (kI 12), .int (kI 1), .int v1], SH, w)) rfl ?_
  refine EV.callF (kc := 153) (av := [.int v1, .int (kI 1), .int (kI 12)]) (r := []) (rv := some (.int (F_153 v1 (kI 1) (kI 12) w))) (w2 := w) cl_145 rfl rfl rfl (m_153 w v1 (kI 1) (kI 12)) ?_
  refine EV.z_eq cl_145 rfl (fun h1 => ?_) (fun h1 => ?_)
  · skip
    rw [if_pos h1] at H
    refine EV.steps cl_145 1 (q2 := (33, [some (.ref 0), some (.int v1), some (.int v2), some (.int v3), none, none, none, none], [.long (-1)], SH, w)) rfl ?_
    refine EV.ret cl_145 rfl rfl rfl ?_
    exact ⟨_, rfl, rfl, H⟩
  · skip
    rw [if_neg h1] at H
    refine EV.steps cl_145 3 (q2 := (14, [some (.ref 0), some (.int v1), some (.int v2), some (.int v3), none, none, none, none], [.int (kI 60), .int (kI 1), .int v2], SH, w)) rfl ?_
    refine EV.callF (kc := 153) (av := [.int v2, .int (kI 1), .int (kI 60)]) (r := []) (rv := some (.int (F_153 v2 (kI 1) (kI 60) w))) (w2 := w) cl_145 rfl rfl rfl (m_153 w v2 (kI 1) (kI 60)) ?_
    refine EV.z_eq cl_145 rfl (fun h2 => ?_) (fun h2 => ?_)
    · skip
      rw [if_pos h2] at H
      refine EV.steps cl_145 1 (q2 := (33, [some (.ref 0), some (.int v1), some (.int v2), some (.int v3), none, none, none, none], [.long (-1)], SH, w)) rfl ?_
      refine EV.ret cl_145 rfl rfl rfl ?_
      exact ⟨_, rfl, rfl, H⟩
    · skip
      rw [if_neg h2] at H
      refine EV.steps cl_145 3 (q2 := (24, [some (.ref 0), some (.int v1), some (.int v2), some (.int v3), none, none, none, none], [.int (kI 20), .int (kI 1), .int v3], SH, w)) rfl ?_
      refine EV.callF (kc := 153) (av := [.int v3, .int (kI 1), .int (kI 20)]) (r := []) (rv := some (.int (F_153 v3 (kI 1) (kI 20) w))) (w2 := w) cl_145 rfl rfl rfl (m_153 w v3 (kI 1) (kI 20)) ?_
      refine EV.z_ne cl_145 rfl (fun h3 => ?_) (fun h3 => ?_)
      · skip
        rw [if_neg h3] at H
        refine EV.steps cl_145 12 (q2 := (48, [some (.ref 0), some (.int v1), some (.int v2), some (.int v3), some (.int (v2 - ((v1 - (kI 1)) * (v3 - (kI 1))))), none, none, none], [.int v1, .int (v2 - ((v1 - (kI 1)) * (v3 - (kI 1))))], SH, w)) rfl ?_
        refine EV.i_ge cl_145 rfl (fun h4 => ?_) (fun h4 => ?_)
        · skip
          rw [if_pos h4] at H
          refine EV.steps cl_145 4 (q2 := (59, [some (.ref 0), some (.int v1), some (.int v2), some (.int v3), some (.int (v2 - ((v1 - (kI 1)) * (v3 - (kI 1))))), some (.long (Int64.ofNat 1)), none, some (.int (kI 1))], [], SH, w)) rfl ?_
          exact H
        · skip
          rw [if_neg h4] at H
          refine EV.steps cl_145 1 (q2 := (52, [some (.ref 0), some (.int v1), some (.int v2), some (.int v3), some (.int (v2 - ((v1 - (kI 1)) * (v3 - (kI 1))))), none, none, none], [.long (Int64.ofNat 0)], SH, w)) rfl ?_
          refine EV.ret cl_145 rfl rfl rfl ?_
          exact ⟨_, rfl, rfl, H⟩
      · skip
        rw [if_pos h3] at H
        refine EV.steps cl_145 1 (q2 := (33, [some (.ref 0), some (.int v1), some (.int v2), some (.int v3), none, none, none, none], [.long (-1)], SH, w)) rfl ?_
        refine EV.ret cl_145 rfl rfl rfl ?_
        exact ⟨_, rfl, rfl, H⟩
theorem t145_0_at59 {X : Scr} {d : Nat} {Q : Int64 → Wd → Prop} (w : Wd) (v1 : Int32) (v2 : Int32) (v3 : Int32) (v4 : Int32) (l5 : Int64) (v7 : Int32)
    (H : (if v1 < v7 then Q l5 w else (¬ v7.toInt64 = 0 ∧ EL X (d + 1) 145 (59, [some (.ref 0), some (.int v1), some (.int v2), some (.int v3), some (.int v4), some (.long ((l5 * ((v4 - v1) + v7).toInt64) / v7.toInt64)), none, some (.int (v7 + (kI 1)))], [], SH, w) Q))) : EL X (d + 1) 145 (59, [some (.ref 0), some (.int v1), some (.int v2), some (.int v3), some (.int v4), some (.long l5), none, some (.int v7)], [], SH, w) Q := by
  unfold EL
  refine EV.steps cl_145 2 (q2 := (62, [some (.ref 0), some (.int v1), some (.int v2), some (.int v3), some (.int v4), some (.long l5), none, some (.int v7)], [.int v1, .int v7], SH, w)) rfl ?_
  refine EV.i_gt cl_145 rfl (fun h1 => ?_) (fun h1 => ?_)
  · skip
    rw [if_pos h1] at H
    refine EV.steps cl_145 1 (q2 := (90, [some (.ref 0), some (.int v1), some (.int v2), some (.int v3), some (.int v4), some (.long l5), none, some (.int v7)], [.long l5], SH, w)) rfl ?_
    refine EV.ret cl_145 rfl rfl rfl ?_
    exact ⟨_, rfl, rfl, H⟩
  · skip
    rw [if_neg h1] at H
    refine EV.steps cl_145 10 (q2 := (79, [some (.ref 0), some (.int v1), some (.int v2), some (.int v3), some (.int v4), some (.long l5), none, some (.int v7)], [.long v7.toInt64, .long (l5 * ((v4 - v1) + v7).toInt64)], SH, w)) rfl ?_
    obtain ⟨j2, H⟩ := H
    refine EV.ldiv cl_145 rfl j2 ?_
    refine EV.steps cl_145 3 (q2 := (59, [some (.ref 0), some (.int v1), some (.int v2), some (.int v3), some (.int v4), some (.long ((l5 * ((v4 - v1) + v7).toInt64) / v7.toInt64)), none, some (.int (v7 + (kI 1)))], [], SH, w)) rfl ?_
    exact H
theorem t149_0_at0 {X : Scr} {d : Nat} {Q : Int32 → Wd → Prop} (w : Wd) (v1 : Int32) (v2 : Int32)
    (H : (if (F_52_3 v1 w) = 0 then Q (kI (-2)) w else (if (F_105_1 v2 (kI 0) (kI 6) w) = 0 then Q (kI (-2)) w else EI X (d + 2) 149 (33, [some (.ref 0), some (.int v1), some (.int v2), some (.int (kI (-1))), some (.int (kI 0))], [], SH, w) Q))) : EI X (d + 2) 149 (0, [some (.ref 0), some (.int v1), some (.int v2), none, none], [], SH, w) Q := by
  unfold EI
  refine EV.steps cl_149 3 (q2 := (5, [some (.ref 0), some (.int v1), some (.int v2), none, none], [.int v1, .ref 3], SH, w)) rfl ?_
  refine EV.callF (kc := 52) (av := [.ref 3, .int v1]) (r := []) (rv := some (.int (F_52_3 v1 w))) (w2 := w) cl_149 rfl rfl rfl (m_52_3 w v1) ?_
  refine EV.z_eq cl_149 rfl (fun h1 => ?_) (fun h1 => ?_)
  · skip
    rw [if_pos h1] at H
    refine EV.steps cl_149 1 (q2 := (27, [some (.ref 0), some (.int v1), some (.int v2), none, none], [.int (kI (-2))], SH, w)) rfl ?_
    refine EV.ret cl_149 rfl rfl rfl ?_
    exact ⟨_, rfl, rfl, H⟩
  · skip
    rw [if_neg h1] at H
    refine EV.steps cl_149 5 (q2 := (19, [some (.ref 0), some (.int v1), some (.int v2), none, none], [.int (kI 6), .int (kI 0), .int v2, .ref 1], SH, w)) rfl ?_
    refine EV.callF (kc := 105) (av := [.ref 1, .int v2, .int (kI 0), .int (kI 6)]) (r := []) (rv := some (.int (F_105_1 v2 (kI 0) (kI 6) w))) (w2 := w) cl_149 rfl rfl rfl (m_105_1 w v2 (kI 0) (kI 6)) ?_
    refine EV.z_ne cl_149 rfl (fun h2 => ?_) (fun h2 => ?_)
    · skip
      rw [if_neg h2] at H
      refine EV.steps cl_149 4 (q2 := (33, [some (.ref 0), some (.int v1), some (.int v2), some (.int (kI (-1))), some (.int (kI 0))], [], SH, w)) rfl ?_
      exact H
    · skip
      rw [if_pos h2] at H
      refine EV.steps cl_149 1 (q2 := (27, [some (.ref 0), some (.int v1), some (.int v2), none, none], [.int (kI (-2))], SH, w)) rfl ?_
      refine EV.ret cl_149 rfl rfl rfl ?_
      exact ⟨_, rfl, rfl, H⟩
theorem t149_0_at33 {X : Scr} {d : Nat} {Q : Int32 → Wd → Prop} (w : Wd) (v1 : Int32) (v2 : Int32) (v3 : Int32) (v4 : Int32)
    (H : (if v2 ≤ v4 then Q v3 (up2 w 1 1 (kI 0)) else (if v3 = (kI (-1)) then ((¬ v4 < 0 → ¬ (w 1 1) ≤ v4 → (inB v4 260 = true)) ∧ (if (F_106_1 v4 w) = ((F_11_7 v4 v1 w) - (F_11_7 v4 v1 w) / (kI 256) * (kI 256)) then EI X (d + 2) 149 (33, [some (.ref 0), some (.int v1), some (.int v2), some (.int v3), some (.int (v4 + (kI 1)))], [], SH, w) Q else EI X (d + 2) 149 (33, [some (.ref 0), some (.int v1), some (.int v2), some (.int v4), some (.int (v4 + (kI 1)))], [], SH, w) Q)) else Q v3 (up2 w 1 1 (kI 0))))) : EI X (d + 2) 149 (33, [some (.ref 0), some (.int v1), some (.int v2), some (.int v3), some (.int v4)], [], SH, w) Q := by
  unfold EI
  refine EV.steps cl_149 2 (q2 := (36, [some (.ref 0), some (.int v1), some (.int v2), some (.int v3), some (.int v4)], [.int v2, .int v4], SH, w)) rfl ?_
  refine EV.i_ge cl_149 rfl (fun h1 => ?_) (fun h1 => ?_)
  · skip
    rw [if_pos h1] at H
    refine EV.steps cl_149 5 (q2 := (88, [some (.ref 0), some (.int v1), some (.int v2), some (.int v3), some (.int v4)], [.int v3], SH, (up2 w 1 1 (kI 0)))) rfl ?_
    refine EV.ret cl_149 rfl rfl rfl ?_
    exact ⟨_, rfl, rfl, H⟩
  · skip
    rw [if_neg h1] at H
    refine EV.steps cl_149 2 (q2 := (41, [some (.ref 0), some (.int v1), some (.int v2), some (.int v3), some (.int v4)], [.int (kI (-1)), .int v3], SH, w)) rfl ?_
    refine EV.i_ne cl_149 rfl (fun h2 => ?_) (fun h2 => ?_)
    · skip
      rw [if_neg h2] at H
      refine EV.steps cl_149 5 (q2 := (88, [some (.ref 0), some (.int v1), some (.int v2), some (.int v3), some (.int v4)], [.int v3], SH, (up2 w 1 1 (kI 0)))) rfl ?_
      refine EV.ret cl_149 rfl rfl rfl ?_
      exact ⟨_, rfl, rfl, H⟩
    · skip
      rw [if_pos h2] at H
      refine EV.steps cl_149 3 (q2 := (50, [some (.ref 0), some (.int v1), some (.int v2), some (.int v3), some (.int v4)], [.int v4, .ref 1], SH, w)) rfl ?_
      obtain ⟨j3, H⟩ := H
      refine EV.callF (kc := 106) (av := [.ref 1, .int v4]) (r := []) (rv := some (.int (F_106_1 v4 w))) (w2 := w) cl_149 rfl rfl rfl (m_106_1 w v4 j3) ?_
      refine EV.steps cl_149 4 (q2 := (60, [some (.ref 0), some (.int v1), some (.int v2), some (.int v3), some (.int v4)], [.int v1, .int v4, .ref 7, .int (F_106_1 v4 w)], SH, w)) rfl ?_
      refine EV.callF (kc := 11) (av := [.ref 7, .int v4, .int v1]) (r := [.int (F_106_1 v4 w)]) (rv := some (.int (F_11_7 v4 v1 w))) (w2 := w) cl_149 rfl rfl rfl (m_11_7 w v4 v1) ?_
      refine EV.steps cl_149 1 (q2 := (66, [some (.ref 0), some (.int v1), some (.int v2), some (.int v3), some (.int v4)], [.int (kI 256), .int (F_11_7 v4 v1 w), .int (F_106_1 v4 w)], SH, w)) rfl ?_
      refine EV.irem cl_149 rfl (by decide) ?_
      refine EV.i_eq cl_149 rfl (fun h4 => ?_) (fun h4 => ?_)
      · skip
        rw [if_pos h4] at H
        refine EV.steps cl_149 2 (q2 := (33, [some (.ref 0), some (.int v1), some (.int v2), some (.int v3), some (.int (v4 + (kI 1)))], [], SH, w)) rfl ?_
        exact H
      · skip
        rw [if_neg h4] at H
        refine EV.steps cl_149 4 (q2 := (33, [some (.ref 0), some (.int v1), some (.int v2), some (.int v4), some (.int (v4 + (kI 1)))], [], SH, w)) rfl ?_
        exact H
theorem t151_0_c0_at0 {X : Scr} {d : Nat} {Q : Int32 → Wd → Prop} (w : Wd) 
    (H : EI X (d + 3) 151 (4, [some (.ref 0), some (.int (kI 0)), some (.int (kI 0)), some (.int (kI 0))], [], SH, w) Q) : EI X (d + 3) 151 (0, [some (.ref 0), some (.int (kI 0)), none, none], [], SH, w) Q := by
  unfold EI
  refine EV.steps cl_151 4 (q2 := (4, [some (.ref 0), some (.int (kI 0)), some (.int (kI 0)), some (.int (kI 0))], [], SH, w)) rfl ?_
  exact H
theorem t151_0_c0_at4 {X : Scr} {d : Nat} {Q : Int32 → Wd → Prop} (w : Wd) (v2 : Int32) (v3 : Int32)
    (H : (if (kI 20) ≤ v3 then Q v2 w else (if (F_154 (w 102 6) v3 w) = 0 then EI X (d + 3) 151 (4, [some (.ref 0), some (.int (kI 0)), some (.int v2), some (.int (v3 + (kI 1)))], [], SH, w) Q else CI X (d + 3) 44 [.ref 84, .ref 37, .int (kI 0)] (G_1_102_85 v3 w) (fun x1 w1 => (if x1 = 0 then EI X (d + 3) 151 (4, [some (.ref 0), some (.int (kI 0)), some (.int v2), some (.int (v3 + (kI 1)))], [], SH, w1) Q else EI X (d + 3) 151 (4, [some (.ref 0), some (.int (kI 0)), some (.int (v2 ||| ((kI 1) <<< (v3 &&& 31)))), some (.int (v3 + (kI 1)))], [], SH, w1) Q))))) : EI X (d + 3) 151 (4, [some (.ref 0), some (.int (kI 0)), some (.int v2), some (.int v3)], [], SH, w) Q := by
  unfold EI
  refine EV.steps cl_151 2 (q2 := (7, [some (.ref 0), some (.int (kI 0)), some (.int v2), some (.int v3)], [.int (kI 20), .int v3], SH, w)) rfl ?_
  refine EV.i_ge cl_151 rfl (fun h1 => ?_) (fun h1 => ?_)
  · skip
    rw [if_pos h1] at H
    refine EV.steps cl_151 1 (q2 := (69, [some (.ref 0), some (.int (kI 0)), some (.int v2), some (.int v3)], [.int v2], SH, w)) rfl ?_
    refine EV.ret cl_151 rfl rfl rfl ?_
    exact ⟨_, rfl, rfl, H⟩
  · skip
    rw [if_neg h1] at H
    refine EV.steps cl_151 4 (q2 := (18, [some (.ref 0), some (.int (kI 0)), some (.int v2), some (.int v3)], [.int v3, .int (w 102 6)], SH, w)) rfl ?_
    refine EV.callF (kc := 154) (av := [.int (w 102 6), .int v3]) (r := []) (rv := some (.int (F_154 (w 102 6) v3 w))) (w2 := w) cl_151 rfl rfl rfl (m_154 w (w 102 6) v3) ?_
    refine EV.z_eq cl_151 rfl (fun h2 => ?_) (fun h2 => ?_)
    · skip
      rw [if_pos h2] at H
      refine EV.steps cl_151 2 (q2 := (4, [some (.ref 0), some (.int (kI 0)), some (.int v2), some (.int (v3 + (kI 1)))], [], SH, w)) rfl ?_
      exact H
    · skip
      rw [if_neg h2] at H
      refine EV.steps cl_151 6 (q2 := (36, [some (.ref 0), some (.int (kI 0)), some (.int v2), some (.int v3)], [.ref 85, .int v3, .ref 102], SH, w)) rfl ?_
      refine EV.callF (kc := 1) (av := [.ref 102, .int v3, .ref 85]) (r := []) (rv := none) (w2 := (G_1_102_85 v3 w)) cl_151 rfl rfl rfl (m_1_102_85 w v3) ?_
      refine EV.steps cl_151 7 (q2 := (50, [some (.ref 0), some (.int (kI 0)), some (.int v2), some (.int v3)], [.int (kI 0), .ref 37, .ref 84], SH, (G_1_102_85 v3 w))) rfl ?_
      refine EV.call (kc := 44) (av := [.ref 84, .ref 37, .int (kI 0)]) (r := []) cl_151 rfl rfl rfl H ?_
      clear H; intro y1 s1 w1 e1
      obtain ⟨x1, rfl, rfl, H⟩ := e1
      refine EV.z_eq cl_151 rfl (fun h3 => ?_) (fun h3 => ?_)
      · skip
        rw [if_pos h3] at H
        refine EV.steps cl_151 2 (q2 := (4, [some (.ref 0), some (.int (kI 0)), some (.int v2), some (.int (v3 + (kI 1)))], [], SH, w1)) rfl ?_
        exact H
      · skip
        rw [if_neg h3] at H
        refine EV.steps cl_151 8 (q2 := (4, [some (.ref 0), some (.int (kI 0)), some (.int (v2 ||| ((kI 1) <<< (v3 &&& 31)))), some (.int (v3 + (kI 1)))], [], SH, w1)) rfl ?_
        exact H
theorem t151_0_c1_at0 {X : Scr} {d : Nat} {Q : Int32 → Wd → Prop} (w : Wd) 
    (H : EI X (d + 3) 151 (4, [some (.ref 0), some (.int (kI 1)), some (.int (kI 0)), some (.int (kI 0))], [], SH, w) Q) : EI X (d + 3) 151 (0, [some (.ref 0), some (.int (kI 1)), none, none], [], SH, w) Q := by
  unfold EI
  refine EV.steps cl_151 4 (q2 := (4, [some (.ref 0), some (.int (kI 1)), some (.int (kI 0)), some (.int (kI 0))], [], SH, w)) rfl ?_
  exact H
theorem t151_0_c1_at4 {X : Scr} {d : Nat} {Q : Int32 → Wd → Prop} (w : Wd) (v2 : Int32) (v3 : Int32)
    (H : (if (kI 20) ≤ v3 then Q v2 w else (if (F_154 (w 102 6) v3 w) = 0 then EI X (d + 3) 151 (4, [some (.ref 0), some (.int (kI 1)), some (.int v2), some (.int (v3 + (kI 1)))], [], SH, w) Q else CI X (d + 3) 44 [.ref 84, .ref 44, .int (kI 0)] (G_1_102_85 v3 w) (fun x1 w1 => (if x1 = 0 then EI X (d + 3) 151 (4, [some (.ref 0), some (.int (kI 1)), some (.int v2), some (.int (v3 + (kI 1)))], [], SH, w1) Q else EI X (d + 3) 151 (4, [some (.ref 0), some (.int (kI 1)), some (.int (v2 ||| ((kI 1) <<< (v3 &&& 31)))), some (.int (v3 + (kI 1)))], [], SH, w1) Q))))) : EI X (d + 3) 151 (4, [some (.ref 0), some (.int (kI 1)), some (.int v2), some (.int v3)], [], SH, w) Q := by
  unfold EI
  refine EV.steps cl_151 2 (q2 := (7, [some (.ref 0), some (.int (kI 1)), some (.int v2), some (.int v3)], [.int (kI 20), .int v3], SH, w)) rfl ?_
  refine EV.i_ge cl_151 rfl (fun h1 => ?_) (fun h1 => ?_)
  · skip
    rw [if_pos h1] at H
    refine EV.steps cl_151 1 (q2 := (69, [some (.ref 0), some (.int (kI 1)), some (.int v2), some (.int v3)], [.int v2], SH, w)) rfl ?_
    refine EV.ret cl_151 rfl rfl rfl ?_
    exact ⟨_, rfl, rfl, H⟩
  · skip
    rw [if_neg h1] at H
    refine EV.steps cl_151 4 (q2 := (18, [some (.ref 0), some (.int (kI 1)), some (.int v2), some (.int v3)], [.int v3, .int (w 102 6)], SH, w)) rfl ?_
    refine EV.callF (kc := 154) (av := [.int (w 102 6), .int v3]) (r := []) (rv := some (.int (F_154 (w 102 6) v3 w))) (w2 := w) cl_151 rfl rfl rfl (m_154 w (w 102 6) v3) ?_
    refine EV.z_eq cl_151 rfl (fun h2 => ?_) (fun h2 => ?_)
    · skip
      rw [if_pos h2] at H
      refine EV.steps cl_151 2 (q2 := (4, [some (.ref 0), some (.int (kI 1)), some (.int v2), some (.int (v3 + (kI 1)))], [], SH, w)) rfl ?_
      exact H
    · skip
      rw [if_neg h2] at H
      refine EV.steps cl_151 6 (q2 := (36, [some (.ref 0), some (.int (kI 1)), some (.int v2), some (.int v3)], [.ref 85, .int v3, .ref 102], SH, w)) rfl ?_
      refine EV.callF (kc := 1) (av := [.ref 102, .int v3, .ref 85]) (r := []) (rv := none) (w2 := (G_1_102_85 v3 w)) cl_151 rfl rfl rfl (m_1_102_85 w v3) ?_
      refine EV.steps cl_151 7 (q2 := (50, [some (.ref 0), some (.int (kI 1)), some (.int v2), some (.int v3)], [.int (kI 0), .ref 44, .ref 84], SH, (G_1_102_85 v3 w))) rfl ?_
      refine EV.call (kc := 44) (av := [.ref 84, .ref 44, .int (kI 0)]) (r := []) cl_151 rfl rfl rfl H ?_
      clear H; intro y1 s1 w1 e1
      obtain ⟨x1, rfl, rfl, H⟩ := e1
      refine EV.z_eq cl_151 rfl (fun h3 => ?_) (fun h3 => ?_)
      · skip
        rw [if_pos h3] at H
        refine EV.steps cl_151 2 (q2 := (4, [some (.ref 0), some (.int (kI 1)), some (.int v2), some (.int (v3 + (kI 1)))], [], SH, w1)) rfl ?_
        exact H
      · skip
        rw [if_neg h3] at H
        refine EV.steps cl_151 8 (q2 := (4, [some (.ref 0), some (.int (kI 1)), some (.int (v2 ||| ((kI 1) <<< (v3 &&& 31)))), some (.int (v3 + (kI 1)))], [], SH, w1)) rfl ?_
        exact H
theorem t151_0_c2_at0 {X : Scr} {d : Nat} {Q : Int32 → Wd → Prop} (w : Wd) 
    (H : EI X (d + 3) 151 (4, [some (.ref 0), some (.int (kI 2)), some (.int (kI 0)), some (.int (kI 0))], [], SH, w) Q) : EI X (d + 3) 151 (0, [some (.ref 0), some (.int (kI 2)), none, none], [], SH, w) Q := by
  unfold EI
  refine EV.steps cl_151 4 (q2 := (4, [some (.ref 0), some (.int (kI 2)), some (.int (kI 0)), some (.int (kI 0))], [], SH, w)) rfl ?_
  exact H
theorem t151_0_c2_at4 {X : Scr} {d : Nat} {Q : Int32 → Wd → Prop} (w : Wd) (v2 : Int32) (v3 : Int32)
    (H : (if (kI 20) ≤ v3 then Q v2 w else (if (F_154 (w 102 6) v3 w) = 0 then EI X (d + 3) 151 (4, [some (.ref 0), some (.int (kI 2)), some (.int v2), some (.int (v3 + (kI 1)))], [], SH, w) Q else CI X (d + 3) 44 [.ref 84, .ref 51, .int (kI 0)] (G_1_102_85 v3 w) (fun x1 w1 => (if x1 = 0 then EI X (d + 3) 151 (4, [some (.ref 0), some (.int (kI 2)), some (.int v2), some (.int (v3 + (kI 1)))], [], SH, w1) Q else EI X (d + 3) 151 (4, [some (.ref 0), some (.int (kI 2)), some (.int (v2 ||| ((kI 1) <<< (v3 &&& 31)))), some (.int (v3 + (kI 1)))], [], SH, w1) Q))))) : EI X (d + 3) 151 (4, [some (.ref 0), some (.int (kI 2)), some (.int v2), some (.int v3)], [], SH, w) Q := by
  unfold EI
  refine EV.steps cl_151 2 (q2 := (7, [some (.ref 0), some (.int (kI 2)), some (.int v2), some (.int v3)], [.int (kI 20), .int v3], SH, w)) rfl ?_
  refine EV.i_ge cl_151 rfl (fun h1 => ?_) (fun h1 => ?_)
  · skip
    rw [if_pos h1] at H
    refine EV.steps cl_151 1 (q2 := (69, [some (.ref 0), some (.int (kI 2)), some (.int v2), some (.int v3)], [.int v2], SH, w)) rfl ?_
    refine EV.ret cl_151 rfl rfl rfl ?_
    exact ⟨_, rfl, rfl, H⟩
  · skip
    rw [if_neg h1] at H
    refine EV.steps cl_151 4 (q2 := (18, [some (.ref 0), some (.int (kI 2)), some (.int v2), some (.int v3)], [.int v3, .int (w 102 6)], SH, w)) rfl ?_
    refine EV.callF (kc := 154) (av := [.int (w 102 6), .int v3]) (r := []) (rv := some (.int (F_154 (w 102 6) v3 w))) (w2 := w) cl_151 rfl rfl rfl (m_154 w (w 102 6) v3) ?_
    refine EV.z_eq cl_151 rfl (fun h2 => ?_) (fun h2 => ?_)
    · skip
      rw [if_pos h2] at H
      refine EV.steps cl_151 2 (q2 := (4, [some (.ref 0), some (.int (kI 2)), some (.int v2), some (.int (v3 + (kI 1)))], [], SH, w)) rfl ?_
      exact H
    · skip
      rw [if_neg h2] at H
      refine EV.steps cl_151 6 (q2 := (36, [some (.ref 0), some (.int (kI 2)), some (.int v2), some (.int v3)], [.ref 85, .int v3, .ref 102], SH, w)) rfl ?_
      refine EV.callF (kc := 1) (av := [.ref 102, .int v3, .ref 85]) (r := []) (rv := none) (w2 := (G_1_102_85 v3 w)) cl_151 rfl rfl rfl (m_1_102_85 w v3) ?_
      refine EV.steps cl_151 7 (q2 := (50, [some (.ref 0), some (.int (kI 2)), some (.int v2), some (.int v3)], [.int (kI 0), .ref 51, .ref 84], SH, (G_1_102_85 v3 w))) rfl ?_
      refine EV.call (kc := 44) (av := [.ref 84, .ref 51, .int (kI 0)]) (r := []) cl_151 rfl rfl rfl H ?_
      clear H; intro y1 s1 w1 e1
      obtain ⟨x1, rfl, rfl, H⟩ := e1
      refine EV.z_eq cl_151 rfl (fun h3 => ?_) (fun h3 => ?_)
      · skip
        rw [if_pos h3] at H
        refine EV.steps cl_151 2 (q2 := (4, [some (.ref 0), some (.int (kI 2)), some (.int v2), some (.int (v3 + (kI 1)))], [], SH, w1)) rfl ?_
        exact H
      · skip
        rw [if_neg h3] at H
        refine EV.steps cl_151 8 (q2 := (4, [some (.ref 0), some (.int (kI 2)), some (.int (v2 ||| ((kI 1) <<< (v3 &&& 31)))), some (.int (v3 + (kI 1)))], [], SH, w1)) rfl ?_
        exact H
theorem t151_0_c3_at0 {X : Scr} {d : Nat} {Q : Int32 → Wd → Prop} (w : Wd) 
    (H : EI X (d + 3) 151 (4, [some (.ref 0), some (.int (kI 3)), some (.int (kI 0)), some (.int (kI 0))], [], SH, w) Q) : EI X (d + 3) 151 (0, [some (.ref 0), some (.int (kI 3)), none, none], [], SH, w) Q := by
  unfold EI
  refine EV.steps cl_151 4 (q2 := (4, [some (.ref 0), some (.int (kI 3)), some (.int (kI 0)), some (.int (kI 0))], [], SH, w)) rfl ?_
  exact H
theorem t151_0_c3_at4 {X : Scr} {d : Nat} {Q : Int32 → Wd → Prop} (w : Wd) (v2 : Int32) (v3 : Int32)
    (H : (if (kI 20) ≤ v3 then Q v2 w else (if (F_154 (w 102 6) v3 w) = 0 then EI X (d + 3) 151 (4, [some (.ref 0), some (.int (kI 3)), some (.int v2), some (.int (v3 + (kI 1)))], [], SH, w) Q else CI X (d + 3) 44 [.ref 84, .ref 58, .int (kI 0)] (G_1_102_85 v3 w) (fun x1 w1 => (if x1 = 0 then EI X (d + 3) 151 (4, [some (.ref 0), some (.int (kI 3)), some (.int v2), some (.int (v3 + (kI 1)))], [], SH, w1) Q else EI X (d + 3) 151 (4, [some (.ref 0), some (.int (kI 3)), some (.int (v2 ||| ((kI 1) <<< (v3 &&& 31)))), some (.int (v3 + (kI 1)))], [], SH, w1) Q))))) : EI X (d + 3) 151 (4, [some (.ref 0), some (.int (kI 3)), some (.int v2), some (.int v3)], [], SH, w) Q := by
  unfold EI
  refine EV.steps cl_151 2 (q2 := (7, [some (.ref 0), some (.int (kI 3)), some (.int v2), some (.int v3)], [.int (kI 20), .int v3], SH, w)) rfl ?_
  refine EV.i_ge cl_151 rfl (fun h1 => ?_) (fun h1 => ?_)
  · skip
    rw [if_pos h1] at H
    refine EV.steps cl_151 1 (q2 := (69, [some (.ref 0), some (.int (kI 3)), some (.int v2), some (.int v3)], [.int v2], SH, w)) rfl ?_
    refine EV.ret cl_151 rfl rfl rfl ?_
    exact ⟨_, rfl, rfl, H⟩
  · skip
    rw [if_neg h1] at H
    refine EV.steps cl_151 4 (q2 := (18, [some (.ref 0), some (.int (kI 3)), some (.int v2), some (.int v3)], [.int v3, .int (w 102 6)], SH, w)) rfl ?_
    refine EV.callF (kc := 154) (av := [.int (w 102 6), .int v3]) (r := []) (rv := some (.int (F_154 (w 102 6) v3 w))) (w2 := w) cl_151 rfl rfl rfl (m_154 w (w 102 6) v3) ?_
    refine EV.z_eq cl_151 rfl (fun h2 => ?_) (fun h2 => ?_)
    · skip
      rw [if_pos h2] at H
      refine EV.steps cl_151 2 (q2 := (4, [some (.ref 0), some (.int (kI 3)), some (.int v2), some (.int (v3 + (kI 1)))], [], SH, w)) rfl ?_
      exact H
    · skip
      rw [if_neg h2] at H
      refine EV.steps cl_151 6 (q2 := (36, [some (.ref 0), some (.int (kI 3)), some (.int v2), some (.int v3)], [.ref 85, .int v3, .ref 102], SH, w)) rfl ?_
      refine EV.callF (kc := 1) (av := [.ref 102, .int v3, .ref 85]) (r := []) (rv := none) (w2 := (G_1_102_85 v3 w)) cl_151 rfl rfl rfl (m_1_102_85 w v3) ?_
      refine EV.steps cl_151 7 (q2 := (50, [some (.ref 0), some (.int (kI 3)), some (.int v2), some (.int v3)], [.int (kI 0), .ref 58, .ref 84], SH, (G_1_102_85 v3 w))) rfl ?_
      refine EV.call (kc := 44) (av := [.ref 84, .ref 58, .int (kI 0)]) (r := []) cl_151 rfl rfl rfl H ?_
      clear H; intro y1 s1 w1 e1
      obtain ⟨x1, rfl, rfl, H⟩ := e1
      refine EV.z_eq cl_151 rfl (fun h3 => ?_) (fun h3 => ?_)
      · skip
        rw [if_pos h3] at H
        refine EV.steps cl_151 2 (q2 := (4, [some (.ref 0), some (.int (kI 3)), some (.int v2), some (.int (v3 + (kI 1)))], [], SH, w1)) rfl ?_
        exact H
      · skip
        rw [if_neg h3] at H
        refine EV.steps cl_151 8 (q2 := (4, [some (.ref 0), some (.int (kI 3)), some (.int (v2 ||| ((kI 1) <<< (v3 &&& 31)))), some (.int (v3 + (kI 1)))], [], SH, w1)) rfl ?_
        exact H
theorem t151_0_c4_at0 {X : Scr} {d : Nat} {Q : Int32 → Wd → Prop} (w : Wd) 
    (H : EI X (d + 3) 151 (4, [some (.ref 0), some (.int (kI 4)), some (.int (kI 0)), some (.int (kI 0))], [], SH, w) Q) : EI X (d + 3) 151 (0, [some (.ref 0), some (.int (kI 4)), none, none], [], SH, w) Q := by
  unfold EI
  refine EV.steps cl_151 4 (q2 := (4, [some (.ref 0), some (.int (kI 4)), some (.int (kI 0)), some (.int (kI 0))], [], SH, w)) rfl ?_
  exact H
theorem t151_0_c4_at4 {X : Scr} {d : Nat} {Q : Int32 → Wd → Prop} (w : Wd) (v2 : Int32) (v3 : Int32)
    (H : (if (kI 20) ≤ v3 then Q v2 w else (if (F_154 (w 102 6) v3 w) = 0 then EI X (d + 3) 151 (4, [some (.ref 0), some (.int (kI 4)), some (.int v2), some (.int (v3 + (kI 1)))], [], SH, w) Q else CI X (d + 3) 44 [.ref 84, .ref 65, .int (kI 0)] (G_1_102_85 v3 w) (fun x1 w1 => (if x1 = 0 then EI X (d + 3) 151 (4, [some (.ref 0), some (.int (kI 4)), some (.int v2), some (.int (v3 + (kI 1)))], [], SH, w1) Q else EI X (d + 3) 151 (4, [some (.ref 0), some (.int (kI 4)), some (.int (v2 ||| ((kI 1) <<< (v3 &&& 31)))), some (.int (v3 + (kI 1)))], [], SH, w1) Q))))) : EI X (d + 3) 151 (4, [some (.ref 0), some (.int (kI 4)), some (.int v2), some (.int v3)], [], SH, w) Q := by
  unfold EI
  refine EV.steps cl_151 2 (q2 := (7, [some (.ref 0), some (.int (kI 4)), some (.int v2), some (.int v3)], [.int (kI 20), .int v3], SH, w)) rfl ?_
  refine EV.i_ge cl_151 rfl (fun h1 => ?_) (fun h1 => ?_)
  · skip
    rw [if_pos h1] at H
    refine EV.steps cl_151 1 (q2 := (69, [some (.ref 0), some (.int (kI 4)), some (.int v2), some (.int v3)], [.int v2], SH, w)) rfl ?_
    refine EV.ret cl_151 rfl rfl rfl ?_
    exact ⟨_, rfl, rfl, H⟩
  · skip
    rw [if_neg h1] at H
    refine EV.steps cl_151 4 (q2 := (18, [some (.ref 0), some (.int (kI 4)), some (.int v2), some (.int v3)], [.int v3, .int (w 102 6)], SH, w)) rfl ?_
    refine EV.callF (kc := 154) (av := [.int (w 102 6), .int v3]) (r := []) (rv := some (.int (F_154 (w 102 6) v3 w))) (w2 := w) cl_151 rfl rfl rfl (m_154 w (w 102 6) v3) ?_
    refine EV.z_eq cl_151 rfl (fun h2 => ?_) (fun h2 => ?_)
    · skip
      rw [if_pos h2] at H
      refine EV.steps cl_151 2 (q2 := (4, [some (.ref 0), some (.int (kI 4)), some (.int v2), some (.int (v3 + (kI 1)))], [], SH, w)) rfl ?_
      exact H
    · skip
      rw [if_neg h2] at H
      refine EV.steps cl_151 6 (q2 := (36, [some (.ref 0), some (.int (kI 4)), some (.int v2), some (.int v3)], [.ref 85, .int v3, .ref 102], SH, w)) rfl ?_
      refine EV.callF (kc := 1) (av := [.ref 102, .int v3, .ref 85]) (r := []) (rv := none) (w2 := (G_1_102_85 v3 w)) cl_151 rfl rfl rfl (m_1_102_85 w v3) ?_
      refine EV.steps cl_151 7 (q2 := (50, [some (.ref 0), some (.int (kI 4)), some (.int v2), some (.int v3)], [.int (kI 0), .ref 65, .ref 84], SH, (G_1_102_85 v3 w))) rfl ?_
      refine EV.call (kc := 44) (av := [.ref 84, .ref 65, .int (kI 0)]) (r := []) cl_151 rfl rfl rfl H ?_
      clear H; intro y1 s1 w1 e1
      obtain ⟨x1, rfl, rfl, H⟩ := e1
      refine EV.z_eq cl_151 rfl (fun h3 => ?_) (fun h3 => ?_)
      · skip
        rw [if_pos h3] at H
        refine EV.steps cl_151 2 (q2 := (4, [some (.ref 0), some (.int (kI 4)), some (.int v2), some (.int (v3 + (kI 1)))], [], SH, w1)) rfl ?_
        exact H
      · skip
        rw [if_neg h3] at H
        refine EV.steps cl_151 8 (q2 := (4, [some (.ref 0), some (.int (kI 4)), some (.int (v2 ||| ((kI 1) <<< (v3 &&& 31)))), some (.int (v3 + (kI 1)))], [], SH, w1)) rfl ?_
        exact H
theorem t151_0_c5_at0 {X : Scr} {d : Nat} {Q : Int32 → Wd → Prop} (w : Wd) 
    (H : EI X (d + 3) 151 (4, [some (.ref 0), some (.int (kI 5)), some (.int (kI 0)), some (.int (kI 0))], [], SH, w) Q) : EI X (d + 3) 151 (0, [some (.ref 0), some (.int (kI 5)), none, none], [], SH, w) Q := by
  unfold EI
  refine EV.steps cl_151 4 (q2 := (4, [some (.ref 0), some (.int (kI 5)), some (.int (kI 0)), some (.int (kI 0))], [], SH, w)) rfl ?_
  exact H
theorem t151_0_c5_at4 {X : Scr} {d : Nat} {Q : Int32 → Wd → Prop} (w : Wd) (v2 : Int32) (v3 : Int32)
    (H : (if (kI 20) ≤ v3 then Q v2 w else (if (F_154 (w 102 6) v3 w) = 0 then EI X (d + 3) 151 (4, [some (.ref 0), some (.int (kI 5)), some (.int v2), some (.int (v3 + (kI 1)))], [], SH, w) Q else CI X (d + 3) 44 [.ref 84, .ref 72, .int (kI 0)] (G_1_102_85 v3 w) (fun x1 w1 => (if x1 = 0 then EI X (d + 3) 151 (4, [some (.ref 0), some (.int (kI 5)), some (.int v2), some (.int (v3 + (kI 1)))], [], SH, w1) Q else EI X (d + 3) 151 (4, [some (.ref 0), some (.int (kI 5)), some (.int (v2 ||| ((kI 1) <<< (v3 &&& 31)))), some (.int (v3 + (kI 1)))], [], SH, w1) Q))))) : EI X (d + 3) 151 (4, [some (.ref 0), some (.int (kI 5)), some (.int v2), some (.int v3)], [], SH, w) Q := by
  unfold EI
  refine EV.steps cl_151 2 (q2 := (7, [some (.ref 0), some (.int (kI 5)), some (.int v2), some (.int v3)], [.int (kI 20), .int v3], SH, w)) rfl ?_
  refine EV.i_ge cl_151 rfl (fun h1 => ?_) (fun h1 => ?_)
  · skip
    rw [if_pos h1] at H
    refine EV.steps cl_151 1 (q2 := (69, [some (.ref 0), some (.int (kI 5)), some (.int v2), some (.int v3)], [.int v2], SH, w)) rfl ?_
    refine EV.ret cl_151 rfl rfl rfl ?_
    exact ⟨_, rfl, rfl, H⟩
  · skip
    rw [if_neg h1] at H
    refine EV.steps cl_151 4 (q2 := (18, [some (.ref 0), some (.int (kI 5)), some (.int v2), some (.int v3)], [.int v3, .int (w 102 6)], SH, w)) rfl ?_
    refine EV.callF (kc := 154) (av := [.int (w 102 6), .int v3]) (r := []) (rv := some (.int (F_154 (w 102 6) v3 w))) (w2 := w) cl_151 rfl rfl rfl (m_154 w (w 102 6) v3) ?_
    refine EV.z_eq cl_151 rfl (fun h2 => ?_) (fun h2 => ?_)
    · skip
      rw [if_pos h2] at H
      refine EV.steps cl_151 2 (q2 := (4, [some (.ref 0), some (.int (kI 5)), some (.int v2), some (.int (v3 + (kI 1)))], [], SH, w)) rfl ?_
      exact H
    · skip
      rw [if_neg h2] at H
      refine EV.steps cl_151 6 (q2 := (36, [some (.ref 0), some (.int (kI 5)), some (.int v2), some (.int v3)], [.ref 85, .int v3, .ref 102], SH, w)) rfl ?_
      refine EV.callF (kc := 1) (av := [.ref 102, .int v3, .ref 85]) (r := []) (rv := none) (w2 := (G_1_102_85 v3 w)) cl_151 rfl rfl rfl (m_1_102_85 w v3) ?_
      refine EV.steps cl_151 7 (q2 := (50, [some (.ref 0), some (.int (kI 5)), some (.int v2), some (.int v3)], [.int (kI 0), .ref 72, .ref 84], SH, (G_1_102_85 v3 w))) rfl ?_
      refine EV.call (kc := 44) (av := [.ref 84, .ref 72, .int (kI 0)]) (r := []) cl_151 rfl rfl rfl H ?_
      clear H; intro y1 s1 w1 e1
      obtain ⟨x1, rfl, rfl, H⟩ := e1
      refine EV.z_eq cl_151 rfl (fun h3 => ?_) (fun h3 => ?_)
      · skip
        rw [if_pos h3] at H
        refine EV.steps cl_151 2 (q2 := (4, [some (.ref 0), some (.int (kI 5)), some (.int v2), some (.int (v3 + (kI 1)))], [], SH, w1)) rfl ?_
        exact H
      · skip
        rw [if_neg h3] at H
        refine EV.steps cl_151 8 (q2 := (4, [some (.ref 0), some (.int (kI 5)), some (.int (v2 ||| ((kI 1) <<< (v3 &&& 31)))), some (.int (v3 + (kI 1)))], [], SH, w1)) rfl ?_
        exact H
theorem t152_0_at0 {X : Scr} {d : Nat} {Q : Int32 → Wd → Prop} (w : Wd) (v1 : Int32)
    (H : EI X (d + 1) 152 (4, [some (.ref 0), some (.int v1), some (.int (kI 0)), some (.int (kI 0))], [], SH, w) Q) : EI X (d + 1) 152 (0, [some (.ref 0), some (.int v1), none, none], [], SH, w) Q := by
  unfold EI
  refine EV.steps cl_152 4 (q2 := (4, [some (.ref 0), some (.int v1), some (.int (kI 0)), some (.int (kI 0))], [], SH, w)) rfl ?_
  exact H
theorem t152_0_at4 {X : Scr} {d : Nat} {Q : Int32 → Wd → Prop} (w : Wd) (v1 : Int32) (v2 : Int32) (v3 : Int32)
    (H : (if (kI 6) ≤ v3 then Q v2 w else (if (F_154 v1 v3 w) = 0 then EI X (d + 1) 152 (4, [some (.ref 0), some (.int v1), some (.int v2), some (.int (v3 + (kI 1)))], [], SH, w) Q else (inB v3 6 = true ∧ EI X (d + 1) 152 (4, [some (.ref 0), some (.int v1), some (.int (v2 ||| (w 109 v3.toNatClampNeg))), some (.int (v3 + (kI 1)))], [], SH, w) Q)))) : EI X (d + 1) 152 (4, [some (.ref 0), some (.int v1), some (.int v2), some (.int v3)], [], SH, w) Q := by
  unfold EI
  refine EV.steps cl_152 2 (q2 := (7, [some (.ref 0), some (.int v1), some (.int v2), some (.int v3)], [.int (kI 6), .int v3], SH, w)) rfl ?_
  refine EV.i_ge cl_152 rfl (fun h1 => ?_) (fun h1 => ?_)
  · skip
    rw [if_pos h1] at H
    refine EV.steps cl_152 1 (q2 := (34, [some (.ref 0), some (.int v1), some (.int v2), some (.int v3)], [.int v2], SH, w)) rfl ?_
    refine EV.ret cl_152 rfl rfl rfl ?_
    exact ⟨_, rfl, rfl, H⟩
  · skip
    rw [if_neg h1] at H
    refine EV.steps cl_152 2 (q2 := (12, [some (.ref 0), some (.int v1), some (.int v2), some (.int v3)], [.int v3, .int v1], SH, w)) rfl ?_
    refine EV.callF (kc := 154) (av := [.int v1, .int v3]) (r := []) (rv := some (.int (F_154 v1 v3 w))) (w2 := w) cl_152 rfl rfl rfl (m_154 w v1 v3) ?_
    refine EV.z_eq cl_152 rfl (fun h2 => ?_) (fun h2 => ?_)
    · skip
      rw [if_pos h2] at H
      refine EV.steps cl_152 2 (q2 := (4, [some (.ref 0), some (.int v1), some (.int v2), some (.int (v3 + (kI 1)))], [], SH, w)) rfl ?_
      exact H
    · skip
      rw [if_neg h2] at H
      refine EV.steps cl_152 4 (q2 := (24, [some (.ref 0), some (.int v1), some (.int v2), some (.int v3)], [.int v3, .ref 109, .int v2], SH, w)) rfl ?_
      obtain ⟨j3, H⟩ := H
      refine EV.iaload cl_152 rfl rfl (by decide) j3 ?_
      refine EV.steps cl_152 4 (q2 := (4, [some (.ref 0), some (.int v1), some (.int (v2 ||| (w 109 v3.toNatClampNeg))), some (.int (v3 + (kI 1)))], [], SH, w)) rfl ?_
      exact H
