theorem t27_87_7_at0 {X : Scr} {d : Nat} {Q : Int32 → Wd → Prop} (w : Wd) (v2 : Int32)
    (H : EI X (d + 3) 27 (5, [some (.ref 87), some (.ref 7), some (.int v2), some (.int (kI (-1))), some (.int (kI 0)), none], [], SH, w) Q) : EI X (d + 3) 27 (0, [some (.ref 87), some (.ref 7), some (.int v2), none, none, none], [], SH, w) Q := by
  unfold EI
  refine EV.steps cl_27 4 (q2 := (5, [some (.ref 87), some (.ref 7), some (.int v2), some (.int (kI (-1))), some (.int (kI 0)), none], [], SH, w)) rfl ?_
  exact H
theorem t27_87_7_at5 {X : Scr} {d : Nat} {Q : Int32 → Wd → Prop} (w : Wd) (v2 : Int32) (v3 : Int32) (v4 : Int32)
    (H : (if (kI 6) ≤ v4 then Q v3 w else (if (F_51_3 v4 w) = 0 then EI X (d + 3) 27 (5, [some (.ref 87), some (.ref 7), some (.int v2), some (.int v3), some (.int (v4 + (kI 1))), none], [], SH, w) Q else CI X (d + 3) 29 [.ref 87, .int (kI 107), .int (kI 99)] (G_28_87_7 v4 v2 (kI 11) w) (fun x1 w1 => (if v3 = (kI (-1)) then EI X (d + 3) 27 (5, [some (.ref 87), some (.ref 7), some (.int v2), some (.int v4), some (.int (v4 + (kI 1))), none], [], SH, (up2 w1 87 9 x1)) Q else (if (w1 87 9) ≤ x1 then EI X (d + 3) 27 (5, [some (.ref 87), some (.ref 7), some (.int v2), some (.int v3), some (.int (v4 + (kI 1))), none], [], SH, w1) Q else EI X (d + 3) 27 (5, [some (.ref 87), some (.ref 7), some (.int v2), some (.int v4), some (.int (v4 + (kI 1))), none], [], SH, (up2 w1 87 9 x1)) Q)))))) : EI X (d + 3) 27 (5, [some (.ref 87), some (.ref 7), some (.int v2), some (.int v3), some (.int v4), none], [], SH, w) Q := by
  unfold EI
  refine EV.steps cl_27 2 (q2 := (9, [some (.ref 87), some (.ref 7), some (.int v2), some (.int v3), some (.int v4), none], [.int (kI 6), .int v4], SH, w)) rfl ?_
  refine EV.i_ge cl_27 rfl (fun h1 => ?_) (fun h1 => ?_)
  · skip
    rw [if_pos h1] at H
    refine EV.steps cl_27 1 (q2 := (74, [some (.ref 87), some (.ref 7), some (.int v2), some (.int v3), some (.int v4), none], [.int v3], SH, w)) rfl ?_
    refine EV.ret cl_27 rfl rfl rfl ?_
    exact ⟨_, rfl, rfl, H⟩
  · skip
    rw [if_neg h1] at H
    refine EV.steps cl_27 3 (q2 := (18, [some (.ref 87), some (.ref 7), some (.int v2), some (.int v3), some (.int v4), none], [.int v4, .ref 3], SH, w)) rfl ?_
    refine EV.callF (kc := 51) (av := [.ref 3, .int v4]) (r := []) (rv := some (.int (F_51_3 v4 w))) (w2 := w) cl_27 rfl rfl rfl (m_51_3 w v4) ?_
    refine EV.z_eq cl_27 rfl (fun h2 => ?_) (fun h2 => ?_)
    · skip
      rw [if_pos h2] at H
      refine EV.steps cl_27 2 (q2 := (5, [some (.ref 87), some (.ref 7), some (.int v2), some (.int v3), some (.int (v4 + (kI 1))), none], [], SH, w)) rfl ?_
      exact H
    · skip
      rw [if_neg h2] at H
      refine EV.steps cl_27 5 (q2 := (31, [some (.ref 87), some (.ref 7), some (.int v2), some (.int v3), some (.int v4), none], [.int (kI 11), .int v2, .int v4, .ref 7, .ref 87], SH, w)) rfl ?_
      refine EV.callF (kc := 28) (av := [.ref 87, .ref 7, .int v4, .int v2, .int (kI 11)]) (r := []) (rv := none) (w2 := (G_28_87_7 v4 v2 (kI 11) w)) cl_27 rfl rfl rfl (m_28_87_7 w v4 v2 (kI 11)) ?_
      refine EV.steps cl_27 3 (q2 := (39, [some (.ref 87), some (.ref 7), some (.int v2), some (.int v3), some (.int v4), none], [.int (kI 99), .int (kI 107), .ref 87], SH, (G_28_87_7 v4 v2 (kI 11) w))) rfl ?_
      refine EV.call (kc := 29) (av := [.ref 87, .int (kI 107), .int (kI 99)]) (r := []) cl_27 rfl rfl rfl H ?_
      clear H; intro y1 s1 w1 e1
      obtain ⟨x1, rfl, rfl, H⟩ := e1
      refine EV.steps cl_27 3 (q2 := (46, [some (.ref 87), some (.ref 7), some (.int v2), some (.int v3), some (.int v4), some (.int x1)], [.int (kI (-1)), .int v3], SH, w1)) rfl ?_
      refine EV.i_eq cl_27 rfl (fun h3 => ?_) (fun h3 => ?_)
      · skip
        rw [if_pos h3] at H
        refine EV.steps cl_27 7 (q2 := (5, [some (.ref 87), some (.ref 7), some (.int v2), some (.int v4), some (.int (v4 + (kI 1))), some (.int x1)], [], SH, (up2 w1 87 9 x1))) rfl ?_
        exact EV.weak (l := [some (.ref 87), some (.ref 7), some (.int v2), some (.int v4), some (.int (v4 + (kI 1))), none]) ⟨rfl, ⟨rfl, ⟨rfl, ⟨rfl, ⟨rfl, ⟨rfl, trivial⟩⟩⟩⟩⟩⟩ H
      · skip
        rw [if_neg h3] at H
        refine EV.steps cl_27 3 (q2 := (55, [some (.ref 87), some (.ref 7), some (.int v2), some (.int v3), some (.int v4), some (.int x1)], [.int (w1 87 9), .int x1], SH, w1)) rfl ?_
        refine EV.i_ge cl_27 rfl (fun h4 => ?_) (fun h4 => ?_)
        · skip
          rw [if_pos h4] at H
          refine EV.steps cl_27 2 (q2 := (5, [some (.ref 87), some (.ref 7), some (.int v2), some (.int v3), some (.int (v4 + (kI 1))), some (.int x1)], [], SH, w1)) rfl ?_
          exact EV.weak (l := [some (.ref 87), some (.ref 7), some (.int v2), some (.int v3), some (.int (v4 + (kI 1))), none]) ⟨rfl, ⟨rfl, ⟨rfl, ⟨rfl, ⟨rfl, ⟨rfl, trivial⟩⟩⟩⟩⟩⟩ H
        · skip
          rw [if_neg h4] at H
          refine EV.steps cl_27 7 (q2 := (5, [some (.ref 87), some (.ref 7), some (.int v2), some (.int v4), some (.int (v4 + (kI 1))), some (.int x1)], [], SH, (up2 w1 87 9 x1))) rfl ?_
          exact EV.weak (l := [some (.ref 87), some (.ref 7), some (.int v2), some (.int v4), some (.int (v4 + (kI 1))), none]) ⟨rfl, ⟨rfl, ⟨rfl, ⟨rfl, ⟨rfl, ⟨rfl, trivial⟩⟩⟩⟩⟩⟩ H
theorem t27_87_17_at0 {X : Scr} {d : Nat} {Q : Int32 → Wd → Prop} (w : Wd) (v2 : Int32)
    (H : EI X (d + 3) 27 (5, [some (.ref 87), some (.ref 17), some (.int v2), some (.int (kI (-1))), some (.int (kI 0)), none], [], SH, w) Q) : EI X (d + 3) 27 (0, [some (.ref 87), some (.ref 17), some (.int v2), none, none, none], [], SH, w) Q := by
  unfold EI
  refine EV.steps cl_27 4 (q2 := (5, [some (.ref 87), some (.ref 17), some (.int v2), some (.int (kI (-1))), some (.int (kI 0)), none], [], SH, w)) rfl ?_
  exact H
theorem t27_87_17_at5 {X : Scr} {d : Nat} {Q : Int32 → Wd → Prop} (w : Wd) (v2 : Int32) (v3 : Int32) (v4 : Int32)
    (H : (if (kI 6) ≤ v4 then Q v3 w else (if (F_51_3 v4 w) = 0 then EI X (d + 3) 27 (5, [some (.ref 87), some (.ref 17), some (.int v2), some (.int v3), some (.int (v4 + (kI 1))), none], [], SH, w) Q else CI X (d + 3) 29 [.ref 87, .int (kI 107), .int (kI 99)] (G_28_87_17 v4 v2 (kI 11) w) (fun x1 w1 => (if v3 = (kI (-1)) then EI X (d + 3) 27 (5, [some (.ref 87), some (.ref 17), some (.int v2), some (.int v4), some (.int (v4 + (kI 1))), none], [], SH, (up2 w1 87 9 x1)) Q else (if (w1 87 9) ≤ x1 then EI X (d + 3) 27 (5, [some (.ref 87), some (.ref 17), some (.int v2), some (.int v3), some (.int (v4 + (kI 1))), none], [], SH, w1) Q else EI X (d + 3) 27 (5, [some (.ref 87), some (.ref 17), some (.int v2), some (.int v4), some (.int (v4 + (kI 1))), none], [], SH, (up2 w1 87 9 x1)) Q)))))) : EI X (d + 3) 27 (5, [some (.ref 87), some (.ref 17), some (.int v2), some (.int v3), some (.int v4), none], [], SH, w) Q := by
  unfold EI
  refine EV.steps cl_27 2 (q2 := (9, [some (.ref 87), some (.ref 17), some (.int v2), some (.int v3), some (.int v4), none], [.int (kI 6), .int v4], SH, w)) rfl ?_
  refine EV.i_ge cl_27 rfl (fun h1 => ?_) (fun h1 => ?_)
  · skip
    rw [if_pos h1] at H
    refine EV.steps cl_27 1 (q2 := (74, [some (.ref 87), some (.ref 17), some (.int v2), some (.int v3), some (.int v4), none], [.int v3], SH, w)) rfl ?_
    refine EV.ret cl_27 rfl rfl rfl ?_
    exact ⟨_, rfl, rfl, H⟩
  · skip
    rw [if_neg h1] at H
    refine EV.steps cl_27 3 (q2 := (18, [some (.ref 87), some (.ref 17), some (.int v2), some (.int v3), some (.int v4), none], [.int v4, .ref 3], SH, w)) rfl ?_
    refine EV.callF (kc := 51) (av := [.ref 3, .int v4]) (r := []) (rv := some (.int (F_51_3 v4 w))) (w2 := w) cl_27 rfl rfl rfl (m_51_3 w v4) ?_
    refine EV.z_eq cl_27 rfl (fun h2 => ?_) (fun h2 => ?_)
    · skip
      rw [if_pos h2] at H
      refine EV.steps cl_27 2 (q2 := (5, [some (.ref 87), some (.ref 17), some (.int v2), some (.int v3), some (.int (v4 + (kI 1))), none], [], SH, w)) rfl ?_
      exact H
    · skip
      rw [if_neg h2] at H
      refine EV.steps cl_27 5 (q2 := (31, [some (.ref 87), some (.ref 17), some (.int v2), some (.int v3), some (.int v4), none], [.int (kI 11), .int v2, .int v4, .ref 17, .ref 87], SH, w)) rfl ?_
      refine EV.callF (kc := 28) (av := [.ref 87, .ref 17, .int v4, .int v2, .int (kI 11)]) (r := []) (rv := none) (w2 := (G_28_87_17 v4 v2 (kI 11) w)) cl_27 rfl rfl rfl (m_28_87_17 w v4 v2 (kI 11)) ?_
      refine EV.steps cl_27 3 (q2 := (39, [some (.ref 87), some (.ref 17), some (.int v2), some (.int v3), some (.int v4), none], [.int (kI 99), .int (kI 107), .ref 87], SH, (G_28_87_17 v4 v2 (kI 11) w))) rfl ?_
      refine EV.call (kc := 29) (av := [.ref 87, .int (kI 107), .int (kI 99)]) (r := []) cl_27 rfl rfl rfl H ?_
      clear H; intro y1 s1 w1 e1
      obtain ⟨x1, rfl, rfl, H⟩ := e1
      refine EV.steps cl_27 3 (q2 := (46, [some (.ref 87), some (.ref 17), some (.int v2), some (.int v3), some (.int v4), some (.int x1)], [.int (kI (-1)), .int v3], SH, w1)) rfl ?_
      refine EV.i_eq cl_27 rfl (fun h3 => ?_) (fun h3 => ?_)
      · skip
        rw [if_pos h3] at H
        refine EV.steps cl_27 7 (q2 := (5, [some (.ref 87), some (.ref 17), some (.int v2), some (.int v4), some (.int (v4 + (kI 1))), some (.int x1)], [], SH, (up2 w1 87 9 x1))) rfl ?_
        exact EV.weak (l := [some (.ref 87), some (.ref 17), some (.int v2), some (.int v4), some (.int (v4 + (kI 1))), none]) ⟨rfl, ⟨rfl, ⟨rfl, ⟨rfl, ⟨rfl, ⟨rfl, trivial⟩⟩⟩⟩⟩⟩ H
      · skip
        rw [if_neg h3] at H
        refine EV.steps cl_27 3 (q2 := (55, [some (.ref 87), some (.ref 17), some (.int v2), some (.int v3), some (.int v4), some (.int x1)], [.int (w1 87 9), .int x1], SH, w1)) rfl ?_
        refine EV.i_ge cl_27 rfl (fun h4 => ?_) (fun h4 => ?_)
        · skip
          rw [if_pos h4] at H
          refine EV.steps cl_27 2 (q2 := (5, [some (.ref 87), some (.ref 17), some (.int v2), some (.int v3), some (.int (v4 + (kI 1))), some (.int x1)], [], SH, w1)) rfl ?_
          exact EV.weak (l := [some (.ref 87), some (.ref 17), some (.int v2), some (.int v3), some (.int (v4 + (kI 1))), none]) ⟨rfl, ⟨rfl, ⟨rfl, ⟨rfl, ⟨rfl, ⟨rfl, trivial⟩⟩⟩⟩⟩⟩ H
        · skip
          rw [if_neg h4] at H
          refine EV.steps cl_27 7 (q2 := (5, [some (.ref 87), some (.ref 17), some (.int v2), some (.int v4), some (.int (v4 + (kI 1))), some (.int x1)], [], SH, (up2 w1 87 9 x1))) rfl ?_
          exact EV.weak (l := [some (.ref 87), some (.ref 17), some (.int v2), some (.int v4), some (.int (v4 + (kI 1))), none]) ⟨rfl, ⟨rfl, ⟨rfl, ⟨rfl, ⟨rfl, ⟨rfl, trivial⟩⟩⟩⟩⟩⟩ H
theorem t29_87_at0 {X : Scr} {d : Nat} {Q : Int32 → Wd → Prop} (w : Wd) (v1 : Int32) (v2 : Int32)
    (H : EI X (d + 2) 29 (2, [some (.ref 87), some (.int v1), some (.int v2), some (.int (kI 0))], [], SH, w) Q) : EI X (d + 2) 29 (0, [some (.ref 87), some (.int v1), some (.int v2), none], [], SH, w) Q := by
  unfold EI
  refine EV.steps cl_29 2 (q2 := (2, [some (.ref 87), some (.int v1), some (.int v2), some (.int (kI 0))], [], SH, w)) rfl ?_
  exact H
theorem t29_87_at2 {X : Scr} {d : Nat} {Q : Int32 → Wd → Prop} (w : Wd) (v1 : Int32) (v2 : Int32) (v3 : Int32)
    (H : (if (w 22 7) ≤ v3 then Q (kI 0) w else ((¬ (F_153 v3 (kI 0) ((w 22 7) - (kI 1)) w) = 0 → (inB v3 16 = true)) ∧ (if (F_83_22 v3 w) = v1 then CI X (d + 2) 44 [.ref 84, .ref 22, .int v3] w (fun x1 w1 => (if x1 = 0 then EI X (d + 2) 29 (2, [some (.ref 87), some (.int v1), some (.int v2), some (.int (v3 + (kI 1)))], [], SH, w1) Q else CI X (d + 2) 45 [.ref 84, .ref 22, .int v3] w1 (fun x2 w2 => Q (if (kI 0) < (if x2 < v2 then x2 else v2) then (if x2 < v2 then x2 else v2) else (kI 0)) w2))) else EI X (d + 2) 29 (2, [some (.ref 87), some (.int v1), some (.int v2), some (.int (v3 + (kI 1)))], [], SH, w) Q)))) : EI X (d + 2) 29 (2, [some (.ref 87), some (.int v1), some (.int v2), some (.int v3)], [], SH, w) Q := by
  unfold EI
  refine EV.steps cl_29 4 (q2 := (10, [some (.ref 87), some (.int v1), some (.int v2), some (.int v3)], [.int (w 22 7), .int v3], SH, w)) rfl ?_
  refine EV.i_ge cl_29 rfl (fun h1 => ?_) (fun h1 => ?_)
  · skip
    rw [if_pos h1] at H
    refine EV.steps cl_29 1 (q2 := (68, [some (.ref 87), some (.int v1), some (.int v2), some (.int v3)], [.int (kI 0)], SH, w)) rfl ?_
    refine EV.ret cl_29 rfl rfl rfl ?_
    exact ⟨_, rfl, rfl, H⟩
  · skip
    rw [if_neg h1] at H
    refine EV.steps cl_29 3 (q2 := (18, [some (.ref 87), some (.int v1), some (.int v2), some (.int v3)], [.int v3, .ref 22], SH, w)) rfl ?_
    obtain ⟨j2, H⟩ := H
    refine EV.callF (kc := 83) (av := [.ref 22, .int v3]) (r := []) (rv := some (.int (F_83_22 v3 w))) (w2 := w) cl_29 rfl rfl rfl (m_83_22 w v3 j2) ?_
    refine EV.steps cl_29 1 (q2 := (22, [some (.ref 87), some (.int v1), some (.int v2), some (.int v3)], [.int v1, .int (F_83_22 v3 w)], SH, w)) rfl ?_
    refine EV.i_ne cl_29 rfl (fun h3 => ?_) (fun h3 => ?_)
    · skip
      rw [if_neg h3] at H
      refine EV.steps cl_29 2 (q2 := (2, [some (.ref 87), some (.int v1), some (.int v2), some (.int (v3 + (kI 1)))], [], SH, w)) rfl ?_
      exact H
    · skip
      rw [if_pos h3] at H
      refine EV.steps cl_29 5 (q2 := (34, [some (.ref 87), some (.int v1), some (.int v2), some (.int v3)], [.int v3, .ref 22, .ref 84], SH, w)) rfl ?_
      refine EV.call (kc := 44) (av := [.ref 84, .ref 22, .int v3]) (r := []) cl_29 rfl rfl rfl H ?_
      clear H; intro y1 s1 w1 e1
      obtain ⟨x1, rfl, rfl, H⟩ := e1
      refine EV.z_eq cl_29 rfl (fun h4 => ?_) (fun h4 => ?_)
      · skip
        rw [if_pos h4] at H
        refine EV.steps cl_29 2 (q2 := (2, [some (.ref 87), some (.int v1), some (.int v2), some (.int (v3 + (kI 1)))], [], SH, w1)) rfl ?_
        exact H
      · skip
        rw [if_neg h4] at H
        refine EV.steps cl_29 7 (q2 := (51, [some (.ref 87), some (.int v1), some (.int v2), some (.int v3)], [.int v3, .ref 22, .ref 84, .int v2, .int (kI 0)], SH, w1)) rfl ?_
        refine EV.call (kc := 45) (av := [.ref 84, .ref 22, .int v3]) (r := [.int v2, .int (kI 0)]) cl_29 rfl rfl rfl H ?_
        clear H; intro y2 s2 w2 e2
        obtain ⟨x2, rfl, rfl, H⟩ := e2
        refine EV.steps cl_29 2 (q2 := (60, [some (.ref 87), some (.int v1), some (.int v2), some (.int v3)], [.int (if (kI 0) < (if x2 < v2 then x2 else v2) then (if x2 < v2 then x2 else v2) else (kI 0))], SH, w2)) rfl ?_
        refine EV.ret cl_29 rfl rfl rfl ?_
        exact ⟨_, rfl, rfl, H⟩
theorem t30_87_at0 {X : Scr} {d : Nat} {Q : Int32 → Wd → Prop} (w : Wd) 
    (H : EI X (d + 2) 30 (2, [some (.ref 87), some (.int (kI 0))], [], SH, w) Q) : EI X (d + 2) 30 (0, [some (.ref 87), none], [], SH, w) Q := by
  unfold EI
  refine EV.steps cl_30 2 (q2 := (2, [some (.ref 87), some (.int (kI 0))], [], SH, w)) rfl ?_
  exact H
theorem t30_87_at2 {X : Scr} {d : Nat} {Q : Int32 → Wd → Prop} (w : Wd) (v1 : Int32)
    (H : (if (w 22 7) ≤ v1 then Q (kI 0) w else ((¬ (F_153 v1 (kI 0) ((w 22 7) - (kI 1)) w) = 0 → (inB v1 16 = true)) ∧ (if (F_83_22 v1 w) = (kI 120) then CI X (d + 2) 44 [.ref 84, .ref 22, .int v1] w (fun x1 w1 => (if x1 = 0 then EI X (d + 2) 30 (2, [some (.ref 87), some (.int (v1 + (kI 1)))], [], SH, w1) Q else Q (kI 1) w1)) else EI X (d + 2) 30 (2, [some (.ref 87), some (.int (v1 + (kI 1)))], [], SH, w) Q)))) : EI X (d + 2) 30 (2, [some (.ref 87), some (.int v1)], [], SH, w) Q := by
  unfold EI
  refine EV.steps cl_30 4 (q2 := (10, [some (.ref 87), some (.int v1)], [.int (w 22 7), .int v1], SH, w)) rfl ?_
  refine EV.i_ge cl_30 rfl (fun h1 => ?_) (fun h1 => ?_)
  · skip
    rw [if_pos h1] at H
    refine EV.steps cl_30 1 (q2 := (50, [some (.ref 87), some (.int v1)], [.int (kI 0)], SH, w)) rfl ?_
    refine EV.ret cl_30 rfl rfl rfl ?_
    exact ⟨_, rfl, rfl, H⟩
  · skip
    rw [if_neg h1] at H
    refine EV.steps cl_30 3 (q2 := (18, [some (.ref 87), some (.int v1)], [.int v1, .ref 22], SH, w)) rfl ?_
    obtain ⟨j2, H⟩ := H
    refine EV.callF (kc := 83) (av := [.ref 22, .int v1]) (r := []) (rv := some (.int (F_83_22 v1 w))) (w2 := w) cl_30 rfl rfl rfl (m_83_22 w v1 j2) ?_
    refine EV.steps cl_30 1 (q2 := (23, [some (.ref 87), some (.int v1)], [.int (kI 120), .int (F_83_22 v1 w)], SH, w)) rfl ?_
    refine EV.i_ne cl_30 rfl (fun h3 => ?_) (fun h3 => ?_)
    · skip
      rw [if_neg h3] at H
      refine EV.steps cl_30 2 (q2 := (2, [some (.ref 87), some (.int (v1 + (kI 1)))], [], SH, w)) rfl ?_
      exact H
    · skip
      rw [if_pos h3] at H
      refine EV.steps cl_30 5 (q2 := (35, [some (.ref 87), some (.int v1)], [.int v1, .ref 22, .ref 84], SH, w)) rfl ?_
      refine EV.call (kc := 44) (av := [.ref 84, .ref 22, .int v1]) (r := []) cl_30 rfl rfl rfl H ?_
      clear H; intro y1 s1 w1 e1
      obtain ⟨x1, rfl, rfl, H⟩ := e1
      refine EV.z_eq cl_30 rfl (fun h4 => ?_) (fun h4 => ?_)
      · skip
        rw [if_pos h4] at H
        refine EV.steps cl_30 2 (q2 := (2, [some (.ref 87), some (.int (v1 + (kI 1)))], [], SH, w1)) rfl ?_
        exact H
      · skip
        rw [if_neg h4] at H
        refine EV.steps cl_30 1 (q2 := (42, [some (.ref 87), some (.int v1)], [.int (kI 1)], SH, w1)) rfl ?_
        refine EV.ret cl_30 rfl rfl rfl ?_
        exact ⟨_, rfl, rfl, H⟩
theorem t32_95_7_at0 {X : Scr} {d : Nat} {Q : Int32 → Wd → Prop} (w : Wd) (v2 : Int32) (v3 : Int32) (v4 : Int32)
    (H : (if v4 < (kI 1) then Q (kI 0) (up2 w 95 7 (F_259 v3 w)) else (if (kI 1) ≤ (F_259 v3 w) then CU X (d + 1) 33 [.ref 95, .ref 7, .int v2, .int v3, .int v4] (up2 w 95 7 (F_259 v3 w)) (fun w1 => EI X (d + 1) 32 (39, [some (.ref 95), some (.ref 7), some (.int v2), some (.int v3), some (.int v4), some (.int (kI 0)), some (.int (kI 0)), none], [], SH, w1) Q) else Q (kI 0) (up2 w 95 7 (F_259 v3 w))))) : EI X (d + 1) 32 (0, [some (.ref 95), some (.ref 7), some (.int v2), some (.int v3), some (.int v4), none, none, none], [], SH, w) Q := by
  unfold EI
  refine EV.steps cl_32 2 (q2 := (2, [some (.ref 95), some (.ref 7), some (.int v2), some (.int v3), some (.int v4), none, none, none], [.int v3, .ref 95], SH, w)) rfl ?_
  refine EV.callF (kc := 259) (av := [.int v3]) (r := [.ref 95]) (rv := some (.int (F_259 v3 w))) (w2 := w) cl_32 rfl rfl rfl (m_259 w v3) ?_
  refine EV.steps cl_32 3 (q2 := (11, [some (.ref 95), some (.ref 7), some (.int v2), some (.int v3), some (.int v4), none, none, none], [.int (kI 1), .int v4], SH, (up2 w 95 7 (F_259 v3 w)))) rfl ?_
  refine EV.i_lt cl_32 rfl (fun h1 => ?_) (fun h1 => ?_)
  · skip
    rw [if_pos h1] at H
    refine EV.steps cl_32 1 (q2 := (23, [some (.ref 95), some (.ref 7), some (.int v2), some (.int v3), some (.int v4), none, none, none], [.int (kI 0)], SH, (up2 w 95 7 (F_259 v3 w)))) rfl ?_
    refine EV.ret cl_32 rfl rfl rfl ?_
    exact ⟨_, rfl, rfl, H⟩
  · skip
    rw [if_neg h1] at H
    refine EV.steps cl_32 3 (q2 := (19, [some (.ref 95), some (.ref 7), some (.int v2), some (.int v3), some (.int v4), none, none, none], [.int (kI 1), .int (F_259 v3 w)], SH, (up2 w 95 7 (F_259 v3 w)))) rfl ?_
    refine EV.i_ge cl_32 rfl (fun h2 => ?_) (fun h2 => ?_)
    · skip
      rw [if_pos h2] at H
      refine EV.steps cl_32 5 (q2 := (30, [some (.ref 95), some (.ref 7), some (.int v2), some (.int v3), some (.int v4), none, none, none], [.int v4, .int v3, .int v2, .ref 7, .ref 95], SH, (up2 w 95 7 (F_259 v3 w)))) rfl ?_
      refine EV.call (kc := 33) (av := [.ref 95, .ref 7, .int v2, .int v3, .int v4]) (r := []) cl_32 rfl rfl rfl H ?_
      clear H; intro y1 s1 w1 e1
      obtain ⟨rfl, rfl, H⟩ := e1
      refine EV.steps cl_32 4 (q2 := (39, [some (.ref 95), some (.ref 7), some (.int v2), some (.int v3), some (.int v4), some (.int (kI 0)), some (.int (kI 0)), none], [], SH, w1)) rfl ?_
      exact H
    · skip
      rw [if_neg h2] at H
      refine EV.steps cl_32 1 (q2 := (23, [some (.ref 95), some (.ref 7), some (.int v2), some (.int v3), some (.int v4), none, none, none], [.int (kI 0)], SH, (up2 w 95 7 (F_259 v3 w)))) rfl ?_
      refine EV.ret cl_32 rfl rfl rfl ?_
      exact ⟨_, rfl, rfl, H⟩
theorem t32_95_7_at39 {X : Scr} {d : Nat} {Q : Int32 → Wd → Prop} (w : Wd) (v2 : Int32) (v3 : Int32) (v4 : Int32) (v5 : Int32) (v6 : Int32)
    (H : (if ((kI 1) <<< ((w 95 6) &&& 31)) ≤ v6 then ((v5 = 0 ∨ v5 = 1) ∧ Q v5 w) else CI X (d + 1) 34 [.ref 95, .int v6, .int v4] w (fun x1 w1 => (if x1 < 0 then EI X (d + 1) 32 (39, [some (.ref 95), some (.ref 7), some (.int v2), some (.int v3), some (.int v4), some (.int v5), some (.int (v6 + (kI 1))), none], [], SH, w1) Q else (if v5 = 0 then EI X (d + 1) 32 (39, [some (.ref 95), some (.ref 7), some (.int v2), some (.int v3), some (.int v4), some (.int (kI 1)), some (.int (v6 + (kI 1))), none], [], SH, (up2 (up2 w1 95 8 x1) 95 9 v6)) Q else (if (w1 95 8) ≤ x1 then EI X (d + 1) 32 (39, [some (.ref 95), some (.ref 7), some (.int v2), some (.int v3), some (.int v4), some (.int v5), some (.int (v6 + (kI 1))), none], [], SH, w1) Q else EI X (d + 1) 32 (39, [some (.ref 95), some (.ref 7), some (.int v2), some (.int v3), some (.int v4), some (.int (kI 1)), some (.int (v6 + (kI 1))), none], [], SH, (up2 (up2 w1 95 8 x1) 95 9 v6)) Q)))))) : EI X (d + 1) 32 (39, [some (.ref 95), some (.ref 7), some (.int v2), some (.int v3), some (.int v4), some (.int v5), some (.int v6), none], [], SH, w) Q := by
  unfold EI
  refine EV.steps cl_32 5 (q2 := (47, [some (.ref 95), some (.ref 7), some (.int v2), some (.int v3), some (.int v4), some (.int v5), some (.int v6), none], [.int ((kI 1) <<< ((w 95 6) &&& 31)), .int v6], SH, w)) rfl ?_
  refine EV.i_ge cl_32 rfl (fun h1 => ?_) (fun h1 => ?_)
  · skip
    rw [if_pos h1] at H
    refine EV.steps cl_32 1 (q2 := (102, [some (.ref 95), some (.ref 7), some (.int v2), some (.int v3), some (.int v4), some (.int v5), some (.int v6), none], [.int v5], SH, w)) rfl ?_
    obtain ⟨j2, H⟩ := H
    refine EV.retB cl_32 rfl rfl j2 ?_
    exact ⟨_, rfl, rfl, H⟩
  · skip
    rw [if_neg h1] at H
    refine EV.steps cl_32 3 (q2 := (55, [some (.ref 95), some (.ref 7), some (.int v2), some (.int v3), some (.int v4), some (.int v5), some (.int v6), none], [.int v4, .int v6, .ref 95], SH, w)) rfl ?_
    refine EV.call (kc := 34) (av := [.ref 95, .int v6, .int v4]) (r := []) cl_32 rfl rfl rfl H ?_
    clear H; intro y1 s1 w1 e1
    obtain ⟨x1, rfl, rfl, H⟩ := e1
    refine EV.steps cl_32 2 (q2 := (62, [some (.ref 95), some (.ref 7), some (.int v2), some (.int v3), some (.int v4), some (.int v5), some (.int v6), some (.int x1)], [.int x1], SH, w1)) rfl ?_
    refine EV.z_lt cl_32 rfl (fun h3 => ?_) (fun h3 => ?_)
    · skip
      rw [if_pos h3] at H
      refine EV.steps cl_32 2 (q2 := (39, [some (.ref 95), some (.ref 7), some (.int v2), some (.int v3), some (.int v4), some (.int v5), some (.int (v6 + (kI 1))), some (.int x1)], [], SH, w1)) rfl ?_
      exact EV.weak (l := [some (.ref 95), some (.ref 7), some (.int v2), some (.int v3), some (.int v4), some (.int v5), some (.int (v6 + (kI 1))), none]) ⟨rfl, ⟨rfl, ⟨rfl, ⟨rfl, ⟨rfl, ⟨rfl, ⟨rfl, ⟨rfl, trivial⟩⟩⟩⟩⟩⟩⟩⟩ H
    · skip
      rw [if_neg h3] at H
      refine EV.steps cl_32 1 (q2 := (67, [some (.ref 95), some (.ref 7), some (.int v2), some (.int v3), some (.int v4), some (.int v5), some (.int v6), some (.int x1)], [.int v5], SH, w1)) rfl ?_
      refine EV.z_eq cl_32 rfl (fun h4 => ?_) (fun h4 => ?_)
      · skip
        rw [if_pos h4] at H
        refine EV.steps cl_32 10 (q2 := (39, [some (.ref 95), some (.ref 7), some (.int v2), some (.int v3), some (.int v4), some (.int (kI 1)), some (.int (v6 + (kI 1))), some (.int x1)], [], SH, (up2 (up2 w1 95 8 x1) 95 9 v6))) rfl ?_
        exact EV.weak (l := [some (.ref 95), some (.ref 7), some (.int v2), some (.int v3), some (.int v4), some (.int (kI 1)), some (.int (v6 + (kI 1))), none]) ⟨rfl, ⟨rfl, ⟨rfl, ⟨rfl, ⟨rfl, ⟨rfl, ⟨rfl, ⟨rfl, trivial⟩⟩⟩⟩⟩⟩⟩⟩ H
      · skip
        rw [if_neg h4] at H
        refine EV.steps cl_32 3 (q2 := (76, [some (.ref 95), some (.ref 7), some (.int v2), some (.int v3), some (.int v4), some (.int v5), some (.int v6), some (.int x1)], [.int (w1 95 8), .int x1], SH, w1)) rfl ?_
        refine EV.i_ge cl_32 rfl (fun h5 => ?_) (fun h5 => ?_)
        · skip
          rw [if_pos h5] at H
          refine EV.steps cl_32 2 (q2 := (39, [some (.ref 95), some (.ref 7), some (.int v2), some (.int v3), some (.int v4), some (.int v5), some (.int (v6 + (kI 1))), some (.int x1)], [], SH, w1)) rfl ?_
          exact EV.weak (l := [some (.ref 95), some (.ref 7), some (.int v2), some (.int v3), some (.int v4), some (.int v5), some (.int (v6 + (kI 1))), none]) ⟨rfl, ⟨rfl, ⟨rfl, ⟨rfl, ⟨rfl, ⟨rfl, ⟨rfl, ⟨rfl, trivial⟩⟩⟩⟩⟩⟩⟩⟩ H
        · skip
          rw [if_neg h5] at H
          refine EV.steps cl_32 10 (q2 := (39, [some (.ref 95), some (.ref 7), some (.int v2), some (.int v3), some (.int v4), some (.int (kI 1)), some (.int (v6 + (kI 1))), some (.int x1)], [], SH, (up2 (up2 w1 95 8 x1) 95 9 v6))) rfl ?_
          exact EV.weak (l := [some (.ref 95), some (.ref 7), some (.int v2), some (.int v3), some (.int v4), some (.int (kI 1)), some (.int (v6 + (kI 1))), none]) ⟨rfl, ⟨rfl, ⟨rfl, ⟨rfl, ⟨rfl, ⟨rfl, ⟨rfl, ⟨rfl, trivial⟩⟩⟩⟩⟩⟩⟩⟩ H
theorem t33_95_7_at0 {X : Scr} {d : Nat} {Q : Wd → Prop} (w : Wd) (v2 : Int32) (v3 : Int32) (v4 : Int32)
    (H : EU X (d + 2) 33 (8, [some (.ref 95), some (.ref 7), some (.int v2), some (.int v3), some (.int v4), some (.int (kI 0)), none], [], SH, (up2 w 95 6 (kI 0))) Q) : EU X (d + 2) 33 (0, [some (.ref 95), some (.ref 7), some (.int v2), some (.int v3), some (.int v4), none, none], [], SH, w) Q := by
  unfold EU
  refine EV.steps cl_33 5 (q2 := (8, [some (.ref 95), some (.ref 7), some (.int v2), some (.int v3), some (.int v4), some (.int (kI 0)), none], [], SH, (up2 w 95 6 (kI 0)))) rfl ?_
  exact H
theorem t33_95_7_at8 {X : Scr} {d : Nat} {Q : Wd → Prop} (w : Wd) (v2 : Int32) (v3 : Int32) (v4 : Int32) (v5 : Int32)
    (H : (if (kI 6) ≤ v5 then Q w else EU X (d + 2) 33 (18, [some (.ref 95), some (.ref 7), some (.int v2), some (.int v3), some (.int v4), some (.int v5), some (.int (kI 0))], [], SH, w) Q)) : EU X (d + 2) 33 (8, [some (.ref 95), some (.ref 7), some (.int v2), some (.int v3), some (.int v4), some (.int v5), none], [], SH, w) Q := by
  unfold EU
  refine EV.steps cl_33 2 (q2 := (12, [some (.ref 95), some (.ref 7), some (.int v2), some (.int v3), some (.int v4), some (.int v5), none], [.int (kI 6), .int v5], SH, w)) rfl ?_
  refine EV.i_ge cl_33 rfl (fun h1 => ?_) (fun h1 => ?_)
  · skip
    rw [if_pos h1] at H
    refine EV.ret cl_33 rfl rfl rfl ?_
    exact ⟨rfl, rfl, H⟩
  · skip
    rw [if_neg h1] at H
    refine EV.steps cl_33 2 (q2 := (18, [some (.ref 95), some (.ref 7), some (.int v2), some (.int v3), some (.int v4), some (.int v5), some (.int (kI 0))], [], SH, w)) rfl ?_
    exact H
theorem t33_95_7_at18 {X : Scr} {d : Nat} {Q : Wd → Prop} (w : Wd) (v2 : Int32) (v3 : Int32) (v4 : Int32) (v5 : Int32) (v6 : Int32)
    (H : (if (kI 6) ≤ v6 then EU X (d + 2) 33 (8, [some (.ref 95), some (.ref 7), some (.int v2), some (.int v3), some (.int v4), some (.int (v5 + (kI 1))), none], [], SH, w) Q else (if (F_154 v2 v5 w) = 0 then EU X (d + 2) 33 (8, [some (.ref 95), some (.ref 7), some (.int v2), some (.int v3), some (.int v4), some (.int (v5 + (kI 1))), none], [], SH, w) Q else (if (F_154 v3 v6 w) = 0 then EU X (d + 2) 33 (18, [some (.ref 95), some (.ref 7), some (.int v2), some (.int v3), some (.int v4), some (.int v5), some (.int (v6 + (kI 1)))], [], SH, w) Q else (if (kI 12) ≤ (w 95 6) then EU X (d + 2) 33 (18, [some (.ref 95), some (.ref 7), some (.int v2), some (.int v3), some (.int v4), some (.int v5), some (.int (v6 + (kI 1)))], [], SH, w) Q else (if v4 ≤ 0 then EU X (d + 2) 33 (18, [some (.ref 95), some (.ref 7), some (.int v2), some (.int v3), some (.int v4), some (.int v5), some (.int (v6 + (kI 1)))], [], SH, w) Q else (¬ v4 = 0 ∧ (inB (w 95 6) 12 = true ∧ EU X (d + 2) 33 (18, [some (.ref 95), some (.ref 7), some (.int v2), some (.int v3), some (.int v4), some (.int v5), some (.int (v6 + (kI 1)))], [], SH, (up2 (up2 w 96 (w 95 6).toNatClampNeg ((F_11_7 v5 v6 w) - (F_11_7 v5 v6 w) / v4 * v4)) 95 6 ((w 95 6) + (kI 1)))) Q)))))))) : EU X (d + 2) 33 (18, [some (.ref 95), some (.ref 7), some (.int v2), some (.int v3), some (.int v4), some (.int v5), some (.int v6)], [], SH, w) Q := by
  unfold EU
  refine EV.steps cl_33 2 (q2 := (22, [some (.ref 95), some (.ref 7), some (.int v2), some (.int v3), some (.int v4), some (.int v5), some (.int v6)], [.int (kI 6), .int v6], SH, w)) rfl ?_
  refine EV.i_ge cl_33 rfl (fun h1 => ?_) (fun h1 => ?_)
  · skip
    rw [if_pos h1] at H
    refine EV.steps cl_33 2 (q2 := (8, [some (.ref 95), some (.ref 7), some (.int v2), some (.int v3), some (.int v4), some (.int (v5 + (kI 1))), some (.int v6)], [], SH, w)) rfl ?_
    exact EV.weak (l := [some (.ref 95), some (.ref 7), some (.int v2), some (.int v3), some (.int v4), some (.int (v5 + (kI 1))), none]) ⟨rfl, ⟨rfl, ⟨rfl, ⟨rfl, ⟨rfl, ⟨rfl, ⟨rfl, trivial⟩⟩⟩⟩⟩⟩⟩ H
  · skip
    rw [if_neg h1] at H
    refine EV.steps cl_33 2 (q2 := (28, [some (.ref 95), some (.ref 7), some (.int v2), some (.int v3), some (.int v4), some (.int v5), some (.int v6)], [.int v5, .int v2], SH, w)) rfl ?_
    refine EV.callF (kc := 154) (av := [.int v2, .int v5]) (r := []) (rv := some (.int (F_154 v2 v5 w))) (w2 := w) cl_33 rfl rfl rfl (m_154 w v2 v5) ?_
    refine EV.z_eq cl_33 rfl (fun h2 => ?_) (fun h2 => ?_)
    · skip
      rw [if_pos h2] at H
      refine EV.steps cl_33 2 (q2 := (8, [some (.ref 95), some (.ref 7), some (.int v2), some (.int v3), some (.int v4), some (.int (v5 + (kI 1))), some (.int v6)], [], SH, w)) rfl ?_
      exact EV.weak (l := [some (.ref 95), some (.ref 7), some (.int v2), some (.int v3), some (.int v4), some (.int (v5 + (kI 1))), none]) ⟨rfl, ⟨rfl, ⟨rfl, ⟨rfl, ⟨rfl, ⟨rfl, ⟨rfl, trivial⟩⟩⟩⟩⟩⟩⟩ H
    · skip
      rw [if_neg h2] at H
      refine EV.steps cl_33 2 (q2 := (37, [some (.ref 95), some (.ref 7), some (.int v2), some (.int v3), some (.int v4), some (.int v5), some (.int v6)], [.int v6, .int v3], SH, w)) rfl ?_
      refine EV.callF (kc := 154) (av := [.int v3, .int v6]) (r := []) (rv := some (.int (F_154 v3 v6 w))) (w2 := w) cl_33 rfl rfl rfl (m_154 w v3 v6) ?_
      refine EV.z_eq cl_33 rfl (fun h3 => ?_) (fun h3 => ?_)
      · skip
        rw [if_pos h3] at H
        refine EV.steps cl_33 2 (q2 := (18, [some (.ref 95), some (.ref 7), some (.int v2), some (.int v3), some (.int v4), some (.int v5), some (.int (v6 + (kI 1)))], [], SH, w)) rfl ?_
        exact H
      · skip
        rw [if_neg h3] at H
        refine EV.steps cl_33 3 (q2 := (49, [some (.ref 95), some (.ref 7), some (.int v2), some (.int v3), some (.int v4), some (.int v5), some (.int v6)], [.int (kI 12), .int (w 95 6)], SH, w)) rfl ?_
        refine EV.i_ge cl_33 rfl (fun h4 => ?_) (fun h4 => ?_)
        · skip
          rw [if_pos h4] at H
          refine EV.steps cl_33 2 (q2 := (18, [some (.ref 95), some (.ref 7), some (.int v2), some (.int v3), some (.int v4), some (.int v5), some (.int (v6 + (kI 1)))], [], SH, w)) rfl ?_
          exact H
        · skip
          rw [if_neg h4] at H
          refine EV.steps cl_33 1 (q2 := (54, [some (.ref 95), some (.ref 7), some (.int v2), some (.int v3), some (.int v4), some (.int v5), some (.int v6)], [.int v4], SH, w)) rfl ?_
          refine EV.z_le cl_33 rfl (fun h5 => ?_) (fun h5 => ?_)
          · skip
            rw [if_pos h5] at H
            refine EV.steps cl_33 2 (q2 := (18, [some (.ref 95), some (.ref 7), some (.int v2), some (.int v3), some (.int v4), some (.int v5), some (.int (v6 + (kI 1)))], [], SH, w)) rfl ?_
            exact H
          · skip
            rw [if_neg h5] at H
            refine EV.steps cl_33 7 (q2 := (70, [some (.ref 95), some (.ref 7), some (.int v2), some (.int v3), some (.int v4), some (.int v5), some (.int v6)], [.int v6, .int v5, .ref 7, .int (w 95 6), .ref 96], SH, w)) rfl ?_
            refine EV.callF (kc := 11) (av := [.ref 7, .int v5, .int v6]) (r := [.int (w 95 6), .ref 96]) (rv := some (.int (F_11_7 v5 v6 w))) (w2 := w) cl_33 rfl rfl rfl (m_11_7 w v5 v6) ?_
            refine EV.steps cl_33 1 (q2 := (75, [some (.ref 95), some (.ref 7), some (.int v2), some (.int v3), some (.int v4), some (.int v5), some (.int v6)], [.int v4, .int (F_11_7 v5 v6 w), .int (w 95 6), .ref 96], SH, w)) rfl ?_
            obtain ⟨j6, H⟩ := H
            refine EV.irem cl_33 rfl j6 ?_
            obtain ⟨j7, H⟩ := H
            refine EV.iastore cl_33 rfl rfl (by decide) j7 ?_
            refine EV.steps cl_33 8 (q2 := (18, [some (.ref 95), some (.ref 7), some (.int v2), some (.int v3), some (.int v4), some (.int v5), some (.int (v6 + (kI 1)))], [], SH, (up2 (up2 w 96 (w 95 6).toNatClampNeg ((F_11_7 v5 v6 w) - (F_11_7 v5 v6 w) / v4 * v4)) 95 6 ((w 95 6) + (kI 1))))) rfl ?_
            exact H
theorem t34_95_at0 {X : Scr} {d : Nat} {Q : Int32 → Wd → Prop} (w : Wd) (v1 : Int32) (v2 : Int32)
    (H : EI X (d + 2) 34 (19, [some (.ref 95), some (.int v1), some (.int v2), some (.int (kI 0)), some (.int (kI 0)), some (.int (kI 0)), some (.int (kI 0)), none, none], [], SH, (G_258_97 (kI 0) w)) Q) : EI X (d + 2) 34 (0, [some (.ref 95), some (.int v1), some (.int v2), none, none, none, none, none, none], [], SH, w) Q := by
  unfold EI
  refine EV.steps cl_34 3 (q2 := (5, [some (.ref 95), some (.int v1), some (.int v2), none, none, none, none, none, none], [.int (kI 0), .ref 97], SH, w)) rfl ?_
  refine EV.callF (kc := 258) (av := [.ref 97, .int (kI 0)]) (r := []) (rv := none) (w2 := (G_258_97 (kI 0) w)) cl_34 rfl rfl rfl (m_258_97 w (kI 0)) ?_
  refine EV.steps cl_34 8 (q2 := (19, [some (.ref 95), some (.int v1), some (.int v2), some (.int (kI 0)), some (.int (kI 0)), some (.int (kI 0)), some (.int (kI 0)), none, none], [], SH, (G_258_97 (kI 0) w))) rfl ?_
  exact H
theorem t34_95_at19 {X : Scr} {d : Nat} {Q : Int32 → Wd → Prop} (w : Wd) (v1 : Int32) (v2 : Int32) (v3 : Int32) (v4 : Int32) (v5 : Int32) (v6 : Int32)
    (H : (if (w 95 6) ≤ v6 then CI X (d + 2) 35 [.ref 95, .int v2] w (fun x1 w1 => (if x1 = (kI (-1)) then Q (kI (-1)) w1 else Q (v3 + x1) w1)) else (if (F_154 v1 v6 w) = 0 then (inB v6 12 = true ∧ (if (kI 6) ≤ v5 then (if (v5 + (kI 1)) < (w 95 7) then EI X (d + 2) 34 (19, [some (.ref 95), some (.int v1), some (.int v2), some (.int v3), some (.int (v4 + (-(w 96 v6.toNatClampNeg)))), some (.int (v5 + (kI 1))), some (.int (v6 + (kI 1))), none, none], [], SH, w) Q else (if (if 0 ≤ (v4 + (-(w 96 v6.toNatClampNeg))) then (v4 + (-(w 96 v6.toNatClampNeg))) else 0 - (v4 + (-(w 96 v6.toNatClampNeg)))) < v2 then EI X (d + 2) 34 (19, [some (.ref 95), some (.int v1), some (.int v2), some (.int (v3 + (if 0 ≤ (v4 + (-(w 96 v6.toNatClampNeg))) then (v4 + (-(w 96 v6.toNatClampNeg))) else 0 - (v4 + (-(w 96 v6.toNatClampNeg)))))), some (.int (kI 0)), some (.int (kI 0)), some (.int (v6 + (kI 1))), none, none], [], SH, w) Q else Q (kI (-1)) w)) else (inB v5 6 = true ∧ (inB v5 6 = true ∧ (if (v5 + (kI 1)) < (w 95 7) then EI X (d + 2) 34 (19, [some (.ref 95), some (.int v1), some (.int v2), some (.int v3), some (.int (v4 + (-(w 96 v6.toNatClampNeg)))), some (.int (v5 + (kI 1))), some (.int (v6 + (kI 1))), none, none], [], SH, (up2 w 97 v5.toNatClampNeg ((w 97 v5.toNatClampNeg) + (-(w 96 v6.toNatClampNeg))))) Q else (if (if 0 ≤ (v4 + (-(w 96 v6.toNatClampNeg))) then (v4 + (-(w 96 v6.toNatClampNeg))) else 0 - (v4 + (-(w 96 v6.toNatClampNeg)))) < v2 then EI X (d + 2) 34 (19, [some (.ref 95), some (.int v1), some (.int v2), some (.int (v3 + (if 0 ≤ (v4 + (-(w 96 v6.toNatClampNeg))) then (v4 + (-(w 96 v6.toNatClampNeg))) else 0 - (v4 + (-(w 96 v6.toNatClampNeg)))))), some (.int (kI 0)), some (.int (kI 0)), some (.int (v6 + (kI 1))), none, none], [], SH, (up2 w 97 v5.toNatClampNeg ((w 97 v5.toNatClampNeg) + (-(w 96 v6.toNatClampNeg))))) Q else Q (kI (-1)) (up2 w 97 v5.toNatClampNeg ((w 97 v5.toNatClampNeg) + (-(w 96 v6.toNatClampNeg)))))))))) else (inB v6 12 = true ∧ (if (w 96 v6.toNatClampNeg) = 0 then Q (kI (-1)) w else (inB v6 12 = true ∧ (if (kI 6) ≤ v5 then (if (v5 + (kI 1)) < (w 95 7) then EI X (d + 2) 34 (19, [some (.ref 95), some (.int v1), some (.int v2), some (.int v3), some (.int (v4 + (v2 - (w 96 v6.toNatClampNeg)))), some (.int (v5 + (kI 1))), some (.int (v6 + (kI 1))), none, none], [], SH, w) Q else (if (if 0 ≤ (v4 + (v2 - (w 96 v6.toNatClampNeg))) then (v4 + (v2 - (w 96 v6.toNatClampNeg))) else 0 - (v4 + (v2 - (w 96 v6.toNatClampNeg)))) < v2 then EI X (d + 2) 34 (19, [some (.ref 95), some (.int v1), some (.int v2), some (.int (v3 + (if 0 ≤ (v4 + (v2 - (w 96 v6.toNatClampNeg))) then (v4 + (v2 - (w 96 v6.toNatClampNeg))) else 0 - (v4 + (v2 - (w 96 v6.toNatClampNeg)))))), some (.int (kI 0)), some (.int (kI 0)), some (.int (v6 + (kI 1))), none, none], [], SH, w) Q else Q (kI (-1)) w)) else (inB v5 6 = true ∧ (inB v5 6 = true ∧ (if (v5 + (kI 1)) < (w 95 7) then EI X (d + 2) 34 (19, [some (.ref 95), some (.int v1), some (.int v2), some (.int v3), some (.int (v4 + (v2 - (w 96 v6.toNatClampNeg)))), some (.int (v5 + (kI 1))), some (.int (v6 + (kI 1))), none, none], [], SH, (up2 w 97 v5.toNatClampNeg ((w 97 v5.toNatClampNeg) + (v2 - (w 96 v6.toNatClampNeg))))) Q else (if (if 0 ≤ (v4 + (v2 - (w 96 v6.toNatClampNeg))) then (v4 + (v2 - (w 96 v6.toNatClampNeg))) else 0 - (v4 + (v2 - (w 96 v6.toNatClampNeg)))) < v2 then EI X (d + 2) 34 (19, [some (.ref 95), some (.int v1), some (.int v2), some (.int (v3 + (if 0 ≤ (v4 + (v2 - (w 96 v6.toNatClampNeg))) then (v4 + (v2 - (w 96 v6.toNatClampNeg))) else 0 - (v4 + (v2 - (w 96 v6.toNatClampNeg)))))), some (.int (kI 0)), some (.int (kI 0)), some (.int (v6 + (kI 1))), none, none], [], SH, (up2 w 97 v5.toNatClampNeg ((w 97 v5.toNatClampNeg) + (v2 - (w 96 v6.toNatClampNeg))))) Q else Q (kI (-1)) (up2 w 97 v5.toNatClampNeg ((w 97 v5.toNatClampNeg) + (v2 - (w 96 v6.toNatClampNeg))))))))))))))) : EI X (d + 2) 34 (19, [some (.ref 95), some (.int v1), some (.int v2), some (.int v3), some (.int v4), some (.int v5), some (.int v6), none, none], [], SH, w) Q := by
  unfold EI
  refine EV.steps cl_34 3 (q2 := (25, [some (.ref 95), some (.int v1), some (.int v2), some (.int v3), some (.int v4), some (.int v5), some (.int v6), none, none], [.int (w 95 6), .int v6], SH, w)) rfl ?_
  refine EV.i_ge cl_34 rfl (fun h1 => ?_) (fun h1 => ?_)
  · skip
    rw [if_pos h1] at H
    refine EV.steps cl_34 2 (q2 := (151, [some (.ref 95), some (.int v1), some (.int v2), some (.int v3), some (.int v4), some (.int v5), some (.int v6), none, none], [.int v2, .ref 95], SH, w)) rfl ?_
    refine EV.call (kc := 35) (av := [.ref 95, .int v2]) (r := []) cl_34 rfl rfl rfl H ?_
    clear H; intro y1 s1 w1 e1
    obtain ⟨x1, rfl, rfl, H⟩ := e1
    refine EV.steps cl_34 3 (q2 := (159, [some (.ref 95), some (.int v1), some (.int v2), some (.int v3), some (.int v4), some (.int v5), some (.int x1), none, none], [.int (kI (-1)), .int x1], SH, w1)) rfl ?_
    refine EV.i_ne cl_34 rfl (fun h2 => ?_) (fun h2 => ?_)
    · skip
      rw [if_neg h2] at H
      refine EV.steps cl_34 3 (q2 := (170, [some (.ref 95), some (.int v1), some (.int v2), some (.int v3), some (.int v4), some (.int v5), some (.int x1), none, none], [.int (v3 + x1)], SH, w1)) rfl ?_
      refine EV.ret cl_34 rfl rfl rfl ?_
      exact ⟨_, rfl, rfl, H⟩
    · skip
      rw [if_pos h2] at H
      refine EV.steps cl_34 2 (q2 := (170, [some (.ref 95), some (.int v1), some (.int v2), some (.int v3), some (.int v4), some (.int v5), some (.int x1), none, none], [.int (kI (-1))], SH, w1)) rfl ?_
      refine EV.ret cl_34 rfl rfl rfl ?_
      exact ⟨_, rfl, rfl, H⟩
  · skip
    rw [if_neg h1] at H
    refine EV.steps cl_34 2 (q2 := (31, [some (.ref 95), some (.int v1), some (.int v2), some (.int v3), some (.int v4), some (.int v5), some (.int v6), none, none], [.int v6, .int v1], SH, w)) rfl ?_
    refine EV.callF (kc := 154) (av := [.int v1, .int v6]) (r := []) (rv := some (.int (F_154 v1 v6 w))) (w2 := w) cl_34 rfl rfl rfl (m_154 w v1 v6) ?_
    refine EV.steps cl_34 2 (q2 := (38, [some (.ref 95), some (.int v1), some (.int v2), some (.int v3), some (.int v4), some (.int v5), some (.int v6), some (.int (F_154 v1 v6 w)), none], [.int (F_154 v1 v6 w)], SH, w)) rfl ?_
    refine EV.z_eq cl_34 rfl (fun h3 => ?_) (fun h3 => ?_)
    · skip
      rw [if_pos h3] at H
      refine EV.steps cl_34 1 (q2 := (55, [some (.ref 95), some (.int v1), some (.int v2), some (.int v3), some (.int v4), some (.int v5), some (.int v6), some (.int (F_154 v1 v6 w)), none], [.int (F_154 v1 v6 w)], SH, w)) rfl ?_
      refine EV.z_eq cl_34 rfl (fun h4 => ?_) (fun h4 => ?_)
      · skip
        refine EV.steps cl_34 3 (q2 := (76, [some (.ref 95), some (.int v1), some (.int v2), some (.int v3), some (.int v4), some (.int v5), some (.int v6), some (.int (F_154 v1 v6 w)), none], [.int v6, .ref 96], SH, w)) rfl ?_
        obtain ⟨j5, H⟩ := H
        refine EV.iaload cl_34 rfl rfl (by decide) j5 ?_
        refine EV.steps cl_34 8 (q2 := (91, [some (.ref 95), some (.int v1), some (.int v2), some (.int v3), some (.int (v4 + (-(w 96 v6.toNatClampNeg)))), some (.int v5), some (.int v6), some (.int (F_154 v1 v6 w)), some (.int (-(w 96 v6.toNatClampNeg)))], [.int (kI 6), .int v5], SH, w)) rfl ?_
        refine EV.i_ge cl_34 rfl (fun h6 => ?_) (fun h6 => ?_)
        · skip
          rw [if_pos h6] at H
          refine EV.steps cl_34 4 (q2 := (115, [some (.ref 95), some (.int v1), some (.int v2), some (.int v3), some (.int (v4 + (-(w 96 v6.toNatClampNeg)))), some (.int (v5 + (kI 1))), some (.int v6), some (.int (F_154 v1 v6 w)), some (.int (-(w 96 v6.toNatClampNeg)))], [.int (w 95 7), .int (v5 + (kI 1))], SH, w)) rfl ?_
          refine EV.i_lt cl_34 rfl (fun h7 => ?_) (fun h7 => ?_)
          · skip
            rw [if_pos h7] at H
            refine EV.steps cl_34 2 (q2 := (19, [some (.ref 95), some (.int v1), some (.int v2), some (.int v3), some (.int (v4 + (-(w 96 v6.toNatClampNeg)))), some (.int (v5 + (kI 1))), some (.int (v6 + (kI 1))), some (.int (F_154 v1 v6 w)), some (.int (-(w 96 v6.toNatClampNeg)))], [], SH, w)) rfl ?_
            exact EV.weak (l := [some (.ref 95), some (.int v1), some (.int v2), some (.int v3), some (.int (v4 + (-(w 96 v6.toNatClampNeg)))), some (.int (v5 + (kI 1))), some (.int (v6 + (kI 1))), none, none]) ⟨rfl, ⟨rfl, ⟨rfl, ⟨rfl, ⟨rfl, ⟨rfl, ⟨rfl, ⟨rfl, ⟨rfl, trivial⟩⟩⟩⟩⟩⟩⟩⟩⟩ H
          · skip
            rw [if_neg h7] at H
            refine EV.steps cl_34 3 (q2 := (124, [some (.ref 95), some (.int v1), some (.int v2), some (.int v3), some (.int (v4 + (-(w 96 v6.toNatClampNeg)))), some (.int (v5 + (kI 1))), some (.int v6), some (.int (F_154 v1 v6 w)), some (.int (-(w 96 v6.toNatClampNeg)))], [.int v2, .int (if 0 ≤ (v4 + (-(w 96 v6.toNatClampNeg))) then (v4 + (-(w 96 v6.toNatClampNeg))) else 0 - (v4 + (-(w 96 v6.toNatClampNeg))))], SH, w)) rfl ?_
            refine EV.i_lt cl_34 rfl (fun h8 => ?_) (fun h8 => ?_)
            · skip
              rw [if_pos h8] at H
              refine EV.steps cl_34 11 (q2 := (19, [some (.ref 95), some (.int v1), some (.int v2), some (.int (v3 + (if 0 ≤ (v4 + (-(w 96 v6.toNatClampNeg))) then (v4 + (-(w 96 v6.toNatClampNeg))) else 0 - (v4 + (-(w 96 v6.toNatClampNeg)))))), some (.int (kI 0)), some (.int (kI 0)), some (.int (v6 + (kI 1))), some (.int (F_154 v1 v6 w)), some (.int (-(w 96 v6.toNatClampNeg)))], [], SH, w)) rfl ?_
              exact EV.weak (l := [some (.ref 95), some (.int v1), some (.int v2), some (.int (v3 + (if 0 ≤ (v4 + (-(w 96 v6.toNatClampNeg))) then (v4 + (-(w 96 v6.toNatClampNeg))) else 0 - (v4 + (-(w 96 v6.toNatClampNeg)))))), some (.int (kI 0)), some (.int (kI 0)), some (.int (v6 + (kI 1))), none, none]) ⟨rfl, ⟨rfl, ⟨rfl, ⟨rfl, ⟨rfl, ⟨rfl, ⟨rfl, ⟨rfl, ⟨rfl, trivial⟩⟩⟩⟩⟩⟩⟩⟩⟩ H
            · skip
              rw [if_neg h8] at H
              refine EV.steps cl_34 1 (q2 := (128, [some (.ref 95), some (.int v1), some (.int v2), some (.int v3), some (.int (v4 + (-(w 96 v6.toNatClampNeg)))), some (.int (v5 + (kI 1))), some (.int v6), some (.int (F_154 v1 v6 w)), some (.int (-(w 96 v6.toNatClampNeg)))], [.int (kI (-1))], SH, w)) rfl ?_
              refine EV.ret cl_34 rfl rfl rfl ?_
              exact ⟨_, rfl, rfl, H⟩
        · skip
          rw [if_neg h6] at H
          refine EV.steps cl_34 4 (q2 := (101, [some (.ref 95), some (.int v1), some (.int v2), some (.int v3), some (.int (v4 + (-(w 96 v6.toNatClampNeg)))), some (.int v5), some (.int v6), some (.int (F_154 v1 v6 w)), some (.int (-(w 96 v6.toNatClampNeg)))], [.int v5, .ref 97, .int v5, .ref 97], SH, w)) rfl ?_
          obtain ⟨j9, H⟩ := H
          refine EV.iaload cl_34 rfl rfl (by decide) j9 ?_
          refine EV.steps cl_34 2 (q2 := (105, [some (.ref 95), some (.int v1), some (.int v2), some (.int v3), some (.int (v4 + (-(w 96 v6.toNatClampNeg)))), some (.int v5), some (.int v6), some (.int (F_154 v1 v6 w)), some (.int (-(w 96 v6.toNatClampNeg)))], [.int ((w 97 v5.toNatClampNeg) + (-(w 96 v6.toNatClampNeg))), .int v5, .ref 97], SH, w)) rfl ?_
          obtain ⟨j10, H⟩ := H
          refine EV.iastore cl_34 rfl rfl (by decide) j10 ?_
          refine EV.steps cl_34 4 (q2 := (115, [some (.ref 95), some (.int v1), some (.int v2), some (.int v3), some (.int (v4 + (-(w 96 v6.toNatClampNeg)))), some (.int (v5 + (kI 1))), some (.int v6), some (.int (F_154 v1 v6 w)), some (.int (-(w 96 v6.toNatClampNeg)))], [.int (w 95 7), .int (v5 + (kI 1))], SH, (up2 w 97 v5.toNatClampNeg ((w 97 v5.toNatClampNeg) + (-(w 96 v6.toNatClampNeg)))))) rfl ?_
          refine EV.i_lt cl_34 rfl (fun h11 => ?_) (fun h11 => ?_)
          · skip
            rw [if_pos h11] at H
            refine EV.steps cl_34 2 (q2 := (19, [some (.ref 95), some (.int v1), some (.int v2), some (.int v3), some (.int (v4 + (-(w 96 v6.toNatClampNeg)))), some (.int (v5 + (kI 1))), some (.int (v6 + (kI 1))), some (.int (F_154 v1 v6 w)), some (.int (-(w 96 v6.toNatClampNeg)))], [], SH, (up2 w 97 v5.toNatClampNeg ((w 97 v5.toNatClampNeg) + (-(w 96 v6.toNatClampNeg)))))) rfl ?_
            exact EV.weak (l := [some (.ref 95), some (.int v1), some (.int v2), some (.int v3), some (.int (v4 + (-(w 96 v6.toNatClampNeg)))), some (.int (v5 + (kI 1))), some (.int (v6 + (kI 1))), none, none]) ⟨rfl, ⟨rfl, ⟨rfl, ⟨rfl, ⟨rfl, ⟨rfl, ⟨rfl, ⟨rfl, ⟨rfl, trivial⟩⟩⟩⟩⟩⟩⟩⟩⟩ H
          · skip
            rw [if_neg h11] at H
            refine EV.steps cl_34 3 (q2 := (124, [some (.ref 95), some (.int v1), some (.int v2), some (.int v3), some (.int (v4 + (-(w 96 v6.toNatClampNeg)))), some (.int (v5 + (kI 1))), some (.int v6), some (.int (F_154 v1 v6 w)), some (.int (-(w 96 v6.toNatClampNeg)))], [.int v2, .int (if 0 ≤ (v4 + (-(w 96 v6.toNatClampNeg))) then (v4 + (-(w 96 v6.toNatClampNeg))) else 0 - (v4 + (-(w 96 v6.toNatClampNeg))))], SH, (up2 w 97 v5.toNatClampNeg ((w 97 v5.toNatClampNeg) + (-(w 96 v6.toNatClampNeg)))))) rfl ?_
            refine EV.i_lt cl_34 rfl (fun h12 => ?_) (fun h12 => ?_)
            · skip
              rw [if_pos h12] at H
              refine EV.steps cl_34 11 (q2 := (19, [some (.ref 95), some (.int v1), some (.int v2), some (.int (v3 + (if 0 ≤ (v4 + (-(w 96 v6.toNatClampNeg))) then (v4 + (-(w 96 v6.toNatClampNeg))) else 0 - (v4 + (-(w 96 v6.toNatClampNeg)))))), some (.int (kI 0)), some (.int (kI 0)), some (.int (v6 + (kI 1))), some (.int (F_154 v1 v6 w)), some (.int (-(w 96 v6.toNatClampNeg)))], [], SH, (up2 w 97 v5.toNatClampNeg ((w 97 v5.toNatClampNeg) + (-(w 96 v6.toNatClampNeg)))))) rfl ?_
              exact EV.weak (l := [some (.ref 95), some (.int v1), some (.int v2), some (.int (v3 + (if 0 ≤ (v4 + (-(w 96 v6.toNatClampNeg))) then (v4 + (-(w 96 v6.toNatClampNeg))) else 0 - (v4 + (-(w 96 v6.toNatClampNeg)))))), some (.int (kI 0)), some (.int (kI 0)), some (.int (v6 + (kI 1))), none, none]) ⟨rfl, ⟨rfl, ⟨rfl, ⟨rfl, ⟨rfl, ⟨rfl, ⟨rfl, ⟨rfl, ⟨rfl, trivial⟩⟩⟩⟩⟩⟩⟩⟩⟩ H
            · skip
              rw [if_neg h12] at H
              refine EV.steps cl_34 1 (q2 := (128, [some (.ref 95), some (.int v1), some (.int v2), some (.int v3), some (.int (v4 + (-(w 96 v6.toNatClampNeg)))), some (.int (v5 + (kI 1))), some (.int v6), some (.int (F_154 v1 v6 w)), some (.int (-(w 96 v6.toNatClampNeg)))], [.int (kI (-1))], SH, (up2 w 97 v5.toNatClampNeg ((w 97 v5.toNatClampNeg) + (-(w 96 v6.toNatClampNeg)))))) rfl ?_
              refine EV.ret cl_34 rfl rfl rfl ?_
              exact ⟨_, rfl, rfl, H⟩
      · skip
        exact absurd h3 h4
    · skip
      rw [if_neg h3] at H
      refine EV.steps cl_34 3 (q2 := (47, [some (.ref 95), some (.int v1), some (.int v2), some (.int v3), some (.int v4), some (.int v5), some (.int v6), some (.int (F_154 v1 v6 w)), none], [.int v6, .ref 96], SH, w)) rfl ?_
      obtain ⟨j13, H⟩ := H
      refine EV.iaload cl_34 rfl rfl (by decide) j13 ?_
      refine EV.z_ne cl_34 rfl (fun h14 => ?_) (fun h14 => ?_)
      · skip
        rw [if_neg h14] at H
        refine EV.steps cl_34 1 (q2 := (55, [some (.ref 95), some (.int v1), some (.int v2), some (.int v3), some (.int v4), some (.int v5), some (.int v6), some (.int (F_154 v1 v6 w)), none], [.int (F_154 v1 v6 w)], SH, w)) rfl ?_
        refine EV.z_eq cl_34 rfl (fun h15 => ?_) (fun h15 => ?_)
        · skip
          exact absurd h15 h3
        · skip
          refine EV.steps cl_34 4 (q2 := (65, [some (.ref 95), some (.int v1), some (.int v2), some (.int v3), some (.int v4), some (.int v5), some (.int v6), some (.int (F_154 v1 v6 w)), none], [.int v6, .ref 96, .int v2], SH, w)) rfl ?_
          obtain ⟨j16, H⟩ := H
          refine EV.iaload cl_34 rfl rfl (by decide) j16 ?_
          refine EV.steps cl_34 9 (q2 := (91, [some (.ref 95), some (.int v1), some (.int v2), some (.int v3), some (.int (v4 + (v2 - (w 96 v6.toNatClampNeg)))), some (.int v5), some (.int v6), some (.int (F_154 v1 v6 w)), some (.int (v2 - (w 96 v6.toNatClampNeg)))], [.int (kI 6), .int v5], SH, w)) rfl ?_
          refine EV.i_ge cl_34 rfl (fun h17 => ?_) (fun h17 => ?_)
          · skip
            rw [if_pos h17] at H
            refine EV.steps cl_34 4 (q2 := (115, [some (.ref 95), some (.int v1), some (.int v2), some (.int v3), some (.int (v4 + (v2 - (w 96 v6.toNatClampNeg)))), some (.int (v5 + (kI 1))), some (.int v6), some (.int (F_154 v1 v6 w)), some (.int (v2 - (w 96 v6.toNatClampNeg)))], [.int (w 95 7), .int (v5 + (kI 1))], SH, w)) rfl ?_
            refine EV.i_lt cl_34 rfl (fun h18 => ?_) (fun h18 => ?_)
            · skip
              rw [if_pos h18] at H
              refine EV.steps cl_34 2 (q2 := (19, [some (.ref 95), some (.int v1), some (.int v2), some (.int v3), some (.int (v4 + (v2 - (w 96 v6.toNatClampNeg)))), some (.int (v5 + (kI 1))), some (.int (v6 + (kI 1))), some (.int (F_154 v1 v6 w)), some (.int (v2 - (w 96 v6.toNatClampNeg)))], [], SH, w)) rfl ?_
              exact EV.weak (l := [some (.ref 95), some (.int v1), some (.int v2), some (.int v3), some (.int (v4 + (v2 - (w 96 v6.toNatClampNeg)))), some (.int (v5 + (kI 1))), some (.int (v6 + (kI 1))), none, none]) ⟨rfl, ⟨rfl, ⟨rfl, ⟨rfl, ⟨rfl, ⟨rfl, ⟨rfl, ⟨rfl, ⟨rfl, trivial⟩⟩⟩⟩⟩⟩⟩⟩⟩ H
            · skip
              rw [if_neg h18] at H
              refine EV.steps cl_34 3 (q2 := (124, [some (.ref 95), some (.int v1), some (.int v2), some (.int v3), some (.int (v4 + (v2 - (w 96 v6.toNatClampNeg)))), some (.int (v5 + (kI 1))), some (.int v6), some (.int (F_154 v1 v6 w)), some (.int (v2 - (w 96 v6.toNatClampNeg)))], [.int v2, .int (if 0 ≤ (v4 + (v2 - (w 96 v6.toNatClampNeg))) then (v4 + (v2 - (w 96 v6.toNatClampNeg))) else 0 - (v4 + (v2 - (w 96 v6.toNatClampNeg))))], SH, w)) rfl ?_
              refine EV.i_lt cl_34 rfl (fun h19 => ?_) (fun h19 => ?_)
              · skip
                rw [if_pos h19] at H
                refine EV.steps cl_34 11 (q2 := (19, [some (.ref 95), some (.int v1), some (.int v2), some (.int (v3 + (if 0 ≤ (v4 + (v2 - (w 96 v6.toNatClampNeg))) then (v4 + (v2 - (w 96 v6.toNatClampNeg))) else 0 - (v4 + (v2 - (w 96 v6.toNatClampNeg)))))), some (.int (kI 0)), some (.int (kI 0)), some (.int (v6 + (kI 1))), some (.int (F_154 v1 v6 w)), some (.int (v2 - (w 96 v6.toNatClampNeg)))], [], SH, w)) rfl ?_
                exact EV.weak (l := [some (.ref 95), some (.int v1), some (.int v2), some (.int (v3 + (if 0 ≤ (v4 + (v2 - (w 96 v6.toNatClampNeg))) then (v4 + (v2 - (w 96 v6.toNatClampNeg))) else 0 - (v4 + (v2 - (w 96 v6.toNatClampNeg)))))), some (.int (kI 0)), some (.int (kI 0)), some (.int (v6 + (kI 1))), none, none]) ⟨rfl, ⟨rfl, ⟨rfl, ⟨rfl, ⟨rfl, ⟨rfl, ⟨rfl, ⟨rfl, ⟨rfl, trivial⟩⟩⟩⟩⟩⟩⟩⟩⟩ H
              · skip
                rw [if_neg h19] at H
                refine EV.steps cl_34 1 (q2 := (128, [some (.ref 95), some (.int v1), some (.int v2), some (.int v3), some (.int (v4 + (v2 - (w 96 v6.toNatClampNeg)))), some (.int (v5 + (kI 1))), some (.int v6), some (.int (F_154 v1 v6 w)), some (.int (v2 - (w 96 v6.toNatClampNeg)))], [.int (kI (-1))], SH, w)) rfl ?_
                refine EV.ret cl_34 rfl rfl rfl ?_
                exact ⟨_, rfl, rfl, H⟩
          · skip
            rw [if_neg h17] at H
            refine EV.steps cl_34 4 (q2 := (101, [some (.ref 95), some (.int v1), some (.int v2), some (.int v3), some (.int (v4 + (v2 - (w 96 v6.toNatClampNeg)))), some (.int v5), some (.int v6), some (.int (F_154 v1 v6 w)), some (.int (v2 - (w 96 v6.toNatClampNeg)))], [.int v5, .ref 97, .int v5, .ref 97], SH, w)) rfl ?_
            obtain ⟨j20, H⟩ := H
            refine EV.iaload cl_34 rfl rfl (by decide) j20 ?_
            refine EV.steps cl_34 2 (q2 := (105, [some (.ref 95), some (.int v1), some (.int v2), some (.int v3), some (.int (v4 + (v2 - (w 96 v6.toNatClampNeg)))), some (.int v5), some (.int v6), some (.int (F_154 v1 v6 w)), some (.int (v2 - (w 96 v6.toNatClampNeg)))], [.int ((w 97 v5.toNatClampNeg) + (v2 - (w 96 v6.toNatClampNeg))), .int v5, .ref 97], SH, w)) rfl ?_
            obtain ⟨j21, H⟩ := H
            refine EV.iastore cl_34 rfl rfl (by decide) j21 ?_
            refine EV.steps cl_34 4 (q2 := (115, [some (.ref 95), some (.int v1), some (.int v2), some (.int v3), some (.int (v4 + (v2 - (w 96 v6.toNatClampNeg)))), some (.int (v5 + (kI 1))), some (.int v6), some (.int (F_154 v1 v6 w)), some (.int (v2 - (w 96 v6.toNatClampNeg)))], [.int (w 95 7), .int (v5 + (kI 1))], SH, (up2 w 97 v5.toNatClampNeg ((w 97 v5.toNatClampNeg) + (v2 - (w 96 v6.toNatClampNeg)))))) rfl ?_
            refine EV.i_lt cl_34 rfl (fun h22 => ?_) (fun h22 => ?_)
            · skip
              rw [if_pos h22] at H
              refine EV.steps cl_34 2 (q2 := (19, [some (.ref 95), some (.int v1), some (.int v2), some (.int v3), some (.int (v4 + (v2 - (w 96 v6.toNatClampNeg)))), some (.int (v5 + (kI 1))), some (.int (v6 + (kI 1))), some (.int (F_154 v1 v6 w)), some (.int (v2 - (w 96 v6.toNatClampNeg)))], [], SH, (up2 w 97 v5.toNatClampNeg ((w 97 v5.toNatClampNeg) + (v2 - (w 96 v6.toNatClampNeg)))))) rfl ?_
              exact EV.weak (l := [some (.ref 95), some (.int v1), some (.int v2), some (.int v3), some (.int (v4 + (v2 - (w 96 v6.toNatClampNeg)))), some (.int (v5 + (kI 1))), some (.int (v6 + (kI 1))), none, none]) ⟨rfl, ⟨rfl, ⟨rfl, ⟨rfl, ⟨rfl, ⟨rfl, ⟨rfl, ⟨rfl, ⟨rfl, trivial⟩⟩⟩⟩⟩⟩⟩⟩⟩ H
            · skip
              rw [if_neg h22] at H
              refine EV.steps cl_34 3 (q2 := (124, [some (.ref 95), some (.int v1), some (.int v2), some (.int v3), some (.int (v4 + (v2 - (w 96 v6.toNatClampNeg)))), some (.int (v5 + (kI 1))), some (.int v6), some (.int (F_154 v1 v6 w)), some (.int (v2 - (w 96 v6.toNatClampNeg)))], [.int v2, .int (if 0 ≤ (v4 + (v2 - (w 96 v6.toNatClampNeg))) then (v4 + (v2 - (w 96 v6.toNatClampNeg))) else 0 - (v4 + (v2 - (w 96 v6.toNatClampNeg))))], SH, (up2 w 97 v5.toNatClampNeg ((w 97 v5.toNatClampNeg) + (v2 - (w 96 v6.toNatClampNeg)))))) rfl ?_
              refine EV.i_lt cl_34 rfl (fun h23 => ?_) (fun h23 => ?_)
              · skip
                rw [if_pos h23] at H
                refine EV.steps cl_34 11 (q2 := (19, [some (.ref 95), some (.int v1), some (.int v2), some (.int (v3 + (if 0 ≤ (v4 + (v2 - (w 96 v6.toNatClampNeg))) then (v4 + (v2 - (w 96 v6.toNatClampNeg))) else 0 - (v4 + (v2 - (w 96 v6.toNatClampNeg)))))), some (.int (kI 0)), some (.int (kI 0)), some (.int (v6 + (kI 1))), some (.int (F_154 v1 v6 w)), some (.int (v2 - (w 96 v6.toNatClampNeg)))], [], SH, (up2 w 97 v5.toNatClampNeg ((w 97 v5.toNatClampNeg) + (v2 - (w 96 v6.toNatClampNeg)))))) rfl ?_
                exact EV.weak (l := [some (.ref 95), some (.int v1), some (.int v2), some (.int (v3 + (if 0 ≤ (v4 + (v2 - (w 96 v6.toNatClampNeg))) then (v4 + (v2 - (w 96 v6.toNatClampNeg))) else 0 - (v4 + (v2 - (w 96 v6.toNatClampNeg)))))), some (.int (kI 0)), some (.int (kI 0)), some (.int (v6 + (kI 1))), none, none]) ⟨rfl, ⟨rfl, ⟨rfl, ⟨rfl, ⟨rfl, ⟨rfl, ⟨rfl, ⟨rfl, ⟨rfl, trivial⟩⟩⟩⟩⟩⟩⟩⟩⟩ H
              · skip
                rw [if_neg h23] at H
                refine EV.steps cl_34 1 (q2 := (128, [some (.ref 95), some (.int v1), some (.int v2), some (.int v3), some (.int (v4 + (v2 - (w 96 v6.toNatClampNeg)))), some (.int (v5 + (kI 1))), some (.int v6), some (.int (F_154 v1 v6 w)), some (.int (v2 - (w 96 v6.toNatClampNeg)))], [.int (kI (-1))], SH, (up2 w 97 v5.toNatClampNeg ((w 97 v5.toNatClampNeg) + (v2 - (w 96 v6.toNatClampNeg)))))) rfl ?_
                refine EV.ret cl_34 rfl rfl rfl ?_
                exact ⟨_, rfl, rfl, H⟩
      · skip
        rw [if_pos h14] at H
        refine EV.steps cl_34 1 (q2 := (52, [some (.ref 95), some (.int v1), some (.int v2), some (.int v3), some (.int v4), some (.int v5), some (.int v6), some (.int (F_154 v1 v6 w)), none], [.int (kI (-1))], SH, w)) rfl ?_
        refine EV.ret cl_34 rfl rfl rfl ?_
        exact ⟨_, rfl, rfl, H⟩
theorem t35_95_at0 {X : Scr} {d : Nat} {Q : Int32 → Wd → Prop} (w : Wd) (v1 : Int32)
    (H : EI X (d + 1) 35 (7, [some (.ref 95), some (.int v1), some (.int (kI 0)), some (.int (kI 0)), some (.int (kI 0))], [], SH, w) Q) : EI X (d + 1) 35 (0, [some (.ref 95), some (.int v1), none, none, none], [], SH, w) Q := by
  unfold EI
  refine EV.steps cl_35 6 (q2 := (7, [some (.ref 95), some (.int v1), some (.int (kI 0)), some (.int (kI 0)), some (.int (kI 0))], [], SH, w)) rfl ?_
  exact H
theorem t35_95_at7 {X : Scr} {d : Nat} {Q : Int32 → Wd → Prop} (w : Wd) (v1 : Int32) (v2 : Int32) (v3 : Int32) (v4 : Int32)
    (H : (if (w 95 7) ≤ v4 then (if (if 0 ≤ v3 then v3 else 0 - v3) < v1 then Q v2 w else Q (kI (-1)) w) else (if (kI 6) ≤ v4 then (if (if 0 ≤ v3 then v3 else 0 - v3) < v1 then Q v2 w else Q (kI (-1)) w) else (inB v4 6 = true ∧ (if (if 0 ≤ (w 97 v4.toNatClampNeg) then (w 97 v4.toNatClampNeg) else 0 - (w 97 v4.toNatClampNeg)) < v1 then (inB v4 6 = true ∧ (inB v4 6 = true ∧ EI X (d + 1) 35 (7, [some (.ref 95), some (.int v1), some (.int (v2 + (if 0 ≤ (w 97 v4.toNatClampNeg) then (w 97 v4.toNatClampNeg) else 0 - (w 97 v4.toNatClampNeg)))), some (.int (v3 + (w 97 v4.toNatClampNeg))), some (.int (v4 + (kI 1)))], [], SH, w) Q)) else Q (kI (-1)) w))))) : EI X (d + 1) 35 (7, [some (.ref 95), some (.int v1), some (.int v2), some (.int v3), some (.int v4)], [], SH, w) Q := by
  unfold EI
  refine EV.steps cl_35 3 (q2 := (13, [some (.ref 95), some (.int v1), some (.int v2), some (.int v3), some (.int v4)], [.int (w 95 7), .int v4], SH, w)) rfl ?_
  refine EV.i_ge cl_35 rfl (fun h1 => ?_) (fun h1 => ?_)
  · skip
    rw [if_pos h1] at H
    refine EV.steps cl_35 3 (q2 := (73, [some (.ref 95), some (.int v1), some (.int v2), some (.int v3), some (.int v4)], [.int v1, .int (if 0 ≤ v3 then v3 else 0 - v3)], SH, w)) rfl ?_
    refine EV.i_lt cl_35 rfl (fun h2 => ?_) (fun h2 => ?_)
    · skip
      rw [if_pos h2] at H
      refine EV.steps cl_35 1 (q2 := (81, [some (.ref 95), some (.int v1), some (.int v2), some (.int v3), some (.int v4)], [.int v2], SH, w)) rfl ?_
      refine EV.ret cl_35 rfl rfl rfl ?_
      exact ⟨_, rfl, rfl, H⟩
    · skip
      rw [if_neg h2] at H
      refine EV.steps cl_35 2 (q2 := (81, [some (.ref 95), some (.int v1), some (.int v2), some (.int v3), some (.int v4)], [.int (kI (-1))], SH, w)) rfl ?_
      refine EV.ret cl_35 rfl rfl rfl ?_
      exact ⟨_, rfl, rfl, H⟩
  · skip
    rw [if_neg h1] at H
    refine EV.steps cl_35 2 (q2 := (20, [some (.ref 95), some (.int v1), some (.int v2), some (.int v3), some (.int v4)], [.int (kI 6), .int v4], SH, w)) rfl ?_
    refine EV.i_ge cl_35 rfl (fun h3 => ?_) (fun h3 => ?_)
    · skip
      rw [if_pos h3] at H
      refine EV.steps cl_35 3 (q2 := (73, [some (.ref 95), some (.int v1), some (.int v2), some (.int v3), some (.int v4)], [.int v1, .int (if 0 ≤ v3 then v3 else 0 - v3)], SH, w)) rfl ?_
      refine EV.i_lt cl_35 rfl (fun h4 => ?_) (fun h4 => ?_)
      · skip
        rw [if_pos h4] at H
        refine EV.steps cl_35 1 (q2 := (81, [some (.ref 95), some (.int v1), some (.int v2), some (.int v3), some (.int v4)], [.int v2], SH, w)) rfl ?_
        refine EV.ret cl_35 rfl rfl rfl ?_
        exact ⟨_, rfl, rfl, H⟩
      · skip
        rw [if_neg h4] at H
        refine EV.steps cl_35 2 (q2 := (81, [some (.ref 95), some (.int v1), some (.int v2), some (.int v3), some (.int v4)], [.int (kI (-1))], SH, w)) rfl ?_
        refine EV.ret cl_35 rfl rfl rfl ?_
        exact ⟨_, rfl, rfl, H⟩
    · skip
      rw [if_neg h3] at H
      refine EV.steps cl_35 3 (q2 := (29, [some (.ref 95), some (.int v1), some (.int v2), some (.int v3), some (.int v4)], [.int v4, .ref 97], SH, w)) rfl ?_
      obtain ⟨j5, H⟩ := H
      refine EV.iaload cl_35 rfl rfl (by decide) j5 ?_
      refine EV.steps cl_35 2 (q2 := (34, [some (.ref 95), some (.int v1), some (.int v2), some (.int v3), some (.int v4)], [.int v1, .int (if 0 ≤ (w 97 v4.toNatClampNeg) then (w 97 v4.toNatClampNeg) else 0 - (w 97 v4.toNatClampNeg))], SH, w)) rfl ?_
      refine EV.i_lt cl_35 rfl (fun h6 => ?_) (fun h6 => ?_)
      · skip
        rw [if_pos h6] at H
        refine EV.steps cl_35 4 (q2 := (46, [some (.ref 95), some (.int v1), some (.int v2), some (.int v3), some (.int v4)], [.int v4, .ref 97, .int v2], SH, w)) rfl ?_
        obtain ⟨j7, H⟩ := H
        refine EV.iaload cl_35 rfl rfl (by decide) j7 ?_
        refine EV.steps cl_35 7 (q2 := (59, [some (.ref 95), some (.int v1), some (.int (v2 + (if 0 ≤ (w 97 v4.toNatClampNeg) then (w 97 v4.toNatClampNeg) else 0 - (w 97 v4.toNatClampNeg)))), some (.int v3), some (.int v4)], [.int v4, .ref 97, .int v3], SH, w)) rfl ?_
        obtain ⟨j8, H⟩ := H
        refine EV.iaload cl_35 rfl rfl (by decide) j8 ?_
        refine EV.steps cl_35 4 (q2 := (7, [some (.ref 95), some (.int v1), some (.int (v2 + (if 0 ≤ (w 97 v4.toNatClampNeg) then (w 97 v4.toNatClampNeg) else 0 - (w 97 v4.toNatClampNeg)))), some (.int (v3 + (w 97 v4.toNatClampNeg))), some (.int (v4 + (kI 1)))], [], SH, w)) rfl ?_
        exact H
      · skip
        rw [if_neg h6] at H
        refine EV.steps cl_35 1 (q2 := (38, [some (.ref 95), some (.int v1), some (.int v2), some (.int v3), some (.int v4)], [.int (kI (-1))], SH, w)) rfl ?_
        refine EV.ret cl_35 rfl rfl rfl ?_
        exact ⟨_, rfl, rfl, H⟩
