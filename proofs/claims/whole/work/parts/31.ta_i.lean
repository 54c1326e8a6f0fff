theorem t21_87_17_at0 {X : Scr} {d : Nat} {Q : Wd → Prop} (w : Wd) (v2 : Int32)
    (H : EU X (d + 2) 21 (17, [some (.ref 87), some (.ref 17), some (.int v2), some (.int (kI 0)), none], [], SH, (up2 (up2 (up2 w 87 4 (kI 0)) 87 5 (kI 0)) 87 6 (kI 0))) Q) : EU X (d + 2) 21 (0, [some (.ref 87), some (.ref 17), some (.int v2), none, none], [], SH, w) Q := by
  unfold EU
  refine EV.steps cl_21 11 (q2 := (17, [some (.ref 87), some (.ref 17), some (.int v2), some (.int (kI 0)), none], [], SH, (up2 (up2 (up2 w 87 4 (kI 0)) 87 5 (kI 0)) 87 6 (kI 0)))) rfl ?_
  exact H
theorem t21_87_17_at17 {X : Scr} {d : Nat} {Q : Wd → Prop} (w : Wd) (v2 : Int32) (v3 : Int32)
    (H : (if v2 ≤ v3 then Q w else (if (kI 999) ≤ (w 17 5) then Q w else EU X (d + 2) 21 (35, [some (.ref 87), some (.ref 17), some (.int v2), some (.int v3), some (.int (kI 0))], [], SH, w) Q))) : EU X (d + 2) 21 (17, [some (.ref 87), some (.ref 17), some (.int v2), some (.int v3), none], [], SH, w) Q := by
  unfold EU
  refine EV.steps cl_21 2 (q2 := (19, [some (.ref 87), some (.ref 17), some (.int v2), some (.int v3), none], [.int v2, .int v3], SH, w)) rfl ?_
  refine EV.i_ge cl_21 rfl (fun h1 => ?_) (fun h1 => ?_)
  · skip
    rw [if_pos h1] at H
    refine EV.ret cl_21 rfl rfl rfl ?_
    exact ⟨rfl, rfl, H⟩
  · skip
    rw [if_neg h1] at H
    refine EV.steps cl_21 3 (q2 := (29, [some (.ref 87), some (.ref 17), some (.int v2), some (.int v3), none], [.int (kI 999), .int (w 17 5)], SH, w)) rfl ?_
    refine EV.i_ge cl_21 rfl (fun h2 => ?_) (fun h2 => ?_)
    · skip
      rw [if_pos h2] at H
      refine EV.ret cl_21 rfl rfl rfl ?_
      exact ⟨rfl, rfl, H⟩
    · skip
      rw [if_neg h2] at H
      refine EV.steps cl_21 2 (q2 := (35, [some (.ref 87), some (.ref 17), some (.int v2), some (.int v3), some (.int (kI 0))], [], SH, w)) rfl ?_
      exact H
theorem t21_87_17_at35 {X : Scr} {d : Nat} {Q : Wd → Prop} (w : Wd) (v2 : Int32) (v3 : Int32) (v4 : Int32)
    (H : (if (kI 6) ≤ v4 then (if (kI 11) ≤ (w 17 4) then CU X (d + 2) 23 [.ref 87, .ref 17] w (fun w1 => CU X (d + 2) 19 [.ref 17, .ref 3] w1 (fun w2 => EU X (d + 2) 21 (17, [some (.ref 87), some (.ref 17), some (.int v2), some (.int (v3 + (kI 1))), none], [], SH, w2) Q)) else EU X (d + 2) 21 (17, [some (.ref 87), some (.ref 17), some (.int v2), some (.int (v3 + (kI 1))), none], [], SH, (up2 w 17 4 ((w 17 4) + (kI 1)))) Q) else (if (F_51_3 v4 w) = 0 then EU X (d + 2) 21 (35, [some (.ref 87), some (.ref 17), some (.int v2), some (.int v3), some (.int (v4 + (kI 1)))], [], SH, w) Q else CU X (d + 2) 22 [.ref 87, .ref 17, .int v4] w (fun w3 => EU X (d + 2) 21 (35, [some (.ref 87), some (.ref 17), some (.int v2), some (.int v3), some (.int (v4 + (kI 1)))], [], SH, w3) Q)))) : EU X (d + 2) 21 (35, [some (.ref 87), some (.ref 17), some (.int v2), some (.int v3), some (.int v4)], [], SH, w) Q := by
  unfold EU
  refine EV.steps cl_21 2 (q2 := (39, [some (.ref 87), some (.ref 17), some (.int v2), some (.int v3), some (.int v4)], [.int (kI 6), .int v4], SH, w)) rfl ?_
  refine EV.i_ge cl_21 rfl (fun h1 => ?_) (fun h1 => ?_)
  · skip
    rw [if_pos h1] at H
    refine EV.steps cl_21 3 (q2 := (73, [some (.ref 87), some (.ref 17), some (.int v2), some (.int v3), some (.int v4)], [.int (kI 11), .int (w 17 4)], SH, w)) rfl ?_
    refine EV.i_ge cl_21 rfl (fun h2 => ?_) (fun h2 => ?_)
    · skip
      rw [if_pos h2] at H
      refine EV.steps cl_21 2 (q2 := (91, [some (.ref 87), some (.ref 17), some (.int v2), some (.int v3), some (.int v4)], [.ref 17, .ref 87], SH, w)) rfl ?_
      refine EV.call (kc := 23) (av := [.ref 87, .ref 17]) (r := []) cl_21 rfl rfl rfl H ?_
      clear H; intro y1 s1 w1 e1
      obtain ⟨rfl, rfl, H⟩ := e1
      refine EV.steps cl_21 3 (q2 := (99, [some (.ref 87), some (.ref 17), some (.int v2), some (.int v3), some (.int v4)], [.ref 3, .ref 17], SH, w1)) rfl ?_
      refine EV.call (kc := 19) (av := [.ref 17, .ref 3]) (r := []) cl_21 rfl rfl rfl H ?_
      clear H; intro y2 s2 w2 e2
      obtain ⟨rfl, rfl, H⟩ := e2
      refine EV.steps cl_21 2 (q2 := (17, [some (.ref 87), some (.ref 17), some (.int v2), some (.int (v3 + (kI 1))), some (.int v4)], [], SH, w2)) rfl ?_
      exact EV.weak (l := [some (.ref 87), some (.ref 17), some (.int v2), some (.int (v3 + (kI 1))), none]) ⟨rfl, ⟨rfl, ⟨rfl, ⟨rfl, ⟨rfl, trivial⟩⟩⟩⟩⟩ H
    · skip
      rw [if_neg h2] at H
      refine EV.steps cl_21 9 (q2 := (17, [some (.ref 87), some (.ref 17), some (.int v2), some (.int (v3 + (kI 1))), some (.int v4)], [], SH, (up2 w 17 4 ((w 17 4) + (kI 1))))) rfl ?_
      exact EV.weak (l := [some (.ref 87), some (.ref 17), some (.int v2), some (.int (v3 + (kI 1))), none]) ⟨rfl, ⟨rfl, ⟨rfl, ⟨rfl, ⟨rfl, trivial⟩⟩⟩⟩⟩ H
  · skip
    rw [if_neg h1] at H
    refine EV.steps cl_21 3 (q2 := (48, [some (.ref 87), some (.ref 17), some (.int v2), some (.int v3), some (.int v4)], [.int v4, .ref 3], SH, w)) rfl ?_
    refine EV.callF (kc := 51) (av := [.ref 3, .int v4]) (r := []) (rv := some (.int (F_51_3 v4 w))) (w2 := w) cl_21 rfl rfl rfl (m_51_3 w v4) ?_
    refine EV.z_eq cl_21 rfl (fun h3 => ?_) (fun h3 => ?_)
    · skip
      rw [if_pos h3] at H
      refine EV.steps cl_21 2 (q2 := (35, [some (.ref 87), some (.ref 17), some (.int v2), some (.int v3), some (.int (v4 + (kI 1)))], [], SH, w)) rfl ?_
      exact H
    · skip
      rw [if_neg h3] at H
      refine EV.steps cl_21 3 (q2 := (58, [some (.ref 87), some (.ref 17), some (.int v2), some (.int v3), some (.int v4)], [.int v4, .ref 17, .ref 87], SH, w)) rfl ?_
      refine EV.call (kc := 22) (av := [.ref 87, .ref 17, .int v4]) (r := []) cl_21 rfl rfl rfl H ?_
      clear H; intro y3 s3 w3 e3
      obtain ⟨rfl, rfl, H⟩ := e3
      refine EV.steps cl_21 2 (q2 := (35, [some (.ref 87), some (.ref 17), some (.int v2), some (.int v3), some (.int (v4 + (kI 1)))], [], SH, w3)) rfl ?_
      exact H
theorem t22_87_7_at0 {X : Scr} {d : Nat} {Q : Wd → Prop} (w : Wd) (v2 : Int32)
    (H : EU X (d + 3) 22 (2, [some (.ref 87), some (.ref 7), some (.int v2), some (.int (kI 0)), none, none, none], [], SH, w) Q) : EU X (d + 3) 22 (0, [some (.ref 87), some (.ref 7), some (.int v2), none, none, none, none], [], SH, w) Q := by
  unfold EU
  refine EV.steps cl_22 2 (q2 := (2, [some (.ref 87), some (.ref 7), some (.int v2), some (.int (kI 0)), none, none, none], [], SH, w)) rfl ?_
  exact H
theorem t22_87_7_at2 {X : Scr} {d : Nat} {Q : Wd → Prop} (w : Wd) (v2 : Int32) (v3 : Int32)
    (H : (if (kI 6) ≤ v3 then Q w else (if (F_52_3 v3 w) = 0 then EU X (d + 3) 22 (2, [some (.ref 87), some (.ref 7), some (.int v2), some (.int (v3 + (kI 1))), none, none, none], [], SH, w) Q else CI X (d + 3) 29 [.ref 87, .int (kI 110), .int (kI 99)] (G_28_87_7 v2 v3 (w 7 4) w) (fun x1 w1 => CI X (d + 3) 29 [.ref 87, .int (kI 100), .int (kI 10)] w1 (fun x2 w2 => CI X (d + 3) 30 [.ref 87] w2 (fun x3 w3 => (if x3 = 0 then (if x2 ≤ (F_18_7 w3) then ((¬ (F_153 v3 (kI 0) (kI 5) (G_16_7 v2 v3 x1 (up2 (G_18_7 w3) 87 4 (((G_18_7 w3) 87 4) + x1)))) = 0 → ¬ (F_153 ((G_16_7 v2 v3 x1 (up2 (G_18_7 w3) 87 4 (((G_18_7 w3) 87 4) + x1))) 7 4) (kI 0) (kI 11) (G_16_7 v2 v3 x1 (up2 (G_18_7 w3) 87 4 (((G_18_7 w3) 87 4) + x1)))) = 0 → (inB ((v3 * (kI 12)) + ((G_16_7 v2 v3 x1 (up2 (G_18_7 w3) 87 4 (((G_18_7 w3) 87 4) + x1))) 7 4)) 72 = true)) ∧ EU X (d + 3) 22 (2, [some (.ref 87), some (.ref 7), some (.int v2), some (.int (v3 + (kI 1))), none, none, none], [], SH, (G_17_7 v3 x1 (G_16_7 v2 v3 x1 (up2 (G_18_7 w3) 87 4 (((G_18_7 w3) 87 4) + x1))))) Q) else ((¬ (F_153 v3 (kI 0) (kI 5) (G_16_7 v2 v3 (x1 + (kI 1)) (up2 (G_18_7 w3) 87 4 (((G_18_7 w3) 87 4) + (x1 + (kI 1)))))) = 0 → ¬ (F_153 ((G_16_7 v2 v3 (x1 + (kI 1)) (up2 (G_18_7 w3) 87 4 (((G_18_7 w3) 87 4) + (x1 + (kI 1))))) 7 4) (kI 0) (kI 11) (G_16_7 v2 v3 (x1 + (kI 1)) (up2 (G_18_7 w3) 87 4 (((G_18_7 w3) 87 4) + (x1 + (kI 1)))))) = 0 → (inB ((v3 * (kI 12)) + ((G_16_7 v2 v3 (x1 + (kI 1)) (up2 (G_18_7 w3) 87 4 (((G_18_7 w3) 87 4) + (x1 + (kI 1))))) 7 4)) 72 = true)) ∧ EU X (d + 3) 22 (2, [some (.ref 87), some (.ref 7), some (.int v2), some (.int (v3 + (kI 1))), none, none, none], [], SH, (G_17_7 v3 (x1 + (kI 1)) (G_16_7 v2 v3 (x1 + (kI 1)) (up2 (G_18_7 w3) 87 4 (((G_18_7 w3) 87 4) + (x1 + (kI 1))))))) Q)) else (if x2 ≤ (F_18_7 w3) then EU X (d + 3) 22 (2, [some (.ref 87), some (.ref 7), some (.int v2), some (.int (v3 + (kI 1))), none, none, none], [], SH, (up2 (G_18_7 w3) 87 4 (((G_18_7 w3) 87 4) + x1))) Q else EU X (d + 3) 22 (2, [some (.ref 87), some (.ref 7), some (.int v2), some (.int (v3 + (kI 1))), none, none, none], [], SH, (up2 (G_18_7 w3) 87 4 (((G_18_7 w3) 87 4) + (x1 + (kI 1))))) Q)))))))) : EU X (d + 3) 22 (2, [some (.ref 87), some (.ref 7), some (.int v2), some (.int v3), none, none, none], [], SH, w) Q := by
  unfold EU
  refine EV.steps cl_22 2 (q2 := (5, [some (.ref 87), some (.ref 7), some (.int v2), some (.int v3), none, none, none], [.int (kI 6), .int v3], SH, w)) rfl ?_
  refine EV.i_ge cl_22 rfl (fun h1 => ?_) (fun h1 => ?_)
  · skip
    rw [if_pos h1] at H
    refine EV.ret cl_22 rfl rfl rfl ?_
    exact ⟨rfl, rfl, H⟩
  · skip
    rw [if_neg h1] at H
    refine EV.steps cl_22 3 (q2 := (13, [some (.ref 87), some (.ref 7), some (.int v2), some (.int v3), none, none, none], [.int v3, .ref 3], SH, w)) rfl ?_
    refine EV.callF (kc := 52) (av := [.ref 3, .int v3]) (r := []) (rv := some (.int (F_52_3 v3 w))) (w2 := w) cl_22 rfl rfl rfl (m_52_3 w v3) ?_
    refine EV.z_eq cl_22 rfl (fun h2 => ?_) (fun h2 => ?_)
    · skip
      rw [if_pos h2] at H
      refine EV.steps cl_22 2 (q2 := (2, [some (.ref 87), some (.ref 7), some (.int v2), some (.int (v3 + (kI 1))), none, none, none], [], SH, w)) rfl ?_
      exact H
    · skip
      rw [if_neg h2] at H
      refine EV.steps cl_22 6 (q2 := (27, [some (.ref 87), some (.ref 7), some (.int v2), some (.int v3), none, none, none], [.int (w 7 4), .int v3, .int v2, .ref 7, .ref 87], SH, w)) rfl ?_
      refine EV.callF (kc := 28) (av := [.ref 87, .ref 7, .int v2, .int v3, .int (w 7 4)]) (r := []) (rv := none) (w2 := (G_28_87_7 v2 v3 (w 7 4) w)) cl_22 rfl rfl rfl (m_28_87_7 w v2 v3 (w 7 4)) ?_
      refine EV.steps cl_22 3 (q2 := (35, [some (.ref 87), some (.ref 7), some (.int v2), some (.int v3), none, none, none], [.int (kI 99), .int (kI 110), .ref 87], SH, (G_28_87_7 v2 v3 (w 7 4) w))) rfl ?_
      refine EV.call (kc := 29) (av := [.ref 87, .int (kI 110), .int (kI 99)]) (r := []) cl_22 rfl rfl rfl H ?_
      clear H; intro y1 s1 w1 e1
      obtain ⟨x1, rfl, rfl, H⟩ := e1
      refine EV.steps cl_22 4 (q2 := (45, [some (.ref 87), some (.ref 7), some (.int v2), some (.int v3), some (.int x1), none, none], [.int (kI 10), .int (kI 100), .ref 87], SH, w1)) rfl ?_
      refine EV.call (kc := 29) (av := [.ref 87, .int (kI 100), .int (kI 10)]) (r := []) cl_22 rfl rfl rfl H ?_
      clear H; intro y2 s2 w2 e2
      obtain ⟨x2, rfl, rfl, H⟩ := e2
      refine EV.steps cl_22 2 (q2 := (51, [some (.ref 87), some (.ref 7), some (.int v2), some (.int v3), some (.int x1), some (.int x2), none], [.ref 87], SH, w2)) rfl ?_
      refine EV.call (kc := 30) (av := [.ref 87]) (r := []) cl_22 rfl rfl rfl H ?_
      clear H; intro y3 s3 w3 e3
      obtain ⟨x3, rfl, rfl, H⟩ := e3
      refine EV.z_ne cl_22 rfl (fun h3 => ?_) (fun h3 => ?_)
      · skip
        rw [if_neg h3] at H
        refine EV.steps cl_22 3 (q2 := (65, [some (.ref 87), some (.ref 7), some (.int v2), some (.int v3), some (.int x1), some (.int x2), some (.int (kI 0))], [.ref 7], SH, w3)) rfl ?_
        refine EV.callF (kc := 18) (av := [.ref 7]) (r := []) (rv := some (.int (F_18_7 w3))) (w2 := (G_18_7 w3)) cl_22 rfl rfl rfl (m_18_7 w3 ) ?_
        refine EV.steps cl_22 1 (q2 := (70, [some (.ref 87), some (.ref 7), some (.int v2), some (.int v3), some (.int x1), some (.int x2), some (.int (kI 0))], [.int x2, .int (F_18_7 w3)], SH, (G_18_7 w3))) rfl ?_
        refine EV.i_ge cl_22 rfl (fun h4 => ?_) (fun h4 => ?_)
        · skip
          rw [if_pos h4] at H
          refine EV.steps cl_22 10 (q2 := (2, [some (.ref 87), some (.ref 7), some (.int v2), some (.int (v3 + (kI 1))), some (.int x1), some (.int x2), some (.int (kI 0))], [], SH, (up2 (G_18_7 w3) 87 4 (((G_18_7 w3) 87 4) + x1)))) rfl ?_
          exact EV.weak (l := [some (.ref 87), some (.ref 7), some (.int v2), some (.int (v3 + (kI 1))), none, none, none]) ⟨rfl, ⟨rfl, ⟨rfl, ⟨rfl, ⟨rfl, ⟨rfl, ⟨rfl, trivial⟩⟩⟩⟩⟩⟩⟩ H
        · skip
          rw [if_neg h4] at H
          refine EV.steps cl_22 11 (q2 := (2, [some (.ref 87), some (.ref 7), some (.int v2), some (.int (v3 + (kI 1))), some (.int (x1 + (kI 1))), some (.int x2), some (.int (kI 0))], [], SH, (up2 (G_18_7 w3) 87 4 (((G_18_7 w3) 87 4) + (x1 + (kI 1)))))) rfl ?_
          exact EV.weak (l := [some (.ref 87), some (.ref 7), some (.int v2), some (.int (v3 + (kI 1))), none, none, none]) ⟨rfl, ⟨rfl, ⟨rfl, ⟨rfl, ⟨rfl, ⟨rfl, ⟨rfl, trivial⟩⟩⟩⟩⟩⟩⟩ H
      · skip
        rw [if_pos h3] at H
        refine EV.steps cl_22 4 (q2 := (65, [some (.ref 87), some (.ref 7), some (.int v2), some (.int v3), some (.int x1), some (.int x2), some (.int (kI 1))], [.ref 7], SH, w3)) rfl ?_
        refine EV.callF (kc := 18) (av := [.ref 7]) (r := []) (rv := some (.int (F_18_7 w3))) (w2 := (G_18_7 w3)) cl_22 rfl rfl rfl (m_18_7 w3 ) ?_
        refine EV.steps cl_22 1 (q2 := (70, [some (.ref 87), some (.ref 7), some (.int v2), some (.int v3), some (.int x1), some (.int x2), some (.int (kI 1))], [.int x2, .int (F_18_7 w3)], SH, (G_18_7 w3))) rfl ?_
        refine EV.i_ge cl_22 rfl (fun h5 => ?_) (fun h5 => ?_)
        · skip
          rw [if_pos h5] at H
          refine EV.steps cl_22 12 (q2 := (97, [some (.ref 87), some (.ref 7), some (.int v2), some (.int v3), some (.int x1), some (.int x2), some (.int (kI 1))], [.int x1, .int v3, .int v2, .ref 7], SH, (up2 (G_18_7 w3) 87 4 (((G_18_7 w3) 87 4) + x1)))) rfl ?_
          refine EV.callF (kc := 16) (av := [.ref 7, .int v2, .int v3, .int x1]) (r := []) (rv := none) (w2 := (G_16_7 v2 v3 x1 (up2 (G_18_7 w3) 87 4 (((G_18_7 w3) 87 4) + x1)))) cl_22 rfl rfl rfl (m_16_7 (up2 (G_18_7 w3) 87 4 (((G_18_7 w3) 87 4) + x1)) v2 v3 x1) ?_
          refine EV.steps cl_22 3 (q2 := (104, [some (.ref 87), some (.ref 7), some (.int v2), some (.int v3), some (.int x1), some (.int x2), some (.int (kI 1))], [.int x1, .int v3, .ref 7], SH, (G_16_7 v2 v3 x1 (up2 (G_18_7 w3) 87 4 (((G_18_7 w3) 87 4) + x1))))) rfl ?_
          obtain ⟨j6, H⟩ := H
          refine EV.callF (kc := 17) (av := [.ref 7, .int v3, .int x1]) (r := []) (rv := none) (w2 := (G_17_7 v3 x1 (G_16_7 v2 v3 x1 (up2 (G_18_7 w3) 87 4 (((G_18_7 w3) 87 4) + x1))))) cl_22 rfl rfl rfl (m_17_7 (G_16_7 v2 v3 x1 (up2 (G_18_7 w3) 87 4 (((G_18_7 w3) 87 4) + x1))) v3 x1 j6) ?_
          refine EV.steps cl_22 2 (q2 := (2, [some (.ref 87), some (.ref 7), some (.int v2), some (.int (v3 + (kI 1))), some (.int x1), some (.int x2), some (.int (kI 1))], [], SH, (G_17_7 v3 x1 (G_16_7 v2 v3 x1 (up2 (G_18_7 w3) 87 4 (((G_18_7 w3) 87 4) + x1)))))) rfl ?_
          exact EV.weak (l := [some (.ref 87), some (.ref 7), some (.int v2), some (.int (v3 + (kI 1))), none, none, none]) ⟨rfl, ⟨rfl, ⟨rfl, ⟨rfl, ⟨rfl, ⟨rfl, ⟨rfl, trivial⟩⟩⟩⟩⟩⟩⟩ H
        · skip
          rw [if_neg h5] at H
          refine EV.steps cl_22 13 (q2 := (97, [some (.ref 87), some (.ref 7), some (.int v2), some (.int v3), some (.int (x1 + (kI 1))), some (.int x2), some (.int (kI 1))], [.int (x1 + (kI 1)), .int v3, .int v2, .ref 7], SH, (up2 (G_18_7 w3) 87 4 (((G_18_7 w3) 87 4) + (x1 + (kI 1)))))) rfl ?_
          refine EV.callF (kc := 16) (av := [.ref 7, .int v2, .int v3, .int (x1 + (kI 1))]) (r := []) (rv := none) (w2 := (G_16_7 v2 v3 (x1 + (kI 1)) (up2 (G_18_7 w3) 87 4 (((G_18_7 w3) 87 4) + (x1 + (kI 1)))))) cl_22 rfl rfl rfl (m_16_7 (up2 (G_18_7 w3) 87 4 (((G_18_7 w3) 87 4) + (x1 + (kI 1)))) v2 v3 (x1 + (kI 1))) ?_
          refine EV.steps cl_22 3 (q2 := (104, [some (.ref 87), some (.ref 7), some (.int v2), some (.int v3), some (.int (x1 + (kI 1))), some (.int x2), some (.int (kI 1))], [.int (x1 + (kI 1)), .int v3, .ref 7], SH, (G_16_7 v2 v3 (x1 + (kI 1)) (up2 (G_18_7 w3) 87 4 (((G_18_7 w3) 87 4) + (x1 + (kI 1))))))) rfl ?_
          obtain ⟨j7, H⟩ := H
          refine EV.callF (kc := 17) (av := [.ref 7, .int v3, .int (x1 + (kI 1))]) (r := []) (rv := none) (w2 := (G_17_7 v3 (x1 + (kI 1)) (G_16_7 v2 v3 (x1 + (kI 1)) (up2 (G_18_7 w3) 87 4 (((G_18_7 w3) 87 4) + (x1 + (kI 1))))))) cl_22 rfl rfl rfl (m_17_7 (G_16_7 v2 v3 (x1 + (kI 1)) (up2 (G_18_7 w3) 87 4 (((G_18_7 w3) 87 4) + (x1 + (kI 1))))) v3 (x1 + (kI 1)) j7) ?_
          refine EV.steps cl_22 2 (q2 := (2, [some (.ref 87), some (.ref 7), some (.int v2), some (.int (v3 + (kI 1))), some (.int (x1 + (kI 1))), some (.int x2), some (.int (kI 1))], [], SH, (G_17_7 v3 (x1 + (kI 1)) (G_16_7 v2 v3 (x1 + (kI 1)) (up2 (G_18_7 w3) 87 4 (((G_18_7 w3) 87 4) + (x1 + (kI 1)))))))) rfl ?_
          exact EV.weak (l := [some (.ref 87), some (.ref 7), some (.int v2), some (.int (v3 + (kI 1))), none, none, none]) ⟨rfl, ⟨rfl, ⟨rfl, ⟨rfl, ⟨rfl, ⟨rfl, ⟨rfl, trivial⟩⟩⟩⟩⟩⟩⟩ H
theorem t22_87_17_at0 {X : Scr} {d : Nat} {Q : Wd → Prop} (w : Wd) (v2 : Int32)
    (H : EU X (d + 3) 22 (2, [some (.ref 87), some (.ref 17), some (.int v2), some (.int (kI 0)), none, none, none], [], SH, w) Q) : EU X (d + 3) 22 (0, [some (.ref 87), some (.ref 17), some (.int v2), none, none, none, none], [], SH, w) Q := by
  unfold EU
  refine EV.steps cl_22 2 (q2 := (2, [some (.ref 87), some (.ref 17), some (.int v2), some (.int (kI 0)), none, none, none], [], SH, w)) rfl ?_
  exact H
theorem t22_87_17_at2 {X : Scr} {d : Nat} {Q : Wd → Prop} (w : Wd) (v2 : Int32) (v3 : Int32)
    (H : (if (kI 6) ≤ v3 then Q w else (if (F_52_3 v3 w) = 0 then EU X (d + 3) 22 (2, [some (.ref 87), some (.ref 17), some (.int v2), some (.int (v3 + (kI 1))), none, none, none], [], SH, w) Q else CI X (d + 3) 29 [.ref 87, .int (kI 110), .int (kI 99)] (G_28_87_17 v2 v3 (w 17 4) w) (fun x1 w1 => CI X (d + 3) 29 [.ref 87, .int (kI 100), .int (kI 10)] w1 (fun x2 w2 => CI X (d + 3) 30 [.ref 87] w2 (fun x3 w3 => (if x3 = 0 then (if x2 ≤ (F_18_17 w3) then ((¬ (F_153 v3 (kI 0) (kI 5) (G_16_17 v2 v3 x1 (up2 (G_18_17 w3) 87 4 (((G_18_17 w3) 87 4) + x1)))) = 0 → ¬ (F_153 ((G_16_17 v2 v3 x1 (up2 (G_18_17 w3) 87 4 (((G_18_17 w3) 87 4) + x1))) 17 4) (kI 0) (kI 11) (G_16_17 v2 v3 x1 (up2 (G_18_17 w3) 87 4 (((G_18_17 w3) 87 4) + x1)))) = 0 → (inB ((v3 * (kI 12)) + ((G_16_17 v2 v3 x1 (up2 (G_18_17 w3) 87 4 (((G_18_17 w3) 87 4) + x1))) 17 4)) 72 = true)) ∧ EU X (d + 3) 22 (2, [some (.ref 87), some (.ref 17), some (.int v2), some (.int (v3 + (kI 1))), none, none, none], [], SH, (G_17_17 v3 x1 (G_16_17 v2 v3 x1 (up2 (G_18_17 w3) 87 4 (((G_18_17 w3) 87 4) + x1))))) Q) else ((¬ (F_153 v3 (kI 0) (kI 5) (G_16_17 v2 v3 (x1 + (kI 1)) (up2 (G_18_17 w3) 87 4 (((G_18_17 w3) 87 4) + (x1 + (kI 1)))))) = 0 → ¬ (F_153 ((G_16_17 v2 v3 (x1 + (kI 1)) (up2 (G_18_17 w3) 87 4 (((G_18_17 w3) 87 4) + (x1 + (kI 1))))) 17 4) (kI 0) (kI 11) (G_16_17 v2 v3 (x1 + (kI 1)) (up2 (G_18_17 w3) 87 4 (((G_18_17 w3) 87 4) + (x1 + (kI 1)))))) = 0 → (inB ((v3 * (kI 12)) + ((G_16_17 v2 v3 (x1 + (kI 1)) (up2 (G_18_17 w3) 87 4 (((G_18_17 w3) 87 4) + (x1 + (kI 1))))) 17 4)) 72 = true)) ∧ EU X (d + 3) 22 (2, [some (.ref 87), some (.ref 17), some (.int v2), some (.int (v3 + (kI 1))), none, none, none], [], SH, (G_17_17 v3 (x1 + (kI 1)) (G_16_17 v2 v3 (x1 + (kI 1)) (up2 (G_18_17 w3) 87 4 (((G_18_17 w3) 87 4) + (x1 + (kI 1))))))) Q)) else (if x2 ≤ (F_18_17 w3) then EU X (d + 3) 22 (2, [some (.ref 87), some (.ref 17), some (.int v2), some (.int (v3 + (kI 1))), none, none, none], [], SH, (up2 (G_18_17 w3) 87 4 (((G_18_17 w3) 87 4) + x1))) Q else EU X (d + 3) 22 (2, [some (.ref 87), some (.ref 17), some (.int v2), some (.int (v3 + (kI 1))), none, none, none], [], SH, (up2 (G_18_17 w3) 87 4 (((G_18_17 w3) 87 4) + (x1 + (kI 1))))) Q)))))))) : EU X (d + 3) 22 (2, [some (.ref 87), some (.ref 17), some (.int v2), some (.int v3), none, none, none], [], SH, w) Q := by
  unfold EU
  refine EV.steps cl_22 2 (q2 := (5, [some (.ref 87), some (.ref 17), some (.int v2), some (.int v3), none, none, none], [.int (kI 6), .int v3], SH, w)) rfl ?_
  refine EV.i_ge cl_22 rfl (fun h1 => ?_) (fun h1 => ?_)
  · skip
    rw [if_pos h1] at H
    refine EV.ret cl_22 rfl rfl rfl ?_
    exact ⟨rfl, rfl, H⟩
  · skip
    rw [if_neg h1] at H
    refine EV.steps cl_22 3 (q2 := (13, [some (.ref 87), some (.ref 17), some (.int v2), some (.int v3), none, none, none], [.int v3, .ref 3], SH, w)) rfl ?_
    refine EV.callF (kc := 52) (av := [.ref 3, .int v3]) (r := []) (rv := some (.int (F_52_3 v3 w))) (w2 := w) cl_22 rfl rfl rfl (m_52_3 w v3) ?_
    refine EV.z_eq cl_22 rfl (fun h2 => ?_) (fun h2 => ?_)
    · skip
      rw [if_pos h2] at H
      refine EV.steps cl_22 2 (q2 := (2, [some (.ref 87), some (.ref 17), some (.int v2), some (.int (v3 + (kI 1))), none, none, none], [], SH, w)) rfl ?_
      exact H
    · skip
      rw [if_neg h2] at H
      refine EV.steps cl_22 6 (q2 := (27, [some (.ref 87), some (.ref 17), some (.int v2), some (.int v3), none, none, none], [.int (w 17 4), .int v3, .int v2, .ref 17, .ref 87], SH, w)) rfl ?_
      refine EV.callF (kc := 28) (av := [.ref 87, .ref 17, .int v2, .int v3, .int (w 17 4)]) (r := []) (rv := none) (w2 := (G_28_87_17 v2 v3 (w 17 4) w)) cl_22 rfl rfl rfl (m_28_87_17 w v2 v3 (w 17 4)) ?_
      refine EV.steps cl_22 3 (q2 := (35, [some (.ref 87), some (.ref 17), some (.int v2), some (.int v3), none, none, none], [.int (kI 99), .int (kI 110), .ref 87], SH, (G_28_87_17 v2 v3 (w 17 4) w))) rfl ?_
      refine EV.call (kc := 29) (av := [.ref 87, .int (kI 110), .int (kI 99)]) (r := []) cl_22 rfl rfl rfl H ?_
      clear H; intro y1 s1 w1 e1
      obtain ⟨x1, rfl, rfl, H⟩ := e1
      refine EV.steps cl_22 4 (q2 := (45, [some (.ref 87), some (.ref 17), some (.int v2), some (.int v3), some (.int x1), none, none], [.int (kI 10), .int (kI 100), .ref 87], SH, w1)) rfl ?_
      refine EV.call (kc := 29) (av := [.ref 87, .int (kI 100), .int (kI 10)]) (r := []) cl_22 rfl rfl rfl H ?_
      clear H; intro y2 s2 w2 e2
      obtain ⟨x2, rfl, rfl, H⟩ := e2
      refine EV.steps cl_22 2 (q2 := (51, [some (.ref 87), some (.ref 17), some (.int v2), some (.int v3), some (.int x1), some (.int x2), none], [.ref 87], SH, w2)) rfl ?_
      refine EV.call (kc := 30) (av := [.ref 87]) (r := []) cl_22 rfl rfl rfl H ?_
      clear H; intro y3 s3 w3 e3
      obtain ⟨x3, rfl, rfl, H⟩ := e3
      refine EV.z_ne cl_22 rfl (fun h3 => ?_) (fun h3 => ?_)
      · skip
        rw [if_neg h3] at H
        refine EV.steps cl_22 3 (q2 := (65, [some (.ref 87), some (.ref 17), some (.int v2), some (.int v3), some (.int x1), some (.int x2), some (.int (kI 0))], [.ref 17], SH, w3)) rfl ?_
        refine EV.callF (kc := 18) (av := [.ref 17]) (r := []) (rv := some (.int (F_18_17 w3))) (w2 := (G_18_17 w3)) cl_22 rfl rfl rfl (m_18_17 w3 ) ?_
        refine EV.steps cl_22 1 (q2 := (70, [some (.ref 87), some (.ref 17), some (.int v2), some (.int v3), some (.int x1), some (.int x2), some (.int (kI 0))], [.int x2, .int (F_18_17 w3)], SH, (G_18_17 w3))) rfl ?_
        refine EV.i_ge cl_22 rfl (fun h4 => ?_) (fun h4 => ?_)
        · skip
          rw [if_pos h4] at H
          refine EV.steps cl_22 10 (q2 := (2, [some (.ref 87), some (.ref 17), some (.int v2), some (.int (v3 + (kI 1))), some (.int x1), some (.int x2), some (.int (kI 0))], [], SH, (up2 (G_18_17 w3) 87 4 (((G_18_17 w3) 87 4) + x1)))) rfl ?_
          exact EV.weak (l := [some (.ref 87), some (.ref 17), some (.int v2), some (.int (v3 + (kI 1))), none, none, none]) ⟨rfl, ⟨rfl, ⟨rfl, ⟨rfl, ⟨rfl, ⟨rfl, ⟨rfl, trivial⟩⟩⟩⟩⟩⟩⟩ H
        · skip
          rw [if_neg h4] at H
          refine EV.steps cl_22 11 (q2 := (2, [some (.ref 87), some (.ref 17), some (.int v2), some (.int (v3 + (kI 1))), some (.int (x1 + (kI 1))), some (.int x2), some (.int (kI 0))], [], SH, (up2 (G_18_17 w3) 87 4 (((G_18_17 w3) 87 4) + (x1 + (kI 1)))))) rfl ?_
          exact EV.weak (l := [some (.ref 87), some (.ref 17), some (.int v2), some (.int (v3 + (kI 1))), none, none, none]) ⟨rfl, ⟨rfl, ⟨rfl, ⟨rfl, ⟨rfl, ⟨rfl, ⟨rfl, trivial⟩⟩⟩⟩⟩⟩⟩ H
      · skip
        rw [if_pos h3] at H
        refine EV.steps cl_22 4 (q2 := (65, [some (.ref 87), some (.ref 17), some (.int v2), some (.int v3), some (.int x1), some (.int x2), some (.int (kI 1))], [.ref 17], SH, w3)) rfl ?_
        refine EV.callF (kc := 18) (av := [.ref 17]) (r := []) (rv := some (.int (F_18_17 w3))) (w2 := (G_18_17 w3)) cl_22 rfl rfl rfl (m_18_17 w3 ) ?_
        refine EV.steps cl_22 1 (q2 := (70, [some (.ref 87), some (.ref 17), some (.int v2), some (.int v3), some (.int x1), some (.int x2), some (.int (kI 1))], [.int x2, .int (F_18_17 w3)], SH, (G_18_17 w3))) rfl ?_
        refine EV.i_ge cl_22 rfl (fun h5 => ?_) (fun h5 => ?_)
        · skip
          rw [if_pos h5] at H
          refine EV.steps cl_22 12 (q2 := (97, [some (.ref 87), some (.ref 17), some (.int v2), some (.int v3), some (.int x1), some (.int x2), some (.int (kI 1))], [.int x1, .int v3, .int v2, .ref 17], SH, (up2 (G_18_17 w3) 87 4 (((G_18_17 w3) 87 4) + x1)))) rfl ?_
          refine EV.callF (kc := 16) (av := [.ref 17, .int v2, .int v3, .int x1]) (r := []) (rv := none) (w2 := (G_16_17 v2 v3 x1 (up2 (G_18_17 w3) 87 4 (((G_18_17 w3) 87 4) + x1)))) cl_22 rfl rfl rfl (m_16_17 (up2 (G_18_17 w3) 87 4 (((G_18_17 w3) 87 4) + x1)) v2 v3 x1) ?_
          refine EV.steps cl_22 3 (q2 := (104, [some (.ref 87), some (.ref 17), some (.int v2), some (.int v3), some (.int x1), some (.int x2), some (.int (kI 1))], [.int x1, .int v3, .ref 17], SH, (G_16_17 v2 v3 x1 (up2 (G_18_17 w3) 87 4 (((G_18_17 w3) 87 4) + x1))))) rfl ?_
          obtain ⟨j6, H⟩ := H
          refine EV.callF (kc := 17) (av := [.ref 17, .int v3, .int x1]) (r := []) (rv := none) (w2 := (G_17_17 v3 x1 (G_16_17 v2 v3 x1 (up2 (G_18_17 w3) 87 4 (((G_18_17 w3) 87 4) + x1))))) cl_22 rfl rfl rfl (m_17_17 (G_16_17 v2 v3 x1 (up2 (G_18_17 w3) 87 4 (((G_18_17 w3) 87 4) + x1))) v3 x1 j6) ?_
          refine EV.steps cl_22 2 (q2 := (2, [some (.ref 87), some (.ref 17), some (.int v2), some (.int (v3 + (kI 1))), some (.int x1), some (.int x2), some (.int (kI 1))], [], SH, (G_17_17 v3 x1 (G_16_17 v2 v3 x1 (up2 (G_18_17 w3) 87 4 (((G_18_17 w3) 87 4) + x1)))))) rfl ?_
          exact EV.weak (l := [some (.ref 87), some (.ref 17), some (.int v2), some (.int (v3 + (kI 1))), none, none, none]) ⟨rfl, ⟨rfl, ⟨rfl, ⟨rfl, ⟨rfl, ⟨rfl, ⟨rfl, trivial⟩⟩⟩⟩⟩⟩⟩ H
        · skip
          rw [if_neg h5] at H
          refine EV.steps cl_22 13 (q2 := (97, [some (.ref 87), some (.ref 17), some (.int v2), some (.int v3), some (.int (x1 + (kI 1))), some (.int x2), some (.int (kI 1))], [.int (x1 + (kI 1)), .int v3, .int v2, .ref 17], SH, (up2 (G_18_17 w3) 87 4 (((G_18_17 w3) 87 4) + (x1 + (kI 1)))))) rfl ?_
          refine EV.callF (kc := 16) (av := [.ref 17, .int v2, .int v3, .int (x1 + (kI 1))]) (r := []) (rv := none) (w2 := (G_16_17 v2 v3 (x1 + (kI 1)) (up2 (G_18_17 w3) 87 4 (((G_18_17 w3) 87 4) + (x1 + (kI 1)))))) cl_22 rfl rfl rfl (m_16_17 (up2 (G_18_17 w3) 87 4 (((G_18_17 w3) 87 4) + (x1 + (kI 1)))) v2 v3 (x1 + (kI 1))) ?_
          refine EV.steps cl_22 3 (q2 := (104, [some (.ref 87), some (.ref 17), some (.int v2), some (.int v3), some (.int (x1 + (kI 1))), some (.int x2), some (.int (kI 1))], [.int (x1 + (kI 1)), .int v3, .ref 17], SH, (G_16_17 v2 v3 (x1 + (kI 1)) (up2 (G_18_17 w3) 87 4 (((G_18_17 w3) 87 4) + (x1 + (kI 1))))))) rfl ?_
          obtain ⟨j7, H⟩ := H
          refine EV.callF (kc := 17) (av := [.ref 17, .int v3, .int (x1 + (kI 1))]) (r := []) (rv := none) (w2 := (G_17_17 v3 (x1 + (kI 1)) (G_16_17 v2 v3 (x1 + (kI 1)) (up2 (G_18_17 w3) 87 4 (((G_18_17 w3) 87 4) + (x1 + (kI 1))))))) cl_22 rfl rfl rfl (m_17_17 (G_16_17 v2 v3 (x1 + (kI 1)) (up2 (G_18_17 w3) 87 4 (((G_18_17 w3) 87 4) + (x1 + (kI 1))))) v3 (x1 + (kI 1)) j7) ?_
          refine EV.steps cl_22 2 (q2 := (2, [some (.ref 87), some (.ref 17), some (.int v2), some (.int (v3 + (kI 1))), some (.int (x1 + (kI 1))), some (.int x2), some (.int (kI 1))], [], SH, (G_17_17 v3 (x1 + (kI 1)) (G_16_17 v2 v3 (x1 + (kI 1)) (up2 (G_18_17 w3) 87 4 (((G_18_17 w3) 87 4) + (x1 + (kI 1)))))))) rfl ?_
          exact EV.weak (l := [some (.ref 87), some (.ref 17), some (.int v2), some (.int (v3 + (kI 1))), none, none, none]) ⟨rfl, ⟨rfl, ⟨rfl, ⟨rfl, ⟨rfl, ⟨rfl, ⟨rfl, trivial⟩⟩⟩⟩⟩⟩⟩ H
theorem t23_87_7_at0 {X : Scr} {d : Nat} {Q : Wd → Prop} (w : Wd) 
    (H : EU X (d + 2) 23 (2, [some (.ref 87), some (.ref 7), some (.int (kI 0)), none, none, none], [], SH, w) Q) : EU X (d + 2) 23 (0, [some (.ref 87), some (.ref 7), none, none, none, none], [], SH, w) Q := by
  unfold EU
  refine EV.steps cl_23 2 (q2 := (2, [some (.ref 87), some (.ref 7), some (.int (kI 0)), none, none, none], [], SH, w)) rfl ?_
  exact H
theorem t23_87_7_at2 {X : Scr} {d : Nat} {Q : Wd → Prop} (w : Wd) (v2 : Int32)
    (H : (if (kI 6) ≤ v2 then Q w else EU X (d + 2) 23 (20, [some (.ref 87), some (.ref 7), some (.int v2), some (.int (F_52_3 v2 w)), some (.int (kI 0)), none], [], SH, w) Q)) : EU X (d + 2) 23 (2, [some (.ref 87), some (.ref 7), some (.int v2), none, none, none], [], SH, w) Q := by
  unfold EU
  refine EV.steps cl_23 2 (q2 := (5, [some (.ref 87), some (.ref 7), some (.int v2), none, none, none], [.int (kI 6), .int v2], SH, w)) rfl ?_
  refine EV.i_ge cl_23 rfl (fun h1 => ?_) (fun h1 => ?_)
  · skip
    rw [if_pos h1] at H
    refine EV.ret cl_23 rfl rfl rfl ?_
    exact ⟨rfl, rfl, H⟩
  · skip
    rw [if_neg h1] at H
    refine EV.steps cl_23 3 (q2 := (13, [some (.ref 87), some (.ref 7), some (.int v2), none, none, none], [.int v2, .ref 3], SH, w)) rfl ?_
    refine EV.callF (kc := 52) (av := [.ref 3, .int v2]) (r := []) (rv := some (.int (F_52_3 v2 w))) (w2 := w) cl_23 rfl rfl rfl (m_52_3 w v2) ?_
    refine EV.steps cl_23 3 (q2 := (20, [some (.ref 87), some (.ref 7), some (.int v2), some (.int (F_52_3 v2 w)), some (.int (kI 0)), none], [], SH, w)) rfl ?_
    exact H
theorem t23_87_7_at20 {X : Scr} {d : Nat} {Q : Wd → Prop} (w : Wd) (v2 : Int32) (v3 : Int32) (v4 : Int32)
    (H : (if (kI 200) ≤ v4 then EU X (d + 2) 23 (2, [some (.ref 87), some (.ref 7), some (.int (v2 + (kI 1))), none, none, none], [], SH, w) Q else (if v3 = 0 then EU X (d + 2) 23 (2, [some (.ref 87), some (.ref 7), some (.int (v2 + (kI 1))), none, none, none], [], SH, w) Q else (if (F_54_3 v2 w) ≤ (F_14_7 v2 w) then EU X (d + 2) 23 (2, [some (.ref 87), some (.ref 7), some (.int (v2 + (kI 1))), none, none, none], [], SH, w) Q else CI X (d + 2) 27 [.ref 87, .ref 7, .int v2] w (fun x1 w1 => (if x1 = (kI (-1)) then EU X (d + 2) 23 (20, [some (.ref 87), some (.ref 7), some (.int v2), some (.int (kI 0)), some (.int (v4 + (kI 1))), none], [], SH, w1) Q else (if (w1 7 6) < (w1 87 9) then EU X (d + 2) 23 (20, [some (.ref 87), some (.ref 7), some (.int v2), some (.int (kI 0)), some (.int (v4 + (kI 1))), none], [], SH, w1) Q else EU X (d + 2) 23 (20, [some (.ref 87), some (.ref 7), some (.int v2), some (.int (kI 1)), some (.int (v4 + (kI 1))), none], [], SH, (up2 (up2 (up2 (G_16_7 x1 v2 (kI 1) w1) 7 6 (((G_16_7 x1 v2 (kI 1) w1) 7 6) - ((G_16_7 x1 v2 (kI 1) w1) 87 9))) 87 5 (((G_16_7 x1 v2 (kI 1) w1) 87 5) + ((G_16_7 x1 v2 (kI 1) w1) 87 9))) 87 6 (((G_16_7 x1 v2 (kI 1) w1) 87 6) + (kI 1)))) Q))))))) : EU X (d + 2) 23 (20, [some (.ref 87), some (.ref 7), some (.int v2), some (.int v3), some (.int v4), none], [], SH, w) Q := by
  unfold EU
  refine EV.steps cl_23 2 (q2 := (25, [some (.ref 87), some (.ref 7), some (.int v2), some (.int v3), some (.int v4), none], [.int (kI 200), .int v4], SH, w)) rfl ?_
  refine EV.i_ge cl_23 rfl (fun h1 => ?_) (fun h1 => ?_)
  · skip
    rw [if_pos h1] at H
    refine EV.steps cl_23 2 (q2 := (2, [some (.ref 87), some (.ref 7), some (.int (v2 + (kI 1))), some (.int v3), some (.int v4), none], [], SH, w)) rfl ?_
    exact EV.weak (l := [some (.ref 87), some (.ref 7), some (.int (v2 + (kI 1))), none, none, none]) ⟨rfl, ⟨rfl, ⟨rfl, ⟨rfl, ⟨rfl, ⟨trivial, trivial⟩⟩⟩⟩⟩⟩ H
  · skip
    rw [if_neg h1] at H
    refine EV.steps cl_23 1 (q2 := (29, [some (.ref 87), some (.ref 7), some (.int v2), some (.int v3), some (.int v4), none], [.int v3], SH, w)) rfl ?_
    refine EV.z_eq cl_23 rfl (fun h2 => ?_) (fun h2 => ?_)
    · skip
      rw [if_pos h2] at H
      refine EV.steps cl_23 2 (q2 := (2, [some (.ref 87), some (.ref 7), some (.int (v2 + (kI 1))), some (.int v3), some (.int v4), none], [], SH, w)) rfl ?_
      exact EV.weak (l := [some (.ref 87), some (.ref 7), some (.int (v2 + (kI 1))), none, none, none]) ⟨rfl, ⟨rfl, ⟨rfl, ⟨rfl, ⟨rfl, ⟨trivial, trivial⟩⟩⟩⟩⟩⟩ H
    · skip
      rw [if_neg h2] at H
      refine EV.steps cl_23 2 (q2 := (34, [some (.ref 87), some (.ref 7), some (.int v2), some (.int v3), some (.int v4), none], [.int v2, .ref 7], SH, w)) rfl ?_
      refine EV.callF (kc := 14) (av := [.ref 7, .int v2]) (r := []) (rv := some (.int (F_14_7 v2 w))) (w2 := w) cl_23 rfl rfl rfl (m_14_7 w v2) ?_
      refine EV.steps cl_23 3 (q2 := (42, [some (.ref 87), some (.ref 7), some (.int v2), some (.int v3), some (.int v4), none], [.int v2, .ref 3, .int (F_14_7 v2 w)], SH, w)) rfl ?_
      refine EV.callF (kc := 54) (av := [.ref 3, .int v2]) (r := [.int (F_14_7 v2 w)]) (rv := some (.int (F_54_3 v2 w))) (w2 := w) cl_23 rfl rfl rfl (m_54_3 w v2) ?_
      refine EV.i_ge cl_23 rfl (fun h3 => ?_) (fun h3 => ?_)
      · skip
        rw [if_pos h3] at H
        refine EV.steps cl_23 2 (q2 := (2, [some (.ref 87), some (.ref 7), some (.int (v2 + (kI 1))), some (.int v3), some (.int v4), none], [], SH, w)) rfl ?_
        exact EV.weak (l := [some (.ref 87), some (.ref 7), some (.int (v2 + (kI 1))), none, none, none]) ⟨rfl, ⟨rfl, ⟨rfl, ⟨rfl, ⟨rfl, ⟨trivial, trivial⟩⟩⟩⟩⟩⟩ H
      · skip
        rw [if_neg h3] at H
        refine EV.steps cl_23 3 (q2 := (51, [some (.ref 87), some (.ref 7), some (.int v2), some (.int v3), some (.int v4), none], [.int v2, .ref 7, .ref 87], SH, w)) rfl ?_
        refine EV.call (kc := 27) (av := [.ref 87, .ref 7, .int v2]) (r := []) cl_23 rfl rfl rfl H ?_
        clear H; intro y1 s1 w1 e1
        obtain ⟨x1, rfl, rfl, H⟩ := e1
        refine EV.steps cl_23 3 (q2 := (59, [some (.ref 87), some (.ref 7), some (.int v2), some (.int v3), some (.int v4), some (.int x1)], [.int (kI (-1)), .int x1], SH, w1)) rfl ?_
        refine EV.i_eq cl_23 rfl (fun h4 => ?_) (fun h4 => ?_)
        · skip
          rw [if_pos h4] at H
          refine EV.steps cl_23 6 (q2 := (20, [some (.ref 87), some (.ref 7), some (.int v2), some (.int (kI 0)), some (.int (v4 + (kI 1))), some (.int x1)], [], SH, w1)) rfl ?_
          exact EV.weak (l := [some (.ref 87), some (.ref 7), some (.int v2), some (.int (kI 0)), some (.int (v4 + (kI 1))), none]) ⟨rfl, ⟨rfl, ⟨rfl, ⟨rfl, ⟨rfl, ⟨rfl, trivial⟩⟩⟩⟩⟩⟩ H
        · skip
          rw [if_neg h4] at H
          refine EV.steps cl_23 4 (q2 := (70, [some (.ref 87), some (.ref 7), some (.int v2), some (.int v3), some (.int v4), some (.int x1)], [.int (w1 7 6), .int (w1 87 9)], SH, w1)) rfl ?_
          refine EV.i_gt cl_23 rfl (fun h5 => ?_) (fun h5 => ?_)
          · skip
            rw [if_pos h5] at H
            refine EV.steps cl_23 6 (q2 := (20, [some (.ref 87), some (.ref 7), some (.int v2), some (.int (kI 0)), some (.int (v4 + (kI 1))), some (.int x1)], [], SH, w1)) rfl ?_
            exact EV.weak (l := [some (.ref 87), some (.ref 7), some (.int v2), some (.int (kI 0)), some (.int (v4 + (kI 1))), none]) ⟨rfl, ⟨rfl, ⟨rfl, ⟨rfl, ⟨rfl, ⟨rfl, trivial⟩⟩⟩⟩⟩⟩ H
          · skip
            rw [if_neg h5] at H
            refine EV.steps cl_23 9 (q2 := (88, [some (.ref 87), some (.ref 7), some (.int v2), some (.int (kI 1)), some (.int v4), some (.int x1)], [.int (kI 1), .int v2, .int x1, .ref 7], SH, w1)) rfl ?_
            refine EV.callF (kc := 16) (av := [.ref 7, .int x1, .int v2, .int (kI 1)]) (r := []) (rv := none) (w2 := (G_16_7 x1 v2 (kI 1) w1)) cl_23 rfl rfl rfl (m_16_7 w1 x1 v2 (kI 1)) ?_
            refine EV.steps cl_23 22 (q2 := (20, [some (.ref 87), some (.ref 7), some (.int v2), some (.int (kI 1)), some (.int (v4 + (kI 1))), some (.int x1)], [], SH, (up2 (up2 (up2 (G_16_7 x1 v2 (kI 1) w1) 7 6 (((G_16_7 x1 v2 (kI 1) w1) 7 6) - ((G_16_7 x1 v2 (kI 1) w1) 87 9))) 87 5 (((G_16_7 x1 v2 (kI 1) w1) 87 5) + ((G_16_7 x1 v2 (kI 1) w1) 87 9))) 87 6 (((G_16_7 x1 v2 (kI 1) w1) 87 6) + (kI 1))))) rfl ?_
            exact EV.weak (l := [some (.ref 87), some (.ref 7), some (.int v2), some (.int (kI 1)), some (.int (v4 + (kI 1))), none]) ⟨rfl, ⟨rfl, ⟨rfl, ⟨rfl, ⟨rfl, ⟨rfl, trivial⟩⟩⟩⟩⟩⟩ H
theorem t23_87_17_at0 {X : Scr} {d : Nat} {Q : Wd → Prop} (w : Wd) 
    (H : EU X (d + 2) 23 (2, [some (.ref 87), some (.ref 17), some (.int (kI 0)), none, none, none], [], SH, w) Q) : EU X (d + 2) 23 (0, [some (.ref 87), some (.ref 17), none, none, none, none], [], SH, w) Q := by
  unfold EU
  refine EV.steps cl_23 2 (q2 := (2, [some (.ref 87), some (.ref 17), some (.int (kI 0)), none, none, none], [], SH, w)) rfl ?_
  exact H
theorem t23_87_17_at2 {X : Scr} {d : Nat} {Q : Wd → Prop} (w : Wd) (v2 : Int32)
    (H : (if (kI 6) ≤ v2 then Q w else EU X (d + 2) 23 (20, [some (.ref 87), some (.ref 17), some (.int v2), some (.int (F_52_3 v2 w)), some (.int (kI 0)), none], [], SH, w) Q)) : EU X (d + 2) 23 (2, [some (.ref 87), some (.ref 17), some (.int v2), none, none, none], [], SH, w) Q := by
  unfold EU
  refine EV.steps cl_23 2 (q2 := (5, [some (.ref 87), some (.ref 17), some (.int v2), none, none, none], [.int (kI 6), .int v2], SH, w)) rfl ?_
  refine EV.i_ge cl_23 rfl (fun h1 => ?_) (fun h1 => ?_)
  · skip
    rw [if_pos h1] at H
    refine EV.ret cl_23 rfl rfl rfl ?_
    exact ⟨rfl, rfl, H⟩
  · skip
    rw [if_neg h1] at H
    refine EV.steps cl_23 3 (q2 := (13, [some (.ref 87), some (.ref 17), some (.int v2), none, none, none], [.int v2, .ref 3], SH, w)) rfl ?_
    refine EV.callF (kc := 52) (av := [.ref 3, .int v2]) (r := []) (rv := some (.int (F_52_3 v2 w))) (w2 := w) cl_23 rfl rfl rfl (m_52_3 w v2) ?_
    refine EV.steps cl_23 3 (q2 := (20, [some (.ref 87), some (.ref 17), some (.int v2), some (.int (F_52_3 v2 w)), some (.int (kI 0)), none], [], SH, w)) rfl ?_
    exact H
theorem t23_87_17_at20 {X : Scr} {d : Nat} {Q : Wd → Prop} (w : Wd) (v2 : Int32) (v3 : Int32) (v4 : Int32)
    (H : (if (kI 200) ≤ v4 then EU X (d + 2) 23 (2, [some (.ref 87), some (.ref 17), some (.int (v2 + (kI 1))), none, none, none], [], SH, w) Q else (if v3 = 0 then EU X (d + 2) 23 (2, [some (.ref 87), some (.ref 17), some (.int (v2 + (kI 1))), none, none, none], [], SH, w) Q else (if (F_54_3 v2 w) ≤ (F_14_17 v2 w) then EU X (d + 2) 23 (2, [some (.ref 87), some (.ref 17), some (.int (v2 + (kI 1))), none, none, none], [], SH, w) Q else CI X (d + 2) 27 [.ref 87, .ref 17, .int v2] w (fun x1 w1 => (if x1 = (kI (-1)) then EU X (d + 2) 23 (20, [some (.ref 87), some (.ref 17), some (.int v2), some (.int (kI 0)), some (.int (v4 + (kI 1))), none], [], SH, w1) Q else (if (w1 17 6) < (w1 87 9) then EU X (d + 2) 23 (20, [some (.ref 87), some (.ref 17), some (.int v2), some (.int (kI 0)), some (.int (v4 + (kI 1))), none], [], SH, w1) Q else EU X (d + 2) 23 (20, [some (.ref 87), some (.ref 17), some (.int v2), some (.int (kI 1)), some (.int (v4 + (kI 1))), none], [], SH, (up2 (up2 (up2 (G_16_17 x1 v2 (kI 1) w1) 17 6 (((G_16_17 x1 v2 (kI 1) w1) 17 6) - ((G_16_17 x1 v2 (kI 1) w1) 87 9))) 87 5 (((G_16_17 x1 v2 (kI 1) w1) 87 5) + ((G_16_17 x1 v2 (kI 1) w1) 87 9))) 87 6 (((G_16_17 x1 v2 (kI 1) w1) 87 6) + (kI 1)))) Q))))))) : EU X (d + 2) 23 (20, [some (.ref 87), some (.ref 17), some (.int v2), some (.int v3), some (.int v4), none], [], SH, w) Q := by
  unfold EU
  refine EV.steps cl_23 2 (q2 := (25, [some (.ref 87), some (.ref 17), some (.int v2), some (.int v3), some (.int v4), none], [.int (kI 200), .int v4], SH, w)) rfl ?_
  refine EV.i_ge cl_23 rfl (fun h1 => ?_) (fun h1 => ?_)
  · skip
    rw [if_pos h1] at H
    refine EV.steps cl_23 2 (q2 := (2, [some (.ref 87), some (.ref 17), some (.int (v2 + (kI 1))), some (.int v3), some (.int v4), none], [], SH, w)) rfl ?_
    exact EV.weak (l := [some (.ref 87), some (.ref 17), some (.int (v2 + (kI 1))), none, none, none]) ⟨rfl, ⟨rfl, ⟨rfl, ⟨rfl, ⟨rfl, ⟨trivial, trivial⟩⟩⟩⟩⟩⟩ H
  · skip
    rw [if_neg h1] at H
    refine EV.steps cl_23 1 (q2 := (29, [some (.ref 87), some (.ref 17), some (.int v2), some (.int v3), some (.int v4), none], [.int v3], SH, w)) rfl ?_
    refine EV.z_eq cl_23 rfl (fun h2 => ?_) (fun h2 => ?_)
    · skip
      rw [if_pos h2] at H
      refine EV.steps cl_23 2 (q2 := (2, [some (.ref 87), some (.ref 17), some (.int (v2 + (kI 1))), some (.int v3), some (.int v4), none], [], SH, w)) rfl ?_
      exact EV.weak (l := [some (.ref 87), some (.ref 17), some (.int (v2 + (kI 1))), none, none, none]) ⟨rfl, ⟨rfl, ⟨rfl, ⟨rfl, ⟨rfl, ⟨trivial, trivial⟩⟩⟩⟩⟩⟩ H
    · skip
      rw [if_neg h2] at H
      refine EV.steps cl_23 2 (q2 := (34, [some (.ref 87), some (.ref 17), some (.int v2), some (.int v3), some (.int v4), none], [.int v2, .ref 17], SH, w)) rfl ?_
      refine EV.callF (kc := 14) (av := [.ref 17, .int v2]) (r := []) (rv := some (.int (F_14_17 v2 w))) (w2 := w) cl_23 rfl rfl rfl (m_14_17 w v2) ?_
      refine EV.steps cl_23 3 (q2 := (42, [some (.ref 87), some (.ref 17), some (.int v2), some (.int v3), some (.int v4), none], [.int v2, .ref 3, .int (F_14_17 v2 w)], SH, w)) rfl ?_
      refine EV.callF (kc := 54) (av := [.ref 3, .int v2]) (r := [.int (F_14_17 v2 w)]) (rv := some (.int (F_54_3 v2 w))) (w2 := w) cl_23 rfl rfl rfl (m_54_3 w v2) ?_
      refine EV.i_ge cl_23 rfl (fun h3 => ?_) (fun h3 => ?_)
      · skip
        rw [if_pos h3] at H
        refine EV.steps cl_23 2 (q2 := (2, [some (.ref 87), some (.ref 17), some (.int (v2 + (kI 1))), some (.int v3), some (.int v4), none], [], SH, w)) rfl ?_
        exact EV.weak (l := [some (.ref 87), some (.ref 17), some (.int (v2 + (kI 1))), none, none, none]) ⟨rfl, ⟨rfl, ⟨rfl, ⟨rfl, ⟨rfl, ⟨trivial, trivial⟩⟩⟩⟩⟩⟩ H
      · skip
        rw [if_neg h3] at H
        refine EV.steps cl_23 3 (q2 := (51, [some (.ref 87), some (.ref 17), some (.int v2), some (.int v3), some (.int v4), none], [.int v2, .ref 17, .ref 87], SH, w)) rfl ?_
        refine EV.call (kc := 27) (av := [.ref 87, .ref 17, .int v2]) (r := []) cl_23 rfl rfl rfl H ?_
        clear H; intro y1 s1 w1 e1
        obtain ⟨x1, rfl, rfl, H⟩ := e1
        refine EV.steps cl_23 3 (q2 := (59, [some (.ref 87), some (.ref 17), some (.int v2), some (.int v3), some (.int v4), some (.int x1)], [.int (kI (-1)), .int x1], SH, w1)) rfl ?_
        refine EV.i_eq cl_23 rfl (fun h4 => ?_) (fun h4 => ?_)
        · skip
          rw [if_pos h4] at H
          refine EV.steps cl_23 6 (q2 := (20, [some (.ref 87), some (.ref 17), some (.int v2), some (.int (kI 0)), some (.int (v4 + (kI 1))), some (.int x1)], [], SH, w1)) rfl ?_
          exact EV.weak (l := [some (.ref 87), some (.ref 17), some (.int v2), some (.int (kI 0)), some (.int (v4 + (kI 1))), none]) ⟨rfl, ⟨rfl, ⟨rfl, ⟨rfl, ⟨rfl, ⟨rfl, trivial⟩⟩⟩⟩⟩⟩ H
        · skip
          rw [if_neg h4] at H
          refine EV.steps cl_23 4 (q2 := (70, [some (.ref 87), some (.ref 17), some (.int v2), some (.int v3), some (.int v4), some (.int x1)], [.int (w1 17 6), .int (w1 87 9)], SH, w1)) rfl ?_
          refine EV.i_gt cl_23 rfl (fun h5 => ?_) (fun h5 => ?_)
          · skip
            rw [if_pos h5] at H
            refine EV.steps cl_23 6 (q2 := (20, [some (.ref 87), some (.ref 17), some (.int v2), some (.int (kI 0)), some (.int (v4 + (kI 1))), some (.int x1)], [], SH, w1)) rfl ?_
            exact EV.weak (l := [some (.ref 87), some (.ref 17), some (.int v2), some (.int (kI 0)), some (.int (v4 + (kI 1))), none]) ⟨rfl, ⟨rfl, ⟨rfl, ⟨rfl, ⟨rfl, ⟨rfl, trivial⟩⟩⟩⟩⟩⟩ H
          · skip
            rw [if_neg h5] at H
            refine EV.steps cl_23 9 (q2 := (88, [some (.ref 87), some (.ref 17), some (.int v2), some (.int (kI 1)), some (.int v4), some (.int x1)], [.int (kI 1), .int v2, .int x1, .ref 17], SH, w1)) rfl ?_
            refine EV.callF (kc := 16) (av := [.ref 17, .int x1, .int v2, .int (kI 1)]) (r := []) (rv := none) (w2 := (G_16_17 x1 v2 (kI 1) w1)) cl_23 rfl rfl rfl (m_16_17 w1 x1 v2 (kI 1)) ?_
            refine EV.steps cl_23 22 (q2 := (20, [some (.ref 87), some (.ref 17), some (.int v2), some (.int (kI 1)), some (.int (v4 + (kI 1))), some (.int x1)], [], SH, (up2 (up2 (up2 (G_16_17 x1 v2 (kI 1) w1) 17 6 (((G_16_17 x1 v2 (kI 1) w1) 17 6) - ((G_16_17 x1 v2 (kI 1) w1) 87 9))) 87 5 (((G_16_17 x1 v2 (kI 1) w1) 87 5) + ((G_16_17 x1 v2 (kI 1) w1) 87 9))) 87 6 (((G_16_17 x1 v2 (kI 1) w1) 87 6) + (kI 1))))) rfl ?_
            exact EV.weak (l := [some (.ref 87), some (.ref 17), some (.int v2), some (.int (kI 1)), some (.int (v4 + (kI 1))), none]) ⟨rfl, ⟨rfl, ⟨rfl, ⟨rfl, ⟨rfl, ⟨rfl, trivial⟩⟩⟩⟩⟩⟩ H
theorem t24_87_17_at0 {X : Scr} {d : Nat} {Q : Int32 → Wd → Prop} (w : Wd) (v2 : Int32)
    (H : (if (F_153 ((F_54_3 v2 w) - (F_14_17 v2 w)) (kI 0) (kI 200) w) = 0 then Q (kI (-2)) w else EI X (d + 2) 24 (35, [some (.ref 87), some (.ref 17), some (.int v2), some (.int ((F_54_3 v2 w) - (F_14_17 v2 w))), some (.int (kI 0)), some (.int (kI 0)), none], [], SH, w) Q)) : EI X (d + 2) 24 (0, [some (.ref 87), some (.ref 17), some (.int v2), none, none, none, none], [], SH, w) Q := by
  unfold EI
  refine EV.steps cl_24 3 (q2 := (5, [some (.ref 87), some (.ref 17), some (.int v2), none, none, none, none], [.int v2, .ref 3], SH, w)) rfl ?_
  refine EV.callF (kc := 54) (av := [.ref 3, .int v2]) (r := []) (rv := some (.int (F_54_3 v2 w))) (w2 := w) cl_24 rfl rfl rfl (m_54_3 w v2) ?_
  refine EV.steps cl_24 2 (q2 := (10, [some (.ref 87), some (.ref 17), some (.int v2), none, none, none, none], [.int v2, .ref 17, .int (F_54_3 v2 w)], SH, w)) rfl ?_
  refine EV.callF (kc := 14) (av := [.ref 17, .int v2]) (r := [.int (F_54_3 v2 w)]) (rv := some (.int (F_14_17 v2 w))) (w2 := w) cl_24 rfl rfl rfl (m_14_17 w v2) ?_
  refine EV.steps cl_24 5 (q2 := (20, [some (.ref 87), some (.ref 17), some (.int v2), some (.int ((F_54_3 v2 w) - (F_14_17 v2 w))), none, none, none], [.int (kI 200), .int (kI 0), .int ((F_54_3 v2 w) - (F_14_17 v2 w))], SH, w)) rfl ?_
  refine EV.callF (kc := 153) (av := [.int ((F_54_3 v2 w) - (F_14_17 v2 w)), .int (kI 0), .int (kI 200)]) (r := []) (rv := some (.int (F_153 ((F_54_3 v2 w) - (F_14_17 v2 w)) (kI 0) (kI 200) w))) (w2 := w) cl_24 rfl rfl rfl (m_153 w ((F_54_3 v2 w) - (F_14_17 v2 w)) (kI 0) (kI 200)) ?_
  refine EV.z_ne cl_24 rfl (fun h1 => ?_) (fun h1 => ?_)
  · skip
    rw [if_neg h1] at H
    refine EV.steps cl_24 4 (q2 := (35, [some (.ref 87), some (.ref 17), some (.int v2), some (.int ((F_54_3 v2 w) - (F_14_17 v2 w))), some (.int (kI 0)), some (.int (kI 0)), none], [], SH, w)) rfl ?_
    exact H
  · skip
    rw [if_pos h1] at H
    refine EV.steps cl_24 1 (q2 := (28, [some (.ref 87), some (.ref 17), some (.int v2), some (.int ((F_54_3 v2 w) - (F_14_17 v2 w))), none, none, none], [.int (kI (-2))], SH, w)) rfl ?_
    refine EV.ret cl_24 rfl rfl rfl ?_
    exact ⟨_, rfl, rfl, H⟩
theorem t24_87_17_at35 {X : Scr} {d : Nat} {Q : Int32 → Wd → Prop} (w : Wd) (v2 : Int32) (v3 : Int32) (v4 : Int32) (v5 : Int32)
    (H : (if v3 ≤ v5 then Q v4 w else CI X (d + 2) 27 [.ref 87, .ref 17, .int v2] w (fun x1 w1 => (if x1 = (kI (-1)) then Q (kI (-2)) w1 else EI X (d + 2) 24 (35, [some (.ref 87), some (.ref 17), some (.int v2), some (.int v3), some (.int (v4 + ((G_16_17 x1 v2 (kI 1) w1) 87 9))), some (.int (v5 + (kI 1))), none], [], SH, (G_16_17 x1 v2 (kI 1) w1)) Q)))) : EI X (d + 2) 24 (35, [some (.ref 87), some (.ref 17), some (.int v2), some (.int v3), some (.int v4), some (.int v5), none], [], SH, w) Q := by
  unfold EI
  refine EV.steps cl_24 2 (q2 := (38, [some (.ref 87), some (.ref 17), some (.int v2), some (.int v3), some (.int v4), some (.int v5), none], [.int v3, .int v5], SH, w)) rfl ?_
  refine EV.i_ge cl_24 rfl (fun h1 => ?_) (fun h1 => ?_)
  · skip
    rw [if_pos h1] at H
    refine EV.steps cl_24 1 (q2 := (83, [some (.ref 87), some (.ref 17), some (.int v2), some (.int v3), some (.int v4), some (.int v5), none], [.int v4], SH, w)) rfl ?_
    refine EV.ret cl_24 rfl rfl rfl ?_
    exact ⟨_, rfl, rfl, H⟩
  · skip
    rw [if_neg h1] at H
    refine EV.steps cl_24 3 (q2 := (44, [some (.ref 87), some (.ref 17), some (.int v2), some (.int v3), some (.int v4), some (.int v5), none], [.int v2, .ref 17, .ref 87], SH, w)) rfl ?_
    refine EV.call (kc := 27) (av := [.ref 87, .ref 17, .int v2]) (r := []) cl_24 rfl rfl rfl H ?_
    clear H; intro y1 s1 w1 e1
    obtain ⟨x1, rfl, rfl, H⟩ := e1
    refine EV.steps cl_24 3 (q2 := (52, [some (.ref 87), some (.ref 17), some (.int v2), some (.int v3), some (.int v4), some (.int v5), some (.int x1)], [.int (kI (-1)), .int x1], SH, w1)) rfl ?_
    refine EV.i_ne cl_24 rfl (fun h2 => ?_) (fun h2 => ?_)
    · skip
      rw [if_neg h2] at H
      refine EV.steps cl_24 4 (q2 := (63, [some (.ref 87), some (.ref 17), some (.int v2), some (.int v3), some (.int v4), some (.int v5), some (.int x1)], [.int (kI 1), .int v2, .int x1, .ref 17], SH, w1)) rfl ?_
      refine EV.callF (kc := 16) (av := [.ref 17, .int x1, .int v2, .int (kI 1)]) (r := []) (rv := none) (w2 := (G_16_17 x1 v2 (kI 1) w1)) cl_24 rfl rfl rfl (m_16_17 w1 x1 v2 (kI 1)) ?_
      refine EV.steps cl_24 7 (q2 := (35, [some (.ref 87), some (.ref 17), some (.int v2), some (.int v3), some (.int (v4 + ((G_16_17 x1 v2 (kI 1) w1) 87 9))), some (.int (v5 + (kI 1))), some (.int x1)], [], SH, (G_16_17 x1 v2 (kI 1) w1))) rfl ?_
      exact EV.weak (l := [some (.ref 87), some (.ref 17), some (.int v2), some (.int v3), some (.int (v4 + ((G_16_17 x1 v2 (kI 1) w1) 87 9))), some (.int (v5 + (kI 1))), none]) ⟨rfl, ⟨rfl, ⟨rfl, ⟨rfl, ⟨rfl, ⟨rfl, ⟨rfl, trivial⟩⟩⟩⟩⟩⟩⟩ H
    · skip
      rw [if_pos h2] at H
      refine EV.steps cl_24 1 (q2 := (57, [some (.ref 87), some (.ref 17), some (.int v2), some (.int v3), some (.int v4), some (.int v5), some (.int x1)], [.int (kI (-2))], SH, w1)) rfl ?_
      refine EV.ret cl_24 rfl rfl rfl ?_
      exact ⟨_, rfl, rfl, H⟩
theorem t25_87_at0 {X : Scr} {d : Nat} {Q : Wd → Prop} (w : Wd) (v1 : Int32)
    (H : EU X (d + 1) 25 (12, [some (.ref 87), some (.int v1), some (.int (kI 1)), none, none], [], SH, (up2 (up2 w 87 7 (kI 0)) 87 8 (kI 0))) Q) : EU X (d + 1) 25 (0, [some (.ref 87), some (.int v1), none, none, none], [], SH, w) Q := by
  unfold EU
  refine EV.steps cl_25 8 (q2 := (12, [some (.ref 87), some (.int v1), some (.int (kI 1)), none, none], [], SH, (up2 (up2 w 87 7 (kI 0)) 87 8 (kI 0)))) rfl ?_
  exact H
theorem t25_87_at12 {X : Scr} {d : Nat} {Q : Wd → Prop} (w : Wd) (v1 : Int32) (v2 : Int32)
    (H : (if (kI 64) ≤ v2 then Q w else CI X (d + 1) 26 [.ref 87, .int v2] w (fun x1 w1 => (if x1 = (kI (-2)) then EU X (d + 1) 25 (12, [some (.ref 87), some (.int v1), some (.int (v2 + (kI 1))), none, none], [], SH, w1) Q else (if v1 < x1 then EU X (d + 1) 25 (12, [some (.ref 87), some (.int v1), some (.int (v2 + (kI 1))), none, none], [], SH, w1) Q else (if 0 < ((F_259 v2 w1) - (F_259 (w1 87 7) w1)) then EU X (d + 1) 25 (12, [some (.ref 87), some (.int v1), some (.int (v2 + (kI 1))), none, none], [], SH, (up2 (up2 w1 87 7 v2) 87 8 x1)) Q else (if ((F_259 v2 w1) - (F_259 (w1 87 7) w1)) = 0 then (if (w1 87 8) ≤ x1 then EU X (d + 1) 25 (12, [some (.ref 87), some (.int v1), some (.int (v2 + (kI 1))), none, none], [], SH, w1) Q else EU X (d + 1) 25 (12, [some (.ref 87), some (.int v1), some (.int (v2 + (kI 1))), none, none], [], SH, (up2 (up2 w1 87 7 v2) 87 8 x1)) Q) else EU X (d + 1) 25 (12, [some (.ref 87), some (.int v1), some (.int (v2 + (kI 1))), none, none], [], SH, w1) Q))))))) : EU X (d + 1) 25 (12, [some (.ref 87), some (.int v1), some (.int v2), none, none], [], SH, w) Q := by
  unfold EU
  refine EV.steps cl_25 2 (q2 := (15, [some (.ref 87), some (.int v1), some (.int v2), none, none], [.int (kI 64), .int v2], SH, w)) rfl ?_
  refine EV.i_ge cl_25 rfl (fun h1 => ?_) (fun h1 => ?_)
  · skip
    rw [if_pos h1] at H
    refine EV.ret cl_25 rfl rfl rfl ?_
    exact ⟨rfl, rfl, H⟩
  · skip
    rw [if_neg h1] at H
    refine EV.steps cl_25 2 (q2 := (20, [some (.ref 87), some (.int v1), some (.int v2), none, none], [.int v2, .ref 87], SH, w)) rfl ?_
    refine EV.call (kc := 26) (av := [.ref 87, .int v2]) (r := []) cl_25 rfl rfl rfl H ?_
    clear H; intro y1 s1 w1 e1
    obtain ⟨x1, rfl, rfl, H⟩ := e1
    refine EV.steps cl_25 2 (q2 := (25, [some (.ref 87), some (.int v1), some (.int v2), some (.int x1), none], [.int v2], SH, w1)) rfl ?_
    refine EV.callF (kc := 259) (av := [.int v2]) (r := []) (rv := some (.int (F_259 v2 w1))) (w2 := w1) cl_25 rfl rfl rfl (m_259 w1 v2) ?_
    refine EV.steps cl_25 2 (q2 := (32, [some (.ref 87), some (.int v1), some (.int v2), some (.int x1), none], [.int (w1 87 7), .int (F_259 v2 w1)], SH, w1)) rfl ?_
    refine EV.callF (kc := 259) (av := [.int (w1 87 7)]) (r := [.int (F_259 v2 w1)]) (rv := some (.int (F_259 (w1 87 7) w1))) (w2 := w1) cl_25 rfl rfl rfl (m_259 w1 (w1 87 7)) ?_
    refine EV.steps cl_25 4 (q2 := (41, [some (.ref 87), some (.int v1), some (.int v2), some (.int x1), some (.int ((F_259 v2 w1) - (F_259 (w1 87 7) w1)))], [.int (kI (-2)), .int x1], SH, w1)) rfl ?_
    refine EV.i_eq cl_25 rfl (fun h2 => ?_) (fun h2 => ?_)
    · skip
      rw [if_pos h2] at H
      refine EV.steps cl_25 2 (q2 := (12, [some (.ref 87), some (.int v1), some (.int (v2 + (kI 1))), some (.int x1), some (.int ((F_259 v2 w1) - (F_259 (w1 87 7) w1)))], [], SH, w1)) rfl ?_
      exact EV.weak (l := [some (.ref 87), some (.int v1), some (.int (v2 + (kI 1))), none, none]) ⟨rfl, ⟨rfl, ⟨rfl, ⟨rfl, ⟨rfl, trivial⟩⟩⟩⟩⟩ H
    · skip
      rw [if_neg h2] at H
      refine EV.steps cl_25 2 (q2 := (46, [some (.ref 87), some (.int v1), some (.int v2), some (.int x1), some (.int ((F_259 v2 w1) - (F_259 (w1 87 7) w1)))], [.int v1, .int x1], SH, w1)) rfl ?_
      refine EV.i_gt cl_25 rfl (fun h3 => ?_) (fun h3 => ?_)
      · skip
        rw [if_pos h3] at H
        refine EV.steps cl_25 2 (q2 := (12, [some (.ref 87), some (.int v1), some (.int (v2 + (kI 1))), some (.int x1), some (.int ((F_259 v2 w1) - (F_259 (w1 87 7) w1)))], [], SH, w1)) rfl ?_
        exact EV.weak (l := [some (.ref 87), some (.int v1), some (.int (v2 + (kI 1))), none, none]) ⟨rfl, ⟨rfl, ⟨rfl, ⟨rfl, ⟨rfl, trivial⟩⟩⟩⟩⟩ H
      · skip
        rw [if_neg h3] at H
        refine EV.steps cl_25 1 (q2 := (51, [some (.ref 87), some (.int v1), some (.int v2), some (.int x1), some (.int ((F_259 v2 w1) - (F_259 (w1 87 7) w1)))], [.int ((F_259 v2 w1) - (F_259 (w1 87 7) w1))], SH, w1)) rfl ?_
        refine EV.z_gt cl_25 rfl (fun h4 => ?_) (fun h4 => ?_)
        · skip
          rw [if_pos h4] at H
          refine EV.steps cl_25 8 (q2 := (12, [some (.ref 87), some (.int v1), some (.int (v2 + (kI 1))), some (.int x1), some (.int ((F_259 v2 w1) - (F_259 (w1 87 7) w1)))], [], SH, (up2 (up2 w1 87 7 v2) 87 8 x1))) rfl ?_
          exact EV.weak (l := [some (.ref 87), some (.int v1), some (.int (v2 + (kI 1))), none, none]) ⟨rfl, ⟨rfl, ⟨rfl, ⟨rfl, ⟨rfl, trivial⟩⟩⟩⟩⟩ H
        · skip
          rw [if_neg h4] at H
          refine EV.steps cl_25 1 (q2 := (56, [some (.ref 87), some (.int v1), some (.int v2), some (.int x1), some (.int ((F_259 v2 w1) - (F_259 (w1 87 7) w1)))], [.int ((F_259 v2 w1) - (F_259 (w1 87 7) w1))], SH, w1)) rfl ?_
          refine EV.z_ne cl_25 rfl (fun h5 => ?_) (fun h5 => ?_)
          · skip
            rw [if_neg h5] at H
            refine EV.steps cl_25 2 (q2 := (12, [some (.ref 87), some (.int v1), some (.int (v2 + (kI 1))), some (.int x1), some (.int ((F_259 v2 w1) - (F_259 (w1 87 7) w1)))], [], SH, w1)) rfl ?_
            exact EV.weak (l := [some (.ref 87), some (.int v1), some (.int (v2 + (kI 1))), none, none]) ⟨rfl, ⟨rfl, ⟨rfl, ⟨rfl, ⟨rfl, trivial⟩⟩⟩⟩⟩ H
          · skip
            rw [if_pos h5] at H
            refine EV.steps cl_25 3 (q2 := (64, [some (.ref 87), some (.int v1), some (.int v2), some (.int x1), some (.int ((F_259 v2 w1) - (F_259 (w1 87 7) w1)))], [.int (w1 87 8), .int x1], SH, w1)) rfl ?_
            refine EV.i_ge cl_25 rfl (fun h6 => ?_) (fun h6 => ?_)
            · skip
              rw [if_pos h6] at H
              refine EV.steps cl_25 2 (q2 := (12, [some (.ref 87), some (.int v1), some (.int (v2 + (kI 1))), some (.int x1), some (.int ((F_259 v2 w1) - (F_259 (w1 87 7) w1)))], [], SH, w1)) rfl ?_
              exact EV.weak (l := [some (.ref 87), some (.int v1), some (.int (v2 + (kI 1))), none, none]) ⟨rfl, ⟨rfl, ⟨rfl, ⟨rfl, ⟨rfl, trivial⟩⟩⟩⟩⟩ H
            · skip
              rw [if_neg h6] at H
              refine EV.steps cl_25 8 (q2 := (12, [some (.ref 87), some (.int v1), some (.int (v2 + (kI 1))), some (.int x1), some (.int ((F_259 v2 w1) - (F_259 (w1 87 7) w1)))], [], SH, (up2 (up2 w1 87 7 v2) 87 8 x1))) rfl ?_
              exact EV.weak (l := [some (.ref 87), some (.int v1), some (.int (v2 + (kI 1))), none, none]) ⟨rfl, ⟨rfl, ⟨rfl, ⟨rfl, ⟨rfl, trivial⟩⟩⟩⟩⟩ H
theorem t26_87_at0 {X : Scr} {d : Nat} {Q : Int32 → Wd → Prop} (w : Wd) (v1 : Int32)
    (H : EI X (d + 1) 26 (4, [some (.ref 87), some (.int v1), some (.int (kI 0)), some (.int (kI 0))], [], SH, w) Q) : EI X (d + 1) 26 (0, [some (.ref 87), some (.int v1), none, none], [], SH, w) Q := by
  unfold EI
  refine EV.steps cl_26 4 (q2 := (4, [some (.ref 87), some (.int v1), some (.int (kI 0)), some (.int (kI 0))], [], SH, w)) rfl ?_
  exact H
theorem t26_87_at4 {X : Scr} {d : Nat} {Q : Int32 → Wd → Prop} (w : Wd) (v1 : Int32) (v2 : Int32) (v3 : Int32)
    (H : (if (kI 6) ≤ v3 then Q v2 w else (if (F_154 v1 v3 w) = 0 then EI X (d + 1) 26 (4, [some (.ref 87), some (.int v1), some (.int v2), some (.int (v3 + (kI 1)))], [], SH, w) Q else (inB v3 6 = true ∧ (if (w 88 v3.toNatClampNeg) = (kI (-2)) then Q (kI (-2)) w else (inB v3 6 = true ∧ EI X (d + 1) 26 (4, [some (.ref 87), some (.int v1), some (.int (v2 + (w 88 v3.toNatClampNeg))), some (.int (v3 + (kI 1)))], [], SH, w) Q)))))) : EI X (d + 1) 26 (4, [some (.ref 87), some (.int v1), some (.int v2), some (.int v3)], [], SH, w) Q := by
  unfold EI
  refine EV.steps cl_26 2 (q2 := (7, [some (.ref 87), some (.int v1), some (.int v2), some (.int v3)], [.int (kI 6), .int v3], SH, w)) rfl ?_
  refine EV.i_ge cl_26 rfl (fun h1 => ?_) (fun h1 => ?_)
  · skip
    rw [if_pos h1] at H
    refine EV.steps cl_26 1 (q2 := (48, [some (.ref 87), some (.int v1), some (.int v2), some (.int v3)], [.int v2], SH, w)) rfl ?_
    refine EV.ret cl_26 rfl rfl rfl ?_
    exact ⟨_, rfl, rfl, H⟩
  · skip
    rw [if_neg h1] at H
    refine EV.steps cl_26 2 (q2 := (12, [some (.ref 87), some (.int v1), some (.int v2), some (.int v3)], [.int v3, .int v1], SH, w)) rfl ?_
    refine EV.callF (kc := 154) (av := [.int v1, .int v3]) (r := []) (rv := some (.int (F_154 v1 v3 w))) (w2 := w) cl_26 rfl rfl rfl (m_154 w v1 v3) ?_
    refine EV.z_eq cl_26 rfl (fun h2 => ?_) (fun h2 => ?_)
    · skip
      rw [if_pos h2] at H
      refine EV.steps cl_26 2 (q2 := (4, [some (.ref 87), some (.int v1), some (.int v2), some (.int (v3 + (kI 1)))], [], SH, w)) rfl ?_
      exact H
    · skip
      rw [if_neg h2] at H
      refine EV.steps cl_26 3 (q2 := (23, [some (.ref 87), some (.int v1), some (.int v2), some (.int v3)], [.int v3, .ref 88], SH, w)) rfl ?_
      obtain ⟨j3, H⟩ := H
      refine EV.iaload cl_26 rfl rfl (by decide) j3 ?_
      refine EV.steps cl_26 1 (q2 := (26, [some (.ref 87), some (.int v1), some (.int v2), some (.int v3)], [.int (kI (-2)), .int (w 88 v3.toNatClampNeg)], SH, w)) rfl ?_
      refine EV.i_ne cl_26 rfl (fun h4 => ?_) (fun h4 => ?_)
      · skip
        rw [if_neg h4] at H
        refine EV.steps cl_26 4 (q2 := (38, [some (.ref 87), some (.int v1), some (.int v2), some (.int v3)], [.int v3, .ref 88, .int v2], SH, w)) rfl ?_
        obtain ⟨j5, H⟩ := H
        refine EV.iaload cl_26 rfl rfl (by decide) j5 ?_
        refine EV.steps cl_26 4 (q2 := (4, [some (.ref 87), some (.int v1), some (.int (v2 + (w 88 v3.toNatClampNeg))), some (.int (v3 + (kI 1)))], [], SH, w)) rfl ?_
        exact H
      · skip
        rw [if_pos h4] at H
        refine EV.steps cl_26 1 (q2 := (31, [some (.ref 87), some (.int v1), some (.int v2), some (.int v3)], [.int (kI (-2))], SH, w)) rfl ?_
        refine EV.ret cl_26 rfl rfl rfl ?_
        exact ⟨_, rfl, rfl, H⟩
