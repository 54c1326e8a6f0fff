theorem t60_3_at0 {X : Scr} {d : Nat} {Q : Int32 → Wd → Prop} (w : Wd) 
    (H : EI X (d + 3) 60 (6, [some (.ref 3), some (.int (kI 0)), some (.int (kI 0)), some (.int (kI 0))], [], SH, w) Q) : EI X (d + 3) 60 (0, [some (.ref 3), none, none, none], [], SH, w) Q := by
  unfold EI
  refine EV.steps cl_60 6 (q2 := (6, [some (.ref 3), some (.int (kI 0)), some (.int (kI 0)), some (.int (kI 0))], [], SH, w)) rfl ?_
  exact H
theorem t60_3_at6 {X : Scr} {d : Nat} {Q : Int32 → Wd → Prop} (w : Wd) (v1 : Int32) (v2 : Int32) (v3 : Int32)
    (H : (if (kI 6) ≤ v3 then Q v2 w else (if (F_154 ((w 3 3) &&& (v1 ^^^ (kI (-1)))) v3 w) = 0 then EI X (d + 3) 60 (6, [some (.ref 3), some (.int v1), some (.int v2), some (.int (v3 + (kI 1)))], [], SH, w) Q else EI X (d + 3) 60 (6, [some (.ref 3), some (.int (v1 ||| (F_59_3 v3 w))), some (.int (v2 + (kI 1))), some (.int (v3 + (kI 1)))], [], SH, w) Q))) : EI X (d + 3) 60 (6, [some (.ref 3), some (.int v1), some (.int v2), some (.int v3)], [], SH, w) Q := by
  unfold EI
  refine EV.steps cl_60 2 (q2 := (9, [some (.ref 3), some (.int v1), some (.int v2), some (.int v3)], [.int (kI 6), .int v3], SH, w)) rfl ?_
  refine EV.i_ge cl_60 rfl (fun h1 => ?_) (fun h1 => ?_)
  · skip
    rw [if_pos h1] at H
    refine EV.steps cl_60 1 (q2 := (45, [some (.ref 3), some (.int v1), some (.int v2), some (.int v3)], [.int v2], SH, w)) rfl ?_
    refine EV.ret cl_60 rfl rfl rfl ?_
    exact ⟨_, rfl, rfl, H⟩
  · skip
    rw [if_neg h1] at H
    refine EV.steps cl_60 7 (q2 := (21, [some (.ref 3), some (.int v1), some (.int v2), some (.int v3)], [.int v3, .int ((w 3 3) &&& (v1 ^^^ (kI (-1))))], SH, w)) rfl ?_
    refine EV.callF (kc := 154) (av := [.int ((w 3 3) &&& (v1 ^^^ (kI (-1)))), .int v3]) (r := []) (rv := some (.int (F_154 ((w 3 3) &&& (v1 ^^^ (kI (-1)))) v3 w))) (w2 := w) cl_60 rfl rfl rfl (m_154 w ((w 3 3) &&& (v1 ^^^ (kI (-1)))) v3) ?_
    refine EV.z_eq cl_60 rfl (fun h2 => ?_) (fun h2 => ?_)
    · skip
      rw [if_pos h2] at H
      refine EV.steps cl_60 2 (q2 := (6, [some (.ref 3), some (.int v1), some (.int v2), some (.int (v3 + (kI 1)))], [], SH, w)) rfl ?_
      exact H
    · skip
      rw [if_neg h2] at H
      refine EV.steps cl_60 3 (q2 := (30, [some (.ref 3), some (.int v1), some (.int v2), some (.int v3)], [.int v3, .ref 3, .int v1], SH, w)) rfl ?_
      refine EV.callF (kc := 59) (av := [.ref 3, .int v3]) (r := [.int v1]) (rv := some (.int (F_59_3 v3 w))) (w2 := w) cl_60 rfl rfl rfl (m_59_3 w v3) ?_
      refine EV.steps cl_60 5 (q2 := (6, [some (.ref 3), some (.int (v1 ||| (F_59_3 v3 w))), some (.int (v2 + (kI 1))), some (.int (v3 + (kI 1)))], [], SH, w)) rfl ?_
      exact H
theorem t62_79_at0 {X : Scr} {d : Nat} {Q : Int32 → Wd → Prop} (w : Wd) (v1 : Int32)
    (H : CI X (d + 3) 64 [.ref 79] (G_77_29 (G_107_1 v1 w)) (fun x1 w1 => EI X (d + 3) 62 (22, [some (.ref 79), some (.int v1), some (.int x1), some (.int (kI 0))], [], SH, w1) Q)) : EI X (d + 3) 62 (0, [some (.ref 79), some (.int v1), none, none], [], SH, w) Q := by
  unfold EI
  refine EV.steps cl_62 3 (q2 := (5, [some (.ref 79), some (.int v1), none, none], [.int v1, .ref 1], SH, w)) rfl ?_
  refine EV.callF (kc := 107) (av := [.ref 1, .int v1]) (r := []) (rv := none) (w2 := (G_107_1 v1 w)) cl_62 rfl rfl rfl (m_107_1 w v1) ?_
  refine EV.steps cl_62 2 (q2 := (12, [some (.ref 79), some (.int v1), none, none], [.ref 29], SH, (G_107_1 v1 w))) rfl ?_
  refine EV.callF (kc := 77) (av := [.ref 29]) (r := []) (rv := none) (w2 := (G_77_29 (G_107_1 v1 w))) cl_62 rfl rfl rfl (m_77_29 (G_107_1 v1 w) ) ?_
  refine EV.steps cl_62 1 (q2 := (16, [some (.ref 79), some (.int v1), none, none], [.ref 79], SH, (G_77_29 (G_107_1 v1 w)))) rfl ?_
  refine EV.call (kc := 64) (av := [.ref 79]) (r := []) cl_62 rfl rfl rfl H ?_
  clear H; intro y1 s1 w1 e1
  obtain ⟨x1, rfl, rfl, H⟩ := e1
  refine EV.steps cl_62 3 (q2 := (22, [some (.ref 79), some (.int v1), some (.int x1), some (.int (kI 0))], [], SH, w1)) rfl ?_
  exact H
theorem t62_79_at22 {X : Scr} {d : Nat} {Q : Int32 → Wd → Prop} (w : Wd) (v1 : Int32) (v2 : Int32) (v3 : Int32)
    (H : (if (kI 240) ≤ v3 then Q (F_108_1 w) (G_108_1 w) else (if v2 = 0 then Q (F_108_1 w) (G_108_1 w) else (if (F_109_1 w) = 0 then (((¬ (w 1 2) ≤ (w 1 3) → (¬ (w 1 1) ≤ (w 1 3) → (inB (w 1 3) 260 = true)))) ∧ (if (F_113_1 (kI 59) w) = 0 then EI X (d + 3) 62 (22, [some (.ref 79), some (.int v1), some (.int (kI 0)), some (.int (v3 + (kI 1)))], [], SH, (G_113_1 (kI 59) w)) Q else CI X (d + 3) 64 [.ref 79] (G_113_1 (kI 59) w) (fun x1 w1 => (if x1 = 0 then EI X (d + 3) 62 (22, [some (.ref 79), some (.int v1), some (.int (kI 0)), some (.int (v3 + (kI 1)))], [], SH, w1) Q else EI X (d + 3) 62 (22, [some (.ref 79), some (.int v1), some (.int (kI 1)), some (.int (v3 + (kI 1)))], [], SH, w1) Q)))) else Q (F_108_1 w) (G_108_1 w))))) : EI X (d + 3) 62 (22, [some (.ref 79), some (.int v1), some (.int v2), some (.int v3)], [], SH, w) Q := by
  unfold EI
  refine EV.steps cl_62 2 (q2 := (26, [some (.ref 79), some (.int v1), some (.int v2), some (.int v3)], [.int (kI 240), .int v3], SH, w)) rfl ?_
  refine EV.i_ge cl_62 rfl (fun h1 => ?_) (fun h1 => ?_)
  · skip
    rw [if_pos h1] at H
    refine EV.steps cl_62 2 (q2 := (78, [some (.ref 79), some (.int v1), some (.int v2), some (.int v3)], [.ref 1], SH, w)) rfl ?_
    refine EV.callF (kc := 108) (av := [.ref 1]) (r := []) (rv := some (.int (F_108_1 w))) (w2 := (G_108_1 w)) cl_62 rfl rfl rfl (m_108_1 w ) ?_
    refine EV.ret cl_62 rfl rfl rfl ?_
    exact ⟨_, rfl, rfl, H⟩
  · skip
    rw [if_neg h1] at H
    refine EV.steps cl_62 1 (q2 := (30, [some (.ref 79), some (.int v1), some (.int v2), some (.int v3)], [.int v2], SH, w)) rfl ?_
    refine EV.z_eq cl_62 rfl (fun h2 => ?_) (fun h2 => ?_)
    · skip
      rw [if_pos h2] at H
      refine EV.steps cl_62 2 (q2 := (78, [some (.ref 79), some (.int v1), some (.int v2), some (.int v3)], [.ref 1], SH, w)) rfl ?_
      refine EV.callF (kc := 108) (av := [.ref 1]) (r := []) (rv := some (.int (F_108_1 w))) (w2 := (G_108_1 w)) cl_62 rfl rfl rfl (m_108_1 w ) ?_
      refine EV.ret cl_62 rfl rfl rfl ?_
      exact ⟨_, rfl, rfl, H⟩
    · skip
      rw [if_neg h2] at H
      refine EV.steps cl_62 2 (q2 := (37, [some (.ref 79), some (.int v1), some (.int v2), some (.int v3)], [.ref 1], SH, w)) rfl ?_
      refine EV.callF (kc := 109) (av := [.ref 1]) (r := []) (rv := some (.int (F_109_1 w))) (w2 := w) cl_62 rfl rfl rfl (m_109_1 w ) ?_
      refine EV.z_ne cl_62 rfl (fun h3 => ?_) (fun h3 => ?_)
      · skip
        rw [if_neg h3] at H
        refine EV.steps cl_62 2 (q2 := (78, [some (.ref 79), some (.int v1), some (.int v2), some (.int v3)], [.ref 1], SH, w)) rfl ?_
        refine EV.callF (kc := 108) (av := [.ref 1]) (r := []) (rv := some (.int (F_108_1 w))) (w2 := (G_108_1 w)) cl_62 rfl rfl rfl (m_108_1 w ) ?_
        refine EV.ret cl_62 rfl rfl rfl ?_
        exact ⟨_, rfl, rfl, H⟩
      · skip
        rw [if_pos h3] at H
        refine EV.steps cl_62 3 (q2 := (49, [some (.ref 79), some (.int v1), some (.int v2), some (.int v3)], [.int (kI 59), .ref 1], SH, w)) rfl ?_
        obtain ⟨j4, H⟩ := H
        refine EV.callF (kc := 113) (av := [.ref 1, .int (kI 59)]) (r := []) (rv := some (.int (F_113_1 (kI 59) w))) (w2 := (G_113_1 (kI 59) w)) cl_62 rfl rfl rfl (m_113_1 w (kI 59) j4) ?_
        refine EV.z_eq cl_62 rfl (fun h5 => ?_) (fun h5 => ?_)
        · skip
          rw [if_pos h5] at H
          refine EV.steps cl_62 4 (q2 := (22, [some (.ref 79), some (.int v1), some (.int (kI 0)), some (.int (v3 + (kI 1)))], [], SH, (G_113_1 (kI 59) w))) rfl ?_
          exact H
        · skip
          rw [if_neg h5] at H
          refine EV.steps cl_62 1 (q2 := (56, [some (.ref 79), some (.int v1), some (.int v2), some (.int v3)], [.ref 79], SH, (G_113_1 (kI 59) w))) rfl ?_
          refine EV.call (kc := 64) (av := [.ref 79]) (r := []) cl_62 rfl rfl rfl H ?_
          clear H; intro y1 s1 w1 e1
          obtain ⟨x1, rfl, rfl, H⟩ := e1
          refine EV.z_eq cl_62 rfl (fun h6 => ?_) (fun h6 => ?_)
          · skip
            rw [if_pos h6] at H
            refine EV.steps cl_62 4 (q2 := (22, [some (.ref 79), some (.int v1), some (.int (kI 0)), some (.int (v3 + (kI 1)))], [], SH, w1)) rfl ?_
            exact H
          · skip
            rw [if_neg h6] at H
            refine EV.steps cl_62 5 (q2 := (22, [some (.ref 79), some (.int v1), some (.int (kI 1)), some (.int (v3 + (kI 1)))], [], SH, w1)) rfl ?_
            exact H
theorem t63_79_at0 {X : Scr} {d : Nat} {Q : Int32 → Wd → Prop} (w : Wd) (v1 : Int32)
    (H : ((¬ (Int32.ofNat 16) ≤ ((G_77_29 (G_107_1 v1 w)) 29 7) → (inB ((G_77_29 (G_107_1 v1 w)) 29 7) 16 = true)) ∧ CI X (d + 3) 65 [.ref 79, .int (kI 0)] (G_80_29 (kI 40) (G_77_29 (G_107_1 v1 w))) (fun x1 w1 => (if x1 = 0 then Q (F_108_1 w1) (G_108_1 w1) else ((¬ (Int32.ofNat 16) ≤ (w1 29 7) → (inB (w1 29 7) 16 = true)) ∧ (((¬ ((G_82_29 w1) 1 2) ≤ ((G_82_29 w1) 1 3) → (¬ ((G_82_29 w1) 1 1) ≤ ((G_82_29 w1) 1 3) → (inB ((G_82_29 w1) 1 3) 260 = true)))) ∧ Q (F_108_1 (G_113_1 (kI (-1)) (G_82_29 w1))) (G_108_1 (G_113_1 (kI (-1)) (G_82_29 w1))))))))) : EI X (d + 3) 63 (0, [some (.ref 79), some (.int v1)], [], SH, w) Q := by
  unfold EI
  refine EV.steps cl_63 3 (q2 := (5, [some (.ref 79), some (.int v1)], [.int v1, .ref 1], SH, w)) rfl ?_
  refine EV.callF (kc := 107) (av := [.ref 1, .int v1]) (r := []) (rv := none) (w2 := (G_107_1 v1 w)) cl_63 rfl rfl rfl (m_107_1 w v1) ?_
  refine EV.steps cl_63 2 (q2 := (12, [some (.ref 79), some (.int v1)], [.ref 29], SH, (G_107_1 v1 w))) rfl ?_
  refine EV.callF (kc := 77) (av := [.ref 29]) (r := []) (rv := none) (w2 := (G_77_29 (G_107_1 v1 w))) cl_63 rfl rfl rfl (m_77_29 (G_107_1 v1 w) ) ?_
  refine EV.steps cl_63 3 (q2 := (21, [some (.ref 79), some (.int v1)], [.int (kI 40), .ref 29], SH, (G_77_29 (G_107_1 v1 w)))) rfl ?_
  obtain ⟨j1, H⟩ := H
  refine EV.callF (kc := 80) (av := [.ref 29, .int (kI 40)]) (r := []) (rv := none) (w2 := (G_80_29 (kI 40) (G_77_29 (G_107_1 v1 w)))) cl_63 rfl rfl rfl (m_80_29 (G_77_29 (G_107_1 v1 w)) (kI 40) j1) ?_
  refine EV.steps cl_63 2 (q2 := (26, [some (.ref 79), some (.int v1)], [.int (kI 0), .ref 79], SH, (G_80_29 (kI 40) (G_77_29 (G_107_1 v1 w))))) rfl ?_
  refine EV.call (kc := 65) (av := [.ref 79, .int (kI 0)]) (r := []) cl_63 rfl rfl rfl H ?_
  clear H; intro y1 s1 w1 e1
  obtain ⟨x1, rfl, rfl, H⟩ := e1
  refine EV.z_eq cl_63 rfl (fun h2 => ?_) (fun h2 => ?_)
  · skip
    rw [if_pos h2] at H
    refine EV.steps cl_63 2 (q2 := (52, [some (.ref 79), some (.int v1)], [.ref 1], SH, w1)) rfl ?_
    refine EV.callF (kc := 108) (av := [.ref 1]) (r := []) (rv := some (.int (F_108_1 w1))) (w2 := (G_108_1 w1)) cl_63 rfl rfl rfl (m_108_1 w1 ) ?_
    refine EV.ret cl_63 rfl rfl rfl ?_
    exact ⟨_, rfl, rfl, H⟩
  · skip
    rw [if_neg h2] at H
    refine EV.steps cl_63 2 (q2 := (36, [some (.ref 79), some (.int v1)], [.ref 29], SH, w1)) rfl ?_
    obtain ⟨j3, H⟩ := H
    refine EV.callF (kc := 82) (av := [.ref 29]) (r := []) (rv := none) (w2 := (G_82_29 w1)) cl_63 rfl rfl rfl (m_82_29 w1  j3) ?_
    refine EV.steps cl_63 3 (q2 := (44, [some (.ref 79), some (.int v1)], [.int (kI (-1)), .ref 1], SH, (G_82_29 w1))) rfl ?_
    obtain ⟨j4, H⟩ := H
    refine EV.callF (kc := 113) (av := [.ref 1, .int (kI (-1))]) (r := []) (rv := some (.int (F_113_1 (kI (-1)) (G_82_29 w1)))) (w2 := (G_113_1 (kI (-1)) (G_82_29 w1))) cl_63 rfl rfl rfl (m_113_1 (G_82_29 w1) (kI (-1)) j4) ?_
    refine EV.steps cl_63 3 (q2 := (52, [some (.ref 79), some (.int v1)], [.ref 1], SH, (G_113_1 (kI (-1)) (G_82_29 w1)))) rfl ?_
    refine EV.callF (kc := 108) (av := [.ref 1]) (r := []) (rv := some (.int (F_108_1 (G_113_1 (kI (-1)) (G_82_29 w1))))) (w2 := (G_108_1 (G_113_1 (kI (-1)) (G_82_29 w1)))) cl_63 rfl rfl rfl (m_108_1 (G_113_1 (kI (-1)) (G_82_29 w1)) ) ?_
    refine EV.ret cl_63 rfl rfl rfl ?_
    exact ⟨_, rfl, rfl, H⟩
theorem t64_79_at0 {X : Scr} {d : Nat} {Q : Int32 → Wd → Prop} (w : Wd) 
    (H : ((¬ (w 1 2) ≤ (w 1 3) → (¬ (w 1 1) ≤ (w 1 3) → (inB (w 1 3) 260 = true))) ∧ (if (F_110_1 w) = (kI 110) then (if (w 29 7) < (kI 16) then ((¬ (Int32.ofNat 16) ≤ ((G_112_1 w) 29 7) → (inB ((G_112_1 w) 29 7) 16 = true)) ∧ (if (F_110_1 w) = (kI 120) then ((¬ (Int32.ofNat 16) ≤ ((G_80_29 (F_110_1 w) (G_112_1 w)) 29 7) → (inB ((G_80_29 (F_110_1 w) (G_112_1 w)) 29 7) 16 = true)) ∧ CI X (d + 2) 65 [.ref 79, .int (kI 0)] (G_81_29 (G_80_29 (F_110_1 w) (G_112_1 w))) (fun x1 w1 => (if x1 = 0 then Q (kI 0) w1 else ((¬ (Int32.ofNat 16) ≤ (w1 29 7) → (inB (w1 29 7) 16 = true)) ∧ Q (kI 1) (G_82_29 w1))))) else CI X (d + 2) 70 [.ref 79, .int (kI 0)] (G_80_29 (F_110_1 w) (G_112_1 w)) (fun x2 w2 => (if x2 = 0 then Q (kI 0) w2 else ((¬ (Int32.ofNat 16) ≤ (w2 29 7) → (inB (w2 29 7) 16 = true)) ∧ CI X (d + 2) 65 [.ref 79, .int (kI 0)] (G_81_29 w2) (fun x3 w3 => (if x3 = 0 then Q (kI 0) w3 else ((¬ (Int32.ofNat 16) ≤ (w3 29 7) → (inB (w3 29 7) 16 = true)) ∧ Q (kI 1) (G_82_29 w3))))))))) else Q (F_115_1 (kI 4) w) (G_115_1 (kI 4) w)) else (if (F_110_1 w) = (kI 100) then (if (w 29 7) < (kI 16) then ((¬ (Int32.ofNat 16) ≤ ((G_112_1 w) 29 7) → (inB ((G_112_1 w) 29 7) 16 = true)) ∧ (if (F_110_1 w) = (kI 120) then ((¬ (Int32.ofNat 16) ≤ ((G_80_29 (F_110_1 w) (G_112_1 w)) 29 7) → (inB ((G_80_29 (F_110_1 w) (G_112_1 w)) 29 7) 16 = true)) ∧ CI X (d + 2) 65 [.ref 79, .int (kI 0)] (G_81_29 (G_80_29 (F_110_1 w) (G_112_1 w))) (fun x4 w4 => (if x4 = 0 then Q (kI 0) w4 else ((¬ (Int32.ofNat 16) ≤ (w4 29 7) → (inB (w4 29 7) 16 = true)) ∧ Q (kI 1) (G_82_29 w4))))) else CI X (d + 2) 70 [.ref 79, .int (kI 0)] (G_80_29 (F_110_1 w) (G_112_1 w)) (fun x5 w5 => (if x5 = 0 then Q (kI 0) w5 else ((¬ (Int32.ofNat 16) ≤ (w5 29 7) → (inB (w5 29 7) 16 = true)) ∧ CI X (d + 2) 65 [.ref 79, .int (kI 0)] (G_81_29 w5) (fun x6 w6 => (if x6 = 0 then Q (kI 0) w6 else ((¬ (Int32.ofNat 16) ≤ (w6 29 7) → (inB (w6 29 7) 16 = true)) ∧ Q (kI 1) (G_82_29 w6))))))))) else Q (F_115_1 (kI 4) w) (G_115_1 (kI 4) w)) else (if (F_110_1 w) = (kI 107) then (if (w 29 7) < (kI 16) then ((¬ (Int32.ofNat 16) ≤ ((G_112_1 w) 29 7) → (inB ((G_112_1 w) 29 7) 16 = true)) ∧ (if (F_110_1 w) = (kI 120) then ((¬ (Int32.ofNat 16) ≤ ((G_80_29 (F_110_1 w) (G_112_1 w)) 29 7) → (inB ((G_80_29 (F_110_1 w) (G_112_1 w)) 29 7) 16 = true)) ∧ CI X (d + 2) 65 [.ref 79, .int (kI 0)] (G_81_29 (G_80_29 (F_110_1 w) (G_112_1 w))) (fun x7 w7 => (if x7 = 0 then Q (kI 0) w7 else ((¬ (Int32.ofNat 16) ≤ (w7 29 7) → (inB (w7 29 7) 16 = true)) ∧ Q (kI 1) (G_82_29 w7))))) else CI X (d + 2) 70 [.ref 79, .int (kI 0)] (G_80_29 (F_110_1 w) (G_112_1 w)) (fun x8 w8 => (if x8 = 0 then Q (kI 0) w8 else ((¬ (Int32.ofNat 16) ≤ (w8 29 7) → (inB (w8 29 7) 16 = true)) ∧ CI X (d + 2) 65 [.ref 79, .int (kI 0)] (G_81_29 w8) (fun x9 w9 => (if x9 = 0 then Q (kI 0) w9 else ((¬ (Int32.ofNat 16) ≤ (w9 29 7) → (inB (w9 29 7) 16 = true)) ∧ Q (kI 1) (G_82_29 w9))))))))) else Q (F_115_1 (kI 4) w) (G_115_1 (kI 4) w)) else (if (F_110_1 w) = (kI 120) then (if (w 29 7) < (kI 16) then ((¬ (Int32.ofNat 16) ≤ ((G_112_1 w) 29 7) → (inB ((G_112_1 w) 29 7) 16 = true)) ∧ ((¬ (Int32.ofNat 16) ≤ ((G_80_29 (F_110_1 w) (G_112_1 w)) 29 7) → (inB ((G_80_29 (F_110_1 w) (G_112_1 w)) 29 7) 16 = true)) ∧ CI X (d + 2) 65 [.ref 79, .int (kI 0)] (G_81_29 (G_80_29 (F_110_1 w) (G_112_1 w))) (fun x10 w10 => (if x10 = 0 then Q (kI 0) w10 else ((¬ (Int32.ofNat 16) ≤ (w10 29 7) → (inB (w10 29 7) 16 = true)) ∧ Q (kI 1) (G_82_29 w10)))))) else Q (F_115_1 (kI 4) w) (G_115_1 (kI 4) w)) else Q (F_115_1 (kI 1) w) (G_115_1 (kI 1) w))))))) : EI X (d + 2) 64 (0, [some (.ref 79), none], [], SH, w) Q := by
  unfold EI
  refine EV.steps cl_64 2 (q2 := (4, [some (.ref 79), none], [.ref 1], SH, w)) rfl ?_
  obtain ⟨j1, H⟩ := H
  refine EV.callF (kc := 110) (av := [.ref 1]) (r := []) (rv := some (.int (F_110_1 w))) (w2 := w) cl_64 rfl rfl rfl (m_110_1 w  j1) ?_
  refine EV.steps cl_64 3 (q2 := (11, [some (.ref 79), some (.int (F_110_1 w))], [.int (kI 110), .int (F_110_1 w)], SH, w)) rfl ?_
  refine EV.i_eq cl_64 rfl (fun h2 => ?_) (fun h2 => ?_)
  · skip
    rw [if_pos h2] at H
    refine EV.steps cl_64 4 (q2 := (50, [some (.ref 79), some (.int (F_110_1 w))], [.int (kI 16), .int (w 29 7)], SH, w)) rfl ?_
    refine EV.i_lt cl_64 rfl (fun h3 => ?_) (fun h3 => ?_)
    · skip
      rw [if_pos h3] at H
      refine EV.steps cl_64 2 (q2 := (66, [some (.ref 79), some (.int (F_110_1 w))], [.ref 1], SH, w)) rfl ?_
      refine EV.callF (kc := 112) (av := [.ref 1]) (r := []) (rv := none) (w2 := (G_112_1 w)) cl_64 rfl rfl rfl (m_112_1 w ) ?_
      refine EV.steps cl_64 3 (q2 := (74, [some (.ref 79), some (.int (F_110_1 w))], [.int (F_110_1 w), .ref 29], SH, (G_112_1 w))) rfl ?_
      obtain ⟨j4, H⟩ := H
      refine EV.callF (kc := 80) (av := [.ref 29, .int (F_110_1 w)]) (r := []) (rv := none) (w2 := (G_80_29 (F_110_1 w) (G_112_1 w))) cl_64 rfl rfl rfl (m_80_29 (G_112_1 w) (F_110_1 w) j4) ?_
      refine EV.steps cl_64 2 (q2 := (80, [some (.ref 79), some (.int (F_110_1 w))], [.int (kI 120), .int (F_110_1 w)], SH, (G_80_29 (F_110_1 w) (G_112_1 w)))) rfl ?_
      refine EV.i_eq cl_64 rfl (fun h5 => ?_) (fun h5 => ?_)
      · skip
        rw [if_pos h5] at H
        refine EV.steps cl_64 2 (q2 := (97, [some (.ref 79), some (.int (F_110_1 w))], [.ref 29], SH, (G_80_29 (F_110_1 w) (G_112_1 w)))) rfl ?_
        obtain ⟨j6, H⟩ := H
        refine EV.callF (kc := 81) (av := [.ref 29]) (r := []) (rv := none) (w2 := (G_81_29 (G_80_29 (F_110_1 w) (G_112_1 w)))) cl_64 rfl rfl rfl (m_81_29 (G_80_29 (F_110_1 w) (G_112_1 w))  j6) ?_
        refine EV.steps cl_64 2 (q2 := (102, [some (.ref 79), some (.int (F_110_1 w))], [.int (kI 0), .ref 79], SH, (G_81_29 (G_80_29 (F_110_1 w) (G_112_1 w))))) rfl ?_
        refine EV.call (kc := 65) (av := [.ref 79, .int (kI 0)]) (r := []) cl_64 rfl rfl rfl H ?_
        clear H; intro y1 s1 w1 e1
        obtain ⟨x1, rfl, rfl, H⟩ := e1
        refine EV.z_ne cl_64 rfl (fun h7 => ?_) (fun h7 => ?_)
        · skip
          rw [if_neg h7] at H
          refine EV.steps cl_64 2 (q2 := (114, [some (.ref 79), some (.int (F_110_1 w))], [.ref 29], SH, w1)) rfl ?_
          obtain ⟨j8, H⟩ := H
          refine EV.callF (kc := 82) (av := [.ref 29]) (r := []) (rv := none) (w2 := (G_82_29 w1)) cl_64 rfl rfl rfl (m_82_29 w1  j8) ?_
          refine EV.steps cl_64 1 (q2 := (118, [some (.ref 79), some (.int (F_110_1 w))], [.int (kI 1)], SH, (G_82_29 w1))) rfl ?_
          refine EV.ret cl_64 rfl rfl rfl ?_
          exact ⟨_, rfl, rfl, H⟩
        · skip
          rw [if_pos h7] at H
          refine EV.steps cl_64 1 (q2 := (109, [some (.ref 79), some (.int (F_110_1 w))], [.int (kI 0)], SH, w1)) rfl ?_
          refine EV.ret cl_64 rfl rfl rfl ?_
          exact ⟨_, rfl, rfl, H⟩
      · skip
        rw [if_neg h5] at H
        refine EV.steps cl_64 2 (q2 := (85, [some (.ref 79), some (.int (F_110_1 w))], [.int (kI 0), .ref 79], SH, (G_80_29 (F_110_1 w) (G_112_1 w)))) rfl ?_
        refine EV.call (kc := 70) (av := [.ref 79, .int (kI 0)]) (r := []) cl_64 rfl rfl rfl H ?_
        clear H; intro y2 s2 w2 e2
        obtain ⟨x2, rfl, rfl, H⟩ := e2
        refine EV.z_ne cl_64 rfl (fun h9 => ?_) (fun h9 => ?_)
        · skip
          rw [if_neg h9] at H
          refine EV.steps cl_64 2 (q2 := (97, [some (.ref 79), some (.int (F_110_1 w))], [.ref 29], SH, w2)) rfl ?_
          obtain ⟨j10, H⟩ := H
          refine EV.callF (kc := 81) (av := [.ref 29]) (r := []) (rv := none) (w2 := (G_81_29 w2)) cl_64 rfl rfl rfl (m_81_29 w2  j10) ?_
          refine EV.steps cl_64 2 (q2 := (102, [some (.ref 79), some (.int (F_110_1 w))], [.int (kI 0), .ref 79], SH, (G_81_29 w2))) rfl ?_
          refine EV.call (kc := 65) (av := [.ref 79, .int (kI 0)]) (r := []) cl_64 rfl rfl rfl H ?_
          clear H; intro y3 s3 w3 e3
          obtain ⟨x3, rfl, rfl, H⟩ := e3
          refine EV.z_ne cl_64 rfl (fun h11 => ?_) (fun h11 => ?_)
          · skip
            rw [if_neg h11] at H
            refine EV.steps cl_64 2 (q2 := (114, [some (.ref 79), some (.int (F_110_1 w))], [.ref 29], SH, w3)) rfl ?_
            obtain ⟨j12, H⟩ := H
            refine EV.callF (kc := 82) (av := [.ref 29]) (r := []) (rv := none) (w2 := (G_82_29 w3)) cl_64 rfl rfl rfl (m_82_29 w3  j12) ?_
            refine EV.steps cl_64 1 (q2 := (118, [some (.ref 79), some (.int (F_110_1 w))], [.int (kI 1)], SH, (G_82_29 w3))) rfl ?_
            refine EV.ret cl_64 rfl rfl rfl ?_
            exact ⟨_, rfl, rfl, H⟩
          · skip
            rw [if_pos h11] at H
            refine EV.steps cl_64 1 (q2 := (109, [some (.ref 79), some (.int (F_110_1 w))], [.int (kI 0)], SH, w3)) rfl ?_
            refine EV.ret cl_64 rfl rfl rfl ?_
            exact ⟨_, rfl, rfl, H⟩
        · skip
          rw [if_pos h9] at H
          refine EV.steps cl_64 1 (q2 := (92, [some (.ref 79), some (.int (F_110_1 w))], [.int (kI 0)], SH, w2)) rfl ?_
          refine EV.ret cl_64 rfl rfl rfl ?_
          exact ⟨_, rfl, rfl, H⟩
    · skip
      rw [if_neg h3] at H
      refine EV.steps cl_64 3 (q2 := (58, [some (.ref 79), some (.int (F_110_1 w))], [.int (kI 4), .ref 1], SH, w)) rfl ?_
      refine EV.callF (kc := 115) (av := [.ref 1, .int (kI 4)]) (r := []) (rv := some (.int (F_115_1 (kI 4) w))) (w2 := (G_115_1 (kI 4) w)) cl_64 rfl rfl rfl (m_115_1 w (kI 4)) ?_
      refine EV.retB cl_64 rfl rfl (z1_115_1 (kI 4) w) ?_
      exact ⟨_, rfl, rfl, H⟩
  · skip
    rw [if_neg h2] at H
    refine EV.steps cl_64 2 (q2 := (17, [some (.ref 79), some (.int (F_110_1 w))], [.int (kI 100), .int (F_110_1 w)], SH, w)) rfl ?_
    refine EV.i_eq cl_64 rfl (fun h13 => ?_) (fun h13 => ?_)
    · skip
      rw [if_pos h13] at H
      refine EV.steps cl_64 4 (q2 := (50, [some (.ref 79), some (.int (F_110_1 w))], [.int (kI 16), .int (w 29 7)], SH, w)) rfl ?_
      refine EV.i_lt cl_64 rfl (fun h14 => ?_) (fun h14 => ?_)
      · skip
        rw [if_pos h14] at H
        refine EV.steps cl_64 2 (q2 := (66, [some (.ref 79), some (.int (F_110_1 w))], [.ref 1], SH, w)) rfl ?_
        refine EV.callF (kc := 112) (av := [.ref 1]) (r := []) (rv := none) (w2 := (G_112_1 w)) cl_64 rfl rfl rfl (m_112_1 w ) ?_
        refine EV.steps cl_64 3 (q2 := (74, [some (.ref 79), some (.int (F_110_1 w))], [.int (F_110_1 w), .ref 29], SH, (G_112_1 w))) rfl ?_
        obtain ⟨j15, H⟩ := H
        refine EV.callF (kc := 80) (av := [.ref 29, .int (F_110_1 w)]) (r := []) (rv := none) (w2 := (G_80_29 (F_110_1 w) (G_112_1 w))) cl_64 rfl rfl rfl (m_80_29 (G_112_1 w) (F_110_1 w) j15) ?_
        refine EV.steps cl_64 2 (q2 := (80, [some (.ref 79), some (.int (F_110_1 w))], [.int (kI 120), .int (F_110_1 w)], SH, (G_80_29 (F_110_1 w) (G_112_1 w)))) rfl ?_
        refine EV.i_eq cl_64 rfl (fun h16 => ?_) (fun h16 => ?_)
        · skip
          rw [if_pos h16] at H
          refine EV.steps cl_64 2 (q2 := (97, [some (.ref 79), some (.int (F_110_1 w))], [.ref 29], SH, (G_80_29 (F_110_1 w) (G_112_1 w)))) rfl ?_
          obtain ⟨j17, H⟩ := H
          refine EV.callF (kc := 81) (av := [.ref 29]) (r := []) (rv := none) (w2 := (G_81_29 (G_80_29 (F_110_1 w) (G_112_1 w)))) cl_64 rfl rfl rfl (m_81_29 (G_80_29 (F_110_1 w) (G_112_1 w))  j17) ?_
          refine EV.steps cl_64 2 (q2 := (102, [some (.ref 79), some (.int (F_110_1 w))], [.int (kI 0), .ref 79], SH, (G_81_29 (G_80_29 (F_110_1 w) (G_112_1 w))))) rfl ?_
          refine EV.call (kc := 65) (av := [.ref 79, .int (kI 0)]) (r := []) cl_64 rfl rfl rfl H ?_
          clear H; intro y4 s4 w4 e4
          obtain ⟨x4, rfl, rfl, H⟩ := e4
          refine EV.z_ne cl_64 rfl (fun h18 => ?_) (fun h18 => ?_)
          · skip
            rw [if_neg h18] at H
            refine EV.steps cl_64 2 (q2 := (114, [some (.ref 79), some (.int (F_110_1 w))], [.ref 29], SH, w4)) rfl ?_
            obtain ⟨j19, H⟩ := H
            refine EV.callF (kc := 82) (av := [.ref 29]) (r := []) (rv := none) (w2 := (G_82_29 w4)) cl_64 rfl rfl rfl (m_82_29 w4  j19) ?_
            refine EV.steps cl_64 1 (q2 := (118, [some (.ref 79), some (.int (F_110_1 w))], [.int (kI 1)], SH, (G_82_29 w4))) rfl ?_
            refine EV.ret cl_64 rfl rfl rfl ?_
            exact ⟨_, rfl, rfl, H⟩
          · skip
            rw [if_pos h18] at H
            refine EV.steps cl_64 1 (q2 := (109, [some (.ref 79), some (.int (F_110_1 w))], [.int (kI 0)], SH, w4)) rfl ?_
            refine EV.ret cl_64 rfl rfl rfl ?_
            exact ⟨_, rfl, rfl, H⟩
        · skip
          rw [if_neg h16] at H
          refine EV.steps cl_64 2 (q2 := (85, [some (.ref 79), some (.int (F_110_1 w))], [.int (kI 0), .ref 79], SH, (G_80_29 (F_110_1 w) (G_112_1 w)))) rfl ?_
          refine EV.call (kc := 70) (av := [.ref 79, .int (kI 0)]) (r := []) cl_64 rfl rfl rfl H ?_
          clear H; intro y5 s5 w5 e5
          obtain ⟨x5, rfl, rfl, H⟩ := e5
          refine EV.z_ne cl_64 rfl (fun h20 => ?_) (fun h20 => ?_)
          · skip
            rw [if_neg h20] at H
            refine EV.steps cl_64 2 (q2 := (97, [some (.ref 79), some (.int (F_110_1 w))], [.ref 29], SH, w5)) rfl ?_
            obtain ⟨j21, H⟩ := H
            refine EV.callF (kc := 81) (av := [.ref 29]) (r := []) (rv := none) (w2 := (G_81_29 w5)) cl_64 rfl rfl rfl (m_81_29 w5  j21) ?_
            refine EV.steps cl_64 2 (q2 := (102, [some (.ref 79), some (.int (F_110_1 w))], [.int (kI 0), .ref 79], SH, (G_81_29 w5))) rfl ?_
            refine EV.call (kc := 65) (av := [.ref 79, .int (kI 0)]) (r := []) cl_64 rfl rfl rfl H ?_
            clear H; intro y6 s6 w6 e6
            obtain ⟨x6, rfl, rfl, H⟩ := e6
            refine EV.z_ne cl_64 rfl (fun h22 => ?_) (fun h22 => ?_)
            · skip
              rw [if_neg h22] at H
              refine EV.steps cl_64 2 (q2 := (114, [some (.ref 79), some (.int (F_110_1 w))], [.ref 29], SH, w6)) rfl ?_
              obtain ⟨j23, H⟩ := H
              refine EV.callF (kc := 82) (av := [.ref 29]) (r := []) (rv := none) (w2 := (G_82_29 w6)) cl_64 rfl rfl rfl (m_82_29 w6  j23) ?_
              refine EV.steps cl_64 1 (q2 := (118, [some (.ref 79), some (.int (F_110_1 w))], [.int (kI 1)], SH, (G_82_29 w6))) rfl ?_
              refine EV.ret cl_64 rfl rfl rfl ?_
              exact ⟨_, rfl, rfl, H⟩
            · skip
              rw [if_pos h22] at H
              refine EV.steps cl_64 1 (q2 := (109, [some (.ref 79), some (.int (F_110_1 w))], [.int (kI 0)], SH, w6)) rfl ?_
              refine EV.ret cl_64 rfl rfl rfl ?_
              exact ⟨_, rfl, rfl, H⟩
          · skip
            rw [if_pos h20] at H
            refine EV.steps cl_64 1 (q2 := (92, [some (.ref 79), some (.int (F_110_1 w))], [.int (kI 0)], SH, w5)) rfl ?_
            refine EV.ret cl_64 rfl rfl rfl ?_
            exact ⟨_, rfl, rfl, H⟩
      · skip
        rw [if_neg h14] at H
        refine EV.steps cl_64 3 (q2 := (58, [some (.ref 79), some (.int (F_110_1 w))], [.int (kI 4), .ref 1], SH, w)) rfl ?_
        refine EV.callF (kc := 115) (av := [.ref 1, .int (kI 4)]) (r := []) (rv := some (.int (F_115_1 (kI 4) w))) (w2 := (G_115_1 (kI 4) w)) cl_64 rfl rfl rfl (m_115_1 w (kI 4)) ?_
        refine EV.retB cl_64 rfl rfl (z1_115_1 (kI 4) w) ?_
        exact ⟨_, rfl, rfl, H⟩
    · skip
      rw [if_neg h13] at H
      refine EV.steps cl_64 2 (q2 := (23, [some (.ref 79), some (.int (F_110_1 w))], [.int (kI 107), .int (F_110_1 w)], SH, w)) rfl ?_
      refine EV.i_eq cl_64 rfl (fun h24 => ?_) (fun h24 => ?_)
      · skip
        rw [if_pos h24] at H
        refine EV.steps cl_64 4 (q2 := (50, [some (.ref 79), some (.int (F_110_1 w))], [.int (kI 16), .int (w 29 7)], SH, w)) rfl ?_
        refine EV.i_lt cl_64 rfl (fun h25 => ?_) (fun h25 => ?_)
        · skip
          rw [if_pos h25] at H
          refine EV.steps cl_64 2 (q2 := (66, [some (.ref 79), some (.int (F_110_1 w))], [.ref 1], SH, w)) rfl ?_
          refine EV.callF (kc := 112) (av := [.ref 1]) (r := []) (rv := none) (w2 := (G_112_1 w)) cl_64 rfl rfl rfl (m_112_1 w ) ?_
          refine EV.steps cl_64 3 (q2 := (74, [some (.ref 79), some (.int (F_110_1 w))], [.int (F_110_1 w), .ref 29], SH, (G_112_1 w))) rfl ?_
          obtain ⟨j26, H⟩ := H
          refine EV.callF (kc := 80) (av := [.ref 29, .int (F_110_1 w)]) (r := []) (rv := none) (w2 := (G_80_29 (F_110_1 w) (G_112_1 w))) cl_64 rfl rfl rfl (m_80_29 (G_112_1 w) (F_110_1 w) j26) ?_
          refine EV.steps cl_64 2 (q2 := (80, [some (.ref 79), some (.int (F_110_1 w))], [.int (kI 120), .int (F_110_1 w)], SH, (G_80_29 (F_110_1 w) (G_112_1 w)))) rfl ?_
          refine EV.i_eq cl_64 rfl (fun h27 => ?_) (fun h27 => ?_)
          · skip
            rw [if_pos h27] at H
            refine EV.steps cl_64 2 (q2 := (97, [some (.ref 79), some (.int (F_110_1 w))], [.ref 29], SH, (G_80_29 (F_110_1 w) (G_112_1 w)))) rfl ?_
            obtain ⟨j28, H⟩ := H
            refine EV.callF (kc := 81) (av := [.ref 29]) (r := []) (rv := none) (w2 := (G_81_29 (G_80_29 (F_110_1 w) (G_112_1 w)))) cl_64 rfl rfl rfl (m_81_29 (G_80_29 (F_110_1 w) (G_112_1 w))  j28) ?_
            refine EV.steps cl_64 2 (q2 := (102, [some (.ref 79), some (.int (F_110_1 w))], [.int (kI 0), .ref 79], SH, (G_81_29 (G_80_29 (F_110_1 w) (G_112_1 w))))) rfl ?_
            refine EV.call (kc := 65) (av := [.ref 79, .int (kI 0)]) (r := []) cl_64 rfl rfl rfl H ?_
            clear H; intro y7 s7 w7 e7
            obtain ⟨x7, rfl, rfl, H⟩ := e7
            refine EV.z_ne cl_64 rfl (fun h29 => ?_) (fun h29 => ?_)
            · skip
              rw [if_neg h29] at H
              refine EV.steps cl_64 2 (q2 := (114, [some (.ref 79), some (.int (F_110_1 w))], [.ref 29], SH, w7)) rfl ?_
              obtain ⟨j30, H⟩ := H
              refine EV.callF (kc := 82) (av := [.ref 29]) (r := []) (rv := none) (w2 := (G_82_29 w7)) cl_64 rfl rfl rfl (m_82_29 w7  j30) ?_
              refine EV.steps cl_64 1 (q2 := (118, [some (.ref 79), some (.int (F_110_1 w))], [.int (kI 1)], SH, (G_82_29 w7))) rfl ?_
              refine EV.ret cl_64 rfl rfl rfl ?_
              exact ⟨_, rfl, rfl, H⟩
            · skip
              rw [if_pos h29] at H
              refine EV.steps cl_64 1 (q2 := (109, [some (.ref 79), some (.int (F_110_1 w))], [.int (kI 0)], SH, w7)) rfl ?_
              refine EV.ret cl_64 rfl rfl rfl ?_
              exact ⟨_, rfl, rfl, H⟩
          · skip
            rw [if_neg h27] at H
            refine EV.steps cl_64 2 (q2 := (85, [some (.ref 79), some (.int (F_110_1 w))], [.int (kI 0), .ref 79], SH, (G_80_29 (F_110_1 w) (G_112_1 w)))) rfl ?_
            refine EV.call (kc := 70) (av := [.ref 79, .int (kI 0)]) (r := []) cl_64 rfl rfl rfl H ?_
            clear H; intro y8 s8 w8 e8
            obtain ⟨x8, rfl, rfl, H⟩ := e8
            refine EV.z_ne cl_64 rfl (fun h31 => ?_) (fun h31 => ?_)
            · skip
              rw [if_neg h31] at H
              refine EV.steps cl_64 2 (q2 := (97, [some (.ref 79), some (.int (F_110_1 w))], [.ref 29], SH, w8)) rfl ?_
              obtain ⟨j32, H⟩ := H
              refine EV.callF (kc := 81) (av := [.ref 29]) (r := []) (rv := none) (w2 := (G_81_29 w8)) cl_64 rfl rfl rfl (m_81_29 w8  j32) ?_
              refine EV.steps cl_64 2 (q2 := (102, [some (.ref 79), some (.int (F_110_1 w))], [.int (kI 0), .ref 79], SH, (G_81_29 w8))) rfl ?_
              refine EV.call (kc := 65) (av := [.ref 79, .int (kI 0)]) (r := []) cl_64 rfl rfl rfl H ?_
              clear H; intro y9 s9 w9 e9
              obtain ⟨x9, rfl, rfl, H⟩ := e9
              refine EV.z_ne cl_64 rfl (fun h33 => ?_) (fun h33 => ?_)
              · skip
                rw [if_neg h33] at H
                refine EV.steps cl_64 2 (q2 := (114, [some (.ref 79), some (.int (F_110_1 w))], [.ref 29], SH, w9)) rfl ?_
                obtain ⟨j34, H⟩ := H
                refine EV.callF (kc := 82) (av := [.ref 29]) (r := []) (rv := none) (w2 := (G_82_29 w9)) cl_64 rfl rfl rfl (m_82_29 w9  j34) ?_
                refine EV.steps cl_64 1 (q2 := (118, [some (.ref 79), some (.int (F_110_1 w))], [.int (kI 1)], SH, (G_82_29 w9))) rfl ?_
                refine EV.ret cl_64 rfl rfl rfl ?_
                exact ⟨_, rfl, rfl, H⟩
              · skip
                rw [if_pos h33] at H
                refine EV.steps cl_64 1 (q2 := (109, [some (.ref 79), some (.int (F_110_1 w))], [.int (kI 0)], SH, w9)) rfl ?_
                refine EV.ret cl_64 rfl rfl rfl ?_
                exact ⟨_, rfl, rfl, H⟩
            · skip
              rw [if_pos h31] at H
              refine EV.steps cl_64 1 (q2 := (92, [some (.ref 79), some (.int (F_110_1 w))], [.int (kI 0)], SH, w8)) rfl ?_
              refine EV.ret cl_64 rfl rfl rfl ?_
              exact ⟨_, rfl, rfl, H⟩
        · skip
          rw [if_neg h25] at H
          refine EV.steps cl_64 3 (q2 := (58, [some (.ref 79), some (.int (F_110_1 w))], [.int (kI 4), .ref 1], SH, w)) rfl ?_
          refine EV.callF (kc := 115) (av := [.ref 1, .int (kI 4)]) (r := []) (rv := some (.int (F_115_1 (kI 4) w))) (w2 := (G_115_1 (kI 4) w)) cl_64 rfl rfl rfl (m_115_1 w (kI 4)) ?_
          refine EV.retB cl_64 rfl rfl (z1_115_1 (kI 4) w) ?_
          exact ⟨_, rfl, rfl, H⟩
      · skip
        rw [if_neg h24] at H
        refine EV.steps cl_64 2 (q2 := (29, [some (.ref 79), some (.int (F_110_1 w))], [.int (kI 120), .int (F_110_1 w)], SH, w)) rfl ?_
        refine EV.i_eq cl_64 rfl (fun h35 => ?_) (fun h35 => ?_)
        · skip
          rw [if_pos h35] at H
          refine EV.steps cl_64 4 (q2 := (50, [some (.ref 79), some (.int (F_110_1 w))], [.int (kI 16), .int (w 29 7)], SH, w)) rfl ?_
          refine EV.i_lt cl_64 rfl (fun h36 => ?_) (fun h36 => ?_)
          · skip
            rw [if_pos h36] at H
            refine EV.steps cl_64 2 (q2 := (66, [some (.ref 79), some (.int (F_110_1 w))], [.ref 1], SH, w)) rfl ?_
            refine EV.callF (kc := 112) (av := [.ref 1]) (r := []) (rv := none) (w2 := (G_112_1 w)) cl_64 rfl rfl rfl (m_112_1 w ) ?_
            refine EV.steps cl_64 3 (q2 := (74, [some (.ref 79), some (.int (F_110_1 w))], [.int (F_110_1 w), .ref 29], SH, (G_112_1 w))) rfl ?_
            obtain ⟨j37, H⟩ := H
            refine EV.callF (kc := 80) (av := [.ref 29, .int (F_110_1 w)]) (r := []) (rv := none) (w2 := (G_80_29 (F_110_1 w) (G_112_1 w))) cl_64 rfl rfl rfl (m_80_29 (G_112_1 w) (F_110_1 w) j37) ?_
            refine EV.steps cl_64 2 (q2 := (80, [some (.ref 79), some (.int (F_110_1 w))], [.int (kI 120), .int (F_110_1 w)], SH, (G_80_29 (F_110_1 w) (G_112_1 w)))) rfl ?_
            refine EV.i_eq cl_64 rfl (fun h38 => ?_) (fun h38 => ?_)
            · skip
              refine EV.steps cl_64 2 (q2 := (97, [some (.ref 79), some (.int (F_110_1 w))], [.ref 29], SH, (G_80_29 (F_110_1 w) (G_112_1 w)))) rfl ?_
              obtain ⟨j39, H⟩ := H
              refine EV.callF (kc := 81) (av := [.ref 29]) (r := []) (rv := none) (w2 := (G_81_29 (G_80_29 (F_110_1 w) (G_112_1 w)))) cl_64 rfl rfl rfl (m_81_29 (G_80_29 (F_110_1 w) (G_112_1 w))  j39) ?_
              refine EV.steps cl_64 2 (q2 := (102, [some (.ref 79), some (.int (F_110_1 w))], [.int (kI 0), .ref 79], SH, (G_81_29 (G_80_29 (F_110_1 w) (G_112_1 w))))) rfl ?_
              refine EV.call (kc := 65) (av := [.ref 79, .int (kI 0)]) (r := []) cl_64 rfl rfl rfl H ?_
              clear H; intro y10 s10 w10 e10
              obtain ⟨x10, rfl, rfl, H⟩ := e10
              refine EV.z_ne cl_64 rfl (fun h40 => ?_) (fun h40 => ?_)
              · skip
                rw [if_neg h40] at H
                refine EV.steps cl_64 2 (q2 := (114, [some (.ref 79), some (.int (F_110_1 w))], [.ref 29], SH, w10)) rfl ?_
                obtain ⟨j41, H⟩ := H
                refine EV.callF (kc := 82) (av := [.ref 29]) (r := []) (rv := none) (w2 := (G_82_29 w10)) cl_64 rfl rfl rfl (m_82_29 w10  j41) ?_
                refine EV.steps cl_64 1 (q2 := (118, [some (.ref 79), some (.int (F_110_1 w))], [.int (kI 1)], SH, (G_82_29 w10))) rfl ?_
                refine EV.ret cl_64 rfl rfl rfl ?_
                exact ⟨_, rfl, rfl, H⟩
              · skip
                rw [if_pos h40] at H
                refine EV.steps cl_64 1 (q2 := (109, [some (.ref 79), some (.int (F_110_1 w))], [.int (kI 0)], SH, w10)) rfl ?_
                refine EV.ret cl_64 rfl rfl rfl ?_
                exact ⟨_, rfl, rfl, H⟩
            · skip
              exact absurd h35 h38
          · skip
            rw [if_neg h36] at H
            refine EV.steps cl_64 3 (q2 := (58, [some (.ref 79), some (.int (F_110_1 w))], [.int (kI 4), .ref 1], SH, w)) rfl ?_
            refine EV.callF (kc := 115) (av := [.ref 1, .int (kI 4)]) (r := []) (rv := some (.int (F_115_1 (kI 4) w))) (w2 := (G_115_1 (kI 4) w)) cl_64 rfl rfl rfl (m_115_1 w (kI 4)) ?_
            refine EV.retB cl_64 rfl rfl (z1_115_1 (kI 4) w) ?_
            exact ⟨_, rfl, rfl, H⟩
        · skip
          rw [if_neg h35] at H
          refine EV.steps cl_64 3 (q2 := (37, [some (.ref 79), some (.int (F_110_1 w))], [.int (kI 1), .ref 1], SH, w)) rfl ?_
          refine EV.callF (kc := 115) (av := [.ref 1, .int (kI 1)]) (r := []) (rv := some (.int (F_115_1 (kI 1) w))) (w2 := (G_115_1 (kI 1) w)) cl_64 rfl rfl rfl (m_115_1 w (kI 1)) ?_
          refine EV.retB cl_64 rfl rfl (z1_115_1 (kI 1) w) ?_
          exact ⟨_, rfl, rfl, H⟩
theorem t65_79_at0 {X : Scr} {d : Nat} {Q : Int32 → Wd → Prop} (w : Wd) (v1 : Int32)
    (H : ((¬ (w 1 2) ≤ (w 1 3) → (¬ (w 1 1) ≤ (w 1 3) → (inB (w 1 3) 260 = true))) ∧ (if (F_110_1 w) = (kI 40) then (if v1 < (kI 6) then CI X (d + 3) 66 [.ref 79, .int (v1 + (kI 1))] (G_112_1 w) (fun x1 w1 => (if x1 = 0 then Q (kI 0) w1 else (((¬ (w1 1 2) ≤ (w1 1 3) → (¬ (w1 1 1) ≤ (w1 1 3) → (inB (w1 1 3) 260 = true)))) ∧ (if (F_113_1 (kI 41) w1) = 0 then Q (kI 0) (G_113_1 (kI 41) w1) else Q (kI 1) (G_113_1 (kI 41) w1))))) else Q (F_115_1 (kI 5) w) (G_115_1 (kI 5) w)) else Q (F_115_1 (kI 1) w) (G_115_1 (kI 1) w)))) : EI X (d + 3) 65 (0, [some (.ref 79), some (.int v1)], [], SH, w) Q := by
  unfold EI
  refine EV.steps cl_65 2 (q2 := (4, [some (.ref 79), some (.int v1)], [.ref 1], SH, w)) rfl ?_
  obtain ⟨j1, H⟩ := H
  refine EV.callF (kc := 110) (av := [.ref 1]) (r := []) (rv := some (.int (F_110_1 w))) (w2 := w) cl_65 rfl rfl rfl (m_110_1 w  j1) ?_
  refine EV.steps cl_65 1 (q2 := (9, [some (.ref 79), some (.int v1)], [.int (kI 40), .int (F_110_1 w)], SH, w)) rfl ?_
  refine EV.i_eq cl_65 rfl (fun h2 => ?_) (fun h2 => ?_)
  · skip
    rw [if_pos h2] at H
    refine EV.steps cl_65 2 (q2 := (24, [some (.ref 79), some (.int v1)], [.int (kI 6), .int v1], SH, w)) rfl ?_
    refine EV.i_lt cl_65 rfl (fun h3 => ?_) (fun h3 => ?_)
    · skip
      rw [if_pos h3] at H
      refine EV.steps cl_65 2 (q2 := (40, [some (.ref 79), some (.int v1)], [.ref 1], SH, w)) rfl ?_
      refine EV.callF (kc := 112) (av := [.ref 1]) (r := []) (rv := none) (w2 := (G_112_1 w)) cl_65 rfl rfl rfl (m_112_1 w ) ?_
      refine EV.steps cl_65 4 (q2 := (47, [some (.ref 79), some (.int v1)], [.int (v1 + (kI 1)), .ref 79], SH, (G_112_1 w))) rfl ?_
      refine EV.call (kc := 66) (av := [.ref 79, .int (v1 + (kI 1))]) (r := []) cl_65 rfl rfl rfl H ?_
      clear H; intro y1 s1 w1 e1
      obtain ⟨x1, rfl, rfl, H⟩ := e1
      refine EV.z_eq cl_65 rfl (fun h4 => ?_) (fun h4 => ?_)
      · skip
        rw [if_pos h4] at H
        refine EV.steps cl_65 1 (q2 := (70, [some (.ref 79), some (.int v1)], [.int (kI 0)], SH, w1)) rfl ?_
        refine EV.ret cl_65 rfl rfl rfl ?_
        exact ⟨_, rfl, rfl, H⟩
      · skip
        rw [if_neg h4] at H
        refine EV.steps cl_65 3 (q2 := (59, [some (.ref 79), some (.int v1)], [.int (kI 41), .ref 1], SH, w1)) rfl ?_
        obtain ⟨j5, H⟩ := H
        refine EV.callF (kc := 113) (av := [.ref 1, .int (kI 41)]) (r := []) (rv := some (.int (F_113_1 (kI 41) w1))) (w2 := (G_113_1 (kI 41) w1)) cl_65 rfl rfl rfl (m_113_1 w1 (kI 41) j5) ?_
        refine EV.z_eq cl_65 rfl (fun h6 => ?_) (fun h6 => ?_)
        · skip
          rw [if_pos h6] at H
          refine EV.steps cl_65 1 (q2 := (70, [some (.ref 79), some (.int v1)], [.int (kI 0)], SH, (G_113_1 (kI 41) w1))) rfl ?_
          refine EV.ret cl_65 rfl rfl rfl ?_
          exact ⟨_, rfl, rfl, H⟩
        · skip
          rw [if_neg h6] at H
          refine EV.steps cl_65 2 (q2 := (70, [some (.ref 79), some (.int v1)], [.int (kI 1)], SH, (G_113_1 (kI 41) w1))) rfl ?_
          refine EV.ret cl_65 rfl rfl rfl ?_
          exact ⟨_, rfl, rfl, H⟩
    · skip
      rw [if_neg h3] at H
      refine EV.steps cl_65 3 (q2 := (32, [some (.ref 79), some (.int v1)], [.int (kI 5), .ref 1], SH, w)) rfl ?_
      refine EV.callF (kc := 115) (av := [.ref 1, .int (kI 5)]) (r := []) (rv := some (.int (F_115_1 (kI 5) w))) (w2 := (G_115_1 (kI 5) w)) cl_65 rfl rfl rfl (m_115_1 w (kI 5)) ?_
      refine EV.retB cl_65 rfl rfl (z1_115_1 (kI 5) w) ?_
      exact ⟨_, rfl, rfl, H⟩
  · skip
    rw [if_neg h2] at H
    refine EV.steps cl_65 3 (q2 := (17, [some (.ref 79), some (.int v1)], [.int (kI 1), .ref 1], SH, w)) rfl ?_
    refine EV.callF (kc := 115) (av := [.ref 1, .int (kI 1)]) (r := []) (rv := some (.int (F_115_1 (kI 1) w))) (w2 := (G_115_1 (kI 1) w)) cl_65 rfl rfl rfl (m_115_1 w (kI 1)) ?_
    refine EV.retB cl_65 rfl rfl (z1_115_1 (kI 1) w) ?_
    exact ⟨_, rfl, rfl, H⟩
theorem t66_79_at0 {X : Scr} {d : Nat} {Q : Int32 → Wd → Prop} (w : Wd) (v1 : Int32)
    (H : CI X (d + 2) 67 [.ref 79, .int v1] w (fun x1 w1 => EI X (d + 2) 66 (8, [some (.ref 79), some (.int v1), some (.int x1), some (.int (kI 0)), none], [], SH, w1) Q)) : EI X (d + 2) 66 (0, [some (.ref 79), some (.int v1), none, none, none], [], SH, w) Q := by
  unfold EI
  refine EV.steps cl_66 2 (q2 := (2, [some (.ref 79), some (.int v1), none, none, none], [.int v1, .ref 79], SH, w)) rfl ?_
  refine EV.call (kc := 67) (av := [.ref 79, .int v1]) (r := []) cl_66 rfl rfl rfl H ?_
  clear H; intro y1 s1 w1 e1
  obtain ⟨x1, rfl, rfl, H⟩ := e1
  refine EV.steps cl_66 3 (q2 := (8, [some (.ref 79), some (.int v1), some (.int x1), some (.int (kI 0)), none], [], SH, w1)) rfl ?_
  exact H
theorem t66_79_at8 {X : Scr} {d : Nat} {Q : Int32 → Wd → Prop} (w : Wd) (v1 : Int32) (v2 : Int32) (v3 : Int32)
    (H : (if (kI 240) ≤ v3 then ((v2 = 0 ∨ v2 = 1) ∧ Q v2 w) else (if v2 = 0 then ((v2 = 0 ∨ v2 = 1) ∧ Q v2 w) else ((¬ (w 1 2) ≤ (w 1 3) → (¬ (w 1 1) ≤ (w 1 3) → (inB (w 1 3) 260 = true))) ∧ (if (F_110_1 w) = (kI 124) then ((((G_112_1 w) 29 6) < (Int32.ofNat 240) → (inB ((G_112_1 w) 29 6) 240 = true)) ∧ CI X (d + 2) 67 [.ref 79, .int v1] (G_78_29 (kI 124) (kI 0) (G_112_1 w)) (fun x1 w1 => ((¬ (F_153 (F_78_29 (kI 124) (kI 0) (G_112_1 w)) (kI 0) ((w1 29 6) - (kI 1)) w1) = 0 → (inB (F_78_29 (kI 124) (kI 0) (G_112_1 w)) 240 = true)) ∧ EI X (d + 2) 66 (8, [some (.ref 79), some (.int v1), some (.int x1), some (.int (v3 + (kI 1))), none], [], SH, (G_79_29 (F_78_29 (kI 124) (kI 0) (G_112_1 w)) w1)) Q))) else ((v2 = 0 ∨ v2 = 1) ∧ Q v2 w)))))) : EI X (d + 2) 66 (8, [some (.ref 79), some (.int v1), some (.int v2), some (.int v3), none], [], SH, w) Q := by
  unfold EI
  refine EV.steps cl_66 2 (q2 := (12, [some (.ref 79), some (.int v1), some (.int v2), some (.int v3), none], [.int (kI 240), .int v3], SH, w)) rfl ?_
  refine EV.i_ge cl_66 rfl (fun h1 => ?_) (fun h1 => ?_)
  · skip
    rw [if_pos h1] at H
    refine EV.steps cl_66 1 (q2 := (72, [some (.ref 79), some (.int v1), some (.int v2), some (.int v3), none], [.int v2], SH, w)) rfl ?_
    obtain ⟨j2, H⟩ := H
    refine EV.retB cl_66 rfl rfl j2 ?_
    exact ⟨_, rfl, rfl, H⟩
  · skip
    rw [if_neg h1] at H
    refine EV.steps cl_66 1 (q2 := (16, [some (.ref 79), some (.int v1), some (.int v2), some (.int v3), none], [.int v2], SH, w)) rfl ?_
    refine EV.z_eq cl_66 rfl (fun h3 => ?_) (fun h3 => ?_)
    · skip
      rw [if_pos h3] at H
      refine EV.steps cl_66 1 (q2 := (72, [some (.ref 79), some (.int v1), some (.int v2), some (.int v3), none], [.int v2], SH, w)) rfl ?_
      obtain ⟨j4, H⟩ := H
      refine EV.retB cl_66 rfl rfl j4 ?_
      exact ⟨_, rfl, rfl, H⟩
    · skip
      rw [if_neg h3] at H
      refine EV.steps cl_66 2 (q2 := (23, [some (.ref 79), some (.int v1), some (.int v2), some (.int v3), none], [.ref 1], SH, w)) rfl ?_
      obtain ⟨j5, H⟩ := H
      refine EV.callF (kc := 110) (av := [.ref 1]) (r := []) (rv := some (.int (F_110_1 w))) (w2 := w) cl_66 rfl rfl rfl (m_110_1 w  j5) ?_
      refine EV.steps cl_66 1 (q2 := (28, [some (.ref 79), some (.int v1), some (.int v2), some (.int v3), none], [.int (kI 124), .int (F_110_1 w)], SH, w)) rfl ?_
      refine EV.i_ne cl_66 rfl (fun h6 => ?_) (fun h6 => ?_)
      · skip
        rw [if_neg h6] at H
        refine EV.steps cl_66 1 (q2 := (72, [some (.ref 79), some (.int v1), some (.int v2), some (.int v3), none], [.int v2], SH, w)) rfl ?_
        obtain ⟨j7, H⟩ := H
        refine EV.retB cl_66 rfl rfl j7 ?_
        exact ⟨_, rfl, rfl, H⟩
      · skip
        rw [if_pos h6] at H
        refine EV.steps cl_66 2 (q2 := (35, [some (.ref 79), some (.int v1), some (.int v2), some (.int v3), none], [.ref 1], SH, w)) rfl ?_
        refine EV.callF (kc := 112) (av := [.ref 1]) (r := []) (rv := none) (w2 := (G_112_1 w)) cl_66 rfl rfl rfl (m_112_1 w ) ?_
        refine EV.steps cl_66 4 (q2 := (45, [some (.ref 79), some (.int v1), some (.int v2), some (.int v3), none], [.int (kI 0), .int (kI 124), .ref 29], SH, (G_112_1 w))) rfl ?_
        obtain ⟨j8, H⟩ := H
        refine EV.callF (kc := 78) (av := [.ref 29, .int (kI 124), .int (kI 0)]) (r := []) (rv := some (.int (F_78_29 (kI 124) (kI 0) (G_112_1 w)))) (w2 := (G_78_29 (kI 124) (kI 0) (G_112_1 w))) cl_66 rfl rfl rfl (m_78_29 (G_112_1 w) (kI 124) (kI 0) j8) ?_
        refine EV.steps cl_66 3 (q2 := (52, [some (.ref 79), some (.int v1), some (.int v2), some (.int v3), some (.int (F_78_29 (kI 124) (kI 0) (G_112_1 w)))], [.int v1, .ref 79], SH, (G_78_29 (kI 124) (kI 0) (G_112_1 w)))) rfl ?_
        refine EV.call (kc := 67) (av := [.ref 79, .int v1]) (r := []) cl_66 rfl rfl rfl H ?_
        clear H; intro y1 s1 w1 e1
        obtain ⟨x1, rfl, rfl, H⟩ := e1
        refine EV.steps cl_66 4 (q2 := (62, [some (.ref 79), some (.int v1), some (.int x1), some (.int v3), some (.int (F_78_29 (kI 124) (kI 0) (G_112_1 w)))], [.int (F_78_29 (kI 124) (kI 0) (G_112_1 w)), .ref 29], SH, w1)) rfl ?_
        obtain ⟨j9, H⟩ := H
        refine EV.callF (kc := 79) (av := [.ref 29, .int (F_78_29 (kI 124) (kI 0) (G_112_1 w))]) (r := []) (rv := none) (w2 := (G_79_29 (F_78_29 (kI 124) (kI 0) (G_112_1 w)) w1)) cl_66 rfl rfl rfl (m_79_29 w1 (F_78_29 (kI 124) (kI 0) (G_112_1 w)) j9) ?_
        refine EV.steps cl_66 2 (q2 := (8, [some (.ref 79), some (.int v1), some (.int x1), some (.int (v3 + (kI 1))), some (.int (F_78_29 (kI 124) (kI 0) (G_112_1 w)))], [], SH, (G_79_29 (F_78_29 (kI 124) (kI 0) (G_112_1 w)) w1))) rfl ?_
        exact EV.weak (l := [some (.ref 79), some (.int v1), some (.int x1), some (.int (v3 + (kI 1))), none]) ⟨rfl, ⟨rfl, ⟨rfl, ⟨rfl, ⟨rfl, trivial⟩⟩⟩⟩⟩ H
theorem t67_79_at0 {X : Scr} {d : Nat} {Q : Int32 → Wd → Prop} (w : Wd) (v1 : Int32)
    (H : CI X (d + 2) 68 [.ref 79, .int v1] w (fun x1 w1 => EI X (d + 2) 67 (8, [some (.ref 79), some (.int v1), some (.int x1), some (.int (kI 0)), none], [], SH, w1) Q)) : EI X (d + 2) 67 (0, [some (.ref 79), some (.int v1), none, none, none], [], SH, w) Q := by
  unfold EI
  refine EV.steps cl_67 2 (q2 := (2, [some (.ref 79), some (.int v1), none, none, none], [.int v1, .ref 79], SH, w)) rfl ?_
  refine EV.call (kc := 68) (av := [.ref 79, .int v1]) (r := []) cl_67 rfl rfl rfl H ?_
  clear H; intro y1 s1 w1 e1
  obtain ⟨x1, rfl, rfl, H⟩ := e1
  refine EV.steps cl_67 3 (q2 := (8, [some (.ref 79), some (.int v1), some (.int x1), some (.int (kI 0)), none], [], SH, w1)) rfl ?_
  exact H
theorem t67_79_at8 {X : Scr} {d : Nat} {Q : Int32 → Wd → Prop} (w : Wd) (v1 : Int32) (v2 : Int32) (v3 : Int32)
    (H : (if (kI 240) ≤ v3 then ((v2 = 0 ∨ v2 = 1) ∧ Q v2 w) else (if v2 = 0 then ((v2 = 0 ∨ v2 = 1) ∧ Q v2 w) else ((¬ (w 1 2) ≤ (w 1 3) → (¬ (w 1 1) ≤ (w 1 3) → (inB (w 1 3) 260 = true))) ∧ (if (F_110_1 w) = (kI 38) then ((((G_112_1 w) 29 6) < (Int32.ofNat 240) → (inB ((G_112_1 w) 29 6) 240 = true)) ∧ CI X (d + 2) 68 [.ref 79, .int v1] (G_78_29 (kI 38) (kI 0) (G_112_1 w)) (fun x1 w1 => ((¬ (F_153 (F_78_29 (kI 38) (kI 0) (G_112_1 w)) (kI 0) ((w1 29 6) - (kI 1)) w1) = 0 → (inB (F_78_29 (kI 38) (kI 0) (G_112_1 w)) 240 = true)) ∧ EI X (d + 2) 67 (8, [some (.ref 79), some (.int v1), some (.int x1), some (.int (v3 + (kI 1))), none], [], SH, (G_79_29 (F_78_29 (kI 38) (kI 0) (G_112_1 w)) w1)) Q))) else ((v2 = 0 ∨ v2 = 1) ∧ Q v2 w)))))) : EI X (d + 2) 67 (8, [some (.ref 79), some (.int v1), some (.int v2), some (.int v3), none], [], SH, w) Q := by
  unfold EI
  refine EV.steps cl_67 2 (q2 := (12, [some (.ref 79), some (.int v1), some (.int v2), some (.int v3), none], [.int (kI 240), .int v3], SH, w)) rfl ?_
  refine EV.i_ge cl_67 rfl (fun h1 => ?_) (fun h1 => ?_)
  · skip
    rw [if_pos h1] at H
    refine EV.steps cl_67 1 (q2 := (72, [some (.ref 79), some (.int v1), some (.int v2), some (.int v3), none], [.int v2], SH, w)) rfl ?_
    obtain ⟨j2, H⟩ := H
    refine EV.retB cl_67 rfl rfl j2 ?_
    exact ⟨_, rfl, rfl, H⟩
  · skip
    rw [if_neg h1] at H
    refine EV.steps cl_67 1 (q2 := (16, [some (.ref 79), some (.int v1), some (.int v2), some (.int v3), none], [.int v2], SH, w)) rfl ?_
    refine EV.z_eq cl_67 rfl (fun h3 => ?_) (fun h3 => ?_)
    · skip
      rw [if_pos h3] at H
      refine EV.steps cl_67 1 (q2 := (72, [some (.ref 79), some (.int v1), some (.int v2), some (.int v3), none], [.int v2], SH, w)) rfl ?_
      obtain ⟨j4, H⟩ := H
      refine EV.retB cl_67 rfl rfl j4 ?_
      exact ⟨_, rfl, rfl, H⟩
    · skip
      rw [if_neg h3] at H
      refine EV.steps cl_67 2 (q2 := (23, [some (.ref 79), some (.int v1), some (.int v2), some (.int v3), none], [.ref 1], SH, w)) rfl ?_
      obtain ⟨j5, H⟩ := H
      refine EV.callF (kc := 110) (av := [.ref 1]) (r := []) (rv := some (.int (F_110_1 w))) (w2 := w) cl_67 rfl rfl rfl (m_110_1 w  j5) ?_
      refine EV.steps cl_67 1 (q2 := (28, [some (.ref 79), some (.int v1), some (.int v2), some (.int v3), none], [.int (kI 38), .int (F_110_1 w)], SH, w)) rfl ?_
      refine EV.i_ne cl_67 rfl (fun h6 => ?_) (fun h6 => ?_)
      · skip
        rw [if_neg h6] at H
        refine EV.steps cl_67 1 (q2 := (72, [some (.ref 79), some (.int v1), some (.int v2), some (.int v3), none], [.int v2], SH, w)) rfl ?_
        obtain ⟨j7, H⟩ := H
        refine EV.retB cl_67 rfl rfl j7 ?_
        exact ⟨_, rfl, rfl, H⟩
      · skip
        rw [if_pos h6] at H
        refine EV.steps cl_67 2 (q2 := (35, [some (.ref 79), some (.int v1), some (.int v2), some (.int v3), none], [.ref 1], SH, w)) rfl ?_
        refine EV.callF (kc := 112) (av := [.ref 1]) (r := []) (rv := none) (w2 := (G_112_1 w)) cl_67 rfl rfl rfl (m_112_1 w ) ?_
        refine EV.steps cl_67 4 (q2 := (45, [some (.ref 79), some (.int v1), some (.int v2), some (.int v3), none], [.int (kI 0), .int (kI 38), .ref 29], SH, (G_112_1 w))) rfl ?_
        obtain ⟨j8, H⟩ := H
        refine EV.callF (kc := 78) (av := [.ref 29, .int (kI 38), .int (kI 0)]) (r := []) (rv := some (.int (F_78_29 (kI 38) (kI 0) (G_112_1 w)))) (w2 := (G_78_29 (kI 38) (kI 0) (G_112_1 w))) cl_67 rfl rfl rfl (m_78_29 (G_112_1 w) (kI 38) (kI 0) j8) ?_
        refine EV.steps cl_67 3 (q2 := (52, [some (.ref 79), some (.int v1), some (.int v2), some (.int v3), some (.int (F_78_29 (kI 38) (kI 0) (G_112_1 w)))], [.int v1, .ref 79], SH, (G_78_29 (kI 38) (kI 0) (G_112_1 w)))) rfl ?_
        refine EV.call (kc := 68) (av := [.ref 79, .int v1]) (r := []) cl_67 rfl rfl rfl H ?_
        clear H; intro y1 s1 w1 e1
        obtain ⟨x1, rfl, rfl, H⟩ := e1
        refine EV.steps cl_67 4 (q2 := (62, [some (.ref 79), some (.int v1), some (.int x1), some (.int v3), some (.int (F_78_29 (kI 38) (kI 0) (G_112_1 w)))], [.int (F_78_29 (kI 38) (kI 0) (G_112_1 w)), .ref 29], SH, w1)) rfl ?_
        obtain ⟨j9, H⟩ := H
        refine EV.callF (kc := 79) (av := [.ref 29, .int (F_78_29 (kI 38) (kI 0) (G_112_1 w))]) (r := []) (rv := none) (w2 := (G_79_29 (F_78_29 (kI 38) (kI 0) (G_112_1 w)) w1)) cl_67 rfl rfl rfl (m_79_29 w1 (F_78_29 (kI 38) (kI 0) (G_112_1 w)) j9) ?_
        refine EV.steps cl_67 2 (q2 := (8, [some (.ref 79), some (.int v1), some (.int x1), some (.int (v3 + (kI 1))), some (.int (F_78_29 (kI 38) (kI 0) (G_112_1 w)))], [], SH, (G_79_29 (F_78_29 (kI 38) (kI 0) (G_112_1 w)) w1))) rfl ?_
        exact EV.weak (l := [some (.ref 79), some (.int v1), some (.int x1), some (.int (v3 + (kI 1))), none]) ⟨rfl, ⟨rfl, ⟨rfl, ⟨rfl, ⟨rfl, trivial⟩⟩⟩⟩⟩ H
theorem t68_79_at0 {X : Scr} {d : Nat} {Q : Int32 → Wd → Prop} (w : Wd) (v1 : Int32)
    (H : ((¬ (w 1 2) ≤ (w 1 3) → (¬ (w 1 1) ≤ (w 1 3) → (inB (w 1 3) 260 = true))) ∧ (if (F_110_1 w) = (kI 40) then CI X (d + 2) 65 [.ref 79, .int v1] w (fun x6 w6 => ((x6 = 0 ∨ x6 = 1) ∧ Q x6 w6)) else ((¬ (w 1 2) ≤ (w 1 3) → (¬ (w 1 1) ≤ (w 1 3) → (inB (w 1 3) 260 = true))) ∧ (if (F_110_1 w) = (kI 33) then CI X (d + 2) 69 [.ref 79, .int v1] w (fun x5 w5 => ((x5 = 0 ∨ x5 = 1) ∧ Q x5 w5)) else CI X (d + 2) 70 [.ref 79, .int v1] w (fun x1 w1 => (if x1 = 0 then Q (kI 0) w1 else ((¬ (w1 1 2) ≤ (w1 1 3) → (¬ (w1 1 1) ≤ (w1 1 3) → (inB (w1 1 3) 260 = true))) ∧ (if (F_110_1 w1) = (kI 60) then CI X (d + 2) 70 [.ref 79, .int v1] (G_112_1 w1) (fun x2 w2 => (if x2 = 0 then Q (kI 0) w2 else (((w2 29 6) < (Int32.ofNat 240) → (inB (w2 29 6) 240 = true)) ∧ Q (kI 1) (G_78_29 (F_110_1 w1) (kI 0) w2)))) else (if (F_110_1 w1) = (kI 62) then CI X (d + 2) 70 [.ref 79, .int v1] (G_112_1 w1) (fun x3 w3 => (if x3 = 0 then Q (kI 0) w3 else (((w3 29 6) < (Int32.ofNat 240) → (inB (w3 29 6) 240 = true)) ∧ Q (kI 1) (G_78_29 (F_110_1 w1) (kI 0) w3)))) else (if (F_110_1 w1) = (kI 61) then CI X (d + 2) 70 [.ref 79, .int v1] (G_112_1 w1) (fun x4 w4 => (if x4 = 0 then Q (kI 0) w4 else (((w4 29 6) < (Int32.ofNat 240) → (inB (w4 29 6) 240 = true)) ∧ Q (kI 1) (G_78_29 (F_110_1 w1) (kI 0) w4)))) else Q (F_115_1 (kI 1) w1) (G_115_1 (kI 1) w1)))))))))))) : EI X (d + 2) 68 (0, [some (.ref 79), some (.int v1), none], [], SH, w) Q := by
  unfold EI
  refine EV.steps cl_68 2 (q2 := (4, [some (.ref 79), some (.int v1), none], [.ref 1], SH, w)) rfl ?_
  obtain ⟨j1, H⟩ := H
  refine EV.callF (kc := 110) (av := [.ref 1]) (r := []) (rv := some (.int (F_110_1 w))) (w2 := w) cl_68 rfl rfl rfl (m_110_1 w  j1) ?_
  refine EV.steps cl_68 1 (q2 := (9, [some (.ref 79), some (.int v1), none], [.int (kI 40), .int (F_110_1 w)], SH, w)) rfl ?_
  refine EV.i_ne cl_68 rfl (fun h2 => ?_) (fun h2 => ?_)
  · skip
    rw [if_neg h2] at H
    refine EV.steps cl_68 2 (q2 := (22, [some (.ref 79), some (.int v1), none], [.ref 1], SH, w)) rfl ?_
    obtain ⟨j3, H⟩ := H
    refine EV.callF (kc := 110) (av := [.ref 1]) (r := []) (rv := some (.int (F_110_1 w))) (w2 := w) cl_68 rfl rfl rfl (m_110_1 w  j3) ?_
    refine EV.steps cl_68 1 (q2 := (27, [some (.ref 79), some (.int v1), none], [.int (kI 33), .int (F_110_1 w)], SH, w)) rfl ?_
    refine EV.i_ne cl_68 rfl (fun h4 => ?_) (fun h4 => ?_)
    · skip
      rw [if_neg h4] at H
      refine EV.steps cl_68 2 (q2 := (38, [some (.ref 79), some (.int v1), none], [.int v1, .ref 79], SH, w)) rfl ?_
      refine EV.call (kc := 70) (av := [.ref 79, .int v1]) (r := []) cl_68 rfl rfl rfl H ?_
      clear H; intro y1 s1 w1 e1
      obtain ⟨x1, rfl, rfl, H⟩ := e1
      refine EV.z_ne cl_68 rfl (fun h5 => ?_) (fun h5 => ?_)
      · skip
        rw [if_neg h5] at H
        refine EV.steps cl_68 2 (q2 := (50, [some (.ref 79), some (.int v1), none], [.ref 1], SH, w1)) rfl ?_
        obtain ⟨j6, H⟩ := H
        refine EV.callF (kc := 110) (av := [.ref 1]) (r := []) (rv := some (.int (F_110_1 w1))) (w2 := w1) cl_68 rfl rfl rfl (m_110_1 w1  j6) ?_
        refine EV.steps cl_68 3 (q2 := (57, [some (.ref 79), some (.int v1), some (.int (F_110_1 w1))], [.int (kI 60), .int (F_110_1 w1)], SH, w1)) rfl ?_
        refine EV.i_eq cl_68 rfl (fun h7 => ?_) (fun h7 => ?_)
        · skip
          rw [if_pos h7] at H
          refine EV.steps cl_68 2 (q2 := (85, [some (.ref 79), some (.int v1), some (.int (F_110_1 w1))], [.ref 1], SH, w1)) rfl ?_
          refine EV.callF (kc := 112) (av := [.ref 1]) (r := []) (rv := none) (w2 := (G_112_1 w1)) cl_68 rfl rfl rfl (m_112_1 w1 ) ?_
          refine EV.steps cl_68 2 (q2 := (90, [some (.ref 79), some (.int v1), some (.int (F_110_1 w1))], [.int v1, .ref 79], SH, (G_112_1 w1))) rfl ?_
          refine EV.call (kc := 70) (av := [.ref 79, .int v1]) (r := []) cl_68 rfl rfl rfl H ?_
          clear H; intro y2 s2 w2 e2
          obtain ⟨x2, rfl, rfl, H⟩ := e2
          refine EV.z_ne cl_68 rfl (fun h8 => ?_) (fun h8 => ?_)
          · skip
            rw [if_neg h8] at H
            refine EV.steps cl_68 4 (q2 := (104, [some (.ref 79), some (.int v1), some (.int (F_110_1 w1))], [.int (kI 0), .int (F_110_1 w1), .ref 29], SH, w2)) rfl ?_
            obtain ⟨j9, H⟩ := H
            refine EV.callF (kc := 78) (av := [.ref 29, .int (F_110_1 w1), .int (kI 0)]) (r := []) (rv := some (.int (F_78_29 (F_110_1 w1) (kI 0) w2))) (w2 := (G_78_29 (F_110_1 w1) (kI 0) w2)) cl_68 rfl rfl rfl (m_78_29 w2 (F_110_1 w1) (kI 0) j9) ?_
            refine EV.steps cl_68 2 (q2 := (109, [some (.ref 79), some (.int v1), some (.int (F_110_1 w1))], [.int (kI 1)], SH, (G_78_29 (F_110_1 w1) (kI 0) w2))) rfl ?_
            refine EV.ret cl_68 rfl rfl rfl ?_
            exact ⟨_, rfl, rfl, H⟩
          · skip
            rw [if_pos h8] at H
            refine EV.steps cl_68 1 (q2 := (97, [some (.ref 79), some (.int v1), some (.int (F_110_1 w1))], [.int (kI 0)], SH, w2)) rfl ?_
            refine EV.ret cl_68 rfl rfl rfl ?_
            exact ⟨_, rfl, rfl, H⟩
        · skip
          rw [if_neg h7] at H
          refine EV.steps cl_68 2 (q2 := (63, [some (.ref 79), some (.int v1), some (.int (F_110_1 w1))], [.int (kI 62), .int (F_110_1 w1)], SH, w1)) rfl ?_
          refine EV.i_eq cl_68 rfl (fun h10 => ?_) (fun h10 => ?_)
          · skip
            rw [if_pos h10] at H
            refine EV.steps cl_68 2 (q2 := (85, [some (.ref 79), some (.int v1), some (.int (F_110_1 w1))], [.ref 1], SH, w1)) rfl ?_
            refine EV.callF (kc := 112) (av := [.ref 1]) (r := []) (rv := none) (w2 := (G_112_1 w1)) cl_68 rfl rfl rfl (m_112_1 w1 ) ?_
            refine EV.steps cl_68 2 (q2 := (90, [some (.ref 79), some (.int v1), some (.int (F_110_1 w1))], [.int v1, .ref 79], SH, (G_112_1 w1))) rfl ?_
            refine EV.call (kc := 70) (av := [.ref 79, .int v1]) (r := []) cl_68 rfl rfl rfl H ?_
            clear H; intro y3 s3 w3 e3
            obtain ⟨x3, rfl, rfl, H⟩ := e3
            refine EV.z_ne cl_68 rfl (fun h11 => ?_) (fun h11 => ?_)
            · skip
              rw [if_neg h11] at H
              refine EV.steps cl_68 4 (q2 := (104, [some (.ref 79), some (.int v1), some (.int (F_110_1 w1))], [.int (kI 0), .int (F_110_1 w1), .ref 29], SH, w3)) rfl ?_
              obtain ⟨j12, H⟩ := H
              refine EV.callF (kc := 78) (av := [.ref 29, .int (F_110_1 w1), .int (kI 0)]) (r := []) (rv := some (.int (F_78_29 (F_110_1 w1) (kI 0) w3))) (w2 := (G_78_29 (F_110_1 w1) (kI 0) w3)) cl_68 rfl rfl rfl (m_78_29 w3 (F_110_1 w1) (kI 0) j12) ?_
              refine EV.steps cl_68 2 (q2 := (109, [some (.ref 79), some (.int v1), some (.int (F_110_1 w1))], [.int (kI 1)], SH, (G_78_29 (F_110_1 w1) (kI 0) w3))) rfl ?_
              refine EV.ret cl_68 rfl rfl rfl ?_
              exact ⟨_, rfl, rfl, H⟩
            · skip
              rw [if_pos h11] at H
              refine EV.steps cl_68 1 (q2 := (97, [some (.ref 79), some (.int v1), some (.int (F_110_1 w1))], [.int (kI 0)], SH, w3)) rfl ?_
              refine EV.ret cl_68 rfl rfl rfl ?_
              exact ⟨_, rfl, rfl, H⟩
          · skip
            rw [if_neg h10] at H
            refine EV.steps cl_68 2 (q2 := (69, [some (.ref 79), some (.int v1), some (.int (F_110_1 w1))], [.int (kI 61), .int (F_110_1 w1)], SH, w1)) rfl ?_
            refine EV.i_eq cl_68 rfl (fun h13 => ?_) (fun h13 => ?_)
            · skip
              rw [if_pos h13] at H
              refine EV.steps cl_68 2 (q2 := (85, [some (.ref 79), some (.int v1), some (.int (F_110_1 w1))], [.ref 1], SH, w1)) rfl ?_
              refine EV.callF (kc := 112) (av := [.ref 1]) (r := []) (rv := none) (w2 := (G_112_1 w1)) cl_68 rfl rfl rfl (m_112_1 w1 ) ?_
              refine EV.steps cl_68 2 (q2 := (90, [some (.ref 79), some (.int v1), some (.int (F_110_1 w1))], [.int v1, .ref 79], SH, (G_112_1 w1))) rfl ?_
              refine EV.call (kc := 70) (av := [.ref 79, .int v1]) (r := []) cl_68 rfl rfl rfl H ?_
              clear H; intro y4 s4 w4 e4
              obtain ⟨x4, rfl, rfl, H⟩ := e4
              refine EV.z_ne cl_68 rfl (fun h14 => ?_) (fun h14 => ?_)
              · skip
                rw [if_neg h14] at H
                refine EV.steps cl_68 4 (q2 := (104, [some (.ref 79), some (.int v1), some (.int (F_110_1 w1))], [.int (kI 0), .int (F_110_1 w1), .ref 29], SH, w4)) rfl ?_
                obtain ⟨j15, H⟩ := H
                refine EV.callF (kc := 78) (av := [.ref 29, .int (F_110_1 w1), .int (kI 0)]) (r := []) (rv := some (.int (F_78_29 (F_110_1 w1) (kI 0) w4))) (w2 := (G_78_29 (F_110_1 w1) (kI 0) w4)) cl_68 rfl rfl rfl (m_78_29 w4 (F_110_1 w1) (kI 0) j15) ?_
                refine EV.steps cl_68 2 (q2 := (109, [some (.ref 79), some (.int v1), some (.int (F_110_1 w1))], [.int (kI 1)], SH, (G_78_29 (F_110_1 w1) (kI 0) w4))) rfl ?_
                refine EV.ret cl_68 rfl rfl rfl ?_
                exact ⟨_, rfl, rfl, H⟩
              · skip
                rw [if_pos h14] at H
                refine EV.steps cl_68 1 (q2 := (97, [some (.ref 79), some (.int v1), some (.int (F_110_1 w1))], [.int (kI 0)], SH, w4)) rfl ?_
                refine EV.ret cl_68 rfl rfl rfl ?_
                exact ⟨_, rfl, rfl, H⟩
            · skip
              rw [if_neg h13] at H
              refine EV.steps cl_68 3 (q2 := (77, [some (.ref 79), some (.int v1), some (.int (F_110_1 w1))], [.int (kI 1), .ref 1], SH, w1)) rfl ?_
              refine EV.callF (kc := 115) (av := [.ref 1, .int (kI 1)]) (r := []) (rv := some (.int (F_115_1 (kI 1) w1))) (w2 := (G_115_1 (kI 1) w1)) cl_68 rfl rfl rfl (m_115_1 w1 (kI 1)) ?_
              refine EV.retB cl_68 rfl rfl (z1_115_1 (kI 1) w1) ?_
              exact ⟨_, rfl, rfl, H⟩
      · skip
        rw [if_pos h5] at H
        refine EV.steps cl_68 1 (q2 := (45, [some (.ref 79), some (.int v1), none], [.int (kI 0)], SH, w1)) rfl ?_
        refine EV.ret cl_68 rfl rfl rfl ?_
        exact ⟨_, rfl, rfl, H⟩
    · skip
      rw [if_pos h4] at H
      refine EV.steps cl_68 2 (q2 := (32, [some (.ref 79), some (.int v1), none], [.int v1, .ref 79], SH, w)) rfl ?_
      refine EV.call (kc := 69) (av := [.ref 79, .int v1]) (r := []) cl_68 rfl rfl rfl H ?_
      clear H; intro y5 s5 w5 e5
      obtain ⟨x5, rfl, rfl, H⟩ := e5
      obtain ⟨j16, H⟩ := H
      refine EV.retB cl_68 rfl rfl j16 ?_
      exact ⟨_, rfl, rfl, H⟩
  · skip
    rw [if_pos h2] at H
    refine EV.steps cl_68 2 (q2 := (14, [some (.ref 79), some (.int v1), none], [.int v1, .ref 79], SH, w)) rfl ?_
    refine EV.call (kc := 65) (av := [.ref 79, .int v1]) (r := []) cl_68 rfl rfl rfl H ?_
    clear H; intro y6 s6 w6 e6
    obtain ⟨x6, rfl, rfl, H⟩ := e6
    obtain ⟨j17, H⟩ := H
    refine EV.retB cl_68 rfl rfl j17 ?_
    exact ⟨_, rfl, rfl, H⟩
