theorem t192_110_at0 {X : Scr} {d : Nat} {Q : Int32 → Wd → Prop} (w : Wd) 
    (H : CI X (d + 1) 188 [.ref 110] w (fun x1 w1 => (if x1 = 0 then Q (kI 0) w1 else ((¬ (w1 110 12) ≤ (w1 110 11) → (inB (w1 110 11) 260 = true)) ∧ (if (F_175_110 w1) = (kI 60) then CI X (d + 1) 188 [.ref 110] (up2 w1 110 11 ((w1 110 11) + (kI 1))) (fun x6 w6 => (if x6 = 0 then Q (kI 0) w6 else (((inB (w6 110 16) 260 = true)) ∧ CU X (d + 1) 189 [.ref 110] (G_180_110 (kI 7) (kI 0) w6) (fun w7 => Q (kI 1) w7)))) else ((¬ (w1 110 12) ≤ (w1 110 11) → (inB (w1 110 11) 260 = true)) ∧ (if (F_175_110 w1) = (kI 62) then CI X (d + 1) 188 [.ref 110] (up2 w1 110 11 ((w1 110 11) + (kI 1))) (fun x4 w4 => (if x4 = 0 then Q (kI 0) w4 else (((inB (w4 110 16) 260 = true)) ∧ CU X (d + 1) 189 [.ref 110] (G_180_110 (kI 8) (kI 0) w4) (fun w5 => Q (kI 1) w5)))) else ((¬ (w1 110 12) ≤ (w1 110 11) → (inB (w1 110 11) 260 = true)) ∧ (if (F_175_110 w1) = (kI 61) then CI X (d + 1) 188 [.ref 110] (up2 w1 110 11 ((w1 110 11) + (kI 1))) (fun x2 w2 => (if x2 = 0 then Q (kI 0) w2 else (((inB (w2 110 16) 260 = true)) ∧ CU X (d + 1) 189 [.ref 110] (G_180_110 (kI 9) (kI 0) w2) (fun w3 => Q (kI 1) w3)))) else Q (F_177_110 (kI 1) (w1 110 11) w1) (G_177_110 (kI 1) (w1 110 11) w1)))))))))) : EI X (d + 1) 192 (0, [some (.ref 110), none], [], SH, w) Q := by
  unfold EI
  refine EV.steps cl_192 1 (q2 := (1, [some (.ref 110), none], [.ref 110], SH, w)) rfl ?_
  refine EV.call (kc := 188) (av := [.ref 110]) (r := []) cl_192 rfl rfl rfl H ?_
  clear H; intro y1 s1 w1 e1
  obtain ⟨x1, rfl, rfl, H⟩ := e1
  refine EV.z_ne cl_192 rfl (fun h1 => ?_) (fun h1 => ?_)
  · skip
    rw [if_neg h1] at H
    refine EV.steps cl_192 1 (q2 := (10, [some (.ref 110), none], [.ref 110], SH, w1)) rfl ?_
    obtain ⟨j2, H⟩ := H
    refine EV.callF (kc := 175) (av := [.ref 110]) (r := []) (rv := some (.int (F_175_110 w1))) (w2 := w1) cl_192 rfl rfl rfl (m_175_110 w1  j2) ?_
    refine EV.steps cl_192 1 (q2 := (15, [some (.ref 110), none], [.int (kI 60), .int (F_175_110 w1)], SH, w1)) rfl ?_
    refine EV.i_ne cl_192 rfl (fun h3 => ?_) (fun h3 => ?_)
    · skip
      rw [if_neg h3] at H
      refine EV.steps cl_192 1 (q2 := (24, [some (.ref 110), none], [.ref 110], SH, w1)) rfl ?_
      obtain ⟨j4, H⟩ := H
      refine EV.callF (kc := 175) (av := [.ref 110]) (r := []) (rv := some (.int (F_175_110 w1))) (w2 := w1) cl_192 rfl rfl rfl (m_175_110 w1  j4) ?_
      refine EV.steps cl_192 1 (q2 := (29, [some (.ref 110), none], [.int (kI 62), .int (F_175_110 w1)], SH, w1)) rfl ?_
      refine EV.i_ne cl_192 rfl (fun h5 => ?_) (fun h5 => ?_)
      · skip
        rw [if_neg h5] at H
        refine EV.steps cl_192 1 (q2 := (38, [some (.ref 110), none], [.ref 110], SH, w1)) rfl ?_
        obtain ⟨j6, H⟩ := H
        refine EV.callF (kc := 175) (av := [.ref 110]) (r := []) (rv := some (.int (F_175_110 w1))) (w2 := w1) cl_192 rfl rfl rfl (m_175_110 w1  j6) ?_
        refine EV.steps cl_192 1 (q2 := (43, [some (.ref 110), none], [.int (kI 61), .int (F_175_110 w1)], SH, w1)) rfl ?_
        refine EV.i_ne cl_192 rfl (fun h7 => ?_) (fun h7 => ?_)
        · skip
          rw [if_neg h7] at H
          refine EV.steps cl_192 9 (q2 := (64, [some (.ref 110), some (.int (kI (-1)))], [.int (w1 110 11), .int (kI 1), .ref 110], SH, w1)) rfl ?_
          refine EV.callF (kc := 177) (av := [.ref 110, .int (kI 1), .int (w1 110 11)]) (r := []) (rv := some (.int (F_177_110 (kI 1) (w1 110 11) w1))) (w2 := (G_177_110 (kI 1) (w1 110 11) w1)) cl_192 rfl rfl rfl (m_177_110 w1 (kI 1) (w1 110 11)) ?_
          refine EV.retB cl_192 rfl rfl (z1_177_110 (kI 1) (w1 110 11) w1) ?_
          exact ⟨_, rfl, rfl, H⟩
        · skip
          rw [if_pos h7] at H
          refine EV.steps cl_192 13 (q2 := (79, [some (.ref 110), some (.int (kI 9))], [.ref 110], SH, (up2 w1 110 11 ((w1 110 11) + (kI 1))))) rfl ?_
          refine EV.call (kc := 188) (av := [.ref 110]) (r := []) cl_192 rfl rfl rfl H ?_
          clear H; intro y2 s2 w2 e2
          obtain ⟨x2, rfl, rfl, H⟩ := e2
          refine EV.z_ne cl_192 rfl (fun h8 => ?_) (fun h8 => ?_)
          · skip
            rw [if_neg h8] at H
            refine EV.steps cl_192 3 (q2 := (90, [some (.ref 110), some (.int (kI 9))], [.int (kI 0), .int (kI 9), .ref 110], SH, w2)) rfl ?_
            obtain ⟨j9, H⟩ := H
            refine EV.callF (kc := 180) (av := [.ref 110, .int (kI 9), .int (kI 0)]) (r := []) (rv := none) (w2 := (G_180_110 (kI 9) (kI 0) w2)) cl_192 rfl rfl rfl (m_180_110 w2 (kI 9) (kI 0) j9) ?_
            refine EV.steps cl_192 1 (q2 := (94, [some (.ref 110), some (.int (kI 9))], [.ref 110], SH, (G_180_110 (kI 9) (kI 0) w2))) rfl ?_
            refine EV.call (kc := 189) (av := [.ref 110]) (r := []) cl_192 rfl rfl rfl H ?_
            clear H; intro y3 s3 w3 e3
            obtain ⟨rfl, rfl, H⟩ := e3
            refine EV.steps cl_192 1 (q2 := (98, [some (.ref 110), some (.int (kI 9))], [.int (kI 1)], SH, w3)) rfl ?_
            refine EV.ret cl_192 rfl rfl rfl ?_
            exact ⟨_, rfl, rfl, H⟩
          · skip
            rw [if_pos h8] at H
            refine EV.steps cl_192 1 (q2 := (86, [some (.ref 110), some (.int (kI 9))], [.int (kI 0)], SH, w2)) rfl ?_
            refine EV.ret cl_192 rfl rfl rfl ?_
            exact ⟨_, rfl, rfl, H⟩
      · skip
        rw [if_pos h5] at H
        refine EV.steps cl_192 13 (q2 := (79, [some (.ref 110), some (.int (kI 8))], [.ref 110], SH, (up2 w1 110 11 ((w1 110 11) + (kI 1))))) rfl ?_
        refine EV.call (kc := 188) (av := [.ref 110]) (r := []) cl_192 rfl rfl rfl H ?_
        clear H; intro y4 s4 w4 e4
        obtain ⟨x4, rfl, rfl, H⟩ := e4
        refine EV.z_ne cl_192 rfl (fun h10 => ?_) (fun h10 => ?_)
        · skip
          rw [if_neg h10] at H
          refine EV.steps cl_192 3 (q2 := (90, [some (.ref 110), some (.int (kI 8))], [.int (kI 0), .int (kI 8), .ref 110], SH, w4)) rfl ?_
          obtain ⟨j11, H⟩ := H
          refine EV.callF (kc := 180) (av := [.ref 110, .int (kI 8), .int (kI 0)]) (r := []) (rv := none) (w2 := (G_180_110 (kI 8) (kI 0) w4)) cl_192 rfl rfl rfl (m_180_110 w4 (kI 8) (kI 0) j11) ?_
          refine EV.steps cl_192 1 (q2 := (94, [some (.ref 110), some (.int (kI 8))], [.ref 110], SH, (G_180_110 (kI 8) (kI 0) w4))) rfl ?_
          refine EV.call (kc := 189) (av := [.ref 110]) (r := []) cl_192 rfl rfl rfl H ?_
          clear H; intro y5 s5 w5 e5
          obtain ⟨rfl, rfl, H⟩ := e5
          refine EV.steps cl_192 1 (q2 := (98, [some (.ref 110), some (.int (kI 8))], [.int (kI 1)], SH, w5)) rfl ?_
          refine EV.ret cl_192 rfl rfl rfl ?_
          exact ⟨_, rfl, rfl, H⟩
        · skip
          rw [if_pos h10] at H
          refine EV.steps cl_192 1 (q2 := (86, [some (.ref 110), some (.int (kI 8))], [.int (kI 0)], SH, w4)) rfl ?_
          refine EV.ret cl_192 rfl rfl rfl ?_
          exact ⟨_, rfl, rfl, H⟩
    · skip
      rw [if_pos h3] at H
      refine EV.steps cl_192 13 (q2 := (79, [some (.ref 110), some (.int (kI 7))], [.ref 110], SH, (up2 w1 110 11 ((w1 110 11) + (kI 1))))) rfl ?_
      refine EV.call (kc := 188) (av := [.ref 110]) (r := []) cl_192 rfl rfl rfl H ?_
      clear H; intro y6 s6 w6 e6
      obtain ⟨x6, rfl, rfl, H⟩ := e6
      refine EV.z_ne cl_192 rfl (fun h12 => ?_) (fun h12 => ?_)
      · skip
        rw [if_neg h12] at H
        refine EV.steps cl_192 3 (q2 := (90, [some (.ref 110), some (.int (kI 7))], [.int (kI 0), .int (kI 7), .ref 110], SH, w6)) rfl ?_
        obtain ⟨j13, H⟩ := H
        refine EV.callF (kc := 180) (av := [.ref 110, .int (kI 7), .int (kI 0)]) (r := []) (rv := none) (w2 := (G_180_110 (kI 7) (kI 0) w6)) cl_192 rfl rfl rfl (m_180_110 w6 (kI 7) (kI 0) j13) ?_
        refine EV.steps cl_192 1 (q2 := (94, [some (.ref 110), some (.int (kI 7))], [.ref 110], SH, (G_180_110 (kI 7) (kI 0) w6))) rfl ?_
        refine EV.call (kc := 189) (av := [.ref 110]) (r := []) cl_192 rfl rfl rfl H ?_
        clear H; intro y7 s7 w7 e7
        obtain ⟨rfl, rfl, H⟩ := e7
        refine EV.steps cl_192 1 (q2 := (98, [some (.ref 110), some (.int (kI 7))], [.int (kI 1)], SH, w7)) rfl ?_
        refine EV.ret cl_192 rfl rfl rfl ?_
        exact ⟨_, rfl, rfl, H⟩
      · skip
        rw [if_pos h12] at H
        refine EV.steps cl_192 1 (q2 := (86, [some (.ref 110), some (.int (kI 7))], [.int (kI 0)], SH, w6)) rfl ?_
        refine EV.ret cl_192 rfl rfl rfl ?_
        exact ⟨_, rfl, rfl, H⟩
  · skip
    rw [if_pos h1] at H
    refine EV.steps cl_192 1 (q2 := (8, [some (.ref 110), none], [.int (kI 0)], SH, w1)) rfl ?_
    refine EV.ret cl_192 rfl rfl rfl ?_
    exact ⟨_, rfl, rfl, H⟩
theorem t193_110_at0 {X : Scr} {d : Nat} {Q : Int32 → Wd → Prop} (w : Wd) 
    (H : ((¬ (w 110 12) ≤ (w 110 11) → (inB (w 110 11) 260 = true)) ∧ (if (F_175_110 w) = (kI 40) then ((¬ ((up2 (up2 w 110 15 (kI 0)) 110 17 (kI 0)) 110 15) = (kI 6) → (inB ((up2 (up2 w 110 15 (kI 0)) 110 17 (kI 0)) 110 17) 260 = true)) ∧ (if (F_181_110 (kI 13) (up2 (up2 w 110 15 (kI 0)) 110 17 (kI 0))) = 0 then Q (kI 0) (G_181_110 (kI 13) (up2 (up2 w 110 15 (kI 0)) 110 17 (kI 0))) else EI X (d + 2) 193 (40, [some (.ref 110)], [], SH, (G_181_110 (kI 13) (up2 (up2 w 110 15 (kI 0)) 110 17 (kI 0)))) Q)) else Q (F_177_110 (kI 1) (w 110 11) w) (G_177_110 (kI 1) (w 110 11) w)))) : EI X (d + 2) 193 (0, [some (.ref 110)], [], SH, w) Q := by
  unfold EI
  refine EV.steps cl_193 1 (q2 := (1, [some (.ref 110)], [.ref 110], SH, w)) rfl ?_
  obtain ⟨j1, H⟩ := H
  refine EV.callF (kc := 175) (av := [.ref 110]) (r := []) (rv := some (.int (F_175_110 w))) (w2 := w) cl_193 rfl rfl rfl (m_175_110 w  j1) ?_
  refine EV.steps cl_193 1 (q2 := (6, [some (.ref 110)], [.int (kI 40), .int (F_175_110 w)], SH, w)) rfl ?_
  refine EV.i_eq cl_193 rfl (fun h2 => ?_) (fun h2 => ?_)
  · skip
    rw [if_pos h2] at H
    refine EV.steps cl_193 8 (q2 := (32, [some (.ref 110)], [.int (kI 13), .ref 110], SH, (up2 (up2 w 110 15 (kI 0)) 110 17 (kI 0)))) rfl ?_
    obtain ⟨j3, H⟩ := H
    refine EV.callF (kc := 181) (av := [.ref 110, .int (kI 13)]) (r := []) (rv := some (.int (F_181_110 (kI 13) (up2 (up2 w 110 15 (kI 0)) 110 17 (kI 0))))) (w2 := (G_181_110 (kI 13) (up2 (up2 w 110 15 (kI 0)) 110 17 (kI 0)))) cl_193 rfl rfl rfl (m_181_110 (up2 (up2 w 110 15 (kI 0)) 110 17 (kI 0)) (kI 13) j3) ?_
    refine EV.z_ne cl_193 rfl (fun h4 => ?_) (fun h4 => ?_)
    · skip
      rw [if_neg h4] at H
      exact H
    · skip
      rw [if_pos h4] at H
      refine EV.steps cl_193 1 (q2 := (39, [some (.ref 110)], [.int (kI 0)], SH, (G_181_110 (kI 13) (up2 (up2 w 110 15 (kI 0)) 110 17 (kI 0))))) rfl ?_
      refine EV.ret cl_193 rfl rfl rfl ?_
      exact ⟨_, rfl, rfl, H⟩
  · skip
    rw [if_neg h2] at H
    refine EV.steps cl_193 4 (q2 := (15, [some (.ref 110)], [.int (w 110 11), .int (kI 1), .ref 110], SH, w)) rfl ?_
    refine EV.callF (kc := 177) (av := [.ref 110, .int (kI 1), .int (w 110 11)]) (r := []) (rv := some (.int (F_177_110 (kI 1) (w 110 11) w))) (w2 := (G_177_110 (kI 1) (w 110 11) w)) cl_193 rfl rfl rfl (m_177_110 w (kI 1) (w 110 11)) ?_
    refine EV.retB cl_193 rfl rfl (z1_177_110 (kI 1) (w 110 11) w) ?_
    exact ⟨_, rfl, rfl, H⟩
theorem t193_110_at40 {X : Scr} {d : Nat} {Q : Int32 → Wd → Prop} (w : Wd) 
    (H : ((¬ (w 110 12) ≤ (w 110 11) → (inB (w 110 11) 260 = true)) ∧ (if (F_175_110 w) = (kI 33) then ((¬ (w 110 12) ≤ (w 110 11) → (inB (w 110 11) 260 = true)) ∧ ((¬ (w 110 15) = (kI 6) → (inB (w 110 17) 260 = true)) ∧ (if (F_181_110 (kI 10) w) = 0 then Q (kI 0) (G_181_110 (kI 10) w) else EI X (d + 2) 193 (40, [some (.ref 110)], [], SH, (G_181_110 (kI 10) w)) Q))) else ((¬ (w 110 12) ≤ (w 110 11) → (inB (w 110 11) 260 = true)) ∧ (if (F_175_110 w) = (kI 40) then ((¬ (w 110 12) ≤ (w 110 11) → (inB (w 110 11) 260 = true)) ∧ ((¬ (w 110 15) = (kI 6) → (inB (w 110 17) 260 = true)) ∧ (if (F_181_110 (kI 13) w) = 0 then Q (kI 0) (G_181_110 (kI 13) w) else EI X (d + 2) 193 (40, [some (.ref 110)], [], SH, (G_181_110 (kI 13) w)) Q))) else CI X (d + 2) 192 [.ref 110] w (fun x1 w1 => (if x1 = 0 then Q (kI 0) w1 else EI X (d + 2) 193 (92, [some (.ref 110)], [], SH, w1) Q))))))) : EI X (d + 2) 193 (40, [some (.ref 110)], [], SH, w) Q := by
  unfold EI
  refine EV.steps cl_193 1 (q2 := (41, [some (.ref 110)], [.ref 110], SH, w)) rfl ?_
  obtain ⟨j1, H⟩ := H
  refine EV.callF (kc := 175) (av := [.ref 110]) (r := []) (rv := some (.int (F_175_110 w))) (w2 := w) cl_193 rfl rfl rfl (m_175_110 w  j1) ?_
  refine EV.steps cl_193 1 (q2 := (46, [some (.ref 110)], [.int (kI 33), .int (F_175_110 w)], SH, w)) rfl ?_
  refine EV.i_eq cl_193 rfl (fun h2 => ?_) (fun h2 => ?_)
  · skip
    rw [if_pos h2] at H
    refine EV.steps cl_193 2 (q2 := (60, [some (.ref 110)], [.ref 110, .ref 110], SH, w)) rfl ?_
    obtain ⟨j3, H⟩ := H
    refine EV.callF (kc := 175) (av := [.ref 110]) (r := [.ref 110]) (rv := some (.int (F_175_110 w))) (w2 := w) cl_193 rfl rfl rfl (m_175_110 w  j3) ?_
    refine EV.steps cl_193 1 (q2 := (65, [some (.ref 110)], [.int (kI 33), .int (F_175_110 w), .ref 110], SH, w)) rfl ?_
    refine EV.i_ne cl_193 rfl (fun h4 => ?_) (fun h4 => ?_)
    · skip
      exact absurd h2 h4
    · skip
      refine EV.steps cl_193 2 (q2 := (75, [some (.ref 110)], [.int (kI 10), .ref 110], SH, w)) rfl ?_
      obtain ⟨j5, H⟩ := H
      refine EV.callF (kc := 181) (av := [.ref 110, .int (kI 10)]) (r := []) (rv := some (.int (F_181_110 (kI 10) w))) (w2 := (G_181_110 (kI 10) w)) cl_193 rfl rfl rfl (m_181_110 w (kI 10) j5) ?_
      refine EV.z_ne cl_193 rfl (fun h6 => ?_) (fun h6 => ?_)
      · skip
        rw [if_neg h6] at H
        exact H
      · skip
        rw [if_pos h6] at H
        refine EV.steps cl_193 1 (q2 := (82, [some (.ref 110)], [.int (kI 0)], SH, (G_181_110 (kI 10) w))) rfl ?_
        refine EV.ret cl_193 rfl rfl rfl ?_
        exact ⟨_, rfl, rfl, H⟩
  · skip
    rw [if_neg h2] at H
    refine EV.steps cl_193 1 (q2 := (50, [some (.ref 110)], [.ref 110], SH, w)) rfl ?_
    obtain ⟨j7, H⟩ := H
    refine EV.callF (kc := 175) (av := [.ref 110]) (r := []) (rv := some (.int (F_175_110 w))) (w2 := w) cl_193 rfl rfl rfl (m_175_110 w  j7) ?_
    refine EV.steps cl_193 1 (q2 := (55, [some (.ref 110)], [.int (kI 40), .int (F_175_110 w)], SH, w)) rfl ?_
    refine EV.i_ne cl_193 rfl (fun h8 => ?_) (fun h8 => ?_)
    · skip
      rw [if_neg h8] at H
      refine EV.steps cl_193 1 (q2 := (84, [some (.ref 110)], [.ref 110], SH, w)) rfl ?_
      refine EV.call (kc := 192) (av := [.ref 110]) (r := []) cl_193 rfl rfl rfl H ?_
      clear H; intro y1 s1 w1 e1
      obtain ⟨x1, rfl, rfl, H⟩ := e1
      refine EV.z_ne cl_193 rfl (fun h9 => ?_) (fun h9 => ?_)
      · skip
        rw [if_neg h9] at H
        exact H
      · skip
        rw [if_pos h9] at H
        refine EV.steps cl_193 1 (q2 := (91, [some (.ref 110)], [.int (kI 0)], SH, w1)) rfl ?_
        refine EV.ret cl_193 rfl rfl rfl ?_
        exact ⟨_, rfl, rfl, H⟩
    · skip
      rw [if_pos h8] at H
      refine EV.steps cl_193 2 (q2 := (60, [some (.ref 110)], [.ref 110, .ref 110], SH, w)) rfl ?_
      obtain ⟨j10, H⟩ := H
      refine EV.callF (kc := 175) (av := [.ref 110]) (r := [.ref 110]) (rv := some (.int (F_175_110 w))) (w2 := w) cl_193 rfl rfl rfl (m_175_110 w  j10) ?_
      refine EV.steps cl_193 1 (q2 := (65, [some (.ref 110)], [.int (kI 33), .int (F_175_110 w), .ref 110], SH, w)) rfl ?_
      refine EV.i_ne cl_193 rfl (fun h11 => ?_) (fun h11 => ?_)
      · skip
        refine EV.steps cl_193 1 (q2 := (75, [some (.ref 110)], [.int (kI 13), .ref 110], SH, w)) rfl ?_
        obtain ⟨j12, H⟩ := H
        refine EV.callF (kc := 181) (av := [.ref 110, .int (kI 13)]) (r := []) (rv := some (.int (F_181_110 (kI 13) w))) (w2 := (G_181_110 (kI 13) w)) cl_193 rfl rfl rfl (m_181_110 w (kI 13) j12) ?_
        refine EV.z_ne cl_193 rfl (fun h13 => ?_) (fun h13 => ?_)
        · skip
          rw [if_neg h13] at H
          exact H
        · skip
          rw [if_pos h13] at H
          refine EV.steps cl_193 1 (q2 := (82, [some (.ref 110)], [.int (kI 0)], SH, (G_181_110 (kI 13) w))) rfl ?_
          refine EV.ret cl_193 rfl rfl rfl ?_
          exact ⟨_, rfl, rfl, H⟩
      · skip
        exact absurd h11 h2
theorem t193_110_at92 {X : Scr} {d : Nat} {Q : Int32 → Wd → Prop} (w : Wd) 
    (H : ((¬ (w 110 12) ≤ (w 110 11) → (inB (w 110 11) 260 = true)) ∧ (if (F_175_110 w) = (kI 41) then CU X (d + 2) 190 [.ref 110, .int (kI 1)] w (fun w4 => (if ((w4 110 17) - (kI 1)) = 0 then Q (kI 1) (up2 (up2 (up2 w4 110 17 ((w4 110 17) - (kI 1))) 110 15 ((w4 110 15) - (kI 1))) 110 11 ((w4 110 11) + (kI 1))) else CU X (d + 2) 189 [.ref 110] (up2 (up2 (up2 w4 110 17 ((w4 110 17) - (kI 1))) 110 15 ((w4 110 15) - (kI 1))) 110 11 ((w4 110 11) + (kI 1))) (fun w5 => EI X (d + 2) 193 (92, [some (.ref 110)], [], SH, w5) Q))) else ((¬ (w 110 12) ≤ (w 110 11) → (inB (w 110 11) 260 = true)) ∧ (if (F_175_110 w) = (kI 38) then ((¬ (w 110 12) ≤ (w 110 11) → (inB (w 110 11) 260 = true)) ∧ (if (F_175_110 w) = (kI 124) then CU X (d + 2) 190 [.ref 110, .int (kI 1)] w (fun w2 => ((¬ (w2 110 12) ≤ (w2 110 11) → (inB (w2 110 11) 260 = true)) ∧ (if (F_175_110 w2) = (kI 38) then (((inB (w2 110 17) 260 = true)) ∧ ((((inB ((up2 (up2 w2 119 (w2 110 17).toNatClampNeg (((kI 1048576) * (kI 11)) + (w2 110 16))) 110 17 ((w2 110 17) + (kI 1))) 110 16) 260 = true))) ∧ EI X (d + 2) 193 (40, [some (.ref 110)], [], SH, (G_191_110 (kI 11) w2)) Q)) else (((inB (w2 110 17) 260 = true)) ∧ ((((inB ((up2 (up2 w2 119 (w2 110 17).toNatClampNeg (((kI 1048576) * (kI 12)) + (w2 110 16))) 110 17 ((w2 110 17) + (kI 1))) 110 16) 260 = true))) ∧ EI X (d + 2) 193 (40, [some (.ref 110)], [], SH, (G_191_110 (kI 12) w2)) Q))))) else CU X (d + 2) 190 [.ref 110, .int (kI 0)] w (fun w1 => ((¬ (w1 110 12) ≤ (w1 110 11) → (inB (w1 110 11) 260 = true)) ∧ (if (F_175_110 w1) = (kI 38) then (((inB (w1 110 17) 260 = true)) ∧ ((((inB ((up2 (up2 w1 119 (w1 110 17).toNatClampNeg (((kI 1048576) * (kI 11)) + (w1 110 16))) 110 17 ((w1 110 17) + (kI 1))) 110 16) 260 = true))) ∧ EI X (d + 2) 193 (40, [some (.ref 110)], [], SH, (G_191_110 (kI 11) w1)) Q)) else (((inB (w1 110 17) 260 = true)) ∧ ((((inB ((up2 (up2 w1 119 (w1 110 17).toNatClampNeg (((kI 1048576) * (kI 12)) + (w1 110 16))) 110 17 ((w1 110 17) + (kI 1))) 110 16) 260 = true))) ∧ EI X (d + 2) 193 (40, [some (.ref 110)], [], SH, (G_191_110 (kI 12) w1)) Q))))))) else ((¬ (w 110 12) ≤ (w 110 11) → (inB (w 110 11) 260 = true)) ∧ (if (F_175_110 w) = (kI 124) then ((¬ (w 110 12) ≤ (w 110 11) → (inB (w 110 11) 260 = true)) ∧ CU X (d + 2) 190 [.ref 110, .int (kI 1)] w (fun w3 => ((¬ (w3 110 12) ≤ (w3 110 11) → (inB (w3 110 11) 260 = true)) ∧ (if (F_175_110 w3) = (kI 38) then (((inB (w3 110 17) 260 = true)) ∧ ((((inB ((up2 (up2 w3 119 (w3 110 17).toNatClampNeg (((kI 1048576) * (kI 11)) + (w3 110 16))) 110 17 ((w3 110 17) + (kI 1))) 110 16) 260 = true))) ∧ EI X (d + 2) 193 (40, [some (.ref 110)], [], SH, (G_191_110 (kI 11) w3)) Q)) else (((inB (w3 110 17) 260 = true)) ∧ ((((inB ((up2 (up2 w3 119 (w3 110 17).toNatClampNeg (((kI 1048576) * (kI 12)) + (w3 110 16))) 110 17 ((w3 110 17) + (kI 1))) 110 16) 260 = true))) ∧ EI X (d + 2) 193 (40, [some (.ref 110)], [], SH, (G_191_110 (kI 12) w3)) Q)))))) else Q (F_177_110 (kI 1) (w 110 11) w) (G_177_110 (kI 1) (w 110 11) w)))))))) : EI X (d + 2) 193 (92, [some (.ref 110)], [], SH, w) Q := by
  unfold EI
  refine EV.steps cl_193 1 (q2 := (93, [some (.ref 110)], [.ref 110], SH, w)) rfl ?_
  obtain ⟨j1, H⟩ := H
  refine EV.callF (kc := 175) (av := [.ref 110]) (r := []) (rv := some (.int (F_175_110 w))) (w2 := w) cl_193 rfl rfl rfl (m_175_110 w  j1) ?_
  refine EV.steps cl_193 1 (q2 := (98, [some (.ref 110)], [.int (kI 41), .int (F_175_110 w)], SH, w)) rfl ?_
  refine EV.i_ne cl_193 rfl (fun h2 => ?_) (fun h2 => ?_)
  · skip
    rw [if_neg h2] at H
    refine EV.steps cl_193 1 (q2 := (153, [some (.ref 110)], [.ref 110], SH, w)) rfl ?_
    obtain ⟨j3, H⟩ := H
    refine EV.callF (kc := 175) (av := [.ref 110]) (r := []) (rv := some (.int (F_175_110 w))) (w2 := w) cl_193 rfl rfl rfl (m_175_110 w  j3) ?_
    refine EV.steps cl_193 1 (q2 := (158, [some (.ref 110)], [.int (kI 38), .int (F_175_110 w)], SH, w)) rfl ?_
    refine EV.i_eq cl_193 rfl (fun h4 => ?_) (fun h4 => ?_)
    · skip
      rw [if_pos h4] at H
      refine EV.steps cl_193 2 (q2 := (182, [some (.ref 110)], [.ref 110, .ref 110], SH, w)) rfl ?_
      obtain ⟨j5, H⟩ := H
      refine EV.callF (kc := 175) (av := [.ref 110]) (r := [.ref 110]) (rv := some (.int (F_175_110 w))) (w2 := w) cl_193 rfl rfl rfl (m_175_110 w  j5) ?_
      refine EV.steps cl_193 1 (q2 := (187, [some (.ref 110)], [.int (kI 124), .int (F_175_110 w), .ref 110], SH, w)) rfl ?_
      refine EV.i_ne cl_193 rfl (fun h6 => ?_) (fun h6 => ?_)
      · skip
        rw [if_neg h6] at H
        refine EV.steps cl_193 1 (q2 := (195, [some (.ref 110)], [.int (kI 0), .ref 110], SH, w)) rfl ?_
        refine EV.call (kc := 190) (av := [.ref 110, .int (kI 0)]) (r := []) cl_193 rfl rfl rfl H ?_
        clear H; intro y1 s1 w1 e1
        obtain ⟨rfl, rfl, H⟩ := e1
        refine EV.steps cl_193 2 (q2 := (200, [some (.ref 110)], [.ref 110, .ref 110], SH, w1)) rfl ?_
        obtain ⟨j7, H⟩ := H
        refine EV.callF (kc := 175) (av := [.ref 110]) (r := [.ref 110]) (rv := some (.int (F_175_110 w1))) (w2 := w1) cl_193 rfl rfl rfl (m_175_110 w1  j7) ?_
        refine EV.steps cl_193 1 (q2 := (205, [some (.ref 110)], [.int (kI 38), .int (F_175_110 w1), .ref 110], SH, w1)) rfl ?_
        refine EV.i_ne cl_193 rfl (fun h8 => ?_) (fun h8 => ?_)
        · skip
          rw [if_neg h8] at H
          refine EV.steps cl_193 1 (q2 := (215, [some (.ref 110)], [.int (kI 12), .ref 110], SH, w1)) rfl ?_
          obtain ⟨j9, H⟩ := H
          obtain ⟨j10, H⟩ := H
          refine EV.callF (kc := 191) (av := [.ref 110, .int (kI 12)]) (r := []) (rv := none) (w2 := (G_191_110 (kI 12) w1)) cl_193 rfl rfl rfl (m_191_110 w1 (kI 12) j9 j10) ?_
          refine EV.steps cl_193 1 (q2 := (40, [some (.ref 110)], [], SH, (G_191_110 (kI 12) w1))) rfl ?_
          exact H
        · skip
          rw [if_pos h8] at H
          refine EV.steps cl_193 2 (q2 := (215, [some (.ref 110)], [.int (kI 11), .ref 110], SH, w1)) rfl ?_
          obtain ⟨j11, H⟩ := H
          obtain ⟨j12, H⟩ := H
          refine EV.callF (kc := 191) (av := [.ref 110, .int (kI 11)]) (r := []) (rv := none) (w2 := (G_191_110 (kI 11) w1)) cl_193 rfl rfl rfl (m_191_110 w1 (kI 11) j11 j12) ?_
          refine EV.steps cl_193 1 (q2 := (40, [some (.ref 110)], [], SH, (G_191_110 (kI 11) w1))) rfl ?_
          exact H
      · skip
        rw [if_pos h6] at H
        refine EV.steps cl_193 2 (q2 := (195, [some (.ref 110)], [.int (kI 1), .ref 110], SH, w)) rfl ?_
        refine EV.call (kc := 190) (av := [.ref 110, .int (kI 1)]) (r := []) cl_193 rfl rfl rfl H ?_
        clear H; intro y2 s2 w2 e2
        obtain ⟨rfl, rfl, H⟩ := e2
        refine EV.steps cl_193 2 (q2 := (200, [some (.ref 110)], [.ref 110, .ref 110], SH, w2)) rfl ?_
        obtain ⟨j13, H⟩ := H
        refine EV.callF (kc := 175) (av := [.ref 110]) (r := [.ref 110]) (rv := some (.int (F_175_110 w2))) (w2 := w2) cl_193 rfl rfl rfl (m_175_110 w2  j13) ?_
        refine EV.steps cl_193 1 (q2 := (205, [some (.ref 110)], [.int (kI 38), .int (F_175_110 w2), .ref 110], SH, w2)) rfl ?_
        refine EV.i_ne cl_193 rfl (fun h14 => ?_) (fun h14 => ?_)
        · skip
          rw [if_neg h14] at H
          refine EV.steps cl_193 1 (q2 := (215, [some (.ref 110)], [.int (kI 12), .ref 110], SH, w2)) rfl ?_
          obtain ⟨j15, H⟩ := H
          obtain ⟨j16, H⟩ := H
          refine EV.callF (kc := 191) (av := [.ref 110, .int (kI 12)]) (r := []) (rv := none) (w2 := (G_191_110 (kI 12) w2)) cl_193 rfl rfl rfl (m_191_110 w2 (kI 12) j15 j16) ?_
          refine EV.steps cl_193 1 (q2 := (40, [some (.ref 110)], [], SH, (G_191_110 (kI 12) w2))) rfl ?_
          exact H
        · skip
          rw [if_pos h14] at H
          refine EV.steps cl_193 2 (q2 := (215, [some (.ref 110)], [.int (kI 11), .ref 110], SH, w2)) rfl ?_
          obtain ⟨j17, H⟩ := H
          obtain ⟨j18, H⟩ := H
          refine EV.callF (kc := 191) (av := [.ref 110, .int (kI 11)]) (r := []) (rv := none) (w2 := (G_191_110 (kI 11) w2)) cl_193 rfl rfl rfl (m_191_110 w2 (kI 11) j17 j18) ?_
          refine EV.steps cl_193 1 (q2 := (40, [some (.ref 110)], [], SH, (G_191_110 (kI 11) w2))) rfl ?_
          exact H
    · skip
      rw [if_neg h4] at H
      refine EV.steps cl_193 1 (q2 := (162, [some (.ref 110)], [.ref 110], SH, w)) rfl ?_
      obtain ⟨j19, H⟩ := H
      refine EV.callF (kc := 175) (av := [.ref 110]) (r := []) (rv := some (.int (F_175_110 w))) (w2 := w) cl_193 rfl rfl rfl (m_175_110 w  j19) ?_
      refine EV.steps cl_193 1 (q2 := (167, [some (.ref 110)], [.int (kI 124), .int (F_175_110 w)], SH, w)) rfl ?_
      refine EV.i_eq cl_193 rfl (fun h20 => ?_) (fun h20 => ?_)
      · skip
        rw [if_pos h20] at H
        refine EV.steps cl_193 2 (q2 := (182, [some (.ref 110)], [.ref 110, .ref 110], SH, w)) rfl ?_
        obtain ⟨j21, H⟩ := H
        refine EV.callF (kc := 175) (av := [.ref 110]) (r := [.ref 110]) (rv := some (.int (F_175_110 w))) (w2 := w) cl_193 rfl rfl rfl (m_175_110 w  j21) ?_
        refine EV.steps cl_193 1 (q2 := (187, [some (.ref 110)], [.int (kI 124), .int (F_175_110 w), .ref 110], SH, w)) rfl ?_
        refine EV.i_ne cl_193 rfl (fun h22 => ?_) (fun h22 => ?_)
        · skip
          exact absurd h20 h22
        · skip
          refine EV.steps cl_193 2 (q2 := (195, [some (.ref 110)], [.int (kI 1), .ref 110], SH, w)) rfl ?_
          refine EV.call (kc := 190) (av := [.ref 110, .int (kI 1)]) (r := []) cl_193 rfl rfl rfl H ?_
          clear H; intro y3 s3 w3 e3
          obtain ⟨rfl, rfl, H⟩ := e3
          refine EV.steps cl_193 2 (q2 := (200, [some (.ref 110)], [.ref 110, .ref 110], SH, w3)) rfl ?_
          obtain ⟨j23, H⟩ := H
          refine EV.callF (kc := 175) (av := [.ref 110]) (r := [.ref 110]) (rv := some (.int (F_175_110 w3))) (w2 := w3) cl_193 rfl rfl rfl (m_175_110 w3  j23) ?_
          refine EV.steps cl_193 1 (q2 := (205, [some (.ref 110)], [.int (kI 38), .int (F_175_110 w3), .ref 110], SH, w3)) rfl ?_
          refine EV.i_ne cl_193 rfl (fun h24 => ?_) (fun h24 => ?_)
          · skip
            rw [if_neg h24] at H
            refine EV.steps cl_193 1 (q2 := (215, [some (.ref 110)], [.int (kI 12), .ref 110], SH, w3)) rfl ?_
            obtain ⟨j25, H⟩ := H
            obtain ⟨j26, H⟩ := H
            refine EV.callF (kc := 191) (av := [.ref 110, .int (kI 12)]) (r := []) (rv := none) (w2 := (G_191_110 (kI 12) w3)) cl_193 rfl rfl rfl (m_191_110 w3 (kI 12) j25 j26) ?_
            refine EV.steps cl_193 1 (q2 := (40, [some (.ref 110)], [], SH, (G_191_110 (kI 12) w3))) rfl ?_
            exact H
          · skip
            rw [if_pos h24] at H
            refine EV.steps cl_193 2 (q2 := (215, [some (.ref 110)], [.int (kI 11), .ref 110], SH, w3)) rfl ?_
            obtain ⟨j27, H⟩ := H
            obtain ⟨j28, H⟩ := H
            refine EV.callF (kc := 191) (av := [.ref 110, .int (kI 11)]) (r := []) (rv := none) (w2 := (G_191_110 (kI 11) w3)) cl_193 rfl rfl rfl (m_191_110 w3 (kI 11) j27 j28) ?_
            refine EV.steps cl_193 1 (q2 := (40, [some (.ref 110)], [], SH, (G_191_110 (kI 11) w3))) rfl ?_
            exact H
      · skip
        rw [if_neg h20] at H
        refine EV.steps cl_193 4 (q2 := (176, [some (.ref 110)], [.int (w 110 11), .int (kI 1), .ref 110], SH, w)) rfl ?_
        refine EV.callF (kc := 177) (av := [.ref 110, .int (kI 1), .int (w 110 11)]) (r := []) (rv := some (.int (F_177_110 (kI 1) (w 110 11) w))) (w2 := (G_177_110 (kI 1) (w 110 11) w)) cl_193 rfl rfl rfl (m_177_110 w (kI 1) (w 110 11)) ?_
        refine EV.retB cl_193 rfl rfl (z1_177_110 (kI 1) (w 110 11) w) ?_
        exact ⟨_, rfl, rfl, H⟩
  · skip
    rw [if_pos h2] at H
    refine EV.steps cl_193 2 (q2 := (103, [some (.ref 110)], [.int (kI 1), .ref 110], SH, w)) rfl ?_
    refine EV.call (kc := 190) (av := [.ref 110, .int (kI 1)]) (r := []) cl_193 rfl rfl rfl H ?_
    clear H; intro y4 s4 w4 e4
    obtain ⟨rfl, rfl, H⟩ := e4
    refine EV.steps cl_193 20 (q2 := (140, [some (.ref 110)], [.int ((w4 110 17) - (kI 1))], SH, (up2 (up2 (up2 w4 110 17 ((w4 110 17) - (kI 1))) 110 15 ((w4 110 15) - (kI 1))) 110 11 ((w4 110 11) + (kI 1))))) rfl ?_
    refine EV.z_ne cl_193 rfl (fun h29 => ?_) (fun h29 => ?_)
    · skip
      rw [if_neg h29] at H
      refine EV.steps cl_193 1 (q2 := (146, [some (.ref 110)], [.ref 110], SH, (up2 (up2 (up2 w4 110 17 ((w4 110 17) - (kI 1))) 110 15 ((w4 110 15) - (kI 1))) 110 11 ((w4 110 11) + (kI 1))))) rfl ?_
      refine EV.call (kc := 189) (av := [.ref 110]) (r := []) cl_193 rfl rfl rfl H ?_
      clear H; intro y5 s5 w5 e5
      obtain ⟨rfl, rfl, H⟩ := e5
      refine EV.steps cl_193 1 (q2 := (92, [some (.ref 110)], [], SH, w5)) rfl ?_
      exact H
    · skip
      rw [if_pos h29] at H
      refine EV.steps cl_193 1 (q2 := (144, [some (.ref 110)], [.int (kI 1)], SH, (up2 (up2 (up2 w4 110 17 ((w4 110 17) - (kI 1))) 110 15 ((w4 110 15) - (kI 1))) 110 11 ((w4 110 11) + (kI 1))))) rfl ?_
      refine EV.ret cl_193 rfl rfl rfl ?_
      exact ⟨_, rfl, rfl, H⟩
theorem t194_110_at0 {X : Scr} {d : Nat} {Q : Int32 → Wd → Prop} (w : Wd) 
    (H : ((¬ (w 110 12) ≤ (w 110 11) → (inB (w 110 11) 260 = true)) ∧ (if (F_175_110 w) = (kI 110) then (if (w 110 18) = (kI 16) then Q (F_177_110 (kI 4) (w 110 11) w) (G_177_110 (kI 4) (w 110 11) w) else (inB (w 110 18) 16 = true ∧ (inB (w 110 18) 16 = true ∧ (if (F_175_110 w) = (kI 120) then (inB (w 110 18) 16 = true ∧ CI X (d + 1) 193 [.ref 110] (up2 (up2 (up2 (up2 (up2 (up2 w 120 (w 110 18).toNatClampNeg (F_175_110 w)) 110 11 ((w 110 11) + (kI 1))) 121 (w 110 18).toNatClampNeg (w 110 16)) 110 15 (kI 0)) 110 17 (kI 0)) 122 (w 110 18).toNatClampNeg (w 110 16)) (fun x1 w1 => (if x1 = 0 then Q (kI 0) w1 else (inB (w1 110 18) 16 = true ∧ Q (kI 1) (up2 (up2 w1 123 (w1 110 18).toNatClampNeg (w1 110 16)) 110 18 ((w1 110 18) + (kI 1))))))) else CI X (d + 1) 188 [.ref 110] (up2 (up2 (up2 (up2 (up2 w 120 (w 110 18).toNatClampNeg (F_175_110 w)) 110 11 ((w 110 11) + (kI 1))) 121 (w 110 18).toNatClampNeg (w 110 16)) 110 15 (kI 0)) 110 17 (kI 0)) (fun x2 w2 => (if x2 = 0 then Q (kI 0) w2 else (inB (w2 110 18) 16 = true ∧ CI X (d + 1) 193 [.ref 110] (up2 w2 122 (w2 110 18).toNatClampNeg (w2 110 16)) (fun x3 w3 => (if x3 = 0 then Q (kI 0) w3 else (inB (w3 110 18) 16 = true ∧ Q (kI 1) (up2 (up2 w3 123 (w3 110 18).toNatClampNeg (w3 110 16)) 110 18 ((w3 110 18) + (kI 1))))))))))))) else (if (F_175_110 w) = (kI 100) then (if (w 110 18) = (kI 16) then Q (F_177_110 (kI 4) (w 110 11) w) (G_177_110 (kI 4) (w 110 11) w) else (inB (w 110 18) 16 = true ∧ (inB (w 110 18) 16 = true ∧ (if (F_175_110 w) = (kI 120) then (inB (w 110 18) 16 = true ∧ CI X (d + 1) 193 [.ref 110] (up2 (up2 (up2 (up2 (up2 (up2 w 120 (w 110 18).toNatClampNeg (F_175_110 w)) 110 11 ((w 110 11) + (kI 1))) 121 (w 110 18).toNatClampNeg (w 110 16)) 110 15 (kI 0)) 110 17 (kI 0)) 122 (w 110 18).toNatClampNeg (w 110 16)) (fun x4 w4 => (if x4 = 0 then Q (kI 0) w4 else (inB (w4 110 18) 16 = true ∧ Q (kI 1) (up2 (up2 w4 123 (w4 110 18).toNatClampNeg (w4 110 16)) 110 18 ((w4 110 18) + (kI 1))))))) else CI X (d + 1) 188 [.ref 110] (up2 (up2 (up2 (up2 (up2 w 120 (w 110 18).toNatClampNeg (F_175_110 w)) 110 11 ((w 110 11) + (kI 1))) 121 (w 110 18).toNatClampNeg (w 110 16)) 110 15 (kI 0)) 110 17 (kI 0)) (fun x5 w5 => (if x5 = 0 then Q (kI 0) w5 else (inB (w5 110 18) 16 = true ∧ CI X (d + 1) 193 [.ref 110] (up2 w5 122 (w5 110 18).toNatClampNeg (w5 110 16)) (fun x6 w6 => (if x6 = 0 then Q (kI 0) w6 else (inB (w6 110 18) 16 = true ∧ Q (kI 1) (up2 (up2 w6 123 (w6 110 18).toNatClampNeg (w6 110 16)) 110 18 ((w6 110 18) + (kI 1))))))))))))) else (if (F_175_110 w) = (kI 107) then (if (w 110 18) = (kI 16) then Q (F_177_110 (kI 4) (w 110 11) w) (G_177_110 (kI 4) (w 110 11) w) else (inB (w 110 18) 16 = true ∧ (inB (w 110 18) 16 = true ∧ (if (F_175_110 w) = (kI 120) then (inB (w 110 18) 16 = true ∧ CI X (d + 1) 193 [.ref 110] (up2 (up2 (up2 (up2 (up2 (up2 w 120 (w 110 18).toNatClampNeg (F_175_110 w)) 110 11 ((w 110 11) + (kI 1))) 121 (w 110 18).toNatClampNeg (w 110 16)) 110 15 (kI 0)) 110 17 (kI 0)) 122 (w 110 18).toNatClampNeg (w 110 16)) (fun x7 w7 => (if x7 = 0 then Q (kI 0) w7 else (inB (w7 110 18) 16 = true ∧ Q (kI 1) (up2 (up2 w7 123 (w7 110 18).toNatClampNeg (w7 110 16)) 110 18 ((w7 110 18) + (kI 1))))))) else CI X (d + 1) 188 [.ref 110] (up2 (up2 (up2 (up2 (up2 w 120 (w 110 18).toNatClampNeg (F_175_110 w)) 110 11 ((w 110 11) + (kI 1))) 121 (w 110 18).toNatClampNeg (w 110 16)) 110 15 (kI 0)) 110 17 (kI 0)) (fun x8 w8 => (if x8 = 0 then Q (kI 0) w8 else (inB (w8 110 18) 16 = true ∧ CI X (d + 1) 193 [.ref 110] (up2 w8 122 (w8 110 18).toNatClampNeg (w8 110 16)) (fun x9 w9 => (if x9 = 0 then Q (kI 0) w9 else (inB (w9 110 18) 16 = true ∧ Q (kI 1) (up2 (up2 w9 123 (w9 110 18).toNatClampNeg (w9 110 16)) 110 18 ((w9 110 18) + (kI 1))))))))))))) else (if (F_175_110 w) = (kI 120) then (if (w 110 18) = (kI 16) then Q (F_177_110 (kI 4) (w 110 11) w) (G_177_110 (kI 4) (w 110 11) w) else (inB (w 110 18) 16 = true ∧ (inB (w 110 18) 16 = true ∧ (inB (w 110 18) 16 = true ∧ CI X (d + 1) 193 [.ref 110] (up2 (up2 (up2 (up2 (up2 (up2 w 120 (w 110 18).toNatClampNeg (F_175_110 w)) 110 11 ((w 110 11) + (kI 1))) 121 (w 110 18).toNatClampNeg (w 110 16)) 110 15 (kI 0)) 110 17 (kI 0)) 122 (w 110 18).toNatClampNeg (w 110 16)) (fun x10 w10 => (if x10 = 0 then Q (kI 0) w10 else (inB (w10 110 18) 16 = true ∧ Q (kI 1) (up2 (up2 w10 123 (w10 110 18).toNatClampNeg (w10 110 16)) 110 18 ((w10 110 18) + (kI 1)))))))))) else Q (F_177_110 (kI 1) (w 110 11) w) (G_177_110 (kI 1) (w 110 11) w))))))) : EI X (d + 1) 194 (0, [some (.ref 110), none], [], SH, w) Q := by
  unfold EI
  refine EV.steps cl_194 1 (q2 := (1, [some (.ref 110), none], [.ref 110], SH, w)) rfl ?_
  obtain ⟨j1, H⟩ := H
  refine EV.callF (kc := 175) (av := [.ref 110]) (r := []) (rv := some (.int (F_175_110 w))) (w2 := w) cl_194 rfl rfl rfl (m_175_110 w  j1) ?_
  refine EV.steps cl_194 3 (q2 := (8, [some (.ref 110), some (.int (F_175_110 w))], [.int (kI 110), .int (F_175_110 w)], SH, w)) rfl ?_
  refine EV.i_eq cl_194 rfl (fun h2 => ?_) (fun h2 => ?_)
  · skip
    rw [if_pos h2] at H
    refine EV.steps cl_194 3 (q2 := (45, [some (.ref 110), some (.int (F_175_110 w))], [.int (kI 16), .int (w 110 18)], SH, w)) rfl ?_
    refine EV.i_ne cl_194 rfl (fun h3 => ?_) (fun h3 => ?_)
    · skip
      rw [if_neg h3] at H
      refine EV.steps cl_194 5 (q2 := (67, [some (.ref 110), some (.int (F_175_110 w))], [.int (F_175_110 w), .int (w 110 18), .ref 120], SH, w)) rfl ?_
      obtain ⟨j4, H⟩ := H
      refine EV.iastore cl_194 rfl rfl (by decide) j4 ?_
      refine EV.steps cl_194 12 (q2 := (90, [some (.ref 110), some (.int (F_175_110 w))], [.int (w 110 16), .int (w 110 18), .ref 121], SH, (up2 (up2 w 120 (w 110 18).toNatClampNeg (F_175_110 w)) 110 11 ((w 110 11) + (kI 1))))) rfl ?_
      obtain ⟨j5, H⟩ := H
      refine EV.iastore cl_194 rfl rfl (by decide) j5 ?_
      refine EV.steps cl_194 8 (q2 := (104, [some (.ref 110), some (.int (F_175_110 w))], [.int (kI 120), .int (F_175_110 w)], SH, (up2 (up2 (up2 (up2 (up2 w 120 (w 110 18).toNatClampNeg (F_175_110 w)) 110 11 ((w 110 11) + (kI 1))) 121 (w 110 18).toNatClampNeg (w 110 16)) 110 15 (kI 0)) 110 17 (kI 0)))) rfl ?_
      refine EV.i_eq cl_194 rfl (fun h6 => ?_) (fun h6 => ?_)
      · skip
        rw [if_pos h6] at H
        refine EV.steps cl_194 6 (q2 := (128, [some (.ref 110), some (.int (F_175_110 w))], [.int (w 110 16), .int (w 110 18), .ref 122], SH, (up2 (up2 (up2 (up2 (up2 w 120 (w 110 18).toNatClampNeg (F_175_110 w)) 110 11 ((w 110 11) + (kI 1))) 121 (w 110 18).toNatClampNeg (w 110 16)) 110 15 (kI 0)) 110 17 (kI 0)))) rfl ?_
        obtain ⟨j7, H⟩ := H
        refine EV.iastore cl_194 rfl rfl (by decide) j7 ?_
        refine EV.steps cl_194 1 (q2 := (130, [some (.ref 110), some (.int (F_175_110 w))], [.ref 110], SH, (up2 (up2 (up2 (up2 (up2 (up2 w 120 (w 110 18).toNatClampNeg (F_175_110 w)) 110 11 ((w 110 11) + (kI 1))) 121 (w 110 18).toNatClampNeg (w 110 16)) 110 15 (kI 0)) 110 17 (kI 0)) 122 (w 110 18).toNatClampNeg (w 110 16)))) rfl ?_
        refine EV.call (kc := 193) (av := [.ref 110]) (r := []) cl_194 rfl rfl rfl H ?_
        clear H; intro y1 s1 w1 e1
        obtain ⟨x1, rfl, rfl, H⟩ := e1
        refine EV.z_ne cl_194 rfl (fun h8 => ?_) (fun h8 => ?_)
        · skip
          rw [if_neg h8] at H
          refine EV.steps cl_194 6 (q2 := (150, [some (.ref 110), some (.int (F_175_110 w))], [.int (w1 110 16), .int (w1 110 18), .ref 123], SH, w1)) rfl ?_
          obtain ⟨j9, H⟩ := H
          refine EV.iastore cl_194 rfl rfl (by decide) j9 ?_
          refine EV.steps cl_194 7 (q2 := (162, [some (.ref 110), some (.int (F_175_110 w))], [.int (kI 1)], SH, (up2 (up2 w1 123 (w1 110 18).toNatClampNeg (w1 110 16)) 110 18 ((w1 110 18) + (kI 1))))) rfl ?_
          refine EV.ret cl_194 rfl rfl rfl ?_
          exact ⟨_, rfl, rfl, H⟩
        · skip
          rw [if_pos h8] at H
          refine EV.steps cl_194 1 (q2 := (137, [some (.ref 110), some (.int (F_175_110 w))], [.int (kI 0)], SH, w1)) rfl ?_
          refine EV.ret cl_194 rfl rfl rfl ?_
          exact ⟨_, rfl, rfl, H⟩
      · skip
        rw [if_neg h6] at H
        refine EV.steps cl_194 1 (q2 := (108, [some (.ref 110), some (.int (F_175_110 w))], [.ref 110], SH, (up2 (up2 (up2 (up2 (up2 w 120 (w 110 18).toNatClampNeg (F_175_110 w)) 110 11 ((w 110 11) + (kI 1))) 121 (w 110 18).toNatClampNeg (w 110 16)) 110 15 (kI 0)) 110 17 (kI 0)))) rfl ?_
        refine EV.call (kc := 188) (av := [.ref 110]) (r := []) cl_194 rfl rfl rfl H ?_
        clear H; intro y2 s2 w2 e2
        obtain ⟨x2, rfl, rfl, H⟩ := e2
        refine EV.z_ne cl_194 rfl (fun h10 => ?_) (fun h10 => ?_)
        · skip
          rw [if_neg h10] at H
          refine EV.steps cl_194 6 (q2 := (128, [some (.ref 110), some (.int (F_175_110 w))], [.int (w2 110 16), .int (w2 110 18), .ref 122], SH, w2)) rfl ?_
          obtain ⟨j11, H⟩ := H
          refine EV.iastore cl_194 rfl rfl (by decide) j11 ?_
          refine EV.steps cl_194 1 (q2 := (130, [some (.ref 110), some (.int (F_175_110 w))], [.ref 110], SH, (up2 w2 122 (w2 110 18).toNatClampNeg (w2 110 16)))) rfl ?_
          refine EV.call (kc := 193) (av := [.ref 110]) (r := []) cl_194 rfl rfl rfl H ?_
          clear H; intro y3 s3 w3 e3
          obtain ⟨x3, rfl, rfl, H⟩ := e3
          refine EV.z_ne cl_194 rfl (fun h12 => ?_) (fun h12 => ?_)
          · skip
            rw [if_neg h12] at H
            refine EV.steps cl_194 6 (q2 := (150, [some (.ref 110), some (.int (F_175_110 w))], [.int (w3 110 16), .int (w3 110 18), .ref 123], SH, w3)) rfl ?_
            obtain ⟨j13, H⟩ := H
            refine EV.iastore cl_194 rfl rfl (by decide) j13 ?_
            refine EV.steps cl_194 7 (q2 := (162, [some (.ref 110), some (.int (F_175_110 w))], [.int (kI 1)], SH, (up2 (up2 w3 123 (w3 110 18).toNatClampNeg (w3 110 16)) 110 18 ((w3 110 18) + (kI 1))))) rfl ?_
            refine EV.ret cl_194 rfl rfl rfl ?_
            exact ⟨_, rfl, rfl, H⟩
          · skip
            rw [if_pos h12] at H
            refine EV.steps cl_194 1 (q2 := (137, [some (.ref 110), some (.int (F_175_110 w))], [.int (kI 0)], SH, w3)) rfl ?_
            refine EV.ret cl_194 rfl rfl rfl ?_
            exact ⟨_, rfl, rfl, H⟩
        · skip
          rw [if_pos h10] at H
          refine EV.steps cl_194 1 (q2 := (115, [some (.ref 110), some (.int (F_175_110 w))], [.int (kI 0)], SH, w2)) rfl ?_
          refine EV.ret cl_194 rfl rfl rfl ?_
          exact ⟨_, rfl, rfl, H⟩
    · skip
      rw [if_pos h3] at H
      refine EV.steps cl_194 4 (q2 := (54, [some (.ref 110), some (.int (F_175_110 w))], [.int (w 110 11), .int (kI 4), .ref 110], SH, w)) rfl ?_
      refine EV.callF (kc := 177) (av := [.ref 110, .int (kI 4), .int (w 110 11)]) (r := []) (rv := some (.int (F_177_110 (kI 4) (w 110 11) w))) (w2 := (G_177_110 (kI 4) (w 110 11) w)) cl_194 rfl rfl rfl (m_177_110 w (kI 4) (w 110 11)) ?_
      refine EV.retB cl_194 rfl rfl (z1_177_110 (kI 4) (w 110 11) w) ?_
      exact ⟨_, rfl, rfl, H⟩
  · skip
    rw [if_neg h2] at H
    refine EV.steps cl_194 2 (q2 := (14, [some (.ref 110), some (.int (F_175_110 w))], [.int (kI 100), .int (F_175_110 w)], SH, w)) rfl ?_
    refine EV.i_eq cl_194 rfl (fun h14 => ?_) (fun h14 => ?_)
    · skip
      rw [if_pos h14] at H
      refine EV.steps cl_194 3 (q2 := (45, [some (.ref 110), some (.int (F_175_110 w))], [.int (kI 16), .int (w 110 18)], SH, w)) rfl ?_
      refine EV.i_ne cl_194 rfl (fun h15 => ?_) (fun h15 => ?_)
      · skip
        rw [if_neg h15] at H
        refine EV.steps cl_194 5 (q2 := (67, [some (.ref 110), some (.int (F_175_110 w))], [.int (F_175_110 w), .int (w 110 18), .ref 120], SH, w)) rfl ?_
        obtain ⟨j16, H⟩ := H
        refine EV.iastore cl_194 rfl rfl (by decide) j16 ?_
        refine EV.steps cl_194 12 (q2 := (90, [some (.ref 110), some (.int (F_175_110 w))], [.int (w 110 16), .int (w 110 18), .ref 121], SH, (up2 (up2 w 120 (w 110 18).toNatClampNeg (F_175_110 w)) 110 11 ((w 110 11) + (kI 1))))) rfl ?_
        obtain ⟨j17, H⟩ := H
        refine EV.iastore cl_194 rfl rfl (by decide) j17 ?_
        refine EV.steps cl_194 8 (q2 := (104, [some (.ref 110), some (.int (F_175_110 w))], [.int (kI 120), .int (F_175_110 w)], SH, (up2 (up2 (up2 (up2 (up2 w 120 (w 110 18).toNatClampNeg (F_175_110 w)) 110 11 ((w 110 11) + (kI 1))) 121 (w 110 18).toNatClampNeg (w 110 16)) 110 15 (kI 0)) 110 17 (kI 0)))) rfl ?_
        refine EV.i_eq cl_194 rfl (fun h18 => ?_) (fun h18 => ?_)
        · skip
          rw [if_pos h18] at H
          refine EV.steps cl_194 6 (q2 := (128, [some (.ref 110), some (.int (F_175_110 w))], [.int (w 110 16), .int (w 110 18), .ref 122], SH, (up2 (up2 (up2 (up2 (up2 w 120 (w 110 18).toNatClampNeg (F_175_110 w)) 110 11 ((w 110 11) + (kI 1))) 121 (w 110 18).toNatClampNeg (w 110 16)) 110 15 (kI 0)) 110 17 (kI 0)))) rfl ?_
          obtain ⟨j19, H⟩ := H
          refine EV.iastore cl_194 rfl rfl (by decide) j19 ?_
          refine EV.steps cl_194 1 (q2 := (130, [some (.ref 110), some (.int (F_175_110 w))], [.ref 110], SH, (up2 (up2 (up2 (up2 (up2 (up2 w 120 (w 110 18).toNatClampNeg (F_175_110 w)) 110 11 ((w 110 11) + (kI 1))) 121 (w 110 18).toNatClampNeg (w 110 16)) 110 15 (kI 0)) 110 17 (kI 0)) 122 (w 110 18).toNatClampNeg (w 110 16)))) rfl ?_
          refine EV.call (kc := 193) (av := [.ref 110]) (r := []) cl_194 rfl rfl rfl H ?_
          clear H; intro y4 s4 w4 e4
          obtain ⟨x4, rfl, rfl, H⟩ := e4
          refine EV.z_ne cl_194 rfl (fun h20 => ?_) (fun h20 => ?_)
          · skip
            rw [if_neg h20] at H
            refine EV.steps cl_194 6 (q2 := (150, [some (.ref 110), some (.int (F_175_110 w))], [.int (w4 110 16), .int (w4 110 18), .ref 123], SH, w4)) rfl ?_
            obtain ⟨j21, H⟩ := H
            refine EV.iastore cl_194 rfl rfl (by decide) j21 ?_
            refine EV.steps cl_194 7 (q2 := (162, [some (.ref 110), some (.int (F_175_110 w))], [.int (kI 1)], SH, (up2 (up2 w4 123 (w4 110 18).toNatClampNeg (w4 110 16)) 110 18 ((w4 110 18) + (kI 1))))) rfl ?_
            refine EV.ret cl_194 rfl rfl rfl ?_
            exact ⟨_, rfl, rfl, H⟩
          · skip
            rw [if_pos h20] at H
            refine EV.steps cl_194 1 (q2 := (137, [some (.ref 110), some (.int (F_175_110 w))], [.int (kI 0)], SH, w4)) rfl ?_
            refine EV.ret cl_194 rfl rfl rfl ?_
            exact ⟨_, rfl, rfl, H⟩
        · skip
          rw [if_neg h18] at H
          refine EV.steps cl_194 1 (q2 := (108, [some (.ref 110), some (.int (F_175_110 w))], [.ref 110], SH, (up2 (up2 (up2 (up2 (up2 w 120 (w 110 18).toNatClampNeg (F_175_110 w)) 110 11 ((w 110 11) + (kI 1))) 121 (w 110 18).toNatClampNeg (w 110 16)) 110 15 (kI 0)) 110 17 (kI 0)))) rfl ?_
          refine EV.call (kc := 188) (av := [.ref 110]) (r := []) cl_194 rfl rfl rfl H ?_
          clear H; intro y5 s5 w5 e5
          obtain ⟨x5, rfl, rfl, H⟩ := e5
          refine EV.z_ne cl_194 rfl (fun h22 => ?_) (fun h22 => ?_)
          · skip
            rw [if_neg h22] at H
            refine EV.steps cl_194 6 (q2 := (128, [some (.ref 110), some (.int (F_175_110 w))], [.int (w5 110 16), .int (w5 110 18), .ref 122], SH, w5)) rfl ?_
            obtain ⟨j23, H⟩ := H
            refine EV.iastore cl_194 rfl rfl (by decide) j23 ?_
            refine EV.steps cl_194 1 (q2 := (130, [some (.ref 110), some (.int (F_175_110 w))], [.ref 110], SH, (up2 w5 122 (w5 110 18).toNatClampNeg (w5 110 16)))) rfl ?_
            refine EV.call (kc := 193) (av := [.ref 110]) (r := []) cl_194 rfl rfl rfl H ?_
            clear H; intro y6 s6 w6 e6
            obtain ⟨x6, rfl, rfl, H⟩ := e6
            refine EV.z_ne cl_194 rfl (fun h24 => ?_) (fun h24 => ?_)
            · skip
              rw [if_neg h24] at H
              refine EV.steps cl_194 6 (q2 := (150, [some (.ref 110), some (.int (F_175_110 w))], [.int (w6 110 16), .int (w6 110 18), .ref 123], SH, w6)) rfl ?_
              obtain ⟨j25, H⟩ := H
              refine EV.iastore cl_194 rfl rfl (by decide) j25 ?_
              refine EV.steps cl_194 7 (q2 := (162, [some (.ref 110), some (.int (F_175_110 w))], [.int (kI 1)], SH, (up2 (up2 w6 123 (w6 110 18).toNatClampNeg (w6 110 16)) 110 18 ((w6 110 18) + (kI 1))))) rfl ?_
              refine EV.ret cl_194 rfl rfl rfl ?_
              exact ⟨_, rfl, rfl, H⟩
            · skip
              rw [if_pos h24] at H
              refine EV.steps cl_194 1 (q2 := (137, [some (.ref 110), some (.int (F_175_110 w))], [.int (kI 0)], SH, w6)) rfl ?_
              refine EV.ret cl_194 rfl rfl rfl ?_
              exact ⟨_, rfl, rfl, H⟩
          · skip
            rw [if_pos h22] at H
            refine EV.steps cl_194 1 (q2 := (115, [some (.ref 110), some (.int (F_175_110 w))], [.int (kI 0)], SH, w5)) rfl ?_
            refine EV.ret cl_194 rfl rfl rfl ?_
            exact ⟨_, rfl, rfl, H⟩
      · skip
        rw [if_pos h15] at H
        refine EV.steps cl_194 4 (q2 := (54, [some (.ref 110), some (.int (F_175_110 w))], [.int (w 110 11), .int (kI 4), .ref 110], SH, w)) rfl ?_
        refine EV.callF (kc := 177) (av := [.ref 110, .int (kI 4), .int (w 110 11)]) (r := []) (rv := some (.int (F_177_110 (kI 4) (w 110 11) w))) (w2 := (G_177_110 (kI 4) (w 110 11) w)) cl_194 rfl rfl rfl (m_177_110 w (kI 4) (w 110 11)) ?_
        refine EV.retB cl_194 rfl rfl (z1_177_110 (kI 4) (w 110 11) w) ?_
        exact ⟨_, rfl, rfl, H⟩
    · skip
      rw [if_neg h14] at H
      refine EV.steps cl_194 2 (q2 := (20, [some (.ref 110), some (.int (F_175_110 w))], [.int (kI 107), .int (F_175_110 w)], SH, w)) rfl ?_
      refine EV.i_eq cl_194 rfl (fun h26 => ?_) (fun h26 => ?_)
      · skip
        rw [if_pos h26] at H
        refine EV.steps cl_194 3 (q2 := (45, [some (.ref 110), some (.int (F_175_110 w))], [.int (kI 16), .int (w 110 18)], SH, w)) rfl ?_
        refine EV.i_ne cl_194 rfl (fun h27 => ?_) (fun h27 => ?_)
        · skip
          rw [if_neg h27] at H
          refine EV.steps cl_194 5 (q2 := (67, [some (.ref 110), some (.int (F_175_110 w))], [.int (F_175_110 w), .int (w 110 18), .ref 120], SH, w)) rfl ?_
          obtain ⟨j28, H⟩ := H
          refine EV.iastore cl_194 rfl rfl (by decide) j28 ?_
          refine EV.steps cl_194 12 (q2 := (90, [some (.ref 110), some (.int (F_175_110 w))], [.int (w 110 16), .int (w 110 18), .ref 121], SH, (up2 (up2 w 120 (w 110 18).toNatClampNeg (F_175_110 w)) 110 11 ((w 110 11) + (kI 1))))) rfl ?_
          obtain ⟨j29, H⟩ := H
          refine EV.iastore cl_194 rfl rfl (by decide) j29 ?_
          refine EV.steps cl_194 8 (q2 := (104, [some (.ref 110), some (.int (F_175_110 w))], [.int (kI 120), .int (F_175_110 w)], SH, (up2 (up2 (up2 (up2 (up2 w 120 (w 110 18).toNatClampNeg (F_175_110 w)) 110 11 ((w 110 11) + (kI 1))) 121 (w 110 18).toNatClampNeg (w 110 16)) 110 15 (kI 0)) 110 17 (kI 0)))) rfl ?_
          refine EV.i_eq cl_194 rfl (fun h30 => ?_) (fun h30 => ?_)
          · skip
            rw [if_pos h30] at H
            refine EV.steps cl_194 6 (q2 := (128, [some (.ref 110), some (.int (F_175_110 w))], [.int (w 110 16), .int (w 110 18), .ref 122], SH, (up2 (up2 (up2 (up2 (up2 w 120 (w 110 18).toNatClampNeg (F_175_110 w)) 110 11 ((w 110 11) + (kI 1))) 121 (w 110 18).toNatClampNeg (w 110 16)) 110 15 (kI 0)) 110 17 (kI 0)))) rfl ?_
            obtain ⟨j31, H⟩ := H
            refine EV.iastore cl_194 rfl rfl (by decide) j31 ?_
            refine EV.steps cl_194 1 (q2 := (130, [some (.ref 110), some (.int (F_175_110 w))], [.ref 110], SH, (up2 (up2 (up2 (up2 (up2 (up2 w 120 (w 110 18).toNatClampNeg (F_175_110 w)) 110 11 ((w 110 11) + (kI 1))) 121 (w 110 18).toNatClampNeg (w 110 16)) 110 15 (kI 0)) 110 17 (kI 0)) 122 (w 110 18).toNatClampNeg (w 110 16)))) rfl ?_
            refine EV.call (kc := 193) (av := [.ref 110]) (r := []) cl_194 rfl rfl rfl H ?_
            clear H; intro y7 s7 w7 e7
            obtain ⟨x7, rfl, rfl, H⟩ := e7
            refine EV.z_ne cl_194 rfl (fun h32 => ?_) (fun h32 => ?_)
            · skip
              rw [if_neg h32] at H
              refine EV.steps cl_194 6 (q2 := (150, [some (.ref 110), some (.int (F_175_110 w))], [.int (w7 110 16), .int (w7 110 18), .ref 123], SH, w7)) rfl ?_
              obtain ⟨j33, H⟩ := H
              refine EV.iastore cl_194 rfl rfl (by decide) j33 ?_
              refine EV.steps cl_194 7 (q2 := (162, [some (.ref 110), some (.int (F_175_110 w))], [.int (kI 1)], SH, (up2 (up2 w7 123 (w7 110 18).toNatClampNeg (w7 110 16)) 110 18 ((w7 110 18) + (kI 1))))) rfl ?_
              refine EV.ret cl_194 rfl rfl rfl ?_
              exact ⟨_, rfl, rfl, H⟩
            · skip
              rw [if_pos h32] at H
              refine EV.steps cl_194 1 (q2 := (137, [some (.ref 110), some (.int (F_175_110 w))], [.int (kI 0)], SH, w7)) rfl ?_
              refine EV.ret cl_194 rfl rfl rfl ?_
              exact ⟨_, rfl, rfl, H⟩
          · skip
            rw [if_neg h30] at H
            refine EV.steps cl_194 1 (q2 := (108, [some (.ref 110), some (.int (F_175_110 w))], [.ref 110], SH, (up2 (up2 (up2 (up2 (up2 w 120 (w 110 18).toNatClampNeg (F_175_110 w)) 110 11 ((w 110 11) + (kI 1))) 121 (w 110 18).toNatClampNeg (w 110 16)) 110 15 (kI 0)) 110 17 (kI 0)))) rfl ?_
            refine EV.call (kc := 188) (av := [.ref 110]) (r := []) cl_194 rfl rfl rfl H ?_
            clear H; intro y8 s8 w8 e8
            obtain ⟨x8, rfl, rfl, H⟩ := e8
            refine EV.z_ne cl_194 rfl (fun h34 => ?_) (fun h34 => ?_)
            · skip
              rw [if_neg h34] at H
              refine EV.steps cl_194 6 (q2 := (128, [some (.ref 110), some (.int (F_175_110 w))], [.int (w8 110 16), .int (w8 110 18), .ref 122], SH, w8)) rfl ?_
              obtain ⟨j35, H⟩ := H
              refine EV.iastore cl_194 rfl rfl (by decide) j35 ?_
              refine EV.steps cl_194 1 (q2 := (130, [some (.ref 110), some (.int (F_175_110 w))], [.ref 110], SH, (up2 w8 122 (w8 110 18).toNatClampNeg (w8 110 16)))) rfl ?_
              refine EV.call (kc := 193) (av := [.ref 110]) (r := []) cl_194 rfl rfl rfl H ?_
              clear H; intro y9 s9 w9 e9
              obtain ⟨x9, rfl, rfl, H⟩ := e9
              refine EV.z_ne cl_194 rfl (fun h36 => ?_) (fun h36 => ?_)
              · skip
                rw [if_neg h36] at H
                refine EV.steps cl_194 6 (q2 := (150, [some (.ref 110), some (.int (F_175_110 w))], [.int (w9 110 16), .int (w9 110 18), .ref 123], SH, w9)) rfl ?_
                obtain ⟨j37, H⟩ := H
                refine EV.iastore cl_194 rfl rfl (by decide) j37 ?_
                refine EV.steps cl_194 7 (q2 := (162, [some (.ref 110), some (.int (F_175_110 w))], [.int (kI 1)], SH, (up2 (up2 w9 123 (w9 110 18).toNatClampNeg (w9 110 16)) 110 18 ((w9 110 18) + (kI 1))))) rfl ?_
                refine EV.ret cl_194 rfl rfl rfl ?_
                exact ⟨_, rfl, rfl, H⟩
              · skip
                rw [if_pos h36] at H
                refine EV.steps cl_194 1 (q2 := (137, [some (.ref 110), some (.int (F_175_110 w))], [.int (kI 0)], SH, w9)) rfl ?_
                refine EV.ret cl_194 rfl rfl rfl ?_
                exact ⟨_, rfl, rfl, H⟩
            · skip
              rw [if_pos h34] at H
              refine EV.steps cl_194 1 (q2 := (115, [some (.ref 110), some (.int (F_175_110 w))], [.int (kI 0)], SH, w8)) rfl ?_
              refine EV.ret cl_194 rfl rfl rfl ?_
              exact ⟨_, rfl, rfl, H⟩
        · skip
          rw [if_pos h27] at H
          refine EV.steps cl_194 4 (q2 := (54, [some (.ref 110), some (.int (F_175_110 w))], [.int (w 110 11), .int (kI 4), .ref 110], SH, w)) rfl ?_
          refine EV.callF (kc := 177) (av := [.ref 110, .int (kI 4), .int (w 110 11)]) (r := []) (rv := some (.int (F_177_110 (kI 4) (w 110 11) w))) (w2 := (G_177_110 (kI 4) (w 110 11) w)) cl_194 rfl rfl rfl (m_177_110 w (kI 4) (w 110 11)) ?_
          refine EV.retB cl_194 rfl rfl (z1_177_110 (kI 4) (w 110 11) w) ?_
          exact ⟨_, rfl, rfl, H⟩
      · skip
        rw [if_neg h26] at H
        refine EV.steps cl_194 2 (q2 := (26, [some (.ref 110), some (.int (F_175_110 w))], [.int (kI 120), .int (F_175_110 w)], SH, w)) rfl ?_
        refine EV.i_eq cl_194 rfl (fun h38 => ?_) (fun h38 => ?_)
        · skip
          rw [if_pos h38] at H
          refine EV.steps cl_194 3 (q2 := (45, [some (.ref 110), some (.int (F_175_110 w))], [.int (kI 16), .int (w 110 18)], SH, w)) rfl ?_
          refine EV.i_ne cl_194 rfl (fun h39 => ?_) (fun h39 => ?_)
          · skip
            rw [if_neg h39] at H
            refine EV.steps cl_194 5 (q2 := (67, [some (.ref 110), some (.int (F_175_110 w))], [.int (F_175_110 w), .int (w 110 18), .ref 120], SH, w)) rfl ?_
            obtain ⟨j40, H⟩ := H
            refine EV.iastore cl_194 rfl rfl (by decide) j40 ?_
            refine EV.steps cl_194 12 (q2 := (90, [some (.ref 110), some (.int (F_175_110 w))], [.int (w 110 16), .int (w 110 18), .ref 121], SH, (up2 (up2 w 120 (w 110 18).toNatClampNeg (F_175_110 w)) 110 11 ((w 110 11) + (kI 1))))) rfl ?_
            obtain ⟨j41, H⟩ := H
            refine EV.iastore cl_194 rfl rfl (by decide) j41 ?_
            refine EV.steps cl_194 8 (q2 := (104, [some (.ref 110), some (.int (F_175_110 w))], [.int (kI 120), .int (F_175_110 w)], SH, (up2 (up2 (up2 (up2 (up2 w 120 (w 110 18).toNatClampNeg (F_175_110 w)) 110 11 ((w 110 11) + (kI 1))) 121 (w 110 18).toNatClampNeg (w 110 16)) 110 15 (kI 0)) 110 17 (kI 0)))) rfl ?_
            refine EV.i_eq cl_194 rfl (fun h42 => ?_) (fun h42 => ?_)
            · skip
              refine EV.steps cl_194 6 (q2 := (128, [some (.ref 110), some (.int (F_175_110 w))], [.int (w 110 16), .int (w 110 18), .ref 122], SH, (up2 (up2 (up2 (up2 (up2 w 120 (w 110 18).toNatClampNeg (F_175_110 w)) 110 11 ((w 110 11) + (kI 1))) 121 (w 110 18).toNatClampNeg (w 110 16)) 110 15 (kI 0)) 110 17 (kI 0)))) rfl ?_
              obtain ⟨j43, H⟩ := H
              refine EV.iastore cl_194 rfl rfl (by decide) j43 ?_
              refine EV.steps cl_194 1 (q2 := (130, [some (.ref 110), some (.int (F_175_110 w))], [.ref 110], SH, (up2 (up2 (up2 (up2 (up2 (up2 w 120 (w 110 18).toNatClampNeg (F_175_110 w)) 110 11 ((w 110 11) + (kI 1))) 121 (w 110 18).toNatClampNeg (w 110 16)) 110 15 (kI 0)) 110 17 (kI 0)) 122 (w 110 18).toNatClampNeg (w 110 16)))) rfl ?_
              refine EV.call (kc := 193) (av := [.ref 110]) (r := []) cl_194 rfl rfl rfl H ?_
              clear H; intro y10 s10 w10 e10
              obtain ⟨x10, rfl, rfl, H⟩ := e10
              refine EV.z_ne cl_194 rfl (fun h44 => ?_) (fun h44 => ?_)
              · skip
                rw [if_neg h44] at H
                refine EV.steps cl_194 6 (q2 := (150, [some (.ref 110), some (.int (F_175_110 w))], [.int (w10 110 16), .int (w10 110 18), .ref 123], SH, w10)) rfl ?_
                obtain ⟨j45, H⟩ := H
                refine EV.iastore cl_194 rfl rfl (by decide) j45 ?_
                refine EV.steps cl_194 7 (q2 := (162, [some (.ref 110), some (.int (F_175_110 w))], [.int (kI 1)], SH, (up2 (up2 w10 123 (w10 110 18).toNatClampNeg (w10 110 16)) 110 18 ((w10 110 18) + (kI 1))))) rfl ?_
                refine EV.ret cl_194 rfl rfl rfl ?_
                exact ⟨_, rfl, rfl, H⟩
              · skip
                rw [if_pos h44] at H
                refine EV.steps cl_194 1 (q2 := (137, [some (.ref 110), some (.int (F_175_110 w))], [.int (kI 0)], SH, w10)) rfl ?_
                refine EV.ret cl_194 rfl rfl rfl ?_
                exact ⟨_, rfl, rfl, H⟩
            · skip
              exact absurd h38 h42
          · skip
            rw [if_pos h39] at H
            refine EV.steps cl_194 4 (q2 := (54, [some (.ref 110), some (.int (F_175_110 w))], [.int (w 110 11), .int (kI 4), .ref 110], SH, w)) rfl ?_
            refine EV.callF (kc := 177) (av := [.ref 110, .int (kI 4), .int (w 110 11)]) (r := []) (rv := some (.int (F_177_110 (kI 4) (w 110 11) w))) (w2 := (G_177_110 (kI 4) (w 110 11) w)) cl_194 rfl rfl rfl (m_177_110 w (kI 4) (w 110 11)) ?_
            refine EV.retB cl_194 rfl rfl (z1_177_110 (kI 4) (w 110 11) w) ?_
            exact ⟨_, rfl, rfl, H⟩
        · skip
          rw [if_neg h38] at H
          refine EV.steps cl_194 4 (q2 := (35, [some (.ref 110), some (.int (F_175_110 w))], [.int (w 110 11), .int (kI 1), .ref 110], SH, w)) rfl ?_
          refine EV.callF (kc := 177) (av := [.ref 110, .int (kI 1), .int (w 110 11)]) (r := []) (rv := some (.int (F_177_110 (kI 1) (w 110 11) w))) (w2 := (G_177_110 (kI 1) (w 110 11) w)) cl_194 rfl rfl rfl (m_177_110 w (kI 1) (w 110 11)) ?_
          refine EV.retB cl_194 rfl rfl (z1_177_110 (kI 1) (w 110 11) w) ?_
          exact ⟨_, rfl, rfl, H⟩
theorem t196_110_at0 {X : Scr} {d : Nat} {Q : Int32 → Wd → Prop} (w : Wd) (v1 : Int32)
    (H : (if (F_157 v1 (kI 1) (kI 240) w) = 0 then Q (kI (-1)) w else (if v1 ≤ (w 110 10) then CI X (d + 2) 194 [.ref 110] (G_195_110 v1 w) (fun x1 w1 => EI X (d + 2) 196 (31, [some (.ref 110), some (.int v1), some (.int x1), none], [], SH, w1) Q) else Q (kI (-1)) w))) : EI X (d + 2) 196 (0, [some (.ref 110), some (.int v1), none, none], [], SH, w) Q := by
  unfold EI
  refine EV.steps cl_196 3 (q2 := (5, [some (.ref 110), some (.int v1), none, none], [.int (kI 240), .int (kI 1), .int v1], SH, w)) rfl ?_
  refine EV.callF (kc := 157) (av := [.int v1, .int (kI 1), .int (kI 240)]) (r := []) (rv := some (.int (F_157 v1 (kI 1) (kI 240) w))) (w2 := w) cl_196 rfl rfl rfl (m_157 w v1 (kI 1) (kI 240)) ?_
  refine EV.z_eq cl_196 rfl (fun h1 => ?_) (fun h1 => ?_)
  · skip
    rw [if_pos h1] at H
    refine EV.steps cl_196 1 (q2 := (20, [some (.ref 110), some (.int v1), none, none], [.int (kI (-1))], SH, w)) rfl ?_
    refine EV.ret cl_196 rfl rfl rfl ?_
    exact ⟨_, rfl, rfl, H⟩
  · skip
    rw [if_neg h1] at H
    refine EV.steps cl_196 3 (q2 := (16, [some (.ref 110), some (.int v1), none, none], [.int (w 110 10), .int v1], SH, w)) rfl ?_
    refine EV.i_le cl_196 rfl (fun h2 => ?_) (fun h2 => ?_)
    · skip
      rw [if_pos h2] at H
      refine EV.steps cl_196 2 (q2 := (23, [some (.ref 110), some (.int v1), none, none], [.int v1, .ref 110], SH, w)) rfl ?_
      refine EV.callF (kc := 195) (av := [.ref 110, .int v1]) (r := []) (rv := none) (w2 := (G_195_110 v1 w)) cl_196 rfl rfl rfl (m_195_110 w v1) ?_
      refine EV.steps cl_196 1 (q2 := (27, [some (.ref 110), some (.int v1), none, none], [.ref 110], SH, (G_195_110 v1 w))) rfl ?_
      refine EV.call (kc := 194) (av := [.ref 110]) (r := []) cl_196 rfl rfl rfl H ?_
      clear H; intro y1 s1 w1 e1
      obtain ⟨x1, rfl, rfl, H⟩ := e1
      refine EV.steps cl_196 1 (q2 := (31, [some (.ref 110), some (.int v1), some (.int x1), none], [], SH, w1)) rfl ?_
      exact H
    · skip
      rw [if_neg h2] at H
      refine EV.steps cl_196 1 (q2 := (20, [some (.ref 110), some (.int v1), none, none], [.int (kI (-1))], SH, w)) rfl ?_
      refine EV.ret cl_196 rfl rfl rfl ?_
      exact ⟨_, rfl, rfl, H⟩
theorem t196_110_at31 {X : Scr} {d : Nat} {Q : Int32 → Wd → Prop} (w : Wd) (v1 : Int32) (v2 : Int32)
    (H : (if v2 = 0 then Q (w 110 13) (up2 w 110 10 (kI 0)) else (if (w 110 12) ≤ (w 110 11) then EI X (d + 2) 196 (95, [some (.ref 110), some (.int v1), some (.int v2), some (.int (kI 0))], [], SH, (up2 (up2 w 110 10 (kI 0)) 110 19 (w 110 18))) Q else (((¬ (w 110 12) ≤ (w 110 11) → (inB (w 110 11) 260 = true))) ∧ (if (F_178_110 (kI 59) w) = 0 then EI X (d + 2) 196 (31, [some (.ref 110), some (.int v1), some (.int (kI 0)), none], [], SH, (G_178_110 (kI 59) w)) Q else CI X (d + 2) 194 [.ref 110] (G_178_110 (kI 59) w) (fun x1 w1 => (if x1 = 0 then EI X (d + 2) 196 (31, [some (.ref 110), some (.int v1), some (.int (kI 0)), none], [], SH, w1) Q else EI X (d + 2) 196 (31, [some (.ref 110), some (.int v1), some (.int (kI 1)), none], [], SH, w1) Q))))))) : EI X (d + 2) 196 (31, [some (.ref 110), some (.int v1), some (.int v2), none], [], SH, w) Q := by
  unfold EI
  refine EV.steps cl_196 1 (q2 := (32, [some (.ref 110), some (.int v1), some (.int v2), none], [.int v2], SH, w)) rfl ?_
  refine EV.z_eq cl_196 rfl (fun h1 => ?_) (fun h1 => ?_)
  · skip
    rw [if_pos h1] at H
    refine EV.steps cl_196 4 (q2 := (77, [some (.ref 110), some (.int v1), some (.int v2), none], [.int v2], SH, (up2 w 110 10 (kI 0)))) rfl ?_
    refine EV.z_ne cl_196 rfl (fun h2 => ?_) (fun h2 => ?_)
    · skip
      exact absurd h1 h2
    · skip
      refine EV.steps cl_196 2 (q2 := (84, [some (.ref 110), some (.int v1), some (.int v2), none], [.int (w 110 13)], SH, (up2 w 110 10 (kI 0)))) rfl ?_
      refine EV.ret cl_196 rfl rfl rfl ?_
      exact ⟨_, rfl, rfl, H⟩
  · skip
    rw [if_neg h1] at H
    refine EV.steps cl_196 4 (q2 := (43, [some (.ref 110), some (.int v1), some (.int v2), none], [.int (w 110 12), .int (w 110 11)], SH, w)) rfl ?_
    refine EV.i_ge cl_196 rfl (fun h3 => ?_) (fun h3 => ?_)
    · skip
      rw [if_pos h3] at H
      refine EV.steps cl_196 4 (q2 := (77, [some (.ref 110), some (.int v1), some (.int v2), none], [.int v2], SH, (up2 w 110 10 (kI 0)))) rfl ?_
      refine EV.z_ne cl_196 rfl (fun h4 => ?_) (fun h4 => ?_)
      · skip
        refine EV.steps cl_196 6 (q2 := (95, [some (.ref 110), some (.int v1), some (.int v2), some (.int (kI 0))], [], SH, (up2 (up2 w 110 10 (kI 0)) 110 19 (w 110 18)))) rfl ?_
        exact H
      · skip
        exact absurd h4 h1
    · skip
      rw [if_neg h3] at H
      refine EV.steps cl_196 2 (q2 := (49, [some (.ref 110), some (.int v1), some (.int v2), none], [.int (kI 59), .ref 110], SH, w)) rfl ?_
      obtain ⟨j5, H⟩ := H
      refine EV.callF (kc := 178) (av := [.ref 110, .int (kI 59)]) (r := []) (rv := some (.int (F_178_110 (kI 59) w))) (w2 := (G_178_110 (kI 59) w)) cl_196 rfl rfl rfl (m_178_110 w (kI 59) j5) ?_
      refine EV.z_eq cl_196 rfl (fun h6 => ?_) (fun h6 => ?_)
      · skip
        rw [if_pos h6] at H
        refine EV.steps cl_196 3 (q2 := (31, [some (.ref 110), some (.int v1), some (.int (kI 0)), none], [], SH, (G_178_110 (kI 59) w))) rfl ?_
        exact H
      · skip
        rw [if_neg h6] at H
        refine EV.steps cl_196 1 (q2 := (56, [some (.ref 110), some (.int v1), some (.int v2), none], [.ref 110], SH, (G_178_110 (kI 59) w))) rfl ?_
        refine EV.call (kc := 194) (av := [.ref 110]) (r := []) cl_196 rfl rfl rfl H ?_
        clear H; intro y1 s1 w1 e1
        obtain ⟨x1, rfl, rfl, H⟩ := e1
        refine EV.z_eq cl_196 rfl (fun h7 => ?_) (fun h7 => ?_)
        · skip
          rw [if_pos h7] at H
          refine EV.steps cl_196 3 (q2 := (31, [some (.ref 110), some (.int v1), some (.int (kI 0)), none], [], SH, w1)) rfl ?_
          exact H
        · skip
          rw [if_neg h7] at H
          refine EV.steps cl_196 4 (q2 := (31, [some (.ref 110), some (.int v1), some (.int (kI 1)), none], [], SH, w1)) rfl ?_
          exact H
