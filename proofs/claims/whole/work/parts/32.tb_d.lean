theorem t202_110_at209 {X : Scr} {d : Nat} {Q : Int32 → Wd → Prop} (w : Wd) (v1 : Int32) (v2 : Int32) (v3 : Int32) (v4 : Int32) (v5 : Int32)
    (H : (((¬ (w 110 12) ≤ (w 110 11) → (inB (w 110 11) 260 = true))) ∧ ((¬ (F_175_110 w) < (kI 48) → (¬ (w 110 12) ≤ (w 110 11) → (inB (w 110 11) 260 = true))) ∧ (if (F_176_110 w) = 0 then (inB (w 110 35) 20 = true ∧ (inB (w 110 35) 20 = true ∧ Q (kI 1) (up2 (up2 (up2 w 131 (w 110 35).toNatClampNeg (((kI 0) + ((kI 6) * v1)) + v2)) 132 (w 110 35).toNatClampNeg (v3 * v5)) 110 35 ((w 110 35) + (kI 1))))) else (if (w 110 11) = (v4 + (kI 3)) then Q (F_177_110 (kI 2) (w 110 11) w) (G_177_110 (kI 2) (w 110 11) w) else ((¬ (w 110 12) ≤ (w 110 11) → (inB (w 110 11) 260 = true)) ∧ EI X (d + 2) 202 (209, [some (.ref 110), some (.int v1), some (.int v2), some (.int v3), some (.int v4), some (.int ((((kI 10) * v5) + (F_175_110 w)) - (kI 48)))], [], SH, (up2 w 110 11 ((w 110 11) + (kI 1)))) Q)))))) : EI X (d + 2) 202 (209, [some (.ref 110), some (.int v1), some (.int v2), some (.int v3), some (.int v4), some (.int v5)], [], SH, w) Q := by
  unfold EI
  refine EV.steps cl_202 1 (q2 := (210, [some (.ref 110), some (.int v1), some (.int v2), some (.int v3), some (.int v4), some (.int v5)], [.ref 110], SH, w)) rfl ?_
  obtain ⟨j1, H⟩ := H
  obtain ⟨j2, H⟩ := H
  refine EV.callF (kc := 176) (av := [.ref 110]) (r := []) (rv := some (.int (F_176_110 w))) (w2 := w) cl_202 rfl rfl rfl (m_176_110 w  j1 j2) ?_
  refine EV.z_eq cl_202 rfl (fun h3 => ?_) (fun h3 => ?_)
  · skip
    rw [if_pos h3] at H
    refine EV.steps cl_202 11 (q2 := (281, [some (.ref 110), some (.int v1), some (.int v2), some (.int v3), some (.int v4), some (.int v5)], [.int (((kI 0) + ((kI 6) * v1)) + v2), .int (w 110 35), .ref 131], SH, w)) rfl ?_
    obtain ⟨j4, H⟩ := H
    refine EV.iastore cl_202 rfl rfl (by decide) j4 ?_
    refine EV.steps cl_202 7 (q2 := (294, [some (.ref 110), some (.int v1), some (.int v2), some (.int v3), some (.int v4), some (.int v5)], [.int (v3 * v5), .int (w 110 35), .ref 132], SH, (up2 w 131 (w 110 35).toNatClampNeg (((kI 0) + ((kI 6) * v1)) + v2)))) rfl ?_
    obtain ⟨j5, H⟩ := H
    refine EV.iastore cl_202 rfl rfl (by decide) j5 ?_
    refine EV.steps cl_202 7 (q2 := (306, [some (.ref 110), some (.int v1), some (.int v2), some (.int v3), some (.int v4), some (.int v5)], [.int (kI 1)], SH, (up2 (up2 (up2 w 131 (w 110 35).toNatClampNeg (((kI 0) + ((kI 6) * v1)) + v2)) 132 (w 110 35).toNatClampNeg (v3 * v5)) 110 35 ((w 110 35) + (kI 1))))) rfl ?_
    refine EV.ret cl_202 rfl rfl rfl ?_
    exact ⟨_, rfl, rfl, H⟩
  · skip
    rw [if_neg h3] at H
    refine EV.steps cl_202 5 (q2 := (224, [some (.ref 110), some (.int v1), some (.int v2), some (.int v3), some (.int v4), some (.int v5)], [.int (v4 + (kI 3)), .int (w 110 11)], SH, w)) rfl ?_
    refine EV.i_ne cl_202 rfl (fun h6 => ?_) (fun h6 => ?_)
    · skip
      rw [if_neg h6] at H
      refine EV.steps cl_202 4 (q2 := (243, [some (.ref 110), some (.int v1), some (.int v2), some (.int v3), some (.int v4), some (.int v5)], [.ref 110, .int ((kI 10) * v5)], SH, w)) rfl ?_
      obtain ⟨j7, H⟩ := H
      refine EV.callF (kc := 175) (av := [.ref 110]) (r := [.int ((kI 10) * v5)]) (rv := some (.int (F_175_110 w))) (w2 := w) cl_202 rfl rfl rfl (m_175_110 w  j7) ?_
      refine EV.steps cl_202 11 (q2 := (209, [some (.ref 110), some (.int v1), some (.int v2), some (.int v3), some (.int v4), some (.int ((((kI 10) * v5) + (F_175_110 w)) - (kI 48)))], [], SH, (up2 w 110 11 ((w 110 11) + (kI 1))))) rfl ?_
      exact H
    · skip
      rw [if_pos h6] at H
      refine EV.steps cl_202 4 (q2 := (233, [some (.ref 110), some (.int v1), some (.int v2), some (.int v3), some (.int v4), some (.int v5)], [.int (w 110 11), .int (kI 2), .ref 110], SH, w)) rfl ?_
      refine EV.callF (kc := 177) (av := [.ref 110, .int (kI 2), .int (w 110 11)]) (r := []) (rv := some (.int (F_177_110 (kI 2) (w 110 11) w))) (w2 := (G_177_110 (kI 2) (w 110 11) w)) cl_202 rfl rfl rfl (m_177_110 w (kI 2) (w 110 11)) ?_
      refine EV.retB cl_202 rfl rfl (z1_177_110 (kI 2) (w 110 11) w) ?_
      exact ⟨_, rfl, rfl, H⟩
theorem t203_110_at0 {X : Scr} {d : Nat} {Q : Int32 → Wd → Prop} (w : Wd) (v1 : Int32)
    (H : (if (F_157 v1 (kI 1) (kI 120) w) = 0 then Q (kI (-1)) w else (if v1 ≤ (w 110 10) then CI X (d + 2) 202 [.ref 110] (up2 (G_195_110 v1 w) 110 35 (kI 0)) (fun x1 w1 => EI X (d + 2) 203 (35, [some (.ref 110), some (.int v1), some (.int x1), none], [], SH, w1) Q) else Q (kI (-1)) w))) : EI X (d + 2) 203 (0, [some (.ref 110), some (.int v1), none, none], [], SH, w) Q := by
  unfold EI
  refine EV.steps cl_203 3 (q2 := (4, [some (.ref 110), some (.int v1), none, none], [.int (kI 120), .int (kI 1), .int v1], SH, w)) rfl ?_
  refine EV.callF (kc := 157) (av := [.int v1, .int (kI 1), .int (kI 120)]) (r := []) (rv := some (.int (F_157 v1 (kI 1) (kI 120) w))) (w2 := w) cl_203 rfl rfl rfl (m_157 w v1 (kI 1) (kI 120)) ?_
  refine EV.z_eq cl_203 rfl (fun h1 => ?_) (fun h1 => ?_)
  · skip
    rw [if_pos h1] at H
    refine EV.steps cl_203 1 (q2 := (19, [some (.ref 110), some (.int v1), none, none], [.int (kI (-1))], SH, w)) rfl ?_
    refine EV.ret cl_203 rfl rfl rfl ?_
    exact ⟨_, rfl, rfl, H⟩
  · skip
    rw [if_neg h1] at H
    refine EV.steps cl_203 3 (q2 := (15, [some (.ref 110), some (.int v1), none, none], [.int (w 110 10), .int v1], SH, w)) rfl ?_
    refine EV.i_le cl_203 rfl (fun h2 => ?_) (fun h2 => ?_)
    · skip
      rw [if_pos h2] at H
      refine EV.steps cl_203 2 (q2 := (22, [some (.ref 110), some (.int v1), none, none], [.int v1, .ref 110], SH, w)) rfl ?_
      refine EV.callF (kc := 195) (av := [.ref 110, .int v1]) (r := []) (rv := none) (w2 := (G_195_110 v1 w)) cl_203 rfl rfl rfl (m_195_110 w v1) ?_
      refine EV.steps cl_203 4 (q2 := (31, [some (.ref 110), some (.int v1), none, none], [.ref 110], SH, (up2 (G_195_110 v1 w) 110 35 (kI 0)))) rfl ?_
      refine EV.call (kc := 202) (av := [.ref 110]) (r := []) cl_203 rfl rfl rfl H ?_
      clear H; intro y1 s1 w1 e1
      obtain ⟨x1, rfl, rfl, H⟩ := e1
      refine EV.steps cl_203 1 (q2 := (35, [some (.ref 110), some (.int v1), some (.int x1), none], [], SH, w1)) rfl ?_
      exact H
    · skip
      rw [if_neg h2] at H
      refine EV.steps cl_203 1 (q2 := (19, [some (.ref 110), some (.int v1), none, none], [.int (kI (-1))], SH, w)) rfl ?_
      refine EV.ret cl_203 rfl rfl rfl ?_
      exact ⟨_, rfl, rfl, H⟩
theorem t203_110_at35 {X : Scr} {d : Nat} {Q : Int32 → Wd → Prop} (w : Wd) (v1 : Int32) (v2 : Int32)
    (H : (if v2 = 0 then Q (w 110 13) (up2 w 110 10 (kI 0)) else (if (w 110 12) ≤ (w 110 11) then EI X (d + 2) 203 (91, [some (.ref 110), some (.int v1), some (.int v2), some (.int (kI 0))], [], SH, (up2 w 110 10 (kI 0))) Q else (((¬ (w 110 12) ≤ (w 110 11) → (inB (w 110 11) 260 = true))) ∧ (if (F_178_110 (kI 59) w) = 0 then EI X (d + 2) 203 (35, [some (.ref 110), some (.int v1), some (.int (kI 0)), none], [], SH, (G_178_110 (kI 59) w)) Q else CI X (d + 2) 202 [.ref 110] (G_178_110 (kI 59) w) (fun x1 w1 => (if x1 = 0 then EI X (d + 2) 203 (35, [some (.ref 110), some (.int v1), some (.int (kI 0)), none], [], SH, w1) Q else EI X (d + 2) 203 (35, [some (.ref 110), some (.int v1), some (.int (kI 1)), none], [], SH, w1) Q))))))) : EI X (d + 2) 203 (35, [some (.ref 110), some (.int v1), some (.int v2), none], [], SH, w) Q := by
  unfold EI
  refine EV.steps cl_203 1 (q2 := (36, [some (.ref 110), some (.int v1), some (.int v2), none], [.int v2], SH, w)) rfl ?_
  refine EV.z_eq cl_203 rfl (fun h1 => ?_) (fun h1 => ?_)
  · skip
    rw [if_pos h1] at H
    refine EV.steps cl_203 4 (q2 := (81, [some (.ref 110), some (.int v1), some (.int v2), none], [.int v2], SH, (up2 w 110 10 (kI 0)))) rfl ?_
    refine EV.z_ne cl_203 rfl (fun h2 => ?_) (fun h2 => ?_)
    · skip
      exact absurd h1 h2
    · skip
      refine EV.steps cl_203 2 (q2 := (88, [some (.ref 110), some (.int v1), some (.int v2), none], [.int (w 110 13)], SH, (up2 w 110 10 (kI 0)))) rfl ?_
      refine EV.ret cl_203 rfl rfl rfl ?_
      exact ⟨_, rfl, rfl, H⟩
  · skip
    rw [if_neg h1] at H
    refine EV.steps cl_203 4 (q2 := (47, [some (.ref 110), some (.int v1), some (.int v2), none], [.int (w 110 12), .int (w 110 11)], SH, w)) rfl ?_
    refine EV.i_ge cl_203 rfl (fun h3 => ?_) (fun h3 => ?_)
    · skip
      rw [if_pos h3] at H
      refine EV.steps cl_203 4 (q2 := (81, [some (.ref 110), some (.int v1), some (.int v2), none], [.int v2], SH, (up2 w 110 10 (kI 0)))) rfl ?_
      refine EV.z_ne cl_203 rfl (fun h4 => ?_) (fun h4 => ?_)
      · skip
        refine EV.steps cl_203 2 (q2 := (91, [some (.ref 110), some (.int v1), some (.int v2), some (.int (kI 0))], [], SH, (up2 w 110 10 (kI 0)))) rfl ?_
        exact H
      · skip
        exact absurd h4 h1
    · skip
      rw [if_neg h3] at H
      refine EV.steps cl_203 2 (q2 := (53, [some (.ref 110), some (.int v1), some (.int v2), none], [.int (kI 59), .ref 110], SH, w)) rfl ?_
      obtain ⟨j5, H⟩ := H
      refine EV.callF (kc := 178) (av := [.ref 110, .int (kI 59)]) (r := []) (rv := some (.int (F_178_110 (kI 59) w))) (w2 := (G_178_110 (kI 59) w)) cl_203 rfl rfl rfl (m_178_110 w (kI 59) j5) ?_
      refine EV.z_eq cl_203 rfl (fun h6 => ?_) (fun h6 => ?_)
      · skip
        rw [if_pos h6] at H
        refine EV.steps cl_203 3 (q2 := (35, [some (.ref 110), some (.int v1), some (.int (kI 0)), none], [], SH, (G_178_110 (kI 59) w))) rfl ?_
        exact H
      · skip
        rw [if_neg h6] at H
        refine EV.steps cl_203 1 (q2 := (60, [some (.ref 110), some (.int v1), some (.int v2), none], [.ref 110], SH, (G_178_110 (kI 59) w))) rfl ?_
        refine EV.call (kc := 202) (av := [.ref 110]) (r := []) cl_203 rfl rfl rfl H ?_
        clear H; intro y1 s1 w1 e1
        obtain ⟨x1, rfl, rfl, H⟩ := e1
        refine EV.z_eq cl_203 rfl (fun h7 => ?_) (fun h7 => ?_)
        · skip
          rw [if_pos h7] at H
          refine EV.steps cl_203 3 (q2 := (35, [some (.ref 110), some (.int v1), some (.int (kI 0)), none], [], SH, w1)) rfl ?_
          exact H
        · skip
          rw [if_neg h7] at H
          refine EV.steps cl_203 4 (q2 := (35, [some (.ref 110), some (.int v1), some (.int (kI 1)), none], [], SH, w1)) rfl ?_
          exact H
theorem t203_110_at91 {X : Scr} {d : Nat} {Q : Int32 → Wd → Prop} (w : Wd) (v1 : Int32) (v2 : Int32) (v3 : Int32)
    (H : (if (w 110 35) ≤ v3 then Q (w 110 35) w else (inB v3 20 = true ∧ (inB v3 20 = true ∧ (inB (w 131 v3.toNatClampNeg) 162 = true ∧ (inB v3 20 = true ∧ (inB (w 131 v3.toNatClampNeg) 162 = true ∧ EI X (d + 2) 203 (91, [some (.ref 110), some (.int v1), some (.int v2), some (.int (v3 + (kI 1)))], [], SH, (up2 w 111 (w 131 v3.toNatClampNeg).toNatClampNeg (F_159 (kI 0) (F_158 (kI 9999) ((w 111 (w 131 v3.toNatClampNeg).toNatClampNeg) + (w 132 v3.toNatClampNeg)) w) w))) Q))))))) : EI X (d + 2) 203 (91, [some (.ref 110), some (.int v1), some (.int v2), some (.int v3)], [], SH, w) Q := by
  unfold EI
  refine EV.steps cl_203 3 (q2 := (96, [some (.ref 110), some (.int v1), some (.int v2), some (.int v3)], [.int (w 110 35), .int v3], SH, w)) rfl ?_
  refine EV.i_ge cl_203 rfl (fun h1 => ?_) (fun h1 => ?_)
  · skip
    rw [if_pos h1] at H
    refine EV.steps cl_203 2 (q2 := (148, [some (.ref 110), some (.int v1), some (.int v2), some (.int v3)], [.int (w 110 35)], SH, w)) rfl ?_
    refine EV.ret cl_203 rfl rfl rfl ?_
    exact ⟨_, rfl, rfl, H⟩
  · skip
    rw [if_neg h1] at H
    refine EV.steps cl_203 5 (q2 := (108, [some (.ref 110), some (.int v1), some (.int v2), some (.int v3)], [.int v3, .ref 131, .ref 111], SH, w)) rfl ?_
    obtain ⟨j2, H⟩ := H
    refine EV.iaload cl_203 rfl rfl (by decide) j2 ?_
    refine EV.steps cl_203 7 (q2 := (122, [some (.ref 110), some (.int v1), some (.int v2), some (.int v3)], [.int v3, .ref 131, .ref 111, .int (kI 9999), .int (kI 0), .int (w 131 v3.toNatClampNeg), .ref 111], SH, w)) rfl ?_
    obtain ⟨j3, H⟩ := H
    refine EV.iaload cl_203 rfl rfl (by decide) j3 ?_
    obtain ⟨j4, H⟩ := H
    refine EV.iaload cl_203 rfl rfl (by decide) j4 ?_
    refine EV.steps cl_203 3 (q2 := (129, [some (.ref 110), some (.int v1), some (.int v2), some (.int v3)], [.int v3, .ref 132, .int (w 111 (w 131 v3.toNatClampNeg).toNatClampNeg), .int (kI 9999), .int (kI 0), .int (w 131 v3.toNatClampNeg), .ref 111], SH, w)) rfl ?_
    obtain ⟨j5, H⟩ := H
    refine EV.iaload cl_203 rfl rfl (by decide) j5 ?_
    refine EV.steps cl_203 1 (q2 := (131, [some (.ref 110), some (.int v1), some (.int v2), some (.int v3)], [.int ((w 111 (w 131 v3.toNatClampNeg).toNatClampNeg) + (w 132 v3.toNatClampNeg)), .int (kI 9999), .int (kI 0), .int (w 131 v3.toNatClampNeg), .ref 111], SH, w)) rfl ?_
    refine EV.callF (kc := 158) (av := [.int (kI 9999), .int ((w 111 (w 131 v3.toNatClampNeg).toNatClampNeg) + (w 132 v3.toNatClampNeg))]) (r := [.int (kI 0), .int (w 131 v3.toNatClampNeg), .ref 111]) (rv := some (.int (F_158 (kI 9999) ((w 111 (w 131 v3.toNatClampNeg).toNatClampNeg) + (w 132 v3.toNatClampNeg)) w))) (w2 := w) cl_203 rfl rfl rfl (m_158 w (kI 9999) ((w 111 (w 131 v3.toNatClampNeg).toNatClampNeg) + (w 132 v3.toNatClampNeg))) ?_
    refine EV.callF (kc := 159) (av := [.int (kI 0), .int (F_158 (kI 9999) ((w 111 (w 131 v3.toNatClampNeg).toNatClampNeg) + (w 132 v3.toNatClampNeg)) w)]) (r := [.int (w 131 v3.toNatClampNeg), .ref 111]) (rv := some (.int (F_159 (kI 0) (F_158 (kI 9999) ((w 111 (w 131 v3.toNatClampNeg).toNatClampNeg) + (w 132 v3.toNatClampNeg)) w) w))) (w2 := w) cl_203 rfl rfl rfl (m_159 w (kI 0) (F_158 (kI 9999) ((w 111 (w 131 v3.toNatClampNeg).toNatClampNeg) + (w 132 v3.toNatClampNeg)) w)) ?_
    obtain ⟨j6, H⟩ := H
    refine EV.iastore cl_203 rfl rfl (by decide) j6 ?_
    refine EV.steps cl_203 2 (q2 := (91, [some (.ref 110), some (.int v1), some (.int v2), some (.int (v3 + (kI 1)))], [], SH, (up2 w 111 (w 131 v3.toNatClampNeg).toNatClampNeg (F_159 (kI 0) (F_158 (kI 9999) ((w 111 (w 131 v3.toNatClampNeg).toNatClampNeg) + (w 132 v3.toNatClampNeg)) w) w)))) rfl ?_
    exact H
set_option maxRecDepth 20000 in
theorem t204_110_at0 {X : Scr} {d : Nat} {Q : Wd → Prop} (w : Wd) (v1 : Int32) (v2 : Int32)
    (H : CU X (d + 1) 201 [.ref 110, .int v1, .int v2, .int (w 111 (kI 157).toNatClampNeg)] w (fun w1 => CI X (d + 1) 199 [.ref 110, .int (kI 110), .int (kI 99)] w1 (fun x2 w2 => CI X (d + 1) 199 [.ref 110, .int (kI 100), .int (kI 10)] w2 (fun x3 w3 => CI X (d + 1) 200 [.ref 110, .int (kI 120)] w3 (fun x4 w4 => ∀ z1 : Int32, z1 = (((kI 25173) * (w4 111 (kI 161).toNatClampNeg)) + (kI 13849)) - (((kI 25173) * (w4 111 (kI 161).toNatClampNeg)) + (kI 13849)) / (kI 65536) * (kI 65536) → ∀ z2 : Int32, z2 = ((up2 w4 111 (kI 161).toNatClampNeg z1) 111 (kI 161).toNatClampNeg) - ((up2 w4 111 (kI 161).toNatClampNeg z1) 111 (kI 161).toNatClampNeg) / (kI 10) * (kI 10) → (if x3 ≤ z2 then (if x4 = 0 then (inB (((kI 0) + ((kI 6) * v1)) + v2) 162 = true ∧ (inB (((kI 0) + ((kI 6) * v1)) + v2) 162 = true ∧ (inB (((kI 36) + ((kI 12) * v2)) + ((up2 w4 111 (kI 161).toNatClampNeg z1) 111 (kI 157).toNatClampNeg)) 162 = true ∧ (inB (((kI 36) + ((kI 12) * v2)) + ((up2 w4 111 (kI 161).toNatClampNeg z1) 111 (kI 157).toNatClampNeg)) 162 = true ∧ Q (up2 (up2 (up2 (up2 w4 111 (kI 161).toNatClampNeg z1) 110 36 ((w4 110 36) + x2)) 111 (((kI 0) + ((kI 6) * v1)) + v2).toNatClampNeg (F_158 (kI 9999) (((up2 w4 111 (kI 161).toNatClampNeg z1) 111 (((kI 0) + ((kI 6) * v1)) + v2).toNatClampNeg) + x2) (up2 (up2 w4 111 (kI 161).toNatClampNeg z1) 110 36 ((w4 110 36) + x2)))) 111 (((kI 36) + ((kI 12) * v2)) + ((up2 w4 111 (kI 161).toNatClampNeg z1) 111 (kI 157).toNatClampNeg)).toNatClampNeg (F_158 (kI 9999) (((up2 (up2 (up2 w4 111 (kI 161).toNatClampNeg z1) 110 36 ((w4 110 36) + x2)) 111 (((kI 0) + ((kI 6) * v1)) + v2).toNatClampNeg (F_158 (kI 9999) (((up2 w4 111 (kI 161).toNatClampNeg z1) 111 (((kI 0) + ((kI 6) * v1)) + v2).toNatClampNeg) + x2) (up2 (up2 w4 111 (kI 161).toNatClampNeg z1) 110 36 ((w4 110 36) + x2)))) 111 (((kI 36) + ((kI 12) * v2)) + ((up2 w4 111 (kI 161).toNatClampNeg z1) 111 (kI 157).toNatClampNeg)).toNatClampNeg) + x2) (up2 (up2 (up2 w4 111 (kI 161).toNatClampNeg z1) 110 36 ((w4 110 36) + x2)) 111 (((kI 0) + ((kI 6) * v1)) + v2).toNatClampNeg (F_158 (kI 9999) (((up2 w4 111 (kI 161).toNatClampNeg z1) 111 (((kI 0) + ((kI 6) * v1)) + v2).toNatClampNeg) + x2) (up2 (up2 w4 111 (kI 161).toNatClampNeg z1) 110 36 ((w4 110 36) + x2)))))))))) else Q (up2 (up2 w4 111 (kI 161).toNatClampNeg z1) 110 36 ((w4 110 36) + x2))) else (if x4 = 0 then (inB (((kI 0) + ((kI 6) * v1)) + v2) 162 = true ∧ (inB (((kI 0) + ((kI 6) * v1)) + v2) 162 = true ∧ (inB (((kI 36) + ((kI 12) * v2)) + ((up2 w4 111 (kI 161).toNatClampNeg z1) 111 (kI 157).toNatClampNeg)) 162 = true ∧ (inB (((kI 36) + ((kI 12) * v2)) + ((up2 w4 111 (kI 161).toNatClampNeg z1) 111 (kI 157).toNatClampNeg)) 162 = true ∧ Q (up2 (up2 (up2 (up2 w4 111 (kI 161).toNatClampNeg z1) 110 36 ((w4 110 36) + (x2 + (kI 1)))) 111 (((kI 0) + ((kI 6) * v1)) + v2).toNatClampNeg (F_158 (kI 9999) (((up2 w4 111 (kI 161).toNatClampNeg z1) 111 (((kI 0) + ((kI 6) * v1)) + v2).toNatClampNeg) + (x2 + (kI 1))) (up2 (up2 w4 111 (kI 161).toNatClampNeg z1) 110 36 ((w4 110 36) + (x2 + (kI 1)))))) 111 (((kI 36) + ((kI 12) * v2)) + ((up2 w4 111 (kI 161).toNatClampNeg z1) 111 (kI 157).toNatClampNeg)).toNatClampNeg (F_158 (kI 9999) (((up2 (up2 (up2 w4 111 (kI 161).toNatClampNeg z1) 110 36 ((w4 110 36) + (x2 + (kI 1)))) 111 (((kI 0) + ((kI 6) * v1)) + v2).toNatClampNeg (F_158 (kI 9999) (((up2 w4 111 (kI 161).toNatClampNeg z1) 111 (((kI 0) + ((kI 6) * v1)) + v2).toNatClampNeg) + (x2 + (kI 1))) (up2 (up2 w4 111 (kI 161).toNatClampNeg z1) 110 36 ((w4 110 36) + (x2 + (kI 1)))))) 111 (((kI 36) + ((kI 12) * v2)) + ((up2 w4 111 (kI 161).toNatClampNeg z1) 111 (kI 157).toNatClampNeg)).toNatClampNeg) + (x2 + (kI 1))) (up2 (up2 (up2 w4 111 (kI 161).toNatClampNeg z1) 110 36 ((w4 110 36) + (x2 + (kI 1)))) 111 (((kI 0) + ((kI 6) * v1)) + v2).toNatClampNeg (F_158 (kI 9999) (((up2 w4 111 (kI 161).toNatClampNeg z1) 111 (((kI 0) + ((kI 6) * v1)) + v2).toNatClampNeg) + (x2 + (kI 1))) (up2 (up2 w4 111 (kI 161).toNatClampNeg z1) 110 36 ((w4 110 36) + (x2 + (kI 1)))))))))))) else Q (up2 (up2 w4 111 (kI 161).toNatClampNeg z1) 110 36 ((w4 110 36) + (x2 + (kI 1))))))))))) : EU X (d + 1) 204 (0, [some (.ref 110), some (.int v1), some (.int v2), none, none, none, none, none], [], SH, w) Q := by
  unfold EU
  refine EV.steps cl_204 6 (q2 := (10, [some (.ref 110), some (.int v1), some (.int v2), none, none, none, none, none], [.int (kI 157), .ref 111, .int v2, .int v1, .ref 110], SH, w)) rfl ?_
  refine EV.iaload cl_204 rfl rfl (by decide) rfl ?_
  refine EV.call (kc := 201) (av := [.ref 110, .int v1, .int v2, .int (w 111 (kI 157).toNatClampNeg)]) (r := []) cl_204 rfl rfl rfl H ?_
  clear H; intro y1 s1 w1 e1
  obtain ⟨rfl, rfl, H⟩ := e1
  refine EV.steps cl_204 3 (q2 := (19, [some (.ref 110), some (.int v1), some (.int v2), none, none, none, none, none], [.int (kI 99), .int (kI 110), .ref 110], SH, w1)) rfl ?_
  refine EV.call (kc := 199) (av := [.ref 110, .int (kI 110), .int (kI 99)]) (r := []) cl_204 rfl rfl rfl H ?_
  clear H; intro y2 s2 w2 e2
  obtain ⟨x2, rfl, rfl, H⟩ := e2
  refine EV.steps cl_204 4 (q2 := (28, [some (.ref 110), some (.int v1), some (.int v2), some (.int x2), none, none, none, none], [.int (kI 10), .int (kI 100), .ref 110], SH, w2)) rfl ?_
  refine EV.call (kc := 199) (av := [.ref 110, .int (kI 100), .int (kI 10)]) (r := []) cl_204 rfl rfl rfl H ?_
  clear H; intro y3 s3 w3 e3
  obtain ⟨x3, rfl, rfl, H⟩ := e3
  refine EV.steps cl_204 3 (q2 := (36, [some (.ref 110), some (.int v1), some (.int v2), some (.int x2), some (.int x3), none, none, none], [.int (kI 120), .ref 110], SH, w3)) rfl ?_
  refine EV.call (kc := 200) (av := [.ref 110, .int (kI 120)]) (r := []) cl_204 rfl rfl rfl H ?_
  clear H; intro y4 s4 w4 e4
  obtain ⟨x4, rfl, rfl, H⟩ := e4
  refine EV.steps cl_204 8 (q2 := (58, [some (.ref 110), some (.int v1), some (.int v2), some (.int x2), some (.int x3), some (.int x4), none, none], [.int (kI 161), .ref 111, .int (kI 25173), .int (kI 161), .ref 111], SH, w4)) rfl ?_
  refine EV.iaload cl_204 rfl rfl (by decide) rfl ?_
  refine EV.steps cl_204 4 (q2 := (67, [some (.ref 110), some (.int v1), some (.int v2), some (.int x2), some (.int x3), some (.int x4), none, none], [.int (kI 65536), .int (((kI 25173) * (w4 111 (kI 161).toNatClampNeg)) + (kI 13849)), .int (kI 161), .ref 111], SH, w4)) rfl ?_
  refine EV.irem cl_204 rfl (by decide) ?_
  obtain ⟨z1, hz1⟩ : ∃ z : Int32, z = (((kI 25173) * (w4 111 (kI 161).toNatClampNeg)) + (kI 13849)) - (((kI 25173) * (w4 111 (kI 161).toNatClampNeg)) + (kI 13849)) / (kI 65536) * (kI 65536) := ⟨_, rfl⟩
  rw [← hz1]
  replace H := H z1 hz1
  refine EV.iastore cl_204 rfl rfl (by decide) rfl ?_
  refine EV.steps cl_204 3 (q2 := (76, [some (.ref 110), some (.int v1), some (.int v2), some (.int x2), some (.int x3), some (.int x4), none, none], [.int (kI 161), .ref 111], SH, (up2 w4 111 (kI 161).toNatClampNeg z1))) rfl ?_
  refine EV.iaload cl_204 rfl rfl (by decide) rfl ?_
  refine EV.steps cl_204 1 (q2 := (79, [some (.ref 110), some (.int v1), some (.int v2), some (.int x2), some (.int x3), some (.int x4), none, none], [.int (kI 10), .int ((up2 w4 111 (kI 161).toNatClampNeg z1) 111 (kI 161).toNatClampNeg)], SH, (up2 w4 111 (kI 161).toNatClampNeg z1))) rfl ?_
  refine EV.irem cl_204 rfl (by decide) ?_
  obtain ⟨z2, hz2⟩ : ∃ z : Int32, z = ((up2 w4 111 (kI 161).toNatClampNeg z1) 111 (kI 161).toNatClampNeg) - ((up2 w4 111 (kI 161).toNatClampNeg z1) 111 (kI 161).toNatClampNeg) / (kI 10) * (kI 10) := ⟨_, rfl⟩
  rw [← hz2]
  replace H := H z2 hz2
  refine EV.steps cl_204 1 (q2 := (82, [some (.ref 110), some (.int v1), some (.int v2), some (.int x2), some (.int x3), some (.int x4), none, none], [.int x3, .int z2], SH, (up2 w4 111 (kI 161).toNatClampNeg z1))) rfl ?_
  refine EV.i_ge cl_204 rfl (fun h3 => ?_) (fun h3 => ?_)
  · skip
    rw [if_pos h3] at H
    refine EV.steps cl_204 7 (q2 := (101, [some (.ref 110), some (.int v1), some (.int v2), some (.int x2), some (.int x3), some (.int x4), none, none], [.int x4], SH, (up2 (up2 w4 111 (kI 161).toNatClampNeg z1) 110 36 ((w4 110 36) + x2)))) rfl ?_
    refine EV.z_eq cl_204 rfl (fun h4 => ?_) (fun h4 => ?_)
    · skip
      rw [if_pos h4] at H
      refine EV.steps cl_204 16 (q2 := (129, [some (.ref 110), some (.int v1), some (.int v2), some (.int x2), some (.int x3), some (.int x4), some (.int (((kI 0) + ((kI 6) * v1)) + v2)), none], [.int (kI 157), .ref 111, .int ((kI 36) + ((kI 12) * v2))], SH, (up2 (up2 w4 111 (kI 161).toNatClampNeg z1) 110 36 ((w4 110 36) + x2)))) rfl ?_
      refine EV.iaload cl_204 rfl rfl (by decide) rfl ?_
      refine EV.steps cl_204 9 (q2 := (148, [some (.ref 110), some (.int v1), some (.int v2), some (.int x2), some (.int x3), some (.int x4), some (.int (((kI 0) + ((kI 6) * v1)) + v2)), some (.int (((kI 36) + ((kI 12) * v2)) + ((up2 w4 111 (kI 161).toNatClampNeg z1) 111 (kI 157).toNatClampNeg)))], [.int (((kI 0) + ((kI 6) * v1)) + v2), .ref 111, .int (kI 9999), .int (((kI 0) + ((kI 6) * v1)) + v2), .ref 111], SH, (up2 (up2 w4 111 (kI 161).toNatClampNeg z1) 110 36 ((w4 110 36) + x2)))) rfl ?_
      obtain ⟨j5, H⟩ := H
      refine EV.iaload cl_204 rfl rfl (by decide) j5 ?_
      refine EV.steps cl_204 2 (q2 := (151, [some (.ref 110), some (.int v1), some (.int v2), some (.int x2), some (.int x3), some (.int x4), some (.int (((kI 0) + ((kI 6) * v1)) + v2)), some (.int (((kI 36) + ((kI 12) * v2)) + ((up2 w4 111 (kI 161).toNatClampNeg z1) 111 (kI 157).toNatClampNeg)))], [.int (((up2 w4 111 (kI 161).toNatClampNeg z1) 111 (((kI 0) + ((kI 6) * v1)) + v2).toNatClampNeg) + x2), .int (kI 9999), .int (((kI 0) + ((kI 6) * v1)) + v2), .ref 111], SH, (up2 (up2 w4 111 (kI 161).toNatClampNeg z1) 110 36 ((w4 110 36) + x2)))) rfl ?_
      refine EV.callF (kc := 158) (av := [.int (kI 9999), .int (((up2 w4 111 (kI 161).toNatClampNeg z1) 111 (((kI 0) + ((kI 6) * v1)) + v2).toNatClampNeg) + x2)]) (r := [.int (((kI 0) + ((kI 6) * v1)) + v2), .ref 111]) (rv := some (.int (F_158 (kI 9999) (((up2 w4 111 (kI 161).toNatClampNeg z1) 111 (((kI 0) + ((kI 6) * v1)) + v2).toNatClampNeg) + x2) (up2 (up2 w4 111 (kI 161).toNatClampNeg z1) 110 36 ((w4 110 36) + x2))))) (w2 := (up2 (up2 w4 111 (kI 161).toNatClampNeg z1) 110 36 ((w4 110 36) + x2))) cl_204 rfl rfl rfl (m_158 (up2 (up2 w4 111 (kI 161).toNatClampNeg z1) 110 36 ((w4 110 36) + x2)) (kI 9999) (((up2 w4 111 (kI 161).toNatClampNeg z1) 111 (((kI 0) + ((kI 6) * v1)) + v2).toNatClampNeg) + x2)) ?_
      obtain ⟨j6, H⟩ := H
      refine EV.iastore cl_204 rfl rfl (by decide) j6 ?_
      refine EV.steps cl_204 7 (q2 := (170, [some (.ref 110), some (.int v1), some (.int v2), some (.int x2), some (.int x3), some (.int x4), some (.int (((kI 0) + ((kI 6) * v1)) + v2)), some (.int (((kI 36) + ((kI 12) * v2)) + ((up2 w4 111 (kI 161).toNatClampNeg z1) 111 (kI 157).toNatClampNeg)))], [.int (((kI 36) + ((kI 12) * v2)) + ((up2 w4 111 (kI 161).toNatClampNeg z1) 111 (kI 157).toNatClampNeg)), .ref 111, .int (kI 9999), .int (((kI 36) + ((kI 12) * v2)) + ((up2 w4 111 (kI 161).toNatClampNeg z1) 111 (kI 157).toNatClampNeg)), .ref 111], SH, (up2 (up2 (up2 w4 111 (kI 161).toNatClampNeg z1) 110 36 ((w4 110 36) + x2)) 111 (((kI 0) + ((kI 6) * v1)) + v2).toNatClampNeg (F_158 (kI 9999) (((up2 w4 111 (kI 161).toNatClampNeg z1) 111 (((kI 0) + ((kI 6) * v1)) + v2).toNatClampNeg) + x2) (up2 (up2 w4 111 (kI 161).toNatClampNeg z1) 110 36 ((w4 110 36) + x2)))))) rfl ?_
      obtain ⟨j7, H⟩ := H
      refine EV.iaload cl_204 rfl rfl (by decide) j7 ?_
      refine EV.steps cl_204 2 (q2 := (173, [some (.ref 110), some (.int v1), some (.int v2), some (.int x2), some (.int x3), some (.int x4), some (.int (((kI 0) + ((kI 6) * v1)) + v2)), some (.int (((kI 36) + ((kI 12) * v2)) + ((up2 w4 111 (kI 161).toNatClampNeg z1) 111 (kI 157).toNatClampNeg)))], [.int (((up2 (up2 (up2 w4 111 (kI 161).toNatClampNeg z1) 110 36 ((w4 110 36) + x2)) 111 (((kI 0) + ((kI 6) * v1)) + v2).toNatClampNeg (F_158 (kI 9999) (((up2 w4 111 (kI 161).toNatClampNeg z1) 111 (((kI 0) + ((kI 6) * v1)) + v2).toNatClampNeg) + x2) (up2 (up2 w4 111 (kI 161).toNatClampNeg z1) 110 36 ((w4 110 36) + x2)))) 111 (((kI 36) + ((kI 12) * v2)) + ((up2 w4 111 (kI 161).toNatClampNeg z1) 111 (kI 157).toNatClampNeg)).toNatClampNeg) + x2), .int (kI 9999), .int (((kI 36) + ((kI 12) * v2)) + ((up2 w4 111 (kI 161).toNatClampNeg z1) 111 (kI 157).toNatClampNeg)), .ref 111], SH, (up2 (up2 (up2 w4 111 (kI 161).toNatClampNeg z1) 110 36 ((w4 110 36) + x2)) 111 (((kI 0) + ((kI 6) * v1)) + v2).toNatClampNeg (F_158 (kI 9999) (((up2 w4 111 (kI 161).toNatClampNeg z1) 111 (((kI 0) + ((kI 6) * v1)) + v2).toNatClampNeg) + x2) (up2 (up2 w4 111 (kI 161).toNatClampNeg z1) 110 36 ((w4 110 36) + x2)))))) rfl ?_
      refine EV.callF (kc := 158) (av := [.int (kI 9999), .int (((up2 (up2 (up2 w4 111 (kI 161).toNatClampNeg z1) 110 36 ((w4 110 36) + x2)) 111 (((kI 0) + ((kI 6) * v1)) + v2).toNatClampNeg (F_158 (kI 9999) (((up2 w4 111 (kI 161).toNatClampNeg z1) 111 (((kI 0) + ((kI 6) * v1)) + v2).toNatClampNeg) + x2) (up2 (up2 w4 111 (kI 161).toNatClampNeg z1) 110 36 ((w4 110 36) + x2)))) 111 (((kI 36) + ((kI 12) * v2)) + ((up2 w4 111 (kI 161).toNatClampNeg z1) 111 (kI 157).toNatClampNeg)).toNatClampNeg) + x2)]) (r := [.int (((kI 36) + ((kI 12) * v2)) + ((up2 w4 111 (kI 161).toNatClampNeg z1) 111 (kI 157).toNatClampNeg)), .ref 111]) (rv := some (.int (F_158 (kI 9999) (((up2 (up2 (up2 w4 111 (kI 161).toNatClampNeg z1) 110 36 ((w4 110 36) + x2)) 111 (((kI 0) + ((kI 6) * v1)) + v2).toNatClampNeg (F_158 (kI 9999) (((up2 w4 111 (kI 161).toNatClampNeg z1) 111 (((kI 0) + ((kI 6) * v1)) + v2).toNatClampNeg) + x2) (up2 (up2 w4 111 (kI 161).toNatClampNeg z1) 110 36 ((w4 110 36) + x2)))) 111 (((kI 36) + ((kI 12) * v2)) + ((up2 w4 111 (kI 161).toNatClampNeg z1) 111 (kI 157).toNatClampNeg)).toNatClampNeg) + x2) (up2 (up2 (up2 w4 111 (kI 161).toNatClampNeg z1) 110 36 ((w4 110 36) + x2)) 111 (((kI 0) + ((kI 6) * v1)) + v2).toNatClampNeg (F_158 (kI 9999) (((up2 w4 111 (kI 161).toNatClampNeg z1) 111 (((kI 0) + ((kI 6) * v1)) + v2).toNatClampNeg) + x2) (up2 (up2 w4 111 (kI 161).toNatClampNeg z1) 110 36 ((w4 110 36) + x2))))))) (w2 := (up2 (up2 (up2 w4 111 (kI 161).toNatClampNeg z1) 110 36 ((w4 110 36) + x2)) 111 (((kI 0) + ((kI 6) * v1)) + v2).toNatClampNeg (F_158 (kI 9999) (((up2 w4 111 (kI 161).toNatClampNeg z1) 111 (((kI 0) + ((kI 6) * v1)) + v2).toNatClampNeg) + x2) (up2 (up2 w4 111 (kI 161).toNatClampNeg z1) 110 36 ((w4 110 36) + x2))))) cl_204 rfl rfl rfl (m_158 (up2 (up2 (up2 w4 111 (kI 161).toNatClampNeg z1) 110 36 ((w4 110 36) + x2)) 111 (((kI 0) + ((kI 6) * v1)) + v2).toNatClampNeg (F_158 (kI 9999) (((up2 w4 111 (kI 161).toNatClampNeg z1) 111 (((kI 0) + ((kI 6) * v1)) + v2).toNatClampNeg) + x2) (up2 (up2 w4 111 (kI 161).toNatClampNeg z1) 110 36 ((w4 110 36) + x2)))) (kI 9999) (((up2 (up2 (up2 w4 111 (kI 161).toNatClampNeg z1) 110 36 ((w4 110 36) + x2)) 111 (((kI 0) + ((kI 6) * v1)) + v2).toNatClampNeg (F_158 (kI 9999) (((up2 w4 111 (kI 161).toNatClampNeg z1) 111 (((kI 0) + ((kI 6) * v1)) + v2).toNatClampNeg) + x2) (up2 (up2 w4 111 (kI 161).toNatClampNeg z1) 110 36 ((w4 110 36) + x2)))) 111 (((kI 36) + ((kI 12) * v2)) + ((up2 w4 111 (kI 161).toNatClampNeg z1) 111 (kI 157).toNatClampNeg)).toNatClampNeg) + x2)) ?_
      obtain ⟨j8, H⟩ := H
      refine EV.iastore cl_204 rfl rfl (by decide) j8 ?_
      refine EV.ret cl_204 rfl rfl rfl ?_
      exact ⟨rfl, rfl, H⟩
    · skip
      rw [if_neg h4] at H
      refine EV.ret cl_204 rfl rfl rfl ?_
      exact ⟨rfl, rfl, H⟩
  · skip
    rw [if_neg h3] at H
    refine EV.steps cl_204 11 (q2 := (101, [some (.ref 110), some (.int v1), some (.int v2), some (.int (x2 + (kI 1))), some (.int x3), some (.int x4), none, none], [.int x4], SH, (up2 (up2 w4 111 (kI 161).toNatClampNeg z1) 110 36 ((w4 110 36) + (x2 + (kI 1)))))) rfl ?_
    refine EV.z_eq cl_204 rfl (fun h9 => ?_) (fun h9 => ?_)
    · skip
      rw [if_pos h9] at H
      refine EV.steps cl_204 16 (q2 := (129, [some (.ref 110), some (.int v1), some (.int v2), some (.int (x2 + (kI 1))), some (.int x3), some (.int x4), some (.int (((kI 0) + ((kI 6) * v1)) + v2)), none], [.int (kI 157), .ref 111, .int ((kI 36) + ((kI 12) * v2))], SH, (up2 (up2 w4 111 (kI 161).toNatClampNeg z1) 110 36 ((w4 110 36) + (x2 + (kI 1)))))) rfl ?_
      refine EV.iaload cl_204 rfl rfl (by decide) rfl ?_
      refine EV.steps cl_204 9 (q2 := (148, [some (.ref 110), some (.int v1), some (.int v2), some (.int (x2 + (kI 1))), some (.int x3), some (.int x4), some (.int (((kI 0) + ((kI 6) * v1)) + v2)), some (.int (((kI 36) + ((kI 12) * v2)) + ((up2 w4 111 (kI 161).toNatClampNeg z1) 111 (kI 157).toNatClampNeg)))], [.int (((kI 0) + ((kI 6) * v1)) + v2), .ref 111, .int (kI 9999), .int (((kI 0) + ((kI 6) * v1)) + v2), .ref 111], SH, (up2 (up2 w4 111 (kI 161).toNatClampNeg z1) 110 36 ((w4 110 36) + (x2 + (kI 1)))))) rfl ?_
      obtain ⟨j10, H⟩ := H
      refine EV.iaload cl_204 rfl rfl (by decide) j10 ?_
      refine EV.steps cl_204 2 (q2 := (151, [some (.ref 110), some (.int v1), some (.int v2), some (.int (x2 + (kI 1))), some (.int x3), some (.int x4), some (.int (((kI 0) + ((kI 6) * v1)) + v2)), some (.int (((kI 36) + ((kI 12) * v2)) + ((up2 w4 111 (kI 161).toNatClampNeg z1) 111 (kI 157).toNatClampNeg)))], [.int (((up2 w4 111 (kI 161).toNatClampNeg z1) 111 (((kI 0) + ((kI 6) * v1)) + v2).toNatClampNeg) + (x2 + (kI 1))), .int (kI 9999), .int (((kI 0) + ((kI 6) * v1)) + v2), .ref 111], SH, (up2 (up2 w4 111 (kI 161).toNatClampNeg z1) 110 36 ((w4 110 36) + (x2 + (kI 1)))))) rfl ?_
      refine EV.callF (kc := 158) (av := [.int (kI 9999), .int (((up2 w4 111 (kI 161).toNatClampNeg z1) 111 (((kI 0) + ((kI 6) * v1)) + v2).toNatClampNeg) + (x2 + (kI 1)))]) (r := [.int (((kI 0) + ((kI 6) * v1)) + v2), .ref 111]) (rv := some (.int (F_158 (kI 9999) (((up2 w4 111 (kI 161).toNatClampNeg z1) 111 (((kI 0) + ((kI 6) * v1)) + v2).toNatClampNeg) + (x2 + (kI 1))) (up2 (up2 w4 111 (kI 161).toNatClampNeg z1) 110 36 ((w4 110 36) + (x2 + (kI 1))))))) (w2 := (up2 (up2 w4 111 (kI 161).toNatClampNeg z1) 110 36 ((w4 110 36) + (x2 + (kI 1))))) cl_204 rfl rfl rfl (m_158 (up2 (up2 w4 111 (kI 161).toNatClampNeg z1) 110 36 ((w4 110 36) + (x2 + (kI 1)))) (kI 9999) (((up2 w4 111 (kI 161).toNatClampNeg z1) 111 (((kI 0) + ((kI 6) * v1)) + v2).toNatClampNeg) + (x2 + (kI 1)))) ?_
      obtain ⟨j11, H⟩ := H
      refine EV.iastore cl_204 rfl rfl (by decide) j11 ?_
      refine EV.steps cl_204 7 (q2 := (170, [some (.ref 110), some (.int v1), some (.int v2), some (.int (x2 + (kI 1))), some (.int x3), some (.int x4), some (.int (((kI 0) + ((kI 6) * v1)) + v2)), some (.int (((kI 36) + ((kI 12) * v2)) + ((up2 w4 111 (kI 161).toNatClampNeg z1) 111 (kI 157).toNatClampNeg)))], [.int (((kI 36) + ((kI 12) * v2)) + ((up2 w4 111 (kI 161).toNatClampNeg z1) 111 (kI 157).toNatClampNeg)), .ref 111, .int (kI 9999), .int (((kI 36) + ((kI 12) * v2)) + ((up2 w4 111 (kI 161).toNatClampNeg z1) 111 (kI 157).toNatClampNeg)), .ref 111], SH, (up2 (up2 (up2 w4 111 (kI 161).toNatClampNeg z1) 110 36 ((w4 110 36) + (x2 + (kI 1)))) 111 (((kI 0) + ((kI 6) * v1)) + v2).toNatClampNeg (F_158 (kI 9999) (((up2 w4 111 (kI 161).toNatClampNeg z1) 111 (((kI 0) + ((kI 6) * v1)) + v2).toNatClampNeg) + (x2 + (kI 1))) (up2 (up2 w4 111 (kI 161).toNatClampNeg z1) 110 36 ((w4 110 36) + (x2 + (kI 1)))))))) rfl ?_
      obtain ⟨j12, H⟩ := H
      refine EV.iaload cl_204 rfl rfl (by decide) j12 ?_
      refine EV.steps cl_204 2 (q2 := (173, [some (.ref 110), some (.int v1), some (.int v2), some (.int (x2 + (kI 1))), some (.int x3), some (.int x4), some (.int (((kI 0) + ((kI 6) * v1)) + v2)), some (.int (((kI 36) + ((kI 12) * v2)) + ((up2 w4 111 (kI 161).toNatClampNeg z1) 111 (kI 157).toNatClampNeg)))], [.int (((up2 (up2 (up2 w4 111 (kI 161).toNatClampNeg z1) 110 36 ((w4 110 36) + (x2 + (kI 1)))) 111 (((kI 0) + ((kI 6) * v1)) + v2).toNatClampNeg (F_158 (kI 9999) (((up2 w4 111 (kI 161).toNatClampNeg z1) 111 (((kI 0) + ((kI 6) * v1)) + v2).toNatClampNeg) + (x2 + (kI 1))) (up2 (up2 w4 111 (kI 161).toNatClampNeg z1) 110 36 ((w4 110 36) + (x2 + (kI 1)))))) 111 (((kI 36) + ((kI 12) * v2)) + ((up2 w4 111 (kI 161).toNatClampNeg z1) 111 (kI 157).toNatClampNeg)).toNatClampNeg) + (x2 + (kI 1))), .int (kI 9999), .int (((kI 36) + ((kI 12) * v2)) + ((up2 w4 111 (kI 161).toNatClampNeg z1) 111 (kI 157).toNatClampNeg)), .ref 111], SH, (up2 (up2 (up2 w4 111 (kI 161).toNatClampNeg z1) 110 36 ((w4 110 36) + (x2 + (kI 1)))) 111 (((kI 0) + ((kI 6) * v1)) + v2).toNatClampNeg (F_158 (kI 9999) (((up2 w4 111 (kI 161).toNatClampNeg z1) 111 (((kI 0) + ((kI 6) * v1)) + v2).toNatClampNeg) + (x2 + (kI 1))) (up2 (up2 w4 111 (kI 161).toNatClampNeg z1) 110 36 ((w4 110 36) + (x2 + (kI 1)))))))) rfl ?_
      refine EV.callF (kc := 158) (av := [.int (kI 9999), .int (((up2 (up2 (up2 w4 111 (kI 161).toNatClampNeg z1) 110 36 ((w4 110 36) + (x2 + (kI 1)))) 111 (((kI 0) + ((kI 6) * v1)) + v2).toNatClampNeg (F_158 (kI 9999) (((up2 w4 111 (kI 161).toNatClampNeg z1) 111 (((kI 0) + ((kI 6) * v1)) + v2).toNatClampNeg) + (x2 + (kI 1))) (up2 (up2 w4 111 (kI 161).toNatClampNeg z1) 110 36 ((w4 110 36) + (x2 + (kI 1)))))) 111 (((kI 36) + ((kI 12) * v2)) + ((up2 w4 111 (kI 161).toNatClampNeg z1) 111 (kI 157).toNatClampNeg)).toNatClampNeg) + (x2 + (kI 1)))]) (r := [.int (((kI 36) + ((kI 12) * v2)) + ((up2 w4 111 (kI 161).toNatClampNeg z1) 111 (kI 157).toNatClampNeg)), .ref 111]) (rv := some (.int (F_158 (kI 9999) (((up2 (up2 (up2 w4 111 (kI 161).toNatClampNeg z1) 110 36 ((w4 110 36) + (x2 + (kI 1)))) 111 (((kI 0) + ((kI 6) * v1)) + v2).toNatClampNeg (F_158 (kI 9999) (((up2 w4 111 (kI 161).toNatClampNeg z1) 111 (((kI 0) + ((kI 6) * v1)) + v2).toNatClampNeg) + (x2 + (kI 1))) (up2 (up2 w4 111 (kI 161).toNatClampNeg z1) 110 36 ((w4 110 36) + (x2 + (kI 1)))))) 111 (((kI 36) + ((kI 12) * v2)) + ((up2 w4 111 (kI 161).toNatClampNeg z1) 111 (kI 157).toNatClampNeg)).toNatClampNeg) + (x2 + (kI 1))) (up2 (up2 (up2 w4 111 (kI 161).toNatClampNeg z1) 110 36 ((w4 110 36) + (x2 + (kI 1)))) 111 (((kI 0) + ((kI 6) * v1)) + v2).toNatClampNeg (F_158 (kI 9999) (((up2 w4 111 (kI 161).toNatClampNeg z1) 111 (((kI 0) + ((kI 6) * v1)) + v2).toNatClampNeg) + (x2 + (kI 1))) (up2 (up2 w4 111 (kI 161).toNatClampNeg z1) 110 36 ((w4 110 36) + (x2 + (kI 1))))))))) (w2 := (up2 (up2 (up2 w4 111 (kI 161).toNatClampNeg z1) 110 36 ((w4 110 36) + (x2 + (kI 1)))) 111 (((kI 0) + ((kI 6) * v1)) + v2).toNatClampNeg (F_158 (kI 9999) (((up2 w4 111 (kI 161).toNatClampNeg z1) 111 (((kI 0) + ((kI 6) * v1)) + v2).toNatClampNeg) + (x2 + (kI 1))) (up2 (up2 w4 111 (kI 161).toNatClampNeg z1) 110 36 ((w4 110 36) + (x2 + (kI 1))))))) cl_204 rfl rfl rfl (m_158 (up2 (up2 (up2 w4 111 (kI 161).toNatClampNeg z1) 110 36 ((w4 110 36) + (x2 + (kI 1)))) 111 (((kI 0) + ((kI 6) * v1)) + v2).toNatClampNeg (F_158 (kI 9999) (((up2 w4 111 (kI 161).toNatClampNeg z1) 111 (((kI 0) + ((kI 6) * v1)) + v2).toNatClampNeg) + (x2 + (kI 1))) (up2 (up2 w4 111 (kI 161).toNatClampNeg z1) 110 36 ((w4 110 36) + (x2 + (kI 1)))))) (kI 9999) (((up2 (up2 (up2 w4 111 (kI 161).toNatClampNeg z1) 110 36 ((w4 110 36) + (x2 + (kI 1)))) 111 (((kI 0) + ((kI 6) * v1)) + v2).toNatClampNeg (F_158 (kI 9999) (((up2 w4 111 (kI 161).toNatClampNeg z1) 111 (((kI 0) + ((kI 6) * v1)) + v2).toNatClampNeg) + (x2 + (kI 1))) (up2 (up2 w4 111 (kI 161).toNatClampNeg z1) 110 36 ((w4 110 36) + (x2 + (kI 1)))))) 111 (((kI 36) + ((kI 12) * v2)) + ((up2 w4 111 (kI 161).toNatClampNeg z1) 111 (kI 157).toNatClampNeg)).toNatClampNeg) + (x2 + (kI 1)))) ?_
      obtain ⟨j13, H⟩ := H
      refine EV.iastore cl_204 rfl rfl (by decide) j13 ?_
      refine EV.ret cl_204 rfl rfl rfl ?_
      exact ⟨rfl, rfl, H⟩
    · skip
      rw [if_neg h9] at H
      refine EV.ret cl_204 rfl rfl rfl ?_
      exact ⟨rfl, rfl, H⟩
theorem t205_110_at0 {X : Scr} {d : Nat} {Q : Int32 → Wd → Prop} (w : Wd) (v1 : Int32)
    (H : EI X (d + 2) 205 (4, [some (.ref 110), some (.int v1), some (.int (kI (-1))), some (.int (kI 0)), none], [], SH, w) Q) : EI X (d + 2) 205 (0, [some (.ref 110), some (.int v1), none, none, none], [], SH, w) Q := by
  unfold EI
  refine EV.steps cl_205 4 (q2 := (4, [some (.ref 110), some (.int v1), some (.int (kI (-1))), some (.int (kI 0)), none], [], SH, w)) rfl ?_
  exact H
theorem t205_110_at4 {X : Scr} {d : Nat} {Q : Int32 → Wd → Prop} (w : Wd) (v1 : Int32) (v2 : Int32) (v3 : Int32)
    (H : (if (kI 6) ≤ v3 then Q v2 w else (if (F_164_110 v3 w) = 0 then EI X (d + 2) 205 (4, [some (.ref 110), some (.int v1), some (.int v2), some (.int (v3 + (kI 1))), none], [], SH, w) Q else CU X (d + 2) 201 [.ref 110, .int v3, .int v1, .int (kI 11)] w (fun w1 => CI X (d + 2) 199 [.ref 110, .int (kI 107), .int (kI 99)] w1 (fun x2 w2 => (if v2 = (kI (-1)) then EI X (d + 2) 205 (4, [some (.ref 110), some (.int v1), some (.int v3), some (.int (v3 + (kI 1))), none], [], SH, (up2 w2 110 40 x2)) Q else (if x2 < (w2 110 40) then EI X (d + 2) 205 (4, [some (.ref 110), some (.int v1), some (.int v3), some (.int (v3 + (kI 1))), none], [], SH, (up2 w2 110 40 x2)) Q else EI X (d + 2) 205 (4, [some (.ref 110), some (.int v1), some (.int v2), some (.int (v3 + (kI 1))), none], [], SH, w2) Q))))))) : EI X (d + 2) 205 (4, [some (.ref 110), some (.int v1), some (.int v2), some (.int v3), none], [], SH, w) Q := by
  unfold EI
  refine EV.steps cl_205 2 (q2 := (7, [some (.ref 110), some (.int v1), some (.int v2), some (.int v3), none], [.int (kI 6), .int v3], SH, w)) rfl ?_
  refine EV.i_ge cl_205 rfl (fun h1 => ?_) (fun h1 => ?_)
  · skip
    rw [if_pos h1] at H
    refine EV.steps cl_205 1 (q2 := (71, [some (.ref 110), some (.int v1), some (.int v2), some (.int v3), none], [.int v2], SH, w)) rfl ?_
    refine EV.ret cl_205 rfl rfl rfl ?_
    exact ⟨_, rfl, rfl, H⟩
  · skip
    rw [if_neg h1] at H
    refine EV.steps cl_205 2 (q2 := (12, [some (.ref 110), some (.int v1), some (.int v2), some (.int v3), none], [.int v3, .ref 110], SH, w)) rfl ?_
    refine EV.callF (kc := 164) (av := [.ref 110, .int v3]) (r := []) (rv := some (.int (F_164_110 v3 w))) (w2 := w) cl_205 rfl rfl rfl (m_164_110 w v3) ?_
    refine EV.z_ne cl_205 rfl (fun h2 => ?_) (fun h2 => ?_)
    · skip
      rw [if_neg h2] at H
      refine EV.steps cl_205 4 (q2 := (26, [some (.ref 110), some (.int v1), some (.int v2), some (.int v3), none], [.int (kI 11), .int v1, .int v3, .ref 110], SH, w)) rfl ?_
      refine EV.call (kc := 201) (av := [.ref 110, .int v3, .int v1, .int (kI 11)]) (r := []) cl_205 rfl rfl rfl H ?_
      clear H; intro y1 s1 w1 e1
      obtain ⟨rfl, rfl, H⟩ := e1
      refine EV.steps cl_205 3 (q2 := (34, [some (.ref 110), some (.int v1), some (.int v2), some (.int v3), none], [.int (kI 99), .int (kI 107), .ref 110], SH, w1)) rfl ?_
      refine EV.call (kc := 199) (av := [.ref 110, .int (kI 107), .int (kI 99)]) (r := []) cl_205 rfl rfl rfl H ?_
      clear H; intro y2 s2 w2 e2
      obtain ⟨x2, rfl, rfl, H⟩ := e2
      refine EV.steps cl_205 3 (q2 := (41, [some (.ref 110), some (.int v1), some (.int v2), some (.int v3), some (.int x2)], [.int (kI (-1)), .int v2], SH, w2)) rfl ?_
      refine EV.i_eq cl_205 rfl (fun h3 => ?_) (fun h3 => ?_)
      · skip
        rw [if_pos h3] at H
        refine EV.steps cl_205 7 (q2 := (4, [some (.ref 110), some (.int v1), some (.int v3), some (.int (v3 + (kI 1))), some (.int x2)], [], SH, (up2 w2 110 40 x2))) rfl ?_
        exact EV.weak (l := [some (.ref 110), some (.int v1), some (.int v3), some (.int (v3 + (kI 1))), none]) ⟨rfl, ⟨rfl, ⟨rfl, ⟨rfl, ⟨rfl, trivial⟩⟩⟩⟩⟩ H
      · skip
        rw [if_neg h3] at H
        refine EV.steps cl_205 3 (q2 := (50, [some (.ref 110), some (.int v1), some (.int v2), some (.int v3), some (.int x2)], [.int (w2 110 40), .int x2], SH, w2)) rfl ?_
        refine EV.i_lt cl_205 rfl (fun h4 => ?_) (fun h4 => ?_)
        · skip
          rw [if_pos h4] at H
          refine EV.steps cl_205 7 (q2 := (4, [some (.ref 110), some (.int v1), some (.int v3), some (.int (v3 + (kI 1))), some (.int x2)], [], SH, (up2 w2 110 40 x2))) rfl ?_
          exact EV.weak (l := [some (.ref 110), some (.int v1), some (.int v3), some (.int (v3 + (kI 1))), none]) ⟨rfl, ⟨rfl, ⟨rfl, ⟨rfl, ⟨rfl, trivial⟩⟩⟩⟩⟩ H
        · skip
          rw [if_neg h4] at H
          refine EV.steps cl_205 3 (q2 := (4, [some (.ref 110), some (.int v1), some (.int v2), some (.int (v3 + (kI 1))), some (.int x2)], [], SH, w2)) rfl ?_
          exact EV.weak (l := [some (.ref 110), some (.int v1), some (.int v2), some (.int (v3 + (kI 1))), none]) ⟨rfl, ⟨rfl, ⟨rfl, ⟨rfl, ⟨rfl, trivial⟩⟩⟩⟩⟩ H
    · skip
      rw [if_pos h2] at H
      refine EV.steps cl_205 3 (q2 := (4, [some (.ref 110), some (.int v1), some (.int v2), some (.int (v3 + (kI 1))), none], [], SH, w)) rfl ?_
      exact H
theorem t207_110_at0 {X : Scr} {d : Nat} {Q : Wd → Prop} (w : Wd) (v1 : Int32)
    (H : EU X (d + 2) 207 (2, [some (.ref 110), some (.int v1), some (.int (kI 0)), none], [], SH, w) Q) : EU X (d + 2) 207 (0, [some (.ref 110), some (.int v1), none, none], [], SH, w) Q := by
  unfold EU
  refine EV.steps cl_207 2 (q2 := (2, [some (.ref 110), some (.int v1), some (.int (kI 0)), none], [], SH, w)) rfl ?_
  exact H
theorem t207_110_at2 {X : Scr} {d : Nat} {Q : Wd → Prop} (w : Wd) (v1 : Int32) (v2 : Int32)
    (H : (if (kI 200) ≤ v2 then Q w else CI X (d + 2) 167 [.ref 110, .int v1] w (fun x1 w1 => (inB v1 6 = true ∧ (if (w1 116 v1.toNatClampNeg) ≤ x1 then Q w1 else CI X (d + 2) 205 [.ref 110, .int v1] w1 (fun x2 w2 => (if x2 = (kI (-1)) then Q w2 else (if (w2 110 40) ≤ (w2 111 (kI 159).toNatClampNeg) then (((inB (((kI 0) + ((kI 6) * x2)) + v1) 162 = true)) ∧ EU X (d + 2) 207 (2, [some (.ref 110), some (.int v1), some (.int (v2 + (kI 1))), none], [], SH, (G_206_110 x2 v1 (up2 (up2 (up2 w2 111 (kI 159).toNatClampNeg ((w2 111 (kI 159).toNatClampNeg) - (w2 110 40))) 110 38 ((w2 110 38) + (w2 110 40))) 110 39 ((w2 110 39) + (kI 1))))) Q) else Q w2)))))))) : EU X (d + 2) 207 (2, [some (.ref 110), some (.int v1), some (.int v2), none], [], SH, w) Q := by
  unfold EU
  refine EV.steps cl_207 2 (q2 := (6, [some (.ref 110), some (.int v1), some (.int v2), none], [.int (kI 200), .int v2], SH, w)) rfl ?_
  refine EV.i_ge cl_207 rfl (fun h1 => ?_) (fun h1 => ?_)
  · skip
    rw [if_pos h1] at H
    refine EV.ret cl_207 rfl rfl rfl ?_
    exact ⟨rfl, rfl, H⟩
  · skip
    rw [if_neg h1] at H
    refine EV.steps cl_207 2 (q2 := (11, [some (.ref 110), some (.int v1), some (.int v2), none], [.int v1, .ref 110], SH, w)) rfl ?_
    refine EV.call (kc := 167) (av := [.ref 110, .int v1]) (r := []) cl_207 rfl rfl rfl H ?_
    clear H; intro y1 s1 w1 e1
    obtain ⟨x1, rfl, rfl, H⟩ := e1
    refine EV.steps cl_207 3 (q2 := (19, [some (.ref 110), some (.int v1), some (.int v2), none], [.int v1, .ref 116, .int x1], SH, w1)) rfl ?_
    obtain ⟨j2, H⟩ := H
    refine EV.iaload cl_207 rfl rfl (by decide) j2 ?_
    refine EV.i_ge cl_207 rfl (fun h3 => ?_) (fun h3 => ?_)
    · skip
      rw [if_pos h3] at H
      refine EV.ret cl_207 rfl rfl rfl ?_
      exact ⟨rfl, rfl, H⟩
    · skip
      rw [if_neg h3] at H
      refine EV.steps cl_207 2 (q2 := (25, [some (.ref 110), some (.int v1), some (.int v2), none], [.int v1, .ref 110], SH, w1)) rfl ?_
      refine EV.call (kc := 205) (av := [.ref 110, .int v1]) (r := []) cl_207 rfl rfl rfl H ?_
      clear H; intro y2 s2 w2 e2
      obtain ⟨x2, rfl, rfl, H⟩ := e2
      refine EV.steps cl_207 3 (q2 := (31, [some (.ref 110), some (.int v1), some (.int v2), some (.int x2)], [.int (kI (-1)), .int x2], SH, w2)) rfl ?_
      refine EV.i_eq cl_207 rfl (fun h4 => ?_) (fun h4 => ?_)
      · skip
        rw [if_pos h4] at H
        refine EV.ret cl_207 rfl rfl rfl ?_
        exact ⟨rfl, rfl, H⟩
      · skip
        rw [if_neg h4] at H
        refine EV.steps cl_207 5 (q2 := (45, [some (.ref 110), some (.int v1), some (.int v2), some (.int x2)], [.int (kI 159), .ref 111, .int (w2 110 40)], SH, w2)) rfl ?_
        refine EV.iaload cl_207 rfl rfl (by decide) rfl ?_
        refine EV.i_le cl_207 rfl (fun h5 => ?_) (fun h5 => ?_)
        · skip
          rw [if_pos h5] at H
          refine EV.steps cl_207 6 (q2 := (64, [some (.ref 110), some (.int v1), some (.int v2), some (.int x2)], [.int (kI 159), .ref 111, .int (kI 159), .ref 111], SH, w2)) rfl ?_
          refine EV.iaload cl_207 rfl rfl (by decide) rfl ?_
          refine EV.steps cl_207 3 (q2 := (70, [some (.ref 110), some (.int v1), some (.int v2), some (.int x2)], [.int ((w2 111 (kI 159).toNatClampNeg) - (w2 110 40)), .int (kI 159), .ref 111], SH, w2)) rfl ?_
          refine EV.iastore cl_207 rfl rfl (by decide) rfl ?_
          refine EV.steps cl_207 16 (q2 := (97, [some (.ref 110), some (.int v1), some (.int v2), some (.int x2)], [.int v1, .int x2, .ref 110], SH, (up2 (up2 (up2 w2 111 (kI 159).toNatClampNeg ((w2 111 (kI 159).toNatClampNeg) - (w2 110 40))) 110 38 ((w2 110 38) + (w2 110 40))) 110 39 ((w2 110 39) + (kI 1))))) rfl ?_
          obtain ⟨j6, H⟩ := H
          refine EV.callF (kc := 206) (av := [.ref 110, .int x2, .int v1]) (r := []) (rv := none) (w2 := (G_206_110 x2 v1 (up2 (up2 (up2 w2 111 (kI 159).toNatClampNeg ((w2 111 (kI 159).toNatClampNeg) - (w2 110 40))) 110 38 ((w2 110 38) + (w2 110 40))) 110 39 ((w2 110 39) + (kI 1))))) cl_207 rfl rfl rfl (m_206_110 (up2 (up2 (up2 w2 111 (kI 159).toNatClampNeg ((w2 111 (kI 159).toNatClampNeg) - (w2 110 40))) 110 38 ((w2 110 38) + (w2 110 40))) 110 39 ((w2 110 39) + (kI 1))) x2 v1 j6) ?_
          refine EV.steps cl_207 2 (q2 := (2, [some (.ref 110), some (.int v1), some (.int (v2 + (kI 1))), some (.int x2)], [], SH, (G_206_110 x2 v1 (up2 (up2 (up2 w2 111 (kI 159).toNatClampNeg ((w2 111 (kI 159).toNatClampNeg) - (w2 110 40))) 110 38 ((w2 110 38) + (w2 110 40))) 110 39 ((w2 110 39) + (kI 1)))))) rfl ?_
          exact EV.weak (l := [some (.ref 110), some (.int v1), some (.int (v2 + (kI 1))), none]) ⟨rfl, ⟨rfl, ⟨rfl, ⟨rfl, trivial⟩⟩⟩⟩ H
        · skip
          rw [if_neg h5] at H
          refine EV.ret cl_207 rfl rfl rfl ?_
          exact ⟨rfl, rfl, H⟩
theorem t208_110_at0 {X : Scr} {d : Nat} {Q : Wd → Prop} (w : Wd) (v1 : Int32)
    (H : EU X (d + 2) 208 (3, [some (.ref 110), some (.int v1), some (.int (kI 7))], [], SH, w) Q) : EU X (d + 2) 208 (0, [some (.ref 110), some (.int v1), none], [], SH, w) Q := by
  unfold EU
  refine EV.steps cl_208 2 (q2 := (3, [some (.ref 110), some (.int v1), some (.int (kI 7))], [], SH, w)) rfl ?_
  exact H
theorem t208_110_at3 {X : Scr} {d : Nat} {Q : Wd → Prop} (w : Wd) (v1 : Int32) (v2 : Int32)
    (H : (if v2 ≤ 0 then (if (F_165_110 v1 w) = 0 then (inB ((kI 108) + ((kI 8) * v1)) 162 = true ∧ Q (up2 w 111 ((kI 108) + ((kI 8) * v1)).toNatClampNeg (kI (-2)))) else CI X (d + 2) 167 [.ref 110, .int v1] w (fun x1 w1 => (inB ((kI 108) + ((kI 8) * v1)) 162 = true ∧ Q (up2 w1 111 ((kI 108) + ((kI 8) * v1)).toNatClampNeg x1)))) else (inB ((((kI 108) + ((kI 8) * v1)) + v2) - (kI 1)) 162 = true ∧ (inB (((kI 108) + ((kI 8) * v1)) + v2) 162 = true ∧ EU X (d + 2) 208 (3, [some (.ref 110), some (.int v1), some (.int (v2 + (kI (-1))))], [], SH, (up2 w 111 (((kI 108) + ((kI 8) * v1)) + v2).toNatClampNeg (w 111 ((((kI 108) + ((kI 8) * v1)) + v2) - (kI 1)).toNatClampNeg))) Q)))) : EU X (d + 2) 208 (3, [some (.ref 110), some (.int v1), some (.int v2)], [], SH, w) Q := by
  unfold EU
  refine EV.steps cl_208 1 (q2 := (4, [some (.ref 110), some (.int v1), some (.int v2)], [.int v2], SH, w)) rfl ?_
  refine EV.z_le cl_208 rfl (fun h1 => ?_) (fun h1 => ?_)
  · skip
    rw [if_pos h1] at H
    refine EV.steps cl_208 9 (q2 := (56, [some (.ref 110), some (.int v1), some (.int v2)], [.int v1, .ref 110, .int ((kI 108) + ((kI 8) * v1)), .ref 111], SH, w)) rfl ?_
    refine EV.callF (kc := 165) (av := [.ref 110, .int v1]) (r := [.int ((kI 108) + ((kI 8) * v1)), .ref 111]) (rv := some (.int (F_165_110 v1 w))) (w2 := w) cl_208 rfl rfl rfl (m_165_110 w v1) ?_
    refine EV.z_eq cl_208 rfl (fun h2 => ?_) (fun h2 => ?_)
    · skip
      rw [if_pos h2] at H
      refine EV.steps cl_208 1 (q2 := (72, [some (.ref 110), some (.int v1), some (.int v2)], [.int (kI (-2)), .int ((kI 108) + ((kI 8) * v1)), .ref 111], SH, w)) rfl ?_
      obtain ⟨j3, H⟩ := H
      refine EV.iastore cl_208 rfl rfl (by decide) j3 ?_
      refine EV.ret cl_208 rfl rfl rfl ?_
      exact ⟨rfl, rfl, H⟩
    · skip
      rw [if_neg h2] at H
      refine EV.steps cl_208 2 (q2 := (64, [some (.ref 110), some (.int v1), some (.int v2)], [.int v1, .ref 110, .int ((kI 108) + ((kI 8) * v1)), .ref 111], SH, w)) rfl ?_
      refine EV.call (kc := 167) (av := [.ref 110, .int v1]) (r := [.int ((kI 108) + ((kI 8) * v1)), .ref 111]) cl_208 rfl rfl rfl H ?_
      clear H; intro y1 s1 w1 e1
      obtain ⟨x1, rfl, rfl, H⟩ := e1
      refine EV.steps cl_208 1 (q2 := (72, [some (.ref 110), some (.int v1), some (.int v2)], [.int x1, .int ((kI 108) + ((kI 8) * v1)), .ref 111], SH, w1)) rfl ?_
      obtain ⟨j4, H⟩ := H
      refine EV.iastore cl_208 rfl rfl (by decide) j4 ?_
      refine EV.ret cl_208 rfl rfl rfl ?_
      exact ⟨rfl, rfl, H⟩
  · skip
    rw [if_neg h1] at H
    refine EV.steps cl_208 20 (q2 := (35, [some (.ref 110), some (.int v1), some (.int v2)], [.int ((((kI 108) + ((kI 8) * v1)) + v2) - (kI 1)), .ref 111, .int (((kI 108) + ((kI 8) * v1)) + v2), .ref 111], SH, w)) rfl ?_
    obtain ⟨j5, H⟩ := H
    refine EV.iaload cl_208 rfl rfl (by decide) j5 ?_
    obtain ⟨j6, H⟩ := H
    refine EV.iastore cl_208 rfl rfl (by decide) j6 ?_
    refine EV.steps cl_208 2 (q2 := (3, [some (.ref 110), some (.int v1), some (.int (v2 + (kI (-1))))], [], SH, (up2 w 111 (((kI 108) + ((kI 8) * v1)) + v2).toNatClampNeg (w 111 ((((kI 108) + ((kI 8) * v1)) + v2) - (kI 1)).toNatClampNeg)))) rfl ?_
    exact H
theorem t209_110_at0 {X : Scr} {d : Nat} {Q : Wd → Prop} (w : Wd) 
    (H : EU X (d + 2) 209 (2, [some (.ref 110), some (.int (kI 0))], [], SH, w) Q) : EU X (d + 2) 209 (0, [some (.ref 110), none], [], SH, w) Q := by
  unfold EU
  refine EV.steps cl_209 2 (q2 := (2, [some (.ref 110), some (.int (kI 0))], [], SH, w)) rfl ?_
  exact H
theorem t209_110_at2 {X : Scr} {d : Nat} {Q : Wd → Prop} (w : Wd) (v1 : Int32)
    (H : (if (kI 6) ≤ v1 then EU X (d + 2) 209 (29, [some (.ref 110), some (.int (kI 0))], [], SH, w) Q else (if (F_165_110 v1 w) = 0 then EU X (d + 2) 209 (2, [some (.ref 110), some (.int (v1 + (kI 1)))], [], SH, w) Q else CU X (d + 2) 207 [.ref 110, .int v1] w (fun w1 => EU X (d + 2) 209 (2, [some (.ref 110), some (.int (v1 + (kI 1)))], [], SH, w1) Q)))) : EU X (d + 2) 209 (2, [some (.ref 110), some (.int v1)], [], SH, w) Q := by
  unfold EU
  refine EV.steps cl_209 2 (q2 := (5, [some (.ref 110), some (.int v1)], [.int (kI 6), .int v1], SH, w)) rfl ?_
  refine EV.i_ge cl_209 rfl (fun h1 => ?_) (fun h1 => ?_)
  · skip
    rw [if_pos h1] at H
    refine EV.steps cl_209 2 (q2 := (29, [some (.ref 110), some (.int (kI 0))], [], SH, w)) rfl ?_
    exact H
  · skip
    rw [if_neg h1] at H
    refine EV.steps cl_209 2 (q2 := (10, [some (.ref 110), some (.int v1)], [.int v1, .ref 110], SH, w)) rfl ?_
    refine EV.callF (kc := 165) (av := [.ref 110, .int v1]) (r := []) (rv := some (.int (F_165_110 v1 w))) (w2 := w) cl_209 rfl rfl rfl (m_165_110 w v1) ?_
    refine EV.z_eq cl_209 rfl (fun h2 => ?_) (fun h2 => ?_)
    · skip
      rw [if_pos h2] at H
      refine EV.steps cl_209 2 (q2 := (2, [some (.ref 110), some (.int (v1 + (kI 1)))], [], SH, w)) rfl ?_
      exact H
    · skip
      rw [if_neg h2] at H
      refine EV.steps cl_209 2 (q2 := (18, [some (.ref 110), some (.int v1)], [.int v1, .ref 110], SH, w)) rfl ?_
      refine EV.call (kc := 207) (av := [.ref 110, .int v1]) (r := []) cl_209 rfl rfl rfl H ?_
      clear H; intro y1 s1 w1 e1
      obtain ⟨rfl, rfl, H⟩ := e1
      refine EV.steps cl_209 2 (q2 := (2, [some (.ref 110), some (.int (v1 + (kI 1)))], [], SH, w1)) rfl ?_
      exact H
theorem t209_110_at29 {X : Scr} {d : Nat} {Q : Wd → Prop} (w : Wd) (v1 : Int32)
    (H : (if (kI 6) ≤ v1 then EU X (d + 2) 209 (98, [some (.ref 110), some (.int (kI 0))], [], SH, w) Q else (if (F_165_110 v1 w) = 0 then CU X (d + 2) 208 [.ref 110, .int v1] w (fun w1 => EU X (d + 2) 209 (29, [some (.ref 110), some (.int (v1 + (kI 1)))], [], SH, w1) Q) else CI X (d + 2) 167 [.ref 110, .int v1] w (fun x2 w2 => (inB v1 6 = true ∧ (if x2 = (w2 116 v1.toNatClampNeg) then CU X (d + 2) 208 [.ref 110, .int v1] (up2 (up2 w2 111 (kI 160).toNatClampNeg ((w2 111 (kI 160).toNatClampNeg) + (kI 1))) 110 37 ((w2 110 37) + (kI 1))) (fun w4 => EU X (d + 2) 209 (29, [some (.ref 110), some (.int (v1 + (kI 1)))], [], SH, w4) Q) else CU X (d + 2) 208 [.ref 110, .int v1] w2 (fun w3 => EU X (d + 2) 209 (29, [some (.ref 110), some (.int (v1 + (kI 1)))], [], SH, w3) Q))))))) : EU X (d + 2) 209 (29, [some (.ref 110), some (.int v1)], [], SH, w) Q := by
  unfold EU
  refine EV.steps cl_209 2 (q2 := (32, [some (.ref 110), some (.int v1)], [.int (kI 6), .int v1], SH, w)) rfl ?_
  refine EV.i_ge cl_209 rfl (fun h1 => ?_) (fun h1 => ?_)
  · skip
    rw [if_pos h1] at H
    refine EV.steps cl_209 2 (q2 := (98, [some (.ref 110), some (.int (kI 0))], [], SH, w)) rfl ?_
    exact H
  · skip
    rw [if_neg h1] at H
    refine EV.steps cl_209 2 (q2 := (37, [some (.ref 110), some (.int v1)], [.int v1, .ref 110], SH, w)) rfl ?_
    refine EV.callF (kc := 165) (av := [.ref 110, .int v1]) (r := []) (rv := some (.int (F_165_110 v1 w))) (w2 := w) cl_209 rfl rfl rfl (m_165_110 w v1) ?_
    refine EV.z_eq cl_209 rfl (fun h2 => ?_) (fun h2 => ?_)
    · skip
      rw [if_pos h2] at H
      refine EV.steps cl_209 2 (q2 := (87, [some (.ref 110), some (.int v1)], [.int v1, .ref 110], SH, w)) rfl ?_
      refine EV.call (kc := 208) (av := [.ref 110, .int v1]) (r := []) cl_209 rfl rfl rfl H ?_
      clear H; intro y1 s1 w1 e1
      obtain ⟨rfl, rfl, H⟩ := e1
      refine EV.steps cl_209 2 (q2 := (29, [some (.ref 110), some (.int (v1 + (kI 1)))], [], SH, w1)) rfl ?_
      exact H
    · skip
      rw [if_neg h2] at H
      refine EV.steps cl_209 2 (q2 := (45, [some (.ref 110), some (.int v1)], [.int v1, .ref 110], SH, w)) rfl ?_
      refine EV.call (kc := 167) (av := [.ref 110, .int v1]) (r := []) cl_209 rfl rfl rfl H ?_
      clear H; intro y2 s2 w2 e2
      obtain ⟨x2, rfl, rfl, H⟩ := e2
      refine EV.steps cl_209 3 (q2 := (53, [some (.ref 110), some (.int v1)], [.int v1, .ref 116, .int x2], SH, w2)) rfl ?_
      obtain ⟨j3, H⟩ := H
      refine EV.iaload cl_209 rfl rfl (by decide) j3 ?_
      refine EV.i_ne cl_209 rfl (fun h4 => ?_) (fun h4 => ?_)
      · skip
        rw [if_neg h4] at H
        refine EV.steps cl_209 2 (q2 := (87, [some (.ref 110), some (.int v1)], [.int v1, .ref 110], SH, w2)) rfl ?_
        refine EV.call (kc := 208) (av := [.ref 110, .int v1]) (r := []) cl_209 rfl rfl rfl H ?_
        clear H; intro y3 s3 w3 e3
        obtain ⟨rfl, rfl, H⟩ := e3
        refine EV.steps cl_209 2 (q2 := (29, [some (.ref 110), some (.int (v1 + (kI 1)))], [], SH, w3)) rfl ?_
        exact H
      · skip
        rw [if_pos h4] at H
        refine EV.steps cl_209 6 (q2 := (71, [some (.ref 110), some (.int v1)], [.int (kI 160), .ref 111, .int (kI 160), .ref 111], SH, w2)) rfl ?_
        refine EV.iaload cl_209 rfl rfl (by decide) rfl ?_
        refine EV.steps cl_209 2 (q2 := (74, [some (.ref 110), some (.int v1)], [.int ((w2 111 (kI 160).toNatClampNeg) + (kI 1)), .int (kI 160), .ref 111], SH, w2)) rfl ?_
        refine EV.iastore cl_209 rfl rfl (by decide) rfl ?_
        refine EV.steps cl_209 8 (q2 := (87, [some (.ref 110), some (.int v1)], [.int v1, .ref 110], SH, (up2 (up2 w2 111 (kI 160).toNatClampNeg ((w2 111 (kI 160).toNatClampNeg) + (kI 1))) 110 37 ((w2 110 37) + (kI 1))))) rfl ?_
        refine EV.call (kc := 208) (av := [.ref 110, .int v1]) (r := []) cl_209 rfl rfl rfl H ?_
        clear H; intro y4 s4 w4 e4
        obtain ⟨rfl, rfl, H⟩ := e4
        refine EV.steps cl_209 2 (q2 := (29, [some (.ref 110), some (.int (v1 + (kI 1)))], [], SH, w4)) rfl ?_
        exact H
theorem t209_110_at98 {X : Scr} {d : Nat} {Q : Wd → Prop} (w : Wd) (v1 : Int32)
    (H : (if (kI 108) ≤ v1 then Q (up2 (up2 (up2 w 111 (kI 159).toNatClampNeg (w 110 8)) 111 (kI 157).toNatClampNeg (kI 0)) 111 (kI 158).toNatClampNeg (((up2 (up2 w 111 (kI 159).toNatClampNeg (w 110 8)) 111 (kI 157).toNatClampNeg (kI 0)) 111 (kI 158).toNatClampNeg) + (kI 1))) else (inB v1 162 = true ∧ EU X (d + 2) 209 (98, [some (.ref 110), some (.int (v1 + (kI 1)))], [], SH, (up2 w 111 v1.toNatClampNeg (kI 0))) Q))) : EU X (d + 2) 209 (98, [some (.ref 110), some (.int v1)], [], SH, w) Q := by
  unfold EU
  refine EV.steps cl_209 2 (q2 := (101, [some (.ref 110), some (.int v1)], [.int (kI 108), .int v1], SH, w)) rfl ?_
  refine EV.i_ge cl_209 rfl (fun h1 => ?_) (fun h1 => ?_)
  · skip
    rw [if_pos h1] at H
    refine EV.steps cl_209 5 (q2 := (128, [some (.ref 110), some (.int v1)], [.int (w 110 8), .int (kI 159), .ref 111], SH, w)) rfl ?_
    refine EV.iastore cl_209 rfl rfl (by decide) rfl ?_
    refine EV.steps cl_209 4 (q2 := (137, [some (.ref 110), some (.int v1)], [.int (kI 0), .int (kI 157), .ref 111], SH, (up2 w 111 (kI 159).toNatClampNeg (w 110 8)))) rfl ?_
    refine EV.iastore cl_209 rfl rfl (by decide) rfl ?_
    refine EV.steps cl_209 6 (q2 := (152, [some (.ref 110), some (.int v1)], [.int (kI 158), .ref 111, .int (kI 158), .ref 111], SH, (up2 (up2 w 111 (kI 159).toNatClampNeg (w 110 8)) 111 (kI 157).toNatClampNeg (kI 0)))) rfl ?_
    refine EV.iaload cl_209 rfl rfl (by decide) rfl ?_
    refine EV.steps cl_209 2 (q2 := (155, [some (.ref 110), some (.int v1)], [.int (((up2 (up2 w 111 (kI 159).toNatClampNeg (w 110 8)) 111 (kI 157).toNatClampNeg (kI 0)) 111 (kI 158).toNatClampNeg) + (kI 1)), .int (kI 158), .ref 111], SH, (up2 (up2 w 111 (kI 159).toNatClampNeg (w 110 8)) 111 (kI 157).toNatClampNeg (kI 0)))) rfl ?_
    refine EV.iastore cl_209 rfl rfl (by decide) rfl ?_
    refine EV.ret cl_209 rfl rfl rfl ?_
    exact ⟨rfl, rfl, H⟩
  · skip
    rw [if_neg h1] at H
    refine EV.steps cl_209 4 (q2 := (110, [some (.ref 110), some (.int v1)], [.int (kI 0), .int v1, .ref 111], SH, w)) rfl ?_
    obtain ⟨j2, H⟩ := H
    refine EV.iastore cl_209 rfl rfl (by decide) j2 ?_
    refine EV.steps cl_209 2 (q2 := (98, [some (.ref 110), some (.int (v1 + (kI 1)))], [], SH, (up2 w 111 v1.toNatClampNeg (kI 0)))) rfl ?_
    exact H
