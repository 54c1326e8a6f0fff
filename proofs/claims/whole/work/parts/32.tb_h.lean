theorem t236_110_at152 {X : Scr} {d : Nat} {Q : Int32 → Wd → Prop} (w : Wd) (v1 : Int32) (v2 : Int32) (v3 : Int32) (v4 : Int32)
    (H : (inB v1 6 = true ∧ (if (w 145 v1.toNatClampNeg) ≤ v4 then ((v3 = 0 ∨ v3 = 1) ∧ Q v3 w) else (inB v4 260 = true ∧ (inB v4 260 = true ∧ EI X (d + 1) 236 (152, [some (.ref 110), some (.int v1), some (.int v2), some (.int v3), some (.int (v4 + (kI 1)))], [], SH, (up2 w 124 v4.toNatClampNeg (w 146 v4.toNatClampNeg))) Q))))) : EI X (d + 1) 236 (152, [some (.ref 110), some (.int v1), some (.int v2), some (.int v3), some (.int v4)], [], SH, w) Q := by
  unfold EI
  refine EV.steps cl_236 4 (q2 := (159, [some (.ref 110), some (.int v1), some (.int v2), some (.int v3), some (.int v4)], [.int v1, .ref 145, .int v4], SH, w)) rfl ?_
  obtain ⟨j1, H⟩ := H
  refine EV.iaload cl_236 rfl rfl (by decide) j1 ?_
  refine EV.i_ge cl_236 rfl (fun h2 => ?_) (fun h2 => ?_)
  · skip
    rw [if_pos h2] at H
    refine EV.steps cl_236 1 (q2 := (184, [some (.ref 110), some (.int v1), some (.int v2), some (.int v3), some (.int v4)], [.int v3], SH, w)) rfl ?_
    obtain ⟨j3, H⟩ := H
    refine EV.retB cl_236 rfl rfl j3 ?_
    exact ⟨_, rfl, rfl, H⟩
  · skip
    rw [if_neg h2] at H
    refine EV.steps cl_236 6 (q2 := (175, [some (.ref 110), some (.int v1), some (.int v2), some (.int v3), some (.int v4)], [.int v4, .ref 146, .int v4, .ref 124], SH, w)) rfl ?_
    obtain ⟨j4, H⟩ := H
    refine EV.iaload cl_236 rfl rfl (by decide) j4 ?_
    obtain ⟨j5, H⟩ := H
    refine EV.iastore cl_236 rfl rfl (by decide) j5 ?_
    refine EV.steps cl_236 2 (q2 := (152, [some (.ref 110), some (.int v1), some (.int v2), some (.int v3), some (.int (v4 + (kI 1)))], [], SH, (up2 w 124 v4.toNatClampNeg (w 146 v4.toNatClampNeg)))) rfl ?_
    exact H
theorem t237_110_at0 {X : Scr} {d : Nat} {Q : Int32 → Wd → Prop} (w : Wd) (v1 : Int32)
    (H : EI X (d + 1) 237 (4, [some (.ref 110), some (.int v1), some (.int (kI 0)), some (.int (kI 0))], [], SH, w) Q) : EI X (d + 1) 237 (0, [some (.ref 110), some (.int v1), none, none], [], SH, w) Q := by
  unfold EI
  refine EV.steps cl_237 4 (q2 := (4, [some (.ref 110), some (.int v1), some (.int (kI 0)), some (.int (kI 0))], [], SH, w)) rfl ?_
  exact H
theorem t237_110_at4 {X : Scr} {d : Nat} {Q : Int32 → Wd → Prop} (w : Wd) (v1 : Int32) (v2 : Int32) (v3 : Int32)
    (H : (if (kI 20) ≤ v3 then Q v2 w else (if (F_161 (w 110 56) v3 w) = 0 then EI X (d + 1) 237 (4, [some (.ref 110), some (.int v1), some (.int v2), some (.int (v3 + (kI 1)))], [], SH, w) Q else CI X (d + 1) 236 [.ref 110, .int v1, .int v3] w (fun x1 w1 => (if x1 = 0 then EI X (d + 1) 237 (4, [some (.ref 110), some (.int v1), some (.int v2), some (.int (v3 + (kI 1)))], [], SH, w1) Q else EI X (d + 1) 237 (4, [some (.ref 110), some (.int v1), some (.int (v2 ||| ((kI 1) <<< (v3 &&& 31)))), some (.int (v3 + (kI 1)))], [], SH, w1) Q))))) : EI X (d + 1) 237 (4, [some (.ref 110), some (.int v1), some (.int v2), some (.int v3)], [], SH, w) Q := by
  unfold EI
  refine EV.steps cl_237 2 (q2 := (7, [some (.ref 110), some (.int v1), some (.int v2), some (.int v3)], [.int (kI 20), .int v3], SH, w)) rfl ?_
  refine EV.i_ge cl_237 rfl (fun h1 => ?_) (fun h1 => ?_)
  · skip
    rw [if_pos h1] at H
    refine EV.steps cl_237 1 (q2 := (43, [some (.ref 110), some (.int v1), some (.int v2), some (.int v3)], [.int v2], SH, w)) rfl ?_
    refine EV.ret cl_237 rfl rfl rfl ?_
    exact ⟨_, rfl, rfl, H⟩
  · skip
    rw [if_neg h1] at H
    refine EV.steps cl_237 3 (q2 := (15, [some (.ref 110), some (.int v1), some (.int v2), some (.int v3)], [.int v3, .int (w 110 56)], SH, w)) rfl ?_
    refine EV.callF (kc := 161) (av := [.int (w 110 56), .int v3]) (r := []) (rv := some (.int (F_161 (w 110 56) v3 w))) (w2 := w) cl_237 rfl rfl rfl (m_161 w (w 110 56) v3) ?_
    refine EV.z_eq cl_237 rfl (fun h2 => ?_) (fun h2 => ?_)
    · skip
      rw [if_pos h2] at H
      refine EV.steps cl_237 2 (q2 := (4, [some (.ref 110), some (.int v1), some (.int v2), some (.int (v3 + (kI 1)))], [], SH, w)) rfl ?_
      exact H
    · skip
      rw [if_neg h2] at H
      refine EV.steps cl_237 3 (q2 := (24, [some (.ref 110), some (.int v1), some (.int v2), some (.int v3)], [.int v3, .int v1, .ref 110], SH, w)) rfl ?_
      refine EV.call (kc := 236) (av := [.ref 110, .int v1, .int v3]) (r := []) cl_237 rfl rfl rfl H ?_
      clear H; intro y1 s1 w1 e1
      obtain ⟨x1, rfl, rfl, H⟩ := e1
      refine EV.z_eq cl_237 rfl (fun h3 => ?_) (fun h3 => ?_)
      · skip
        rw [if_pos h3] at H
        refine EV.steps cl_237 2 (q2 := (4, [some (.ref 110), some (.int v1), some (.int v2), some (.int (v3 + (kI 1)))], [], SH, w1)) rfl ?_
        exact H
      · skip
        rw [if_neg h3] at H
        refine EV.steps cl_237 8 (q2 := (4, [some (.ref 110), some (.int v1), some (.int (v2 ||| ((kI 1) <<< (v3 &&& 31)))), some (.int (v3 + (kI 1)))], [], SH, w1)) rfl ?_
        exact H
theorem t238_110_at0 {X : Scr} {d : Nat} {Q : Int32 → Wd → Prop} (w : Wd) (v1 : Int32) (v2 : Int32)
    (H : (if (F_157 v1 (kI 0) (kI 5) w) = 0 then Q (kI (-1)) w else (if (F_157 v2 (kI 1) (kI 80) w) = 0 then Q (kI (-1)) w else (if v2 ≤ (w 110 10) then CI X (d + 2) 193 [.ref 110] (G_195_110 v2 w) (fun x1 w1 => (if x1 = 0 then Q (w1 110 13) (up2 w1 110 10 (kI 0)) else (if (w1 110 12) ≤ (w1 110 11) then EI X (d + 2) 238 (103, [some (.ref 110), some (.int v1), some (.int v2), some (.int x1), some (.int (kI 0))], [], SH, (up2 (up2 (up2 w1 110 10 (kI 0)) 110 57 ((w1 110 57) ||| ((kI 1) <<< (v1 &&& 31)))) 145 v1.toNatClampNeg (w1 110 16))) Q else CI X (d + 2) 177 [.ref 110, .int (kI 1), .int (w1 110 11)] w1 (fun x2 w2 => (if x2 = 0 then Q (w2 110 13) (up2 w2 110 10 (kI 0)) else EI X (d + 2) 238 (103, [some (.ref 110), some (.int v1), some (.int v2), some (.int x2), some (.int (kI 0))], [], SH, (up2 (up2 (up2 w2 110 10 (kI 0)) 110 57 ((w2 110 57) ||| ((kI 1) <<< (v1 &&& 31)))) 145 v1.toNatClampNeg (w2 110 16))) Q))))) else Q (kI (-1)) w)))) : EI X (d + 2) 238 (0, [some (.ref 110), some (.int v1), some (.int v2), none, none], [], SH, w) Q := by
  unfold EI
  refine EV.steps cl_238 3 (q2 := (3, [some (.ref 110), some (.int v1), some (.int v2), none, none], [.int (kI 5), .int (kI 0), .int v1], SH, w)) rfl ?_
  refine EV.callF (kc := 157) (av := [.int v1, .int (kI 0), .int (kI 5)]) (r := []) (rv := some (.int (F_157 v1 (kI 0) (kI 5) w))) (w2 := w) cl_238 rfl rfl rfl (m_157 w v1 (kI 0) (kI 5)) ?_
  refine EV.z_eq cl_238 rfl (fun h1 => ?_) (fun h1 => ?_)
  · skip
    rw [if_pos h1] at H
    refine EV.steps cl_238 1 (q2 := (28, [some (.ref 110), some (.int v1), some (.int v2), none, none], [.int (kI (-1))], SH, w)) rfl ?_
    refine EV.ret cl_238 rfl rfl rfl ?_
    exact ⟨_, rfl, rfl, H⟩
  · skip
    rw [if_neg h1] at H
    refine EV.steps cl_238 3 (q2 := (13, [some (.ref 110), some (.int v1), some (.int v2), none, none], [.int (kI 80), .int (kI 1), .int v2], SH, w)) rfl ?_
    refine EV.callF (kc := 157) (av := [.int v2, .int (kI 1), .int (kI 80)]) (r := []) (rv := some (.int (F_157 v2 (kI 1) (kI 80) w))) (w2 := w) cl_238 rfl rfl rfl (m_157 w v2 (kI 1) (kI 80)) ?_
    refine EV.z_eq cl_238 rfl (fun h2 => ?_) (fun h2 => ?_)
    · skip
      rw [if_pos h2] at H
      refine EV.steps cl_238 1 (q2 := (28, [some (.ref 110), some (.int v1), some (.int v2), none, none], [.int (kI (-1))], SH, w)) rfl ?_
      refine EV.ret cl_238 rfl rfl rfl ?_
      exact ⟨_, rfl, rfl, H⟩
    · skip
      rw [if_neg h2] at H
      refine EV.steps cl_238 3 (q2 := (24, [some (.ref 110), some (.int v1), some (.int v2), none, none], [.int (w 110 10), .int v2], SH, w)) rfl ?_
      refine EV.i_le cl_238 rfl (fun h3 => ?_) (fun h3 => ?_)
      · skip
        rw [if_pos h3] at H
        refine EV.steps cl_238 2 (q2 := (31, [some (.ref 110), some (.int v1), some (.int v2), none, none], [.int v2, .ref 110], SH, w)) rfl ?_
        refine EV.callF (kc := 195) (av := [.ref 110, .int v2]) (r := []) (rv := none) (w2 := (G_195_110 v2 w)) cl_238 rfl rfl rfl (m_195_110 w v2) ?_
        refine EV.steps cl_238 1 (q2 := (35, [some (.ref 110), some (.int v1), some (.int v2), none, none], [.ref 110], SH, (G_195_110 v2 w))) rfl ?_
        refine EV.call (kc := 193) (av := [.ref 110]) (r := []) cl_238 rfl rfl rfl H ?_
        clear H; intro y1 s1 w1 e1
        obtain ⟨x1, rfl, rfl, H⟩ := e1
        refine EV.steps cl_238 2 (q2 := (40, [some (.ref 110), some (.int v1), some (.int v2), some (.int x1), none], [.int x1], SH, w1)) rfl ?_
        refine EV.z_eq cl_238 rfl (fun h4 => ?_) (fun h4 => ?_)
        · skip
          rw [if_pos h4] at H
          refine EV.steps cl_238 4 (q2 := (70, [some (.ref 110), some (.int v1), some (.int v2), some (.int x1), none], [.int x1], SH, (up2 w1 110 10 (kI 0)))) rfl ?_
          refine EV.z_ne cl_238 rfl (fun h5 => ?_) (fun h5 => ?_)
          · skip
            exact absurd h4 h5
          · skip
            refine EV.steps cl_238 2 (q2 := (77, [some (.ref 110), some (.int v1), some (.int v2), some (.int x1), none], [.int (w1 110 13)], SH, (up2 w1 110 10 (kI 0)))) rfl ?_
            refine EV.ret cl_238 rfl rfl rfl ?_
            exact ⟨_, rfl, rfl, H⟩
        · skip
          rw [if_neg h4] at H
          refine EV.steps cl_238 4 (q2 := (51, [some (.ref 110), some (.int v1), some (.int v2), some (.int x1), none], [.int (w1 110 12), .int (w1 110 11)], SH, w1)) rfl ?_
          refine EV.i_ge cl_238 rfl (fun h6 => ?_) (fun h6 => ?_)
          · skip
            rw [if_pos h6] at H
            refine EV.steps cl_238 4 (q2 := (70, [some (.ref 110), some (.int v1), some (.int v2), some (.int x1), none], [.int x1], SH, (up2 w1 110 10 (kI 0)))) rfl ?_
            refine EV.z_ne cl_238 rfl (fun h7 => ?_) (fun h7 => ?_)
            · skip
              refine EV.steps cl_238 13 (q2 := (99, [some (.ref 110), some (.int v1), some (.int v2), some (.int x1), none], [.int (w1 110 16), .int v1, .ref 145], SH, (up2 (up2 w1 110 10 (kI 0)) 110 57 ((w1 110 57) ||| ((kI 1) <<< (v1 &&& 31)))))) rfl ?_
              refine EV.iastore cl_238 rfl rfl (by decide) (ix_157 h1 (by decide)) ?_
              refine EV.steps cl_238 2 (q2 := (103, [some (.ref 110), some (.int v1), some (.int v2), some (.int x1), some (.int (kI 0))], [], SH, (up2 (up2 (up2 w1 110 10 (kI 0)) 110 57 ((w1 110 57) ||| ((kI 1) <<< (v1 &&& 31)))) 145 v1.toNatClampNeg (w1 110 16)))) rfl ?_
              exact H
            · skip
              exact absurd h7 h4
          · skip
            rw [if_neg h6] at H
            refine EV.steps cl_238 4 (q2 := (60, [some (.ref 110), some (.int v1), some (.int v2), some (.int x1), none], [.int (w1 110 11), .int (kI 1), .ref 110], SH, w1)) rfl ?_
            refine EV.call (kc := 177) (av := [.ref 110, .int (kI 1), .int (w1 110 11)]) (r := []) cl_238 rfl rfl rfl H ?_
            clear H; intro y2 s2 w2 e2
            obtain ⟨x2, rfl, rfl, H⟩ := e2
            refine EV.steps cl_238 5 (q2 := (70, [some (.ref 110), some (.int v1), some (.int v2), some (.int x2), none], [.int x2], SH, (up2 w2 110 10 (kI 0)))) rfl ?_
            refine EV.z_ne cl_238 rfl (fun h8 => ?_) (fun h8 => ?_)
            · skip
              rw [if_neg h8] at H
              refine EV.steps cl_238 13 (q2 := (99, [some (.ref 110), some (.int v1), some (.int v2), some (.int x2), none], [.int (w2 110 16), .int v1, .ref 145], SH, (up2 (up2 w2 110 10 (kI 0)) 110 57 ((w2 110 57) ||| ((kI 1) <<< (v1 &&& 31)))))) rfl ?_
              refine EV.iastore cl_238 rfl rfl (by decide) (ix_157 h1 (by decide)) ?_
              refine EV.steps cl_238 2 (q2 := (103, [some (.ref 110), some (.int v1), some (.int v2), some (.int x2), some (.int (kI 0))], [], SH, (up2 (up2 (up2 w2 110 10 (kI 0)) 110 57 ((w2 110 57) ||| ((kI 1) <<< (v1 &&& 31)))) 145 v1.toNatClampNeg (w2 110 16)))) rfl ?_
              exact H
            · skip
              rw [if_pos h8] at H
              refine EV.steps cl_238 2 (q2 := (77, [some (.ref 110), some (.int v1), some (.int v2), some (.int x2), none], [.int (w2 110 13)], SH, (up2 w2 110 10 (kI 0)))) rfl ?_
              refine EV.ret cl_238 rfl rfl rfl ?_
              exact ⟨_, rfl, rfl, H⟩
      · skip
        rw [if_neg h3] at H
        refine EV.steps cl_238 1 (q2 := (28, [some (.ref 110), some (.int v1), some (.int v2), none, none], [.int (kI (-1))], SH, w)) rfl ?_
        refine EV.ret cl_238 rfl rfl rfl ?_
        exact ⟨_, rfl, rfl, H⟩
theorem t238_110_at103 {X : Scr} {d : Nat} {Q : Int32 → Wd → Prop} (w : Wd) (v1 : Int32) (v2 : Int32) (v3 : Int32) (v4 : Int32)
    (H : (if (w 110 16) ≤ v4 then CI X (d + 2) 237 [.ref 110, .int v1] w (fun x1 w1 => Q (F_162 x1 w1) w1) else (inB v4 260 = true ∧ (inB (((kI 260) * v1) + v4) 1560 = true ∧ EI X (d + 2) 238 (103, [some (.ref 110), some (.int v1), some (.int v2), some (.int v3), some (.int (v4 + (kI 1)))], [], SH, (up2 w 144 (((kI 260) * v1) + v4).toNatClampNeg (w 118 v4.toNatClampNeg))) Q)))) : EI X (d + 2) 238 (103, [some (.ref 110), some (.int v1), some (.int v2), some (.int v3), some (.int v4)], [], SH, w) Q := by
  unfold EI
  refine EV.steps cl_238 3 (q2 := (109, [some (.ref 110), some (.int v1), some (.int v2), some (.int v3), some (.int v4)], [.int (w 110 16), .int v4], SH, w)) rfl ?_
  refine EV.i_ge cl_238 rfl (fun h1 => ?_) (fun h1 => ?_)
  · skip
    rw [if_pos h1] at H
    refine EV.steps cl_238 2 (q2 := (140, [some (.ref 110), some (.int v1), some (.int v2), some (.int v3), some (.int v4)], [.int v1, .ref 110], SH, w)) rfl ?_
    refine EV.call (kc := 237) (av := [.ref 110, .int v1]) (r := []) cl_238 rfl rfl rfl H ?_
    clear H; intro y1 s1 w1 e1
    obtain ⟨x1, rfl, rfl, H⟩ := e1
    refine EV.callF (kc := 162) (av := [.int x1]) (r := []) (rv := some (.int (F_162 x1 w1))) (w2 := w1) cl_238 rfl rfl rfl (m_162 w1 x1) ?_
    refine EV.ret cl_238 rfl rfl rfl ?_
    exact ⟨_, rfl, rfl, H⟩
  · skip
    rw [if_neg h1] at H
    refine EV.steps cl_238 10 (q2 := (130, [some (.ref 110), some (.int v1), some (.int v2), some (.int v3), some (.int v4)], [.int v4, .ref 118, .int (((kI 260) * v1) + v4), .ref 144], SH, w)) rfl ?_
    obtain ⟨j2, H⟩ := H
    refine EV.iaload cl_238 rfl rfl (by decide) j2 ?_
    obtain ⟨j3, H⟩ := H
    refine EV.iastore cl_238 rfl rfl (by decide) j3 ?_
    refine EV.steps cl_238 2 (q2 := (103, [some (.ref 110), some (.int v1), some (.int v2), some (.int v3), some (.int (v4 + (kI 1)))], [], SH, (up2 w 144 (((kI 260) * v1) + v4).toNatClampNeg (w 118 v4.toNatClampNeg)))) rfl ?_
    exact H
theorem t239_110_at0 {X : Scr} {d : Nat} {Q : Int32 → Wd → Prop} (w : Wd) (v1 : Int32)
    (H : (if (F_157 v1 (kI 0) (kI 5) w) = 0 then Q (kI (-1)) w else (if (F_161 (w 110 57) v1 w) = 0 then Q (kI (-1)) w else CI X (d + 1) 237 [.ref 110, .int v1] w (fun x1 w1 => Q x1 w1)))) : EI X (d + 1) 239 (0, [some (.ref 110), some (.int v1)], [], SH, w) Q := by
  unfold EI
  refine EV.steps cl_239 3 (q2 := (3, [some (.ref 110), some (.int v1)], [.int (kI 5), .int (kI 0), .int v1], SH, w)) rfl ?_
  refine EV.callF (kc := 157) (av := [.int v1, .int (kI 0), .int (kI 5)]) (r := []) (rv := some (.int (F_157 v1 (kI 0) (kI 5) w))) (w2 := w) cl_239 rfl rfl rfl (m_157 w v1 (kI 0) (kI 5)) ?_
  refine EV.z_eq cl_239 rfl (fun h1 => ?_) (fun h1 => ?_)
  · skip
    rw [if_pos h1] at H
    refine EV.steps cl_239 1 (q2 := (29, [some (.ref 110), some (.int v1)], [.int (kI (-1))], SH, w)) rfl ?_
    refine EV.ret cl_239 rfl rfl rfl ?_
    exact ⟨_, rfl, rfl, H⟩
  · skip
    rw [if_neg h1] at H
    refine EV.steps cl_239 3 (q2 := (14, [some (.ref 110), some (.int v1)], [.int v1, .int (w 110 57)], SH, w)) rfl ?_
    refine EV.callF (kc := 161) (av := [.int (w 110 57), .int v1]) (r := []) (rv := some (.int (F_161 (w 110 57) v1 w))) (w2 := w) cl_239 rfl rfl rfl (m_161 w (w 110 57) v1) ?_
    refine EV.z_eq cl_239 rfl (fun h2 => ?_) (fun h2 => ?_)
    · skip
      rw [if_pos h2] at H
      refine EV.steps cl_239 1 (q2 := (29, [some (.ref 110), some (.int v1)], [.int (kI (-1))], SH, w)) rfl ?_
      refine EV.ret cl_239 rfl rfl rfl ?_
      exact ⟨_, rfl, rfl, H⟩
    · skip
      rw [if_neg h2] at H
      refine EV.steps cl_239 2 (q2 := (22, [some (.ref 110), some (.int v1)], [.int v1, .ref 110], SH, w)) rfl ?_
      refine EV.call (kc := 237) (av := [.ref 110, .int v1]) (r := []) cl_239 rfl rfl rfl H ?_
      clear H; intro y1 s1 w1 e1
      obtain ⟨x1, rfl, rfl, H⟩ := e1
      refine EV.steps cl_239 1 (q2 := (29, [some (.ref 110), some (.int v1)], [.int x1], SH, w1)) rfl ?_
      refine EV.ret cl_239 rfl rfl rfl ?_
      exact ⟨_, rfl, rfl, H⟩
theorem t240_110_at0 {X : Scr} {d : Nat} {Q : Int32 → Wd → Prop} (w : Wd) (v1 : Int32) (v2 : Int32)
    (H : (if (F_157 v1 (kI 0) (kI 20) w) = 0 then Q (kI (-1)) w else (if (F_157 v2 (kI 0) (kI 1) w) = 0 then Q (kI (-1)) w else EI X (d + 2) 240 (23, [some (.ref 110), some (.int v1), some (.int v2), some (.int (kI 0)), none, none, none], [], SH, w) Q))) : EI X (d + 2) 240 (0, [some (.ref 110), some (.int v1), some (.int v2), none, none, none, none], [], SH, w) Q := by
  unfold EI
  refine EV.steps cl_240 3 (q2 := (4, [some (.ref 110), some (.int v1), some (.int v2), none, none, none, none], [.int (kI 20), .int (kI 0), .int v1], SH, w)) rfl ?_
  refine EV.callF (kc := 157) (av := [.int v1, .int (kI 0), .int (kI 20)]) (r := []) (rv := some (.int (F_157 v1 (kI 0) (kI 20) w))) (w2 := w) cl_240 rfl rfl rfl (m_157 w v1 (kI 0) (kI 20)) ?_
  refine EV.z_eq cl_240 rfl (fun h1 => ?_) (fun h1 => ?_)
  · skip
    rw [if_pos h1] at H
    refine EV.steps cl_240 1 (q2 := (20, [some (.ref 110), some (.int v1), some (.int v2), none, none, none, none], [.int (kI (-1))], SH, w)) rfl ?_
    refine EV.ret cl_240 rfl rfl rfl ?_
    exact ⟨_, rfl, rfl, H⟩
  · skip
    rw [if_neg h1] at H
    refine EV.steps cl_240 3 (q2 := (13, [some (.ref 110), some (.int v1), some (.int v2), none, none, none, none], [.int (kI 1), .int (kI 0), .int v2], SH, w)) rfl ?_
    refine EV.callF (kc := 157) (av := [.int v2, .int (kI 0), .int (kI 1)]) (r := []) (rv := some (.int (F_157 v2 (kI 0) (kI 1) w))) (w2 := w) cl_240 rfl rfl rfl (m_157 w v2 (kI 0) (kI 1)) ?_
    refine EV.z_ne cl_240 rfl (fun h2 => ?_) (fun h2 => ?_)
    · skip
      rw [if_neg h2] at H
      refine EV.steps cl_240 2 (q2 := (23, [some (.ref 110), some (.int v1), some (.int v2), some (.int (kI 0)), none, none, none], [], SH, w)) rfl ?_
      exact H
    · skip
      rw [if_pos h2] at H
      refine EV.steps cl_240 1 (q2 := (20, [some (.ref 110), some (.int v1), some (.int v2), none, none, none, none], [.int (kI (-1))], SH, w)) rfl ?_
      refine EV.ret cl_240 rfl rfl rfl ?_
      exact ⟨_, rfl, rfl, H⟩
theorem t240_110_at23 {X : Scr} {d : Nat} {Q : Int32 → Wd → Prop} (w : Wd) (v1 : Int32) (v2 : Int32) (v3 : Int32)
    (H : (if (kI 6) ≤ v3 then EI X (d + 2) 240 (67, [some (.ref 110), some (.int v1), some (.int v2), some (.int (kI (-2))), some (.int (kI 0)), none, none], [], SH, w) Q else (if (F_161 (w 110 57) v3 w) = 0 then (inB v3 6 = true ∧ EI X (d + 2) 240 (23, [some (.ref 110), some (.int v1), some (.int v2), some (.int (v3 + (kI 1))), none, none, none], [], SH, (up2 w 147 v3.toNatClampNeg (kI 0))) Q) else CI X (d + 2) 237 [.ref 110, .int v3] w (fun x1 w1 => (inB v3 6 = true ∧ EI X (d + 2) 240 (23, [some (.ref 110), some (.int v1), some (.int v2), some (.int (v3 + (kI 1))), none, none, none], [], SH, (up2 w1 147 v3.toNatClampNeg x1)) Q))))) : EI X (d + 2) 240 (23, [some (.ref 110), some (.int v1), some (.int v2), some (.int v3), none, none, none], [], SH, w) Q := by
  unfold EI
  refine EV.steps cl_240 2 (q2 := (26, [some (.ref 110), some (.int v1), some (.int v2), some (.int v3), none, none, none], [.int (kI 6), .int v3], SH, w)) rfl ?_
  refine EV.i_ge cl_240 rfl (fun h1 => ?_) (fun h1 => ?_)
  · skip
    rw [if_pos h1] at H
    refine EV.steps cl_240 4 (q2 := (67, [some (.ref 110), some (.int v1), some (.int v2), some (.int (kI (-2))), some (.int (kI 0)), none, none], [], SH, w)) rfl ?_
    exact H
  · skip
    rw [if_neg h1] at H
    refine EV.steps cl_240 6 (q2 := (39, [some (.ref 110), some (.int v1), some (.int v2), some (.int v3), none, none, none], [.int v3, .int (w 110 57), .int v3, .ref 147], SH, w)) rfl ?_
    refine EV.callF (kc := 161) (av := [.int (w 110 57), .int v3]) (r := [.int v3, .ref 147]) (rv := some (.int (F_161 (w 110 57) v3 w))) (w2 := w) cl_240 rfl rfl rfl (m_161 w (w 110 57) v3) ?_
    refine EV.z_eq cl_240 rfl (fun h2 => ?_) (fun h2 => ?_)
    · skip
      rw [if_pos h2] at H
      refine EV.steps cl_240 1 (q2 := (54, [some (.ref 110), some (.int v1), some (.int v2), some (.int v3), none, none, none], [.int (kI 0), .int v3, .ref 147], SH, w)) rfl ?_
      obtain ⟨j3, H⟩ := H
      refine EV.iastore cl_240 rfl rfl (by decide) j3 ?_
      refine EV.steps cl_240 2 (q2 := (23, [some (.ref 110), some (.int v1), some (.int v2), some (.int (v3 + (kI 1))), none, none, none], [], SH, (up2 w 147 v3.toNatClampNeg (kI 0)))) rfl ?_
      exact H
    · skip
      rw [if_neg h2] at H
      refine EV.steps cl_240 2 (q2 := (47, [some (.ref 110), some (.int v1), some (.int v2), some (.int v3), none, none, none], [.int v3, .ref 110, .int v3, .ref 147], SH, w)) rfl ?_
      refine EV.call (kc := 237) (av := [.ref 110, .int v3]) (r := [.int v3, .ref 147]) cl_240 rfl rfl rfl H ?_
      clear H; intro y1 s1 w1 e1
      obtain ⟨x1, rfl, rfl, H⟩ := e1
      refine EV.steps cl_240 1 (q2 := (54, [some (.ref 110), some (.int v1), some (.int v2), some (.int v3), none, none, none], [.int x1, .int v3, .ref 147], SH, w1)) rfl ?_
      obtain ⟨j4, H⟩ := H
      refine EV.iastore cl_240 rfl rfl (by decide) j4 ?_
      refine EV.steps cl_240 2 (q2 := (23, [some (.ref 110), some (.int v1), some (.int v2), some (.int (v3 + (kI 1))), none, none, none], [], SH, (up2 w1 147 v3.toNatClampNeg x1))) rfl ?_
      exact H
theorem t240_110_at67 {X : Scr} {d : Nat} {Q : Int32 → Wd → Prop} (w : Wd) (v1 : Int32) (v2 : Int32) (v3 : Int32) (v4 : Int32)
    (H : (if (kI 64) ≤ v4 then (if v2 = (kI 1) then Q v3 w else (if v3 = (kI (-2)) then Q v3 w else Q (F_162 v3 w) w)) else (if (v4 &&& ((w 110 57) ^^^ (kI (-1)))) = 0 then (if v3 = (kI (-2)) then EI X (d + 2) 240 (113, [some (.ref 110), some (.int v1), some (.int v2), some (.int v3), some (.int v4), some (.int (kI 0)), some (.int (kI 0))], [], SH, w) Q else (if (F_162 v4 w) < (F_162 v3 w) then EI X (d + 2) 240 (113, [some (.ref 110), some (.int v1), some (.int v2), some (.int v3), some (.int v4), some (.int (kI 0)), some (.int (kI 0))], [], SH, w) Q else EI X (d + 2) 240 (67, [some (.ref 110), some (.int v1), some (.int v2), some (.int v3), some (.int (v4 + (kI 1))), none, none], [], SH, w) Q)) else EI X (d + 2) 240 (67, [some (.ref 110), some (.int v1), some (.int v2), some (.int v3), some (.int (v4 + (kI 1))), none, none], [], SH, w) Q))) : EI X (d + 2) 240 (67, [some (.ref 110), some (.int v1), some (.int v2), some (.int v3), some (.int v4), none, none], [], SH, w) Q := by
  unfold EI
  refine EV.steps cl_240 2 (q2 := (71, [some (.ref 110), some (.int v1), some (.int v2), some (.int v3), some (.int v4), none, none], [.int (kI 64), .int v4], SH, w)) rfl ?_
  refine EV.i_ge cl_240 rfl (fun h1 => ?_) (fun h1 => ?_)
  · skip
    rw [if_pos h1] at H
    refine EV.steps cl_240 2 (q2 := (168, [some (.ref 110), some (.int v1), some (.int v2), some (.int v3), some (.int v4), none, none], [.int (kI 1), .int v2], SH, w)) rfl ?_
    refine EV.i_eq cl_240 rfl (fun h2 => ?_) (fun h2 => ?_)
    · skip
      rw [if_pos h2] at H
      refine EV.steps cl_240 2 (q2 := (185, [some (.ref 110), some (.int v1), some (.int v2), some (.int v3), some (.int v4), none, none], [.int v3], SH, w)) rfl ?_
      refine EV.ret cl_240 rfl rfl rfl ?_
      exact ⟨_, rfl, rfl, H⟩
    · skip
      rw [if_neg h2] at H
      refine EV.steps cl_240 2 (q2 := (174, [some (.ref 110), some (.int v1), some (.int v2), some (.int v3), some (.int v4), none, none], [.int (kI (-2)), .int v3], SH, w)) rfl ?_
      refine EV.i_ne cl_240 rfl (fun h3 => ?_) (fun h3 => ?_)
      · skip
        rw [if_neg h3] at H
        refine EV.steps cl_240 1 (q2 := (182, [some (.ref 110), some (.int v1), some (.int v2), some (.int v3), some (.int v4), none, none], [.int v3], SH, w)) rfl ?_
        refine EV.callF (kc := 162) (av := [.int v3]) (r := []) (rv := some (.int (F_162 v3 w))) (w2 := w) cl_240 rfl rfl rfl (m_162 w v3) ?_
        refine EV.ret cl_240 rfl rfl rfl ?_
        exact ⟨_, rfl, rfl, H⟩
      · skip
        rw [if_pos h3] at H
        refine EV.steps cl_240 2 (q2 := (185, [some (.ref 110), some (.int v1), some (.int v2), some (.int v3), some (.int v4), none, none], [.int v3], SH, w)) rfl ?_
        refine EV.ret cl_240 rfl rfl rfl ?_
        exact ⟨_, rfl, rfl, H⟩
  · skip
    rw [if_neg h1] at H
    refine EV.steps cl_240 6 (q2 := (83, [some (.ref 110), some (.int v1), some (.int v2), some (.int v3), some (.int v4), none, none], [.int (v4 &&& ((w 110 57) ^^^ (kI (-1))))], SH, w)) rfl ?_
    refine EV.z_ne cl_240 rfl (fun h4 => ?_) (fun h4 => ?_)
    · skip
      rw [if_neg h4] at H
      refine EV.steps cl_240 2 (q2 := (67, [some (.ref 110), some (.int v1), some (.int v2), some (.int v3), some (.int (v4 + (kI 1))), none, none], [], SH, w)) rfl ?_
      exact H
    · skip
      rw [if_pos h4] at H
      refine EV.steps cl_240 2 (q2 := (89, [some (.ref 110), some (.int v1), some (.int v2), some (.int v3), some (.int v4), none, none], [.int (kI (-2)), .int v3], SH, w)) rfl ?_
      refine EV.i_eq cl_240 rfl (fun h5 => ?_) (fun h5 => ?_)
      · skip
        rw [if_pos h5] at H
        refine EV.steps cl_240 4 (q2 := (113, [some (.ref 110), some (.int v1), some (.int v2), some (.int v3), some (.int v4), some (.int (kI 0)), some (.int (kI 0))], [], SH, w)) rfl ?_
        exact H
      · skip
        rw [if_neg h5] at H
        refine EV.steps cl_240 1 (q2 := (94, [some (.ref 110), some (.int v1), some (.int v2), some (.int v3), some (.int v4), none, none], [.int v4], SH, w)) rfl ?_
        refine EV.callF (kc := 162) (av := [.int v4]) (r := []) (rv := some (.int (F_162 v4 w))) (w2 := w) cl_240 rfl rfl rfl (m_162 w v4) ?_
        refine EV.steps cl_240 1 (q2 := (98, [some (.ref 110), some (.int v1), some (.int v2), some (.int v3), some (.int v4), none, none], [.int v3, .int (F_162 v4 w)], SH, w)) rfl ?_
        refine EV.callF (kc := 162) (av := [.int v3]) (r := [.int (F_162 v4 w)]) (rv := some (.int (F_162 v3 w))) (w2 := w) cl_240 rfl rfl rfl (m_162 w v3) ?_
        refine EV.i_lt cl_240 rfl (fun h6 => ?_) (fun h6 => ?_)
        · skip
          rw [if_pos h6] at H
          refine EV.steps cl_240 4 (q2 := (113, [some (.ref 110), some (.int v1), some (.int v2), some (.int v3), some (.int v4), some (.int (kI 0)), some (.int (kI 0))], [], SH, w)) rfl ?_
          exact H
        · skip
          rw [if_neg h6] at H
          refine EV.steps cl_240 3 (q2 := (67, [some (.ref 110), some (.int v1), some (.int v2), some (.int v3), some (.int (v4 + (kI 1))), none, none], [], SH, w)) rfl ?_
          exact H
theorem t240_110_at113 {X : Scr} {d : Nat} {Q : Int32 → Wd → Prop} (w : Wd) (v1 : Int32) (v2 : Int32) (v3 : Int32) (v4 : Int32) (v5 : Int32) (v6 : Int32)
    (H : (if (kI 6) ≤ v6 then (if (F_162 v5 w) = v1 then EI X (d + 2) 240 (67, [some (.ref 110), some (.int v1), some (.int v2), some (.int v4), some (.int (v4 + (kI 1))), none, none], [], SH, w) Q else EI X (d + 2) 240 (67, [some (.ref 110), some (.int v1), some (.int v2), some (.int v3), some (.int (v4 + (kI 1))), none, none], [], SH, w) Q) else (if (F_161 v4 v6 w) = 0 then EI X (d + 2) 240 (113, [some (.ref 110), some (.int v1), some (.int v2), some (.int v3), some (.int v4), some (.int v5), some (.int (v6 + (kI 1)))], [], SH, w) Q else (inB v6 6 = true ∧ EI X (d + 2) 240 (113, [some (.ref 110), some (.int v1), some (.int v2), some (.int v3), some (.int v4), some (.int (v5 ||| (w 147 v6.toNatClampNeg))), some (.int (v6 + (kI 1)))], [], SH, w) Q)))) : EI X (d + 2) 240 (113, [some (.ref 110), some (.int v1), some (.int v2), some (.int v3), some (.int v4), some (.int v5), some (.int v6)], [], SH, w) Q := by
  unfold EI
  refine EV.steps cl_240 2 (q2 := (117, [some (.ref 110), some (.int v1), some (.int v2), some (.int v3), some (.int v4), some (.int v5), some (.int v6)], [.int (kI 6), .int v6], SH, w)) rfl ?_
  refine EV.i_ge cl_240 rfl (fun h1 => ?_) (fun h1 => ?_)
  · skip
    rw [if_pos h1] at H
    refine EV.steps cl_240 1 (q2 := (150, [some (.ref 110), some (.int v1), some (.int v2), some (.int v3), some (.int v4), some (.int v5), some (.int v6)], [.int v5], SH, w)) rfl ?_
    refine EV.callF (kc := 162) (av := [.int v5]) (r := []) (rv := some (.int (F_162 v5 w))) (w2 := w) cl_240 rfl rfl rfl (m_162 w v5) ?_
    refine EV.steps cl_240 1 (q2 := (154, [some (.ref 110), some (.int v1), some (.int v2), some (.int v3), some (.int v4), some (.int v5), some (.int v6)], [.int v1, .int (F_162 v5 w)], SH, w)) rfl ?_
    refine EV.i_ne cl_240 rfl (fun h2 => ?_) (fun h2 => ?_)
    · skip
      rw [if_neg h2] at H
      refine EV.steps cl_240 2 (q2 := (67, [some (.ref 110), some (.int v1), some (.int v2), some (.int v3), some (.int (v4 + (kI 1))), some (.int v5), some (.int v6)], [], SH, w)) rfl ?_
      exact EV.weak (l := [some (.ref 110), some (.int v1), some (.int v2), some (.int v3), some (.int (v4 + (kI 1))), none, none]) ⟨rfl, ⟨rfl, ⟨rfl, ⟨rfl, ⟨rfl, ⟨rfl, ⟨rfl, trivial⟩⟩⟩⟩⟩⟩⟩ H
    · skip
      rw [if_pos h2] at H
      refine EV.steps cl_240 4 (q2 := (67, [some (.ref 110), some (.int v1), some (.int v2), some (.int v4), some (.int (v4 + (kI 1))), some (.int v5), some (.int v6)], [], SH, w)) rfl ?_
      exact EV.weak (l := [some (.ref 110), some (.int v1), some (.int v2), some (.int v4), some (.int (v4 + (kI 1))), none, none]) ⟨rfl, ⟨rfl, ⟨rfl, ⟨rfl, ⟨rfl, ⟨rfl, ⟨rfl, trivial⟩⟩⟩⟩⟩⟩⟩ H
  · skip
    rw [if_neg h1] at H
    refine EV.steps cl_240 2 (q2 := (124, [some (.ref 110), some (.int v1), some (.int v2), some (.int v3), some (.int v4), some (.int v5), some (.int v6)], [.int v6, .int v4], SH, w)) rfl ?_
    refine EV.callF (kc := 161) (av := [.int v4, .int v6]) (r := []) (rv := some (.int (F_161 v4 v6 w))) (w2 := w) cl_240 rfl rfl rfl (m_161 w v4 v6) ?_
    refine EV.z_eq cl_240 rfl (fun h3 => ?_) (fun h3 => ?_)
    · skip
      rw [if_pos h3] at H
      refine EV.steps cl_240 2 (q2 := (113, [some (.ref 110), some (.int v1), some (.int v2), some (.int v3), some (.int v4), some (.int v5), some (.int (v6 + (kI 1)))], [], SH, w)) rfl ?_
      exact H
    · skip
      rw [if_neg h3] at H
      refine EV.steps cl_240 4 (q2 := (138, [some (.ref 110), some (.int v1), some (.int v2), some (.int v3), some (.int v4), some (.int v5), some (.int v6)], [.int v6, .ref 147, .int v5], SH, w)) rfl ?_
      obtain ⟨j4, H⟩ := H
      refine EV.iaload cl_240 rfl rfl (by decide) j4 ?_
      refine EV.steps cl_240 4 (q2 := (113, [some (.ref 110), some (.int v1), some (.int v2), some (.int v3), some (.int v4), some (.int (v5 ||| (w 147 v6.toNatClampNeg))), some (.int (v6 + (kI 1)))], [], SH, w)) rfl ?_
      exact H
theorem t241_110_at0 {X : Scr} {d : Nat} {Q : Int32 → Wd → Prop} (w : Wd) (v1 : Int32) (v2 : Int32) (v3 : Int32)
    (H : EI X (d + 1) 241 (6, [some (.ref 110), some (.int v1), some (.int v2), some (.int v3), some (.int (kI 0)), some (.int (kI 0))], [], SH, w) Q) : EI X (d + 1) 241 (0, [some (.ref 110), some (.int v1), some (.int v2), some (.int v3), none, none], [], SH, w) Q := by
  unfold EI
  refine EV.steps cl_241 4 (q2 := (6, [some (.ref 110), some (.int v1), some (.int v2), some (.int v3), some (.int (kI 0)), some (.int (kI 0))], [], SH, w)) rfl ?_
  exact H
theorem t241_110_at6 {X : Scr} {d : Nat} {Q : Int32 → Wd → Prop} (w : Wd) (v1 : Int32) (v2 : Int32) (v3 : Int32) (v4 : Int32) (v5 : Int32)
    (H : (if (kI 20) ≤ v5 then Q v4 w else (if (F_161 (w 110 56) v5 w) = 0 then EI X (d + 1) 241 (6, [some (.ref 110), some (.int v1), some (.int v2), some (.int v3), some (.int v4), some (.int (v5 + (kI 1)))], [], SH, w) Q else (inB v5 20 = true ∧ (if (w 143 v5.toNatClampNeg) = v1 then (inB v5 20 = true ∧ (if (F_157 (w 141 v5.toNatClampNeg) v2 v3 w) = 0 then EI X (d + 1) 241 (6, [some (.ref 110), some (.int v1), some (.int v2), some (.int v3), some (.int v4), some (.int (v5 + (kI 1)))], [], SH, w) Q else EI X (d + 1) 241 (6, [some (.ref 110), some (.int v1), some (.int v2), some (.int v3), some (.int (v4 + (kI 1))), some (.int (v5 + (kI 1)))], [], SH, w) Q)) else EI X (d + 1) 241 (6, [some (.ref 110), some (.int v1), some (.int v2), some (.int v3), some (.int v4), some (.int (v5 + (kI 1)))], [], SH, w) Q))))) : EI X (d + 1) 241 (6, [some (.ref 110), some (.int v1), some (.int v2), some (.int v3), some (.int v4), some (.int v5)], [], SH, w) Q := by
  unfold EI
  refine EV.steps cl_241 2 (q2 := (10, [some (.ref 110), some (.int v1), some (.int v2), some (.int v3), some (.int v4), some (.int v5)], [.int (kI 20), .int v5], SH, w)) rfl ?_
  refine EV.i_ge cl_241 rfl (fun h1 => ?_) (fun h1 => ?_)
  · skip
    rw [if_pos h1] at H
    refine EV.steps cl_241 1 (q2 := (65, [some (.ref 110), some (.int v1), some (.int v2), some (.int v3), some (.int v4), some (.int v5)], [.int v4], SH, w)) rfl ?_
    refine EV.ret cl_241 rfl rfl rfl ?_
    exact ⟨_, rfl, rfl, H⟩
  · skip
    rw [if_neg h1] at H
    refine EV.steps cl_241 3 (q2 := (19, [some (.ref 110), some (.int v1), some (.int v2), some (.int v3), some (.int v4), some (.int v5)], [.int v5, .int (w 110 56)], SH, w)) rfl ?_
    refine EV.callF (kc := 161) (av := [.int (w 110 56), .int v5]) (r := []) (rv := some (.int (F_161 (w 110 56) v5 w))) (w2 := w) cl_241 rfl rfl rfl (m_161 w (w 110 56) v5) ?_
    refine EV.z_eq cl_241 rfl (fun h2 => ?_) (fun h2 => ?_)
    · skip
      rw [if_pos h2] at H
      refine EV.steps cl_241 2 (q2 := (6, [some (.ref 110), some (.int v1), some (.int v2), some (.int v3), some (.int v4), some (.int (v5 + (kI 1)))], [], SH, w)) rfl ?_
      exact H
    · skip
      rw [if_neg h2] at H
      refine EV.steps cl_241 3 (q2 := (31, [some (.ref 110), some (.int v1), some (.int v2), some (.int v3), some (.int v4), some (.int v5)], [.int v5, .ref 143], SH, w)) rfl ?_
      obtain ⟨j3, H⟩ := H
      refine EV.iaload cl_241 rfl rfl (by decide) j3 ?_
      refine EV.steps cl_241 1 (q2 := (33, [some (.ref 110), some (.int v1), some (.int v2), some (.int v3), some (.int v4), some (.int v5)], [.int v1, .int (w 143 v5.toNatClampNeg)], SH, w)) rfl ?_
      refine EV.i_ne cl_241 rfl (fun h4 => ?_) (fun h4 => ?_)
      · skip
        rw [if_neg h4] at H
        refine EV.steps cl_241 2 (q2 := (6, [some (.ref 110), some (.int v1), some (.int v2), some (.int v3), some (.int v4), some (.int (v5 + (kI 1)))], [], SH, w)) rfl ?_
        exact H
      · skip
        rw [if_pos h4] at H
        refine EV.steps cl_241 3 (q2 := (42, [some (.ref 110), some (.int v1), some (.int v2), some (.int v3), some (.int v4), some (.int v5)], [.int v5, .ref 141], SH, w)) rfl ?_
        obtain ⟨j5, H⟩ := H
        refine EV.iaload cl_241 rfl rfl (by decide) j5 ?_
        refine EV.steps cl_241 2 (q2 := (45, [some (.ref 110), some (.int v1), some (.int v2), some (.int v3), some (.int v4), some (.int v5)], [.int v3, .int v2, .int (w 141 v5.toNatClampNeg)], SH, w)) rfl ?_
        refine EV.callF (kc := 157) (av := [.int (w 141 v5.toNatClampNeg), .int v2, .int v3]) (r := []) (rv := some (.int (F_157 (w 141 v5.toNatClampNeg) v2 v3 w))) (w2 := w) cl_241 rfl rfl rfl (m_157 w (w 141 v5.toNatClampNeg) v2 v3) ?_
        refine EV.z_eq cl_241 rfl (fun h6 => ?_) (fun h6 => ?_)
        · skip
          rw [if_pos h6] at H
          refine EV.steps cl_241 2 (q2 := (6, [some (.ref 110), some (.int v1), some (.int v2), some (.int v3), some (.int v4), some (.int (v5 + (kI 1)))], [], SH, w)) rfl ?_
          exact H
        · skip
          rw [if_neg h6] at H
          refine EV.steps cl_241 6 (q2 := (6, [some (.ref 110), some (.int v1), some (.int v2), some (.int v3), some (.int (v4 + (kI 1))), some (.int (v5 + (kI 1)))], [], SH, w)) rfl ?_
          exact H
theorem t242_110_at0 {X : Scr} {d : Nat} {Q : Int32 → Wd → Prop} (w : Wd) (v1 : Int32) (v2 : Int32) (v3 : Int32)
    (H : (if (F_157 v1 (kI 0) (kI 9) w) = 0 then Q (kI (-1)) w else (if (F_157 v2 (kI 1) (kI 20) w) = 0 then Q (kI (-1)) w else (if (F_157 v3 (kI 0) (kI 1) w) = 0 then Q (kI (-1)) w else EI X (d + 1) 242 (34, [some (.ref 110), some (.int v1), some (.int v2), some (.int v3), some (.int (kI 0)), none], [], SH, w) Q)))) : EI X (d + 1) 242 (0, [some (.ref 110), some (.int v1), some (.int v2), some (.int v3), none, none], [], SH, w) Q := by
  unfold EI
  refine EV.steps cl_242 3 (q2 := (4, [some (.ref 110), some (.int v1), some (.int v2), some (.int v3), none, none], [.int (kI 9), .int (kI 0), .int v1], SH, w)) rfl ?_
  refine EV.callF (kc := 157) (av := [.int v1, .int (kI 0), .int (kI 9)]) (r := []) (rv := some (.int (F_157 v1 (kI 0) (kI 9) w))) (w2 := w) cl_242 rfl rfl rfl (m_157 w v1 (kI 0) (kI 9)) ?_
  refine EV.z_eq cl_242 rfl (fun h1 => ?_) (fun h1 => ?_)
  · skip
    rw [if_pos h1] at H
    refine EV.steps cl_242 1 (q2 := (30, [some (.ref 110), some (.int v1), some (.int v2), some (.int v3), none, none], [.int (kI (-1))], SH, w)) rfl ?_
    refine EV.ret cl_242 rfl rfl rfl ?_
    exact ⟨_, rfl, rfl, H⟩
  · skip
    rw [if_neg h1] at H
    refine EV.steps cl_242 3 (q2 := (14, [some (.ref 110), some (.int v1), some (.int v2), some (.int v3), none, none], [.int (kI 20), .int (kI 1), .int v2], SH, w)) rfl ?_
    refine EV.callF (kc := 157) (av := [.int v2, .int (kI 1), .int (kI 20)]) (r := []) (rv := some (.int (F_157 v2 (kI 1) (kI 20) w))) (w2 := w) cl_242 rfl rfl rfl (m_157 w v2 (kI 1) (kI 20)) ?_
    refine EV.z_eq cl_242 rfl (fun h2 => ?_) (fun h2 => ?_)
    · skip
      rw [if_pos h2] at H
      refine EV.steps cl_242 1 (q2 := (30, [some (.ref 110), some (.int v1), some (.int v2), some (.int v3), none, none], [.int (kI (-1))], SH, w)) rfl ?_
      refine EV.ret cl_242 rfl rfl rfl ?_
      exact ⟨_, rfl, rfl, H⟩
    · skip
      rw [if_neg h2] at H
      refine EV.steps cl_242 3 (q2 := (23, [some (.ref 110), some (.int v1), some (.int v2), some (.int v3), none, none], [.int (kI 1), .int (kI 0), .int v3], SH, w)) rfl ?_
      refine EV.callF (kc := 157) (av := [.int v3, .int (kI 0), .int (kI 1)]) (r := []) (rv := some (.int (F_157 v3 (kI 0) (kI 1) w))) (w2 := w) cl_242 rfl rfl rfl (m_157 w v3 (kI 0) (kI 1)) ?_
      refine EV.z_ne cl_242 rfl (fun h3 => ?_) (fun h3 => ?_)
      · skip
        rw [if_neg h3] at H
        refine EV.steps cl_242 2 (q2 := (34, [some (.ref 110), some (.int v1), some (.int v2), some (.int v3), some (.int (kI 0)), none], [], SH, w)) rfl ?_
        exact H
      · skip
        rw [if_pos h3] at H
        refine EV.steps cl_242 1 (q2 := (30, [some (.ref 110), some (.int v1), some (.int v2), some (.int v3), none, none], [.int (kI (-1))], SH, w)) rfl ?_
        refine EV.ret cl_242 rfl rfl rfl ?_
        exact ⟨_, rfl, rfl, H⟩
theorem t242_110_at34 {X : Scr} {d : Nat} {Q : Int32 → Wd → Prop} (w : Wd) (v1 : Int32) (v2 : Int32) (v3 : Int32) (v4 : Int32)
    (H : (if (kI 100) ≤ v4 then Q (kI (-2)) w else EI X (d + 1) 242 (44, [some (.ref 110), some (.int v1), some (.int v2), some (.int v3), some (.int v4), some (.int (kI 0))], [], SH, w) Q)) : EI X (d + 1) 242 (34, [some (.ref 110), some (.int v1), some (.int v2), some (.int v3), some (.int v4), none], [], SH, w) Q := by
  unfold EI
  refine EV.steps cl_242 2 (q2 := (38, [some (.ref 110), some (.int v1), some (.int v2), some (.int v3), some (.int v4), none], [.int (kI 100), .int v4], SH, w)) rfl ?_
  refine EV.i_ge cl_242 rfl (fun h1 => ?_) (fun h1 => ?_)
  · skip
    rw [if_pos h1] at H
    refine EV.steps cl_242 1 (q2 := (99, [some (.ref 110), some (.int v1), some (.int v2), some (.int v3), some (.int v4), none], [.int (kI (-2))], SH, w)) rfl ?_
    refine EV.ret cl_242 rfl rfl rfl ?_
    exact ⟨_, rfl, rfl, H⟩
  · skip
    rw [if_neg h1] at H
    refine EV.steps cl_242 2 (q2 := (44, [some (.ref 110), some (.int v1), some (.int v2), some (.int v3), some (.int v4), some (.int (kI 0))], [], SH, w)) rfl ?_
    exact H
theorem t242_110_at44 {X : Scr} {d : Nat} {Q : Int32 → Wd → Prop} (w : Wd) (v1 : Int32) (v2 : Int32) (v3 : Int32) (v4 : Int32) (v5 : Int32)
    (H : (if (kI 100) ≤ (v5 + v4) then EI X (d + 1) 242 (34, [some (.ref 110), some (.int v1), some (.int v2), some (.int v3), some (.int (v4 + (kI 1))), none], [], SH, w) Q else CI X (d + 1) 241 [.ref 110, .int v1, .int v5, .int (v5 + v4)] w (fun x1 w1 => (if x1 = v2 then (if v3 = 0 then Q v5 w1 else Q (v5 + v4) w1) else EI X (d + 1) 242 (44, [some (.ref 110), some (.int v1), some (.int v2), some (.int v3), some (.int v4), some (.int (v5 + (kI 1)))], [], SH, w1) Q)))) : EI X (d + 1) 242 (44, [some (.ref 110), some (.int v1), some (.int v2), some (.int v3), some (.int v4), some (.int v5)], [], SH, w) Q := by
  unfold EI
  refine EV.steps cl_242 4 (q2 := (51, [some (.ref 110), some (.int v1), some (.int v2), some (.int v3), some (.int v4), some (.int v5)], [.int (kI 100), .int (v5 + v4)], SH, w)) rfl ?_
  refine EV.i_ge cl_242 rfl (fun h1 => ?_) (fun h1 => ?_)
  · skip
    rw [if_pos h1] at H
    refine EV.steps cl_242 2 (q2 := (34, [some (.ref 110), some (.int v1), some (.int v2), some (.int v3), some (.int (v4 + (kI 1))), some (.int v5)], [], SH, w)) rfl ?_
    exact EV.weak (l := [some (.ref 110), some (.int v1), some (.int v2), some (.int v3), some (.int (v4 + (kI 1))), none]) ⟨rfl, ⟨rfl, ⟨rfl, ⟨rfl, ⟨rfl, ⟨rfl, trivial⟩⟩⟩⟩⟩⟩ H
  · skip
    rw [if_neg h1] at H
    refine EV.steps cl_242 6 (q2 := (63, [some (.ref 110), some (.int v1), some (.int v2), some (.int v3), some (.int v4), some (.int v5)], [.int (v5 + v4), .int v5, .int v1, .ref 110], SH, w)) rfl ?_
    refine EV.call (kc := 241) (av := [.ref 110, .int v1, .int v5, .int (v5 + v4)]) (r := []) cl_242 rfl rfl rfl H ?_
    clear H; intro y1 s1 w1 e1
    obtain ⟨x1, rfl, rfl, H⟩ := e1
    refine EV.steps cl_242 1 (q2 := (67, [some (.ref 110), some (.int v1), some (.int v2), some (.int v3), some (.int v4), some (.int v5)], [.int v2, .int x1], SH, w1)) rfl ?_
    refine EV.i_ne cl_242 rfl (fun h2 => ?_) (fun h2 => ?_)
    · skip
      rw [if_neg h2] at H
      refine EV.steps cl_242 2 (q2 := (44, [some (.ref 110), some (.int v1), some (.int v2), some (.int v3), some (.int v4), some (.int (v5 + (kI 1)))], [], SH, w1)) rfl ?_
      exact H
    · skip
      rw [if_pos h2] at H
      refine EV.steps cl_242 1 (q2 := (71, [some (.ref 110), some (.int v1), some (.int v2), some (.int v3), some (.int v4), some (.int v5)], [.int v3], SH, w1)) rfl ?_
      refine EV.z_ne cl_242 rfl (fun h3 => ?_) (fun h3 => ?_)
      · skip
        rw [if_neg h3] at H
        refine EV.steps cl_242 3 (q2 := (84, [some (.ref 110), some (.int v1), some (.int v2), some (.int v3), some (.int v4), some (.int v5)], [.int (v5 + v4)], SH, w1)) rfl ?_
        refine EV.ret cl_242 rfl rfl rfl ?_
        exact ⟨_, rfl, rfl, H⟩
      · skip
        rw [if_pos h3] at H
        refine EV.steps cl_242 2 (q2 := (84, [some (.ref 110), some (.int v1), some (.int v2), some (.int v3), some (.int v4), some (.int v5)], [.int v5], SH, w1)) rfl ?_
        refine EV.ret cl_242 rfl rfl rfl ?_
        exact ⟨_, rfl, rfl, H⟩
theorem t243_110_at0 {X : Scr} {d : Nat} {Q : Int32 → Wd → Prop} (w : Wd) (v1 : Int32) (v2 : Int32)
    (H : (if (F_157 v1 (kI 0) (kI 9) w) = 0 then Q (kI (-1)) w else (if (F_157 v2 (kI 0) (kI 1) w) = 0 then Q (kI (-1)) w else CI X (d + 1) 241 [.ref 110, .int v1, .int (kI 0), .int (kI 99)] w (fun x1 w1 => (if v2 = (kI 1) then Q x1 w1 else EI X (d + 1) 243 (40, [some (.ref 110), some (.int v1), some (.int v2), some (.int x1), some (.int (kI 0))], [], SH, w1) Q))))) : EI X (d + 1) 243 (0, [some (.ref 110), some (.int v1), some (.int v2), none, none], [], SH, w) Q := by
  unfold EI
  refine EV.steps cl_243 3 (q2 := (4, [some (.ref 110), some (.int v1), some (.int v2), none, none], [.int (kI 9), .int (kI 0), .int v1], SH, w)) rfl ?_
  refine EV.callF (kc := 157) (av := [.int v1, .int (kI 0), .int (kI 9)]) (r := []) (rv := some (.int (F_157 v1 (kI 0) (kI 9) w))) (w2 := w) cl_243 rfl rfl rfl (m_157 w v1 (kI 0) (kI 9)) ?_
  refine EV.z_eq cl_243 rfl (fun h1 => ?_) (fun h1 => ?_)
  · skip
    rw [if_pos h1] at H
    refine EV.steps cl_243 1 (q2 := (20, [some (.ref 110), some (.int v1), some (.int v2), none, none], [.int (kI (-1))], SH, w)) rfl ?_
    refine EV.ret cl_243 rfl rfl rfl ?_
    exact ⟨_, rfl, rfl, H⟩
  · skip
    rw [if_neg h1] at H
    refine EV.steps cl_243 3 (q2 := (13, [some (.ref 110), some (.int v1), some (.int v2), none, none], [.int (kI 1), .int (kI 0), .int v2], SH, w)) rfl ?_
    refine EV.callF (kc := 157) (av := [.int v2, .int (kI 0), .int (kI 1)]) (r := []) (rv := some (.int (F_157 v2 (kI 0) (kI 1) w))) (w2 := w) cl_243 rfl rfl rfl (m_157 w v2 (kI 0) (kI 1)) ?_
    refine EV.z_ne cl_243 rfl (fun h2 => ?_) (fun h2 => ?_)
    · skip
      rw [if_neg h2] at H
      refine EV.steps cl_243 4 (q2 := (26, [some (.ref 110), some (.int v1), some (.int v2), none, none], [.int (kI 99), .int (kI 0), .int v1, .ref 110], SH, w)) rfl ?_
      refine EV.call (kc := 241) (av := [.ref 110, .int v1, .int (kI 0), .int (kI 99)]) (r := []) cl_243 rfl rfl rfl H ?_
      clear H; intro y1 s1 w1 e1
      obtain ⟨x1, rfl, rfl, H⟩ := e1
      refine EV.steps cl_243 3 (q2 := (32, [some (.ref 110), some (.int v1), some (.int v2), some (.int x1), none], [.int (kI 1), .int v2], SH, w1)) rfl ?_
      refine EV.i_ne cl_243 rfl (fun h3 => ?_) (fun h3 => ?_)
      · skip
        rw [if_neg h3] at H
        refine EV.steps cl_243 2 (q2 := (40, [some (.ref 110), some (.int v1), some (.int v2), some (.int x1), some (.int (kI 0))], [], SH, w1)) rfl ?_
        exact H
      · skip
        rw [if_pos h3] at H
        refine EV.steps cl_243 1 (q2 := (36, [some (.ref 110), some (.int v1), some (.int v2), some (.int x1), none], [.int x1], SH, w1)) rfl ?_
        refine EV.ret cl_243 rfl rfl rfl ?_
        exact ⟨_, rfl, rfl, H⟩
    · skip
      rw [if_pos h2] at H
      refine EV.steps cl_243 1 (q2 := (20, [some (.ref 110), some (.int v1), some (.int v2), none, none], [.int (kI (-1))], SH, w)) rfl ?_
      refine EV.ret cl_243 rfl rfl rfl ?_
      exact ⟨_, rfl, rfl, H⟩
theorem t243_110_at40 {X : Scr} {d : Nat} {Q : Int32 → Wd → Prop} (w : Wd) (v1 : Int32) (v2 : Int32) (v3 : Int32) (v4 : Int32)
    (H : (if v3 ≤ 0 then (if v3 = 0 then Q (kI (-2)) w else Q v4 w) else CI X (d + 1) 241 [.ref 110, .int v1, .int (kI 0), .int v4] w (fun x1 w1 => (if v3 ≤ ((kI 2) * x1) then (if v3 = 0 then Q (kI (-2)) w1 else Q v4 w1) else EI X (d + 1) 243 (40, [some (.ref 110), some (.int v1), some (.int v2), some (.int v3), some (.int (v4 + (kI 1)))], [], SH, w1) Q)))) : EI X (d + 1) 243 (40, [some (.ref 110), some (.int v1), some (.int v2), some (.int v3), some (.int v4)], [], SH, w) Q := by
  unfold EI
  refine EV.steps cl_243 1 (q2 := (41, [some (.ref 110), some (.int v1), some (.int v2), some (.int v3), some (.int v4)], [.int v3], SH, w)) rfl ?_
  refine EV.z_le cl_243 rfl (fun h1 => ?_) (fun h1 => ?_)
  · skip
    rw [if_pos h1] at H
    refine EV.steps cl_243 1 (q2 := (68, [some (.ref 110), some (.int v1), some (.int v2), some (.int v3), some (.int v4)], [.int v3], SH, w)) rfl ?_
    refine EV.z_ne cl_243 rfl (fun h2 => ?_) (fun h2 => ?_)
    · skip
      rw [if_neg h2] at H
      refine EV.steps cl_243 1 (q2 := (78, [some (.ref 110), some (.int v1), some (.int v2), some (.int v3), some (.int v4)], [.int v4], SH, w)) rfl ?_
      refine EV.ret cl_243 rfl rfl rfl ?_
      exact ⟨_, rfl, rfl, H⟩
    · skip
      rw [if_pos h2] at H
      refine EV.steps cl_243 2 (q2 := (78, [some (.ref 110), some (.int v1), some (.int v2), some (.int v3), some (.int v4)], [.int (kI (-2))], SH, w)) rfl ?_
      refine EV.ret cl_243 rfl rfl rfl ?_
      exact ⟨_, rfl, rfl, H⟩
  · skip
    rw [if_neg h1] at H
    refine EV.steps cl_243 5 (q2 := (50, [some (.ref 110), some (.int v1), some (.int v2), some (.int v3), some (.int v4)], [.int v4, .int (kI 0), .int v1, .ref 110, .int (kI 2)], SH, w)) rfl ?_
    refine EV.call (kc := 241) (av := [.ref 110, .int v1, .int (kI 0), .int v4]) (r := [.int (kI 2)]) cl_243 rfl rfl rfl H ?_
    clear H; intro y1 s1 w1 e1
    obtain ⟨x1, rfl, rfl, H⟩ := e1
    refine EV.steps cl_243 2 (q2 := (55, [some (.ref 110), some (.int v1), some (.int v2), some (.int v3), some (.int v4)], [.int v3, .int ((kI 2) * x1)], SH, w1)) rfl ?_
    refine EV.i_ge cl_243 rfl (fun h3 => ?_) (fun h3 => ?_)
    · skip
      rw [if_pos h3] at H
      refine EV.steps cl_243 1 (q2 := (68, [some (.ref 110), some (.int v1), some (.int v2), some (.int v3), some (.int v4)], [.int v3], SH, w1)) rfl ?_
      refine EV.z_ne cl_243 rfl (fun h4 => ?_) (fun h4 => ?_)
      · skip
        rw [if_neg h4] at H
        refine EV.steps cl_243 1 (q2 := (78, [some (.ref 110), some (.int v1), some (.int v2), some (.int v3), some (.int v4)], [.int v4], SH, w1)) rfl ?_
        refine EV.ret cl_243 rfl rfl rfl ?_
        exact ⟨_, rfl, rfl, H⟩
      · skip
        rw [if_pos h4] at H
        refine EV.steps cl_243 2 (q2 := (78, [some (.ref 110), some (.int v1), some (.int v2), some (.int v3), some (.int v4)], [.int (kI (-2))], SH, w1)) rfl ?_
        refine EV.ret cl_243 rfl rfl rfl ?_
        exact ⟨_, rfl, rfl, H⟩
    · skip
      rw [if_neg h3] at H
      refine EV.steps cl_243 5 (q2 := (40, [some (.ref 110), some (.int v1), some (.int v2), some (.int v3), some (.int (v4 + (kI 1)))], [], SH, w1)) rfl ?_
      exact H
theorem t245_110_at0 {X : Scr} {d : Nat} {Q : Int32 → Wd → Prop} (w : Wd) (v1 : Int32)
    (H : (if (F_165_110 v1 w) = 0 then Q (kI (-1)) w else EI X (d + 2) 245 (12, [some (.ref 110), some (.int v1), some (.int (kI 0))], [], SH, w) Q)) : EI X (d + 2) 245 (0, [some (.ref 110), some (.int v1), none], [], SH, w) Q := by
  unfold EI
  refine EV.steps cl_245 2 (q2 := (2, [some (.ref 110), some (.int v1), none], [.int v1, .ref 110], SH, w)) rfl ?_
  refine EV.callF (kc := 165) (av := [.ref 110, .int v1]) (r := []) (rv := some (.int (F_165_110 v1 w))) (w2 := w) cl_245 rfl rfl rfl (m_165_110 w v1) ?_
  refine EV.z_ne cl_245 rfl (fun h1 => ?_) (fun h1 => ?_)
  · skip
    rw [if_neg h1] at H
    refine EV.steps cl_245 2 (q2 := (12, [some (.ref 110), some (.int v1), some (.int (kI 0))], [], SH, w)) rfl ?_
    exact H
  · skip
    rw [if_pos h1] at H
    refine EV.steps cl_245 1 (q2 := (9, [some (.ref 110), some (.int v1), none], [.int (kI (-1))], SH, w)) rfl ?_
    refine EV.ret cl_245 rfl rfl rfl ?_
    exact ⟨_, rfl, rfl, H⟩
theorem t245_110_at12 {X : Scr} {d : Nat} {Q : Int32 → Wd → Prop} (w : Wd) (v1 : Int32) (v2 : Int32)
    (H : (if (kI 8) ≤ v2 then Q v2 w else (inB (((kI 108) + ((kI 8) * v1)) + v2) 162 = true ∧ (inB v1 6 = true ∧ (if (w 111 (((kI 108) + ((kI 8) * v1)) + v2).toNatClampNeg) = (w 116 v1.toNatClampNeg) then EI X (d + 2) 245 (12, [some (.ref 110), some (.int v1), some (.int (v2 + (kI 1)))], [], SH, w) Q else Q v2 w))))) : EI X (d + 2) 245 (12, [some (.ref 110), some (.int v1), some (.int v2)], [], SH, w) Q := by
  unfold EI
  refine EV.steps cl_245 2 (q2 := (15, [some (.ref 110), some (.int v1), some (.int v2)], [.int (kI 8), .int v2], SH, w)) rfl ?_
  refine EV.i_ge cl_245 rfl (fun h1 => ?_) (fun h1 => ?_)
  · skip
    rw [if_pos h1] at H
    refine EV.steps cl_245 1 (q2 := (49, [some (.ref 110), some (.int v1), some (.int v2)], [.int v2], SH, w)) rfl ?_
    refine EV.ret cl_245 rfl rfl rfl ?_
    exact ⟨_, rfl, rfl, H⟩
  · skip
    rw [if_neg h1] at H
    refine EV.steps cl_245 9 (q2 := (31, [some (.ref 110), some (.int v1), some (.int v2)], [.int (((kI 108) + ((kI 8) * v1)) + v2), .ref 111], SH, w)) rfl ?_
    obtain ⟨j2, H⟩ := H
    refine EV.iaload cl_245 rfl rfl (by decide) j2 ?_
    refine EV.steps cl_245 3 (q2 := (37, [some (.ref 110), some (.int v1), some (.int v2)], [.int v1, .ref 116, .int (w 111 (((kI 108) + ((kI 8) * v1)) + v2).toNatClampNeg)], SH, w)) rfl ?_
    obtain ⟨j3, H⟩ := H
    refine EV.iaload cl_245 rfl rfl (by decide) j3 ?_
    refine EV.i_ne cl_245 rfl (fun h4 => ?_) (fun h4 => ?_)
    · skip
      rw [if_neg h4] at H
      refine EV.steps cl_245 1 (q2 := (49, [some (.ref 110), some (.int v1), some (.int v2)], [.int v2], SH, w)) rfl ?_
      refine EV.ret cl_245 rfl rfl rfl ?_
      exact ⟨_, rfl, rfl, H⟩
    · skip
      rw [if_pos h4] at H
      refine EV.steps cl_245 5 (q2 := (12, [some (.ref 110), some (.int v1), some (.int (v2 + (kI 1)))], [], SH, w)) rfl ?_
      exact H
theorem t247_110_at0 {X : Scr} {d : Nat} {Q : Int32 → Wd → Prop} (w : Wd) (v1 : Int32)
    (H : EI X (d + 2) 247 (9, [some (.ref 110), some (.int v1), some (.int (kI 0)), some (.int ((kI 1) <<< (v1 &&& 31))), some (.int (kI 0)), none], [], SH, w) Q) : EI X (d + 2) 247 (0, [some (.ref 110), some (.int v1), none, none, none, none], [], SH, w) Q := by
  unfold EI
  refine EV.steps cl_247 8 (q2 := (9, [some (.ref 110), some (.int v1), some (.int (kI 0)), some (.int ((kI 1) <<< (v1 &&& 31))), some (.int (kI 0)), none], [], SH, w)) rfl ?_
  exact H
theorem t247_110_at9 {X : Scr} {d : Nat} {Q : Int32 → Wd → Prop} (w : Wd) (v1 : Int32) (v2 : Int32) (v3 : Int32) (v4 : Int32)
    (H : (if (kI 20) ≤ v4 then EI X (d + 2) 247 (30, [some (.ref 110), some (.int v1), some (.int v2), some (.int v3), some (.int v4), none], [], SH, w) Q else (inB v4 20 = true ∧ EI X (d + 2) 247 (9, [some (.ref 110), some (.int v1), some (.int v2), some (.int v3), some (.int (v4 + (kI 1))), none], [], SH, (up2 w 149 v4.toNatClampNeg (kI (-1)))) Q))) : EI X (d + 2) 247 (9, [some (.ref 110), some (.int v1), some (.int v2), some (.int v3), some (.int v4), none], [], SH, w) Q := by
  unfold EI
  refine EV.steps cl_247 2 (q2 := (13, [some (.ref 110), some (.int v1), some (.int v2), some (.int v3), some (.int v4), none], [.int (kI 20), .int v4], SH, w)) rfl ?_
  refine EV.i_ge cl_247 rfl (fun h1 => ?_) (fun h1 => ?_)
  · skip
    rw [if_pos h1] at H
    exact H
  · skip
    rw [if_neg h1] at H
    refine EV.steps cl_247 4 (q2 := (23, [some (.ref 110), some (.int v1), some (.int v2), some (.int v3), some (.int v4), none], [.int (kI (-1)), .int v4, .ref 149], SH, w)) rfl ?_
    obtain ⟨j2, H⟩ := H
    refine EV.iastore cl_247 rfl rfl (by decide) j2 ?_
    refine EV.steps cl_247 2 (q2 := (9, [some (.ref 110), some (.int v1), some (.int v2), some (.int v3), some (.int (v4 + (kI 1))), none], [], SH, (up2 w 149 v4.toNatClampNeg (kI (-1))))) rfl ?_
    exact H
theorem t247_110_at30 {X : Scr} {d : Nat} {Q : Int32 → Wd → Prop} (w : Wd) (v1 : Int32) (v2 : Int32) (v3 : Int32) (v4 : Int32)
    (H : (if v3 = 0 then Q (kI 0) w else EI X (d + 2) 247 (37, [some (.ref 110), some (.int v1), some (.int v2), some (.int v3), some (.int (kI 0)), none], [], SH, w) Q)) : EI X (d + 2) 247 (30, [some (.ref 110), some (.int v1), some (.int v2), some (.int v3), some (.int v4), none], [], SH, w) Q := by
  unfold EI
  refine EV.steps cl_247 1 (q2 := (31, [some (.ref 110), some (.int v1), some (.int v2), some (.int v3), some (.int v4), none], [.int v3], SH, w)) rfl ?_
  refine EV.z_eq cl_247 rfl (fun h1 => ?_) (fun h1 => ?_)
  · skip
    rw [if_pos h1] at H
    refine EV.steps cl_247 1 (q2 := (154, [some (.ref 110), some (.int v1), some (.int v2), some (.int v3), some (.int v4), none], [.int (kI 0)], SH, w)) rfl ?_
    refine EV.ret cl_247 rfl rfl rfl ?_
    exact ⟨_, rfl, rfl, H⟩
  · skip
    rw [if_neg h1] at H
    refine EV.steps cl_247 2 (q2 := (37, [some (.ref 110), some (.int v1), some (.int v2), some (.int v3), some (.int (kI 0)), none], [], SH, w)) rfl ?_
    exact H
theorem t247_110_at37 {X : Scr} {d : Nat} {Q : Int32 → Wd → Prop} (w : Wd) (v1 : Int32) (v2 : Int32) (v3 : Int32) (v4 : Int32)
    (H : (if (F_161 v3 v4 w) = 0 then EI X (d + 2) 247 (37, [some (.ref 110), some (.int v1), some (.int v2), some (.int v3), some (.int (v4 + (kI 1))), none], [], SH, w) Q else EI X (d + 2) 247 (67, [some (.ref 110), some (.int v1), some (.int v2), some (.int (v3 &&& (((kI 1) <<< (v4 &&& 31)) ^^^ (kI (-1))))), some (.int v4), some (.int (kI 0))], [], SH, w) Q)) : EI X (d + 2) 247 (37, [some (.ref 110), some (.int v1), some (.int v2), some (.int v3), some (.int v4), none], [], SH, w) Q := by
  unfold EI
  refine EV.steps cl_247 2 (q2 := (40, [some (.ref 110), some (.int v1), some (.int v2), some (.int v3), some (.int v4), none], [.int v4, .int v3], SH, w)) rfl ?_
  refine EV.callF (kc := 161) (av := [.int v3, .int v4]) (r := []) (rv := some (.int (F_161 v3 v4 w))) (w2 := w) cl_247 rfl rfl rfl (m_161 w v3 v4) ?_
  refine EV.z_ne cl_247 rfl (fun h1 => ?_) (fun h1 => ?_)
  · skip
    rw [if_neg h1] at H
    refine EV.steps cl_247 10 (q2 := (67, [some (.ref 110), some (.int v1), some (.int v2), some (.int (v3 &&& (((kI 1) <<< (v4 &&& 31)) ^^^ (kI (-1))))), some (.int v4), some (.int (kI 0))], [], SH, w)) rfl ?_
    exact H
  · skip
    rw [if_pos h1] at H
    refine EV.steps cl_247 5 (q2 := (37, [some (.ref 110), some (.int v1), some (.int v2), some (.int v3), some (.int (v4 + (kI 1))), none], [], SH, w)) rfl ?_
    exact H
theorem t247_110_at67 {X : Scr} {d : Nat} {Q : Int32 → Wd → Prop} (w : Wd) (v1 : Int32) (v2 : Int32) (v3 : Int32) (v4 : Int32) (v5 : Int32)
    (H : (if (kI 20) ≤ v5 then EI X (d + 2) 247 (30, [some (.ref 110), some (.int v1), some (.int v2), some (.int v3), some (.int v4), none], [], SH, w) Q else ((¬ (F_161 (w 110 56) v4 w) = 0 → ¬ (F_161 (w 110 56) v5 w) = 0 → (inB v4 20 = true)) ∧ ((¬ (F_161 (w 110 56) v4 w) = 0 → ¬ (F_161 (w 110 56) v5 w) = 0 → (inB v5 20 = true)) ∧ ((¬ (F_161 (w 110 56) v4 w) = 0 → ¬ (F_161 (w 110 56) v5 w) = 0 → (w 140 v4.toNatClampNeg) = (w 140 v5.toNatClampNeg) → (inB v4 20 = true)) ∧ ((¬ (F_161 (w 110 56) v4 w) = 0 → ¬ (F_161 (w 110 56) v5 w) = 0 → (w 140 v4.toNatClampNeg) = (w 140 v5.toNatClampNeg) → (inB v5 20 = true)) ∧ ((¬ (F_161 (w 110 56) v4 w) = 0 → ¬ (F_161 (w 110 56) v5 w) = 0 → (w 140 v4.toNatClampNeg) = (w 140 v5.toNatClampNeg) → (w 143 v4.toNatClampNeg) = (w 143 v5.toNatClampNeg) → (inB v4 20 = true)) ∧ ((¬ (F_161 (w 110 56) v4 w) = 0 → ¬ (F_161 (w 110 56) v5 w) = 0 → (w 140 v4.toNatClampNeg) = (w 140 v5.toNatClampNeg) → (w 143 v4.toNatClampNeg) = (w 143 v5.toNatClampNeg) → (inB v5 20 = true)) ∧ ((¬ (F_161 (w 110 56) v4 w) = 0 → ¬ (F_161 (w 110 56) v5 w) = 0 → (w 140 v4.toNatClampNeg) = (w 140 v5.toNatClampNeg) → (w 143 v4.toNatClampNeg) = (w 143 v5.toNatClampNeg) → (w 141 v4.toNatClampNeg) = (w 141 v5.toNatClampNeg) → (inB v4 20 = true)) ∧ ((¬ (F_161 (w 110 56) v4 w) = 0 → ¬ (F_161 (w 110 56) v5 w) = 0 → (w 140 v4.toNatClampNeg) = (w 140 v5.toNatClampNeg) → (w 143 v4.toNatClampNeg) = (w 143 v5.toNatClampNeg) → (w 141 v4.toNatClampNeg) = (w 141 v5.toNatClampNeg) → (inB v5 20 = true)) ∧ (if (F_246_110 v4 v5 w) = 0 then EI X (d + 2) 247 (67, [some (.ref 110), some (.int v1), some (.int v2), some (.int v3), some (.int v4), some (.int (v5 + (kI 1)))], [], SH, w) Q else (if (F_161 v2 v5 w) = 0 then (inB v5 20 = true ∧ (inB v5 20 = true ∧ (if (w 148 v5.toNatClampNeg) = (kI (-1)) then CU X (d + 2) 248 [.ref 110, .int v5] (up2 w 149 v5.toNatClampNeg v4) (fun w1 => Q (kI 1) w1) else (inB v5 20 = true ∧ EI X (d + 2) 247 (67, [some (.ref 110), some (.int v1), some (.int (v2 ||| ((kI 1) <<< (v5 &&& 31)))), some (.int (v3 ||| ((kI 1) <<< ((w 148 v5.toNatClampNeg) &&& 31)))), some (.int v4), some (.int (v5 + (kI 1)))], [], SH, (up2 w 149 v5.toNatClampNeg v4)) Q)))) else EI X (d + 2) 247 (67, [some (.ref 110), some (.int v1), some (.int v2), some (.int v3), some (.int v4), some (.int (v5 + (kI 1)))], [], SH, w) Q)))))))))))) : EI X (d + 2) 247 (67, [some (.ref 110), some (.int v1), some (.int v2), some (.int v3), some (.int v4), some (.int v5)], [], SH, w) Q := by
  unfold EI
  refine EV.steps cl_247 2 (q2 := (71, [some (.ref 110), some (.int v1), some (.int v2), some (.int v3), some (.int v4), some (.int v5)], [.int (kI 20), .int v5], SH, w)) rfl ?_
  refine EV.i_ge cl_247 rfl (fun h1 => ?_) (fun h1 => ?_)
  · skip
    rw [if_pos h1] at H
    refine EV.steps cl_247 1 (q2 := (30, [some (.ref 110), some (.int v1), some (.int v2), some (.int v3), some (.int v4), some (.int v5)], [], SH, w)) rfl ?_
    exact EV.weak (l := [some (.ref 110), some (.int v1), some (.int v2), some (.int v3), some (.int v4), none]) ⟨rfl, ⟨rfl, ⟨rfl, ⟨rfl, ⟨rfl, ⟨rfl, trivial⟩⟩⟩⟩⟩⟩ H
  · skip
    rw [if_neg h1] at H
    refine EV.steps cl_247 3 (q2 := (79, [some (.ref 110), some (.int v1), some (.int v2), some (.int v3), some (.int v4), some (.int v5)], [.int v5, .int v4, .ref 110], SH, w)) rfl ?_
    obtain ⟨j2, H⟩ := H
    obtain ⟨j3, H⟩ := H
    obtain ⟨j4, H⟩ := H
    obtain ⟨j5, H⟩ := H
    obtain ⟨j6, H⟩ := H
    obtain ⟨j7, H⟩ := H
    obtain ⟨j8, H⟩ := H
    obtain ⟨j9, H⟩ := H
    refine EV.callF (kc := 246) (av := [.ref 110, .int v4, .int v5]) (r := []) (rv := some (.int (F_246_110 v4 v5 w))) (w2 := w) cl_247 rfl rfl rfl (m_246_110 w v4 v5 j2 j3 j4 j5 j6 j7 j8 j9) ?_
    refine EV.z_eq cl_247 rfl (fun h10 => ?_) (fun h10 => ?_)
    · skip
      rw [if_pos h10] at H
      refine EV.steps cl_247 2 (q2 := (67, [some (.ref 110), some (.int v1), some (.int v2), some (.int v3), some (.int v4), some (.int (v5 + (kI 1)))], [], SH, w)) rfl ?_
      exact H
    · skip
      rw [if_neg h10] at H
      refine EV.steps cl_247 2 (q2 := (88, [some (.ref 110), some (.int v1), some (.int v2), some (.int v3), some (.int v4), some (.int v5)], [.int v5, .int v2], SH, w)) rfl ?_
      refine EV.callF (kc := 161) (av := [.int v2, .int v5]) (r := []) (rv := some (.int (F_161 v2 v5 w))) (w2 := w) cl_247 rfl rfl rfl (m_161 w v2 v5) ?_
      refine EV.z_eq cl_247 rfl (fun h11 => ?_) (fun h11 => ?_)
      · skip
        rw [if_pos h11] at H
        refine EV.steps cl_247 10 (q2 := (112, [some (.ref 110), some (.int v1), some (.int (v2 ||| ((kI 1) <<< (v5 &&& 31)))), some (.int v3), some (.int v4), some (.int v5)], [.int v4, .int v5, .ref 149], SH, w)) rfl ?_
        obtain ⟨j12, H⟩ := H
        refine EV.iastore cl_247 rfl rfl (by decide) j12 ?_
        refine EV.steps cl_247 3 (q2 := (119, [some (.ref 110), some (.int v1), some (.int (v2 ||| ((kI 1) <<< (v5 &&& 31)))), some (.int v3), some (.int v4), some (.int v5)], [.int v5, .ref 148], SH, (up2 w 149 v5.toNatClampNeg v4))) rfl ?_
        obtain ⟨j13, H⟩ := H
        refine EV.iaload cl_247 rfl rfl (by decide) j13 ?_
        refine EV.steps cl_247 1 (q2 := (121, [some (.ref 110), some (.int v1), some (.int (v2 ||| ((kI 1) <<< (v5 &&& 31)))), some (.int v3), some (.int v4), some (.int v5)], [.int (kI (-1)), .int (w 148 v5.toNatClampNeg)], SH, (up2 w 149 v5.toNatClampNeg v4))) rfl ?_
        refine EV.i_ne cl_247 rfl (fun h14 => ?_) (fun h14 => ?_)
        · skip
          rw [if_neg h14] at H
          refine EV.steps cl_247 5 (q2 := (140, [some (.ref 110), some (.int v1), some (.int (v2 ||| ((kI 1) <<< (v5 &&& 31)))), some (.int v3), some (.int v4), some (.int v5)], [.int v5, .ref 148, .int (kI 1), .int v3], SH, (up2 w 149 v5.toNatClampNeg v4))) rfl ?_
          obtain ⟨j15, H⟩ := H
          refine EV.iaload cl_247 rfl rfl (by decide) j15 ?_
          refine EV.steps cl_247 5 (q2 := (67, [some (.ref 110), some (.int v1), some (.int (v2 ||| ((kI 1) <<< (v5 &&& 31)))), some (.int (v3 ||| ((kI 1) <<< ((w 148 v5.toNatClampNeg) &&& 31)))), some (.int v4), some (.int (v5 + (kI 1)))], [], SH, (up2 w 149 v5.toNatClampNeg v4))) rfl ?_
          exact H
        · skip
          rw [if_pos h14] at H
          refine EV.steps cl_247 2 (q2 := (127, [some (.ref 110), some (.int v1), some (.int (v2 ||| ((kI 1) <<< (v5 &&& 31)))), some (.int v3), some (.int v4), some (.int v5)], [.int v5, .ref 110], SH, (up2 w 149 v5.toNatClampNeg v4))) rfl ?_
          refine EV.call (kc := 248) (av := [.ref 110, .int v5]) (r := []) cl_247 rfl rfl rfl H ?_
          clear H; intro y1 s1 w1 e1
          obtain ⟨rfl, rfl, H⟩ := e1
          refine EV.steps cl_247 1 (q2 := (131, [some (.ref 110), some (.int v1), some (.int (v2 ||| ((kI 1) <<< (v5 &&& 31)))), some (.int v3), some (.int v4), some (.int v5)], [.int (kI 1)], SH, w1)) rfl ?_
          refine EV.ret cl_247 rfl rfl rfl ?_
          exact ⟨_, rfl, rfl, H⟩
      · skip
        rw [if_neg h11] at H
        refine EV.steps cl_247 3 (q2 := (67, [some (.ref 110), some (.int v1), some (.int v2), some (.int v3), some (.int v4), some (.int (v5 + (kI 1)))], [], SH, w)) rfl ?_
        exact H
