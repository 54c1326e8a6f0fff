theorem t231_110_at0 {X : Scr} {d : Nat} {Q : Int32 → Wd → Prop} (w : Wd) (v1 : Int32) (v2 : Int32) (v3 : Int32) (v4 : Int32)
    (H : (if v1 < (kI 1) then Q (kI (-1)) w else (if v2 < (kI 1) then Q (kI (-1)) w else (if (v1 &&& ((w 110 6) ^^^ (kI (-1)))) = 0 then (if (v2 &&& ((w 110 7) ^^^ (kI (-1)))) = 0 then (if (kI 4) < (F_162 v1 w) then Q (kI (-1)) w else (if (kI 3) < (F_162 v2 w) then Q (kI (-1)) w else (if (F_157 v3 (kI 2) (kI 50) w) = 0 then Q (kI (-1)) w else (if (F_157 v4 (kI 0) (kI 1) w) = 0 then Q (kI (-1)) w else CU X (d + 2) 228 [.ref 110, .int v1, .int v2] w (fun w1 => EI X (d + 2) 231 (88, [some (.ref 110), some (.int v1), some (.int v2), some (.int v3), some (.int v4), some (.int (kI (-2))), some (.int (kI 100000000)), some (.int (kI 0)), none], [], SH, w1) Q))))) else Q (kI (-1)) w) else Q (kI (-1)) w)))) : EI X (d + 2) 231 (0, [some (.ref 110), some (.int v1), some (.int v2), some (.int v3), some (.int v4), none, none, none, none], [], SH, w) Q := by
  unfold EI
  refine EV.steps cl_231 2 (q2 := (2, [some (.ref 110), some (.int v1), some (.int v2), some (.int v3), some (.int v4), none, none, none, none], [.int (kI 1), .int v1], SH, w)) rfl ?_
  refine EV.i_lt cl_231 rfl (fun h1 => ?_) (fun h1 => ?_)
  · skip
    rw [if_pos h1] at H
    refine EV.steps cl_231 1 (q2 := (69, [some (.ref 110), some (.int v1), some (.int v2), some (.int v3), some (.int v4), none, none, none, none], [.int (kI (-1))], SH, w)) rfl ?_
    refine EV.ret cl_231 rfl rfl rfl ?_
    exact ⟨_, rfl, rfl, H⟩
  · skip
    rw [if_neg h1] at H
    refine EV.steps cl_231 2 (q2 := (7, [some (.ref 110), some (.int v1), some (.int v2), some (.int v3), some (.int v4), none, none, none, none], [.int (kI 1), .int v2], SH, w)) rfl ?_
    refine EV.i_lt cl_231 rfl (fun h2 => ?_) (fun h2 => ?_)
    · skip
      rw [if_pos h2] at H
      refine EV.steps cl_231 1 (q2 := (69, [some (.ref 110), some (.int v1), some (.int v2), some (.int v3), some (.int v4), none, none, none, none], [.int (kI (-1))], SH, w)) rfl ?_
      refine EV.ret cl_231 rfl rfl rfl ?_
      exact ⟨_, rfl, rfl, H⟩
    · skip
      rw [if_neg h2] at H
      refine EV.steps cl_231 6 (q2 := (18, [some (.ref 110), some (.int v1), some (.int v2), some (.int v3), some (.int v4), none, none, none, none], [.int (v1 &&& ((w 110 6) ^^^ (kI (-1))))], SH, w)) rfl ?_
      refine EV.z_ne cl_231 rfl (fun h3 => ?_) (fun h3 => ?_)
      · skip
        rw [if_neg h3] at H
        refine EV.steps cl_231 1 (q2 := (69, [some (.ref 110), some (.int v1), some (.int v2), some (.int v3), some (.int v4), none, none, none, none], [.int (kI (-1))], SH, w)) rfl ?_
        refine EV.ret cl_231 rfl rfl rfl ?_
        exact ⟨_, rfl, rfl, H⟩
      · skip
        rw [if_pos h3] at H
        refine EV.steps cl_231 6 (q2 := (29, [some (.ref 110), some (.int v1), some (.int v2), some (.int v3), some (.int v4), none, none, none, none], [.int (v2 &&& ((w 110 7) ^^^ (kI (-1))))], SH, w)) rfl ?_
        refine EV.z_ne cl_231 rfl (fun h4 => ?_) (fun h4 => ?_)
        · skip
          rw [if_neg h4] at H
          refine EV.steps cl_231 1 (q2 := (69, [some (.ref 110), some (.int v1), some (.int v2), some (.int v3), some (.int v4), none, none, none, none], [.int (kI (-1))], SH, w)) rfl ?_
          refine EV.ret cl_231 rfl rfl rfl ?_
          exact ⟨_, rfl, rfl, H⟩
        · skip
          rw [if_pos h4] at H
          refine EV.steps cl_231 1 (q2 := (33, [some (.ref 110), some (.int v1), some (.int v2), some (.int v3), some (.int v4), none, none, none, none], [.int v1], SH, w)) rfl ?_
          refine EV.callF (kc := 162) (av := [.int v1]) (r := []) (rv := some (.int (F_162 v1 w))) (w2 := w) cl_231 rfl rfl rfl (m_162 w v1) ?_
          refine EV.steps cl_231 1 (q2 := (37, [some (.ref 110), some (.int v1), some (.int v2), some (.int v3), some (.int v4), none, none, none, none], [.int (kI 4), .int (F_162 v1 w)], SH, w)) rfl ?_
          refine EV.i_gt cl_231 rfl (fun h5 => ?_) (fun h5 => ?_)
          · skip
            rw [if_pos h5] at H
            refine EV.steps cl_231 1 (q2 := (69, [some (.ref 110), some (.int v1), some (.int v2), some (.int v3), some (.int v4), none, none, none, none], [.int (kI (-1))], SH, w)) rfl ?_
            refine EV.ret cl_231 rfl rfl rfl ?_
            exact ⟨_, rfl, rfl, H⟩
          · skip
            rw [if_neg h5] at H
            refine EV.steps cl_231 1 (q2 := (41, [some (.ref 110), some (.int v1), some (.int v2), some (.int v3), some (.int v4), none, none, none, none], [.int v2], SH, w)) rfl ?_
            refine EV.callF (kc := 162) (av := [.int v2]) (r := []) (rv := some (.int (F_162 v2 w))) (w2 := w) cl_231 rfl rfl rfl (m_162 w v2) ?_
            refine EV.steps cl_231 1 (q2 := (45, [some (.ref 110), some (.int v1), some (.int v2), some (.int v3), some (.int v4), none, none, none, none], [.int (kI 3), .int (F_162 v2 w)], SH, w)) rfl ?_
            refine EV.i_gt cl_231 rfl (fun h6 => ?_) (fun h6 => ?_)
            · skip
              rw [if_pos h6] at H
              refine EV.steps cl_231 1 (q2 := (69, [some (.ref 110), some (.int v1), some (.int v2), some (.int v3), some (.int v4), none, none, none, none], [.int (kI (-1))], SH, w)) rfl ?_
              refine EV.ret cl_231 rfl rfl rfl ?_
              exact ⟨_, rfl, rfl, H⟩
            · skip
              rw [if_neg h6] at H
              refine EV.steps cl_231 3 (q2 := (52, [some (.ref 110), some (.int v1), some (.int v2), some (.int v3), some (.int v4), none, none, none, none], [.int (kI 50), .int (kI 2), .int v3], SH, w)) rfl ?_
              refine EV.callF (kc := 157) (av := [.int v3, .int (kI 2), .int (kI 50)]) (r := []) (rv := some (.int (F_157 v3 (kI 2) (kI 50) w))) (w2 := w) cl_231 rfl rfl rfl (m_157 w v3 (kI 2) (kI 50)) ?_
              refine EV.z_eq cl_231 rfl (fun h7 => ?_) (fun h7 => ?_)
              · skip
                rw [if_pos h7] at H
                refine EV.steps cl_231 1 (q2 := (69, [some (.ref 110), some (.int v1), some (.int v2), some (.int v3), some (.int v4), none, none, none, none], [.int (kI (-1))], SH, w)) rfl ?_
                refine EV.ret cl_231 rfl rfl rfl ?_
                exact ⟨_, rfl, rfl, H⟩
              · skip
                rw [if_neg h7] at H
                refine EV.steps cl_231 3 (q2 := (62, [some (.ref 110), some (.int v1), some (.int v2), some (.int v3), some (.int v4), none, none, none, none], [.int (kI 1), .int (kI 0), .int v4], SH, w)) rfl ?_
                refine EV.callF (kc := 157) (av := [.int v4, .int (kI 0), .int (kI 1)]) (r := []) (rv := some (.int (F_157 v4 (kI 0) (kI 1) w))) (w2 := w) cl_231 rfl rfl rfl (m_157 w v4 (kI 0) (kI 1)) ?_
                refine EV.z_ne cl_231 rfl (fun h8 => ?_) (fun h8 => ?_)
                · skip
                  rw [if_neg h8] at H
                  refine EV.steps cl_231 3 (q2 := (73, [some (.ref 110), some (.int v1), some (.int v2), some (.int v3), some (.int v4), none, none, none, none], [.int v2, .int v1, .ref 110], SH, w)) rfl ?_
                  refine EV.call (kc := 228) (av := [.ref 110, .int v1, .int v2]) (r := []) cl_231 rfl rfl rfl H ?_
                  clear H; intro y1 s1 w1 e1
                  obtain ⟨rfl, rfl, H⟩ := e1
                  refine EV.steps cl_231 6 (q2 := (88, [some (.ref 110), some (.int v1), some (.int v2), some (.int v3), some (.int v4), some (.int (kI (-2))), some (.int (kI 100000000)), some (.int (kI 0)), none], [], SH, w1)) rfl ?_
                  exact H
                · skip
                  rw [if_pos h8] at H
                  refine EV.steps cl_231 1 (q2 := (69, [some (.ref 110), some (.int v1), some (.int v2), some (.int v3), some (.int v4), none, none, none, none], [.int (kI (-1))], SH, w)) rfl ?_
                  refine EV.ret cl_231 rfl rfl rfl ?_
                  exact ⟨_, rfl, rfl, H⟩
theorem t231_110_at88 {X : Scr} {d : Nat} {Q : Int32 → Wd → Prop} (w : Wd) (v1 : Int32) (v2 : Int32) (v3 : Int32) (v4 : Int32) (v5 : Int32) (v6 : Int32) (v7 : Int32)
    (H : (if ((kI 1) <<< (((w 110 46) * (w 110 47)) &&& 31)) ≤ v7 then (if v4 = (kI 1) then Q v5 w else (if v5 = (kI (-2)) then Q v5 w else Q v6 w)) else CI X (d + 2) 230 [.ref 110, .int v3, .int v7] w (fun x1 w1 => (if x1 = (kI (-1)) then EI X (d + 2) 231 (88, [some (.ref 110), some (.int v1), some (.int v2), some (.int v3), some (.int v4), some (.int v5), some (.int v6), some (.int (v7 + (kI 1))), none], [], SH, w1) Q else (if x1 < v6 then EI X (d + 2) 231 (88, [some (.ref 110), some (.int v1), some (.int v2), some (.int v3), some (.int v4), some (.int v7), some (.int x1), some (.int (v7 + (kI 1))), none], [], SH, w1) Q else EI X (d + 2) 231 (88, [some (.ref 110), some (.int v1), some (.int v2), some (.int v3), some (.int v4), some (.int v5), some (.int v6), some (.int (v7 + (kI 1))), none], [], SH, w1) Q))))) : EI X (d + 2) 231 (88, [some (.ref 110), some (.int v1), some (.int v2), some (.int v3), some (.int v4), some (.int v5), some (.int v6), some (.int v7), none], [], SH, w) Q := by
  unfold EI
  refine EV.steps cl_231 8 (q2 := (101, [some (.ref 110), some (.int v1), some (.int v2), some (.int v3), some (.int v4), some (.int v5), some (.int v6), some (.int v7), none], [.int ((kI 1) <<< (((w 110 46) * (w 110 47)) &&& 31)), .int v7], SH, w)) rfl ?_
  refine EV.i_ge cl_231 rfl (fun h1 => ?_) (fun h1 => ?_)
  · skip
    rw [if_pos h1] at H
    refine EV.steps cl_231 2 (q2 := (146, [some (.ref 110), some (.int v1), some (.int v2), some (.int v3), some (.int v4), some (.int v5), some (.int v6), some (.int v7), none], [.int (kI 1), .int v4], SH, w)) rfl ?_
    refine EV.i_eq cl_231 rfl (fun h2 => ?_) (fun h2 => ?_)
    · skip
      rw [if_pos h2] at H
      refine EV.steps cl_231 2 (q2 := (163, [some (.ref 110), some (.int v1), some (.int v2), some (.int v3), some (.int v4), some (.int v5), some (.int v6), some (.int v7), none], [.int v5], SH, w)) rfl ?_
      refine EV.ret cl_231 rfl rfl rfl ?_
      exact ⟨_, rfl, rfl, H⟩
    · skip
      rw [if_neg h2] at H
      refine EV.steps cl_231 2 (q2 := (153, [some (.ref 110), some (.int v1), some (.int v2), some (.int v3), some (.int v4), some (.int v5), some (.int v6), some (.int v7), none], [.int (kI (-2)), .int v5], SH, w)) rfl ?_
      refine EV.i_ne cl_231 rfl (fun h3 => ?_) (fun h3 => ?_)
      · skip
        rw [if_neg h3] at H
        refine EV.steps cl_231 1 (q2 := (163, [some (.ref 110), some (.int v1), some (.int v2), some (.int v3), some (.int v4), some (.int v5), some (.int v6), some (.int v7), none], [.int v6], SH, w)) rfl ?_
        refine EV.ret cl_231 rfl rfl rfl ?_
        exact ⟨_, rfl, rfl, H⟩
      · skip
        rw [if_pos h3] at H
        refine EV.steps cl_231 2 (q2 := (163, [some (.ref 110), some (.int v1), some (.int v2), some (.int v3), some (.int v4), some (.int v5), some (.int v6), some (.int v7), none], [.int v5], SH, w)) rfl ?_
        refine EV.ret cl_231 rfl rfl rfl ?_
        exact ⟨_, rfl, rfl, H⟩
  · skip
    rw [if_neg h1] at H
    refine EV.steps cl_231 3 (q2 := (108, [some (.ref 110), some (.int v1), some (.int v2), some (.int v3), some (.int v4), some (.int v5), some (.int v6), some (.int v7), none], [.int v7, .int v3, .ref 110], SH, w)) rfl ?_
    refine EV.call (kc := 230) (av := [.ref 110, .int v3, .int v7]) (r := []) cl_231 rfl rfl rfl H ?_
    clear H; intro y1 s1 w1 e1
    obtain ⟨x1, rfl, rfl, H⟩ := e1
    refine EV.steps cl_231 3 (q2 := (116, [some (.ref 110), some (.int v1), some (.int v2), some (.int v3), some (.int v4), some (.int v5), some (.int v6), some (.int v7), some (.int x1)], [.int (kI (-1)), .int x1], SH, w1)) rfl ?_
    refine EV.i_eq cl_231 rfl (fun h4 => ?_) (fun h4 => ?_)
    · skip
      rw [if_pos h4] at H
      refine EV.steps cl_231 2 (q2 := (88, [some (.ref 110), some (.int v1), some (.int v2), some (.int v3), some (.int v4), some (.int v5), some (.int v6), some (.int (v7 + (kI 1))), some (.int x1)], [], SH, w1)) rfl ?_
      exact EV.weak (l := [some (.ref 110), some (.int v1), some (.int v2), some (.int v3), some (.int v4), some (.int v5), some (.int v6), some (.int (v7 + (kI 1))), none]) ⟨rfl, ⟨rfl, ⟨rfl, ⟨rfl, ⟨rfl, ⟨rfl, ⟨rfl, ⟨rfl, ⟨rfl, trivial⟩⟩⟩⟩⟩⟩⟩⟩⟩ H
    · skip
      rw [if_neg h4] at H
      refine EV.steps cl_231 2 (q2 := (123, [some (.ref 110), some (.int v1), some (.int v2), some (.int v3), some (.int v4), some (.int v5), some (.int v6), some (.int v7), some (.int x1)], [.int v6, .int x1], SH, w1)) rfl ?_
      refine EV.i_lt cl_231 rfl (fun h5 => ?_) (fun h5 => ?_)
      · skip
        rw [if_pos h5] at H
        refine EV.steps cl_231 6 (q2 := (88, [some (.ref 110), some (.int v1), some (.int v2), some (.int v3), some (.int v4), some (.int v7), some (.int x1), some (.int (v7 + (kI 1))), some (.int x1)], [], SH, w1)) rfl ?_
        exact EV.weak (l := [some (.ref 110), some (.int v1), some (.int v2), some (.int v3), some (.int v4), some (.int v7), some (.int x1), some (.int (v7 + (kI 1))), none]) ⟨rfl, ⟨rfl, ⟨rfl, ⟨rfl, ⟨rfl, ⟨rfl, ⟨rfl, ⟨rfl, ⟨rfl, trivial⟩⟩⟩⟩⟩⟩⟩⟩⟩ H
      · skip
        rw [if_neg h5] at H
        refine EV.steps cl_231 3 (q2 := (88, [some (.ref 110), some (.int v1), some (.int v2), some (.int v3), some (.int v4), some (.int v5), some (.int v6), some (.int (v7 + (kI 1))), some (.int x1)], [], SH, w1)) rfl ?_
        exact EV.weak (l := [some (.ref 110), some (.int v1), some (.int v2), some (.int v3), some (.int v4), some (.int v5), some (.int v6), some (.int (v7 + (kI 1))), none]) ⟨rfl, ⟨rfl, ⟨rfl, ⟨rfl, ⟨rfl, ⟨rfl, ⟨rfl, ⟨rfl, ⟨rfl, trivial⟩⟩⟩⟩⟩⟩⟩⟩⟩ H
theorem t232_110_at0 {X : Scr} {d : Nat} {Q : Int32 → Wd → Prop} (w : Wd) (v1 : Int32)
    (H : EI X (d + 1) 232 (7, [some (.ref 110), some (.int v1), some (.int (kI 0)), some (.int (kI 0)), some (.int (kI 0))], [], SH, w) Q) : EI X (d + 1) 232 (0, [some (.ref 110), some (.int v1), none, none, none], [], SH, w) Q := by
  unfold EI
  refine EV.steps cl_232 6 (q2 := (7, [some (.ref 110), some (.int v1), some (.int (kI 0)), some (.int (kI 0)), some (.int (kI 0))], [], SH, w)) rfl ?_
  exact H
theorem t232_110_at7 {X : Scr} {d : Nat} {Q : Int32 → Wd → Prop} (w : Wd) (v1 : Int32) (v2 : Int32) (v3 : Int32) (v4 : Int32)
    (H : (if (kI 6) ≤ v4 then EI X (d + 1) 232 (68, [some (.ref 110), some (.int v1), some (.int v2), some (.int v3), some (.int (kI 0))], [], SH, w) Q else (inB v4 6 = true ∧ (if 0 < (w 138 v4.toNatClampNeg) then (if (F_161 v1 v4 w) = 0 then (inB v4 6 = true ∧ EI X (d + 1) 232 (7, [some (.ref 110), some (.int v1), some (.int (v2 + (w 138 v4.toNatClampNeg))), some (.int v3), some (.int (v4 + (kI 1)))], [], SH, w) Q) else (inB v4 6 = true ∧ EI X (d + 1) 232 (7, [some (.ref 110), some (.int v1), some (.int v2), some (.int (v3 ||| (w 115 v4.toNatClampNeg))), some (.int (v4 + (kI 1)))], [], SH, w) Q)) else EI X (d + 1) 232 (7, [some (.ref 110), some (.int v1), some (.int v2), some (.int v3), some (.int (v4 + (kI 1)))], [], SH, w) Q)))) : EI X (d + 1) 232 (7, [some (.ref 110), some (.int v1), some (.int v2), some (.int v3), some (.int v4)], [], SH, w) Q := by
  unfold EI
  refine EV.steps cl_232 2 (q2 := (11, [some (.ref 110), some (.int v1), some (.int v2), some (.int v3), some (.int v4)], [.int (kI 6), .int v4], SH, w)) rfl ?_
  refine EV.i_ge cl_232 rfl (fun h1 => ?_) (fun h1 => ?_)
  · skip
    rw [if_pos h1] at H
    refine EV.steps cl_232 2 (q2 := (68, [some (.ref 110), some (.int v1), some (.int v2), some (.int v3), some (.int (kI 0))], [], SH, w)) rfl ?_
    exact H
  · skip
    rw [if_neg h1] at H
    refine EV.steps cl_232 3 (q2 := (20, [some (.ref 110), some (.int v1), some (.int v2), some (.int v3), some (.int v4)], [.int v4, .ref 138], SH, w)) rfl ?_
    obtain ⟨j2, H⟩ := H
    refine EV.iaload cl_232 rfl rfl (by decide) j2 ?_
    refine EV.z_gt cl_232 rfl (fun h3 => ?_) (fun h3 => ?_)
    · skip
      rw [if_pos h3] at H
      refine EV.steps cl_232 2 (q2 := (30, [some (.ref 110), some (.int v1), some (.int v2), some (.int v3), some (.int v4)], [.int v4, .int v1], SH, w)) rfl ?_
      refine EV.callF (kc := 161) (av := [.int v1, .int v4]) (r := []) (rv := some (.int (F_161 v1 v4 w))) (w2 := w) cl_232 rfl rfl rfl (m_161 w v1 v4) ?_
      refine EV.z_eq cl_232 rfl (fun h4 => ?_) (fun h4 => ?_)
      · skip
        rw [if_pos h4] at H
        refine EV.steps cl_232 4 (q2 := (56, [some (.ref 110), some (.int v1), some (.int v2), some (.int v3), some (.int v4)], [.int v4, .ref 138, .int v2], SH, w)) rfl ?_
        obtain ⟨j5, H⟩ := H
        refine EV.iaload cl_232 rfl rfl (by decide) j5 ?_
        refine EV.steps cl_232 4 (q2 := (7, [some (.ref 110), some (.int v1), some (.int (v2 + (w 138 v4.toNatClampNeg))), some (.int v3), some (.int (v4 + (kI 1)))], [], SH, w)) rfl ?_
        exact H
      · skip
        rw [if_neg h4] at H
        refine EV.steps cl_232 4 (q2 := (43, [some (.ref 110), some (.int v1), some (.int v2), some (.int v3), some (.int v4)], [.int v4, .ref 115, .int v3], SH, w)) rfl ?_
        obtain ⟨j6, H⟩ := H
        refine EV.iaload cl_232 rfl rfl (by decide) j6 ?_
        refine EV.steps cl_232 5 (q2 := (7, [some (.ref 110), some (.int v1), some (.int v2), some (.int (v3 ||| (w 115 v4.toNatClampNeg))), some (.int (v4 + (kI 1)))], [], SH, w)) rfl ?_
        exact H
    · skip
      rw [if_neg h3] at H
      refine EV.steps cl_232 3 (q2 := (7, [some (.ref 110), some (.int v1), some (.int v2), some (.int v3), some (.int (v4 + (kI 1)))], [], SH, w)) rfl ?_
      exact H
theorem t232_110_at68 {X : Scr} {d : Nat} {Q : Int32 → Wd → Prop} (w : Wd) (v1 : Int32) (v2 : Int32) (v3 : Int32) (v4 : Int32)
    (H : (if (kI 6) ≤ v4 then Q v2 w else (if (F_161 v3 v4 w) = 0 then EI X (d + 1) 232 (68, [some (.ref 110), some (.int v1), some (.int v2), some (.int v3), some (.int (v4 + (kI 1)))], [], SH, w) Q else (inB v4 6 = true ∧ (if 0 ≤ (w 138 v4.toNatClampNeg) then EI X (d + 1) 232 (68, [some (.ref 110), some (.int v1), some (.int v2), some (.int v3), some (.int (v4 + (kI 1)))], [], SH, w) Q else (inB v4 6 = true ∧ EI X (d + 1) 232 (68, [some (.ref 110), some (.int v1), some (.int (v2 - (w 138 v4.toNatClampNeg))), some (.int v3), some (.int (v4 + (kI 1)))], [], SH, w) Q)))))) : EI X (d + 1) 232 (68, [some (.ref 110), some (.int v1), some (.int v2), some (.int v3), some (.int v4)], [], SH, w) Q := by
  unfold EI
  refine EV.steps cl_232 2 (q2 := (72, [some (.ref 110), some (.int v1), some (.int v2), some (.int v3), some (.int v4)], [.int (kI 6), .int v4], SH, w)) rfl ?_
  refine EV.i_ge cl_232 rfl (fun h1 => ?_) (fun h1 => ?_)
  · skip
    rw [if_pos h1] at H
    refine EV.steps cl_232 1 (q2 := (111, [some (.ref 110), some (.int v1), some (.int v2), some (.int v3), some (.int v4)], [.int v2], SH, w)) rfl ?_
    refine EV.ret cl_232 rfl rfl rfl ?_
    exact ⟨_, rfl, rfl, H⟩
  · skip
    rw [if_neg h1] at H
    refine EV.steps cl_232 2 (q2 := (78, [some (.ref 110), some (.int v1), some (.int v2), some (.int v3), some (.int v4)], [.int v4, .int v3], SH, w)) rfl ?_
    refine EV.callF (kc := 161) (av := [.int v3, .int v4]) (r := []) (rv := some (.int (F_161 v3 v4 w))) (w2 := w) cl_232 rfl rfl rfl (m_161 w v3 v4) ?_
    refine EV.z_eq cl_232 rfl (fun h2 => ?_) (fun h2 => ?_)
    · skip
      rw [if_pos h2] at H
      refine EV.steps cl_232 2 (q2 := (68, [some (.ref 110), some (.int v1), some (.int v2), some (.int v3), some (.int (v4 + (kI 1)))], [], SH, w)) rfl ?_
      exact H
    · skip
      rw [if_neg h2] at H
      refine EV.steps cl_232 3 (q2 := (90, [some (.ref 110), some (.int v1), some (.int v2), some (.int v3), some (.int v4)], [.int v4, .ref 138], SH, w)) rfl ?_
      obtain ⟨j3, H⟩ := H
      refine EV.iaload cl_232 rfl rfl (by decide) j3 ?_
      refine EV.z_ge cl_232 rfl (fun h4 => ?_) (fun h4 => ?_)
      · skip
        rw [if_pos h4] at H
        refine EV.steps cl_232 2 (q2 := (68, [some (.ref 110), some (.int v1), some (.int v2), some (.int v3), some (.int (v4 + (kI 1)))], [], SH, w)) rfl ?_
        exact H
      · skip
        rw [if_neg h4] at H
        refine EV.steps cl_232 4 (q2 := (101, [some (.ref 110), some (.int v1), some (.int v2), some (.int v3), some (.int v4)], [.int v4, .ref 138, .int v2], SH, w)) rfl ?_
        obtain ⟨j5, H⟩ := H
        refine EV.iaload cl_232 rfl rfl (by decide) j5 ?_
        refine EV.steps cl_232 4 (q2 := (68, [some (.ref 110), some (.int v1), some (.int (v2 - (w 138 v4.toNatClampNeg))), some (.int v3), some (.int (v4 + (kI 1)))], [], SH, w)) rfl ?_
        exact H
theorem t233_110_at0 {X : Scr} {d : Nat} {Q : Int32 → Wd → Prop} (w : Wd) (v1 : Int32) (v2 : Int32)
    (H : (if (F_165_110 v1 w) = 0 then Q (kI (-1)) w else (if (F_157 v2 (kI 0) (kI 2) w) = 0 then Q (kI (-1)) w else (inB v1 6 = true ∧ CU X (d + 2) 218 [.ref 110, .int (w 116 v1.toNatClampNeg)] w (fun w1 => EI X (d + 2) 233 (37, [some (.ref 110), some (.int v1), some (.int v2), some (.int (kI 0)), some (.int (kI 0)), some (.int (kI 0)), none], [], SH, w1) Q))))) : EI X (d + 2) 233 (0, [some (.ref 110), some (.int v1), some (.int v2), none, none, none, none], [], SH, w) Q := by
  unfold EI
  refine EV.steps cl_233 2 (q2 := (2, [some (.ref 110), some (.int v1), some (.int v2), none, none, none, none], [.int v1, .ref 110], SH, w)) rfl ?_
  refine EV.callF (kc := 165) (av := [.ref 110, .int v1]) (r := []) (rv := some (.int (F_165_110 v1 w))) (w2 := w) cl_233 rfl rfl rfl (m_165_110 w v1) ?_
  refine EV.z_eq cl_233 rfl (fun h1 => ?_) (fun h1 => ?_)
  · skip
    rw [if_pos h1] at H
    refine EV.steps cl_233 1 (q2 := (18, [some (.ref 110), some (.int v1), some (.int v2), none, none, none, none], [.int (kI (-1))], SH, w)) rfl ?_
    refine EV.ret cl_233 rfl rfl rfl ?_
    exact ⟨_, rfl, rfl, H⟩
  · skip
    rw [if_neg h1] at H
    refine EV.steps cl_233 3 (q2 := (11, [some (.ref 110), some (.int v1), some (.int v2), none, none, none, none], [.int (kI 2), .int (kI 0), .int v2], SH, w)) rfl ?_
    refine EV.callF (kc := 157) (av := [.int v2, .int (kI 0), .int (kI 2)]) (r := []) (rv := some (.int (F_157 v2 (kI 0) (kI 2) w))) (w2 := w) cl_233 rfl rfl rfl (m_157 w v2 (kI 0) (kI 2)) ?_
    refine EV.z_ne cl_233 rfl (fun h2 => ?_) (fun h2 => ?_)
    · skip
      rw [if_neg h2] at H
      refine EV.steps cl_233 4 (q2 := (25, [some (.ref 110), some (.int v1), some (.int v2), none, none, none, none], [.int v1, .ref 116, .ref 110], SH, w)) rfl ?_
      obtain ⟨j3, H⟩ := H
      refine EV.iaload cl_233 rfl rfl (by decide) j3 ?_
      refine EV.call (kc := 218) (av := [.ref 110, .int (w 116 v1.toNatClampNeg)]) (r := []) cl_233 rfl rfl rfl H ?_
      clear H; intro y1 s1 w1 e1
      obtain ⟨rfl, rfl, H⟩ := e1
      refine EV.steps cl_233 6 (q2 := (37, [some (.ref 110), some (.int v1), some (.int v2), some (.int (kI 0)), some (.int (kI 0)), some (.int (kI 0)), none], [], SH, w1)) rfl ?_
      exact H
    · skip
      rw [if_pos h2] at H
      refine EV.steps cl_233 1 (q2 := (18, [some (.ref 110), some (.int v1), some (.int v2), none, none, none, none], [.int (kI (-1))], SH, w)) rfl ?_
      refine EV.ret cl_233 rfl rfl rfl ?_
      exact ⟨_, rfl, rfl, H⟩
theorem t233_110_at37 {X : Scr} {d : Nat} {Q : Int32 → Wd → Prop} (w : Wd) (v1 : Int32) (v2 : Int32) (v3 : Int32) (v4 : Int32) (v5 : Int32)
    (H : (if (kI 6) ≤ v5 then (if (kI 2) ≤ v2 then EI X (d + 2) 233 (140, [some (.ref 110), some (.int v1), some (.int v2), some (.int v3), some (.int v4), some (.int (kI 100000000)), some (.int (kI 0))], [], SH, w) Q else (if v2 = 0 then Q v3 w else Q v4 w)) else (if (F_164_110 v5 w) = 0 then (inB v5 6 = true ∧ (inB v5 6 = true ∧ (inB v5 6 = true ∧ EI X (d + 2) 233 (37, [some (.ref 110), some (.int v1), some (.int v2), some (.int (v3 + (F_159 (kI 0) ((up2 w 138 v5.toNatClampNeg (kI 0)) 138 v5.toNatClampNeg) (up2 w 138 v5.toNatClampNeg (kI 0))))), some (.int (v4 + (F_159 (kI 0) (-((up2 w 138 v5.toNatClampNeg (kI 0)) 138 v5.toNatClampNeg)) (up2 w 138 v5.toNatClampNeg (kI 0))))), some (.int (v5 + (kI 1))), none], [], SH, (up2 w 138 v5.toNatClampNeg (kI 0))) Q))) else (((inB (((kI 0) + ((kI 6) * v5)) + v1) 162 = true)) ∧ (inB v5 6 = true ∧ (inB v5 6 = true ∧ (inB v5 6 = true ∧ (inB v5 6 = true ∧ EI X (d + 2) 233 (37, [some (.ref 110), some (.int v1), some (.int v2), some (.int (v3 + (F_159 (kI 0) ((up2 w 138 v5.toNatClampNeg ((F_166_110 v5 v1 w) - (w 133 v5.toNatClampNeg))) 138 v5.toNatClampNeg) (up2 w 138 v5.toNatClampNeg ((F_166_110 v5 v1 w) - (w 133 v5.toNatClampNeg)))))), some (.int (v4 + (F_159 (kI 0) (-((up2 w 138 v5.toNatClampNeg ((F_166_110 v5 v1 w) - (w 133 v5.toNatClampNeg))) 138 v5.toNatClampNeg)) (up2 w 138 v5.toNatClampNeg ((F_166_110 v5 v1 w) - (w 133 v5.toNatClampNeg)))))), some (.int (v5 + (kI 1))), none], [], SH, (up2 w 138 v5.toNatClampNeg ((F_166_110 v5 v1 w) - (w 133 v5.toNatClampNeg)))) Q)))))))) : EI X (d + 2) 233 (37, [some (.ref 110), some (.int v1), some (.int v2), some (.int v3), some (.int v4), some (.int v5), none], [], SH, w) Q := by
  unfold EI
  refine EV.steps cl_233 2 (q2 := (41, [some (.ref 110), some (.int v1), some (.int v2), some (.int v3), some (.int v4), some (.int v5), none], [.int (kI 6), .int v5], SH, w)) rfl ?_
  refine EV.i_ge cl_233 rfl (fun h1 => ?_) (fun h1 => ?_)
  · skip
    rw [if_pos h1] at H
    refine EV.steps cl_233 2 (q2 := (118, [some (.ref 110), some (.int v1), some (.int v2), some (.int v3), some (.int v4), some (.int v5), none], [.int (kI 2), .int v2], SH, w)) rfl ?_
    refine EV.i_ge cl_233 rfl (fun h2 => ?_) (fun h2 => ?_)
    · skip
      rw [if_pos h2] at H
      refine EV.steps cl_233 4 (q2 := (140, [some (.ref 110), some (.int v1), some (.int v2), some (.int v3), some (.int v4), some (.int (kI 100000000)), some (.int (kI 0))], [], SH, w)) rfl ?_
      exact H
    · skip
      rw [if_neg h2] at H
      refine EV.steps cl_233 1 (q2 := (122, [some (.ref 110), some (.int v1), some (.int v2), some (.int v3), some (.int v4), some (.int v5), none], [.int v2], SH, w)) rfl ?_
      refine EV.z_ne cl_233 rfl (fun h3 => ?_) (fun h3 => ?_)
      · skip
        rw [if_neg h3] at H
        refine EV.steps cl_233 1 (q2 := (131, [some (.ref 110), some (.int v1), some (.int v2), some (.int v3), some (.int v4), some (.int v5), none], [.int v4], SH, w)) rfl ?_
        refine EV.ret cl_233 rfl rfl rfl ?_
        exact ⟨_, rfl, rfl, H⟩
      · skip
        rw [if_pos h3] at H
        refine EV.steps cl_233 2 (q2 := (131, [some (.ref 110), some (.int v1), some (.int v2), some (.int v3), some (.int v4), some (.int v5), none], [.int v3], SH, w)) rfl ?_
        refine EV.ret cl_233 rfl rfl rfl ?_
        exact ⟨_, rfl, rfl, H⟩
  · skip
    rw [if_neg h1] at H
    refine EV.steps cl_233 5 (q2 := (53, [some (.ref 110), some (.int v1), some (.int v2), some (.int v3), some (.int v4), some (.int v5), none], [.int v5, .ref 110, .int v5, .ref 138], SH, w)) rfl ?_
    refine EV.callF (kc := 164) (av := [.ref 110, .int v5]) (r := [.int v5, .ref 138]) (rv := some (.int (F_164_110 v5 w))) (w2 := w) cl_233 rfl rfl rfl (m_164_110 w v5) ?_
    refine EV.z_eq cl_233 rfl (fun h4 => ?_) (fun h4 => ?_)
    · skip
      rw [if_pos h4] at H
      refine EV.steps cl_233 1 (q2 := (78, [some (.ref 110), some (.int v1), some (.int v2), some (.int v3), some (.int v4), some (.int v5), none], [.int (kI 0), .int v5, .ref 138], SH, w)) rfl ?_
      obtain ⟨j5, H⟩ := H
      refine EV.iastore cl_233 rfl rfl (by decide) j5 ?_
      refine EV.steps cl_233 5 (q2 := (87, [some (.ref 110), some (.int v1), some (.int v2), some (.int v3), some (.int v4), some (.int v5), none], [.int v5, .ref 138, .int (kI 0), .int v3], SH, (up2 w 138 v5.toNatClampNeg (kI 0)))) rfl ?_
      obtain ⟨j6, H⟩ := H
      refine EV.iaload cl_233 rfl rfl (by decide) j6 ?_
      refine EV.callF (kc := 159) (av := [.int (kI 0), .int ((up2 w 138 v5.toNatClampNeg (kI 0)) 138 v5.toNatClampNeg)]) (r := [.int v3]) (rv := some (.int (F_159 (kI 0) ((up2 w 138 v5.toNatClampNeg (kI 0)) 138 v5.toNatClampNeg) (up2 w 138 v5.toNatClampNeg (kI 0))))) (w2 := (up2 w 138 v5.toNatClampNeg (kI 0))) cl_233 rfl rfl rfl (m_159 (up2 w 138 v5.toNatClampNeg (kI 0)) (kI 0) ((up2 w 138 v5.toNatClampNeg (kI 0)) 138 v5.toNatClampNeg)) ?_
      refine EV.steps cl_233 7 (q2 := (102, [some (.ref 110), some (.int v1), some (.int v2), some (.int (v3 + (F_159 (kI 0) ((up2 w 138 v5.toNatClampNeg (kI 0)) 138 v5.toNatClampNeg) (up2 w 138 v5.toNatClampNeg (kI 0))))), some (.int v4), some (.int v5), none], [.int v5, .ref 138, .int (kI 0), .int v4], SH, (up2 w 138 v5.toNatClampNeg (kI 0)))) rfl ?_
      obtain ⟨j7, H⟩ := H
      refine EV.iaload cl_233 rfl rfl (by decide) j7 ?_
      refine EV.steps cl_233 1 (q2 := (104, [some (.ref 110), some (.int v1), some (.int v2), some (.int (v3 + (F_159 (kI 0) ((up2 w 138 v5.toNatClampNeg (kI 0)) 138 v5.toNatClampNeg) (up2 w 138 v5.toNatClampNeg (kI 0))))), some (.int v4), some (.int v5), none], [.int (-((up2 w 138 v5.toNatClampNeg (kI 0)) 138 v5.toNatClampNeg)), .int (kI 0), .int v4], SH, (up2 w 138 v5.toNatClampNeg (kI 0)))) rfl ?_
      refine EV.callF (kc := 159) (av := [.int (kI 0), .int (-((up2 w 138 v5.toNatClampNeg (kI 0)) 138 v5.toNatClampNeg))]) (r := [.int v4]) (rv := some (.int (F_159 (kI 0) (-((up2 w 138 v5.toNatClampNeg (kI 0)) 138 v5.toNatClampNeg)) (up2 w 138 v5.toNatClampNeg (kI 0))))) (w2 := (up2 w 138 v5.toNatClampNeg (kI 0))) cl_233 rfl rfl rfl (m_159 (up2 w 138 v5.toNatClampNeg (kI 0)) (kI 0) (-((up2 w 138 v5.toNatClampNeg (kI 0)) 138 v5.toNatClampNeg))) ?_
      refine EV.steps cl_233 4 (q2 := (37, [some (.ref 110), some (.int v1), some (.int v2), some (.int (v3 + (F_159 (kI 0) ((up2 w 138 v5.toNatClampNeg (kI 0)) 138 v5.toNatClampNeg) (up2 w 138 v5.toNatClampNeg (kI 0))))), some (.int (v4 + (F_159 (kI 0) (-((up2 w 138 v5.toNatClampNeg (kI 0)) 138 v5.toNatClampNeg)) (up2 w 138 v5.toNatClampNeg (kI 0))))), some (.int (v5 + (kI 1))), none], [], SH, (up2 w 138 v5.toNatClampNeg (kI 0)))) rfl ?_
      exact H
    · skip
      rw [if_neg h4] at H
      refine EV.steps cl_233 3 (q2 := (63, [some (.ref 110), some (.int v1), some (.int v2), some (.int v3), some (.int v4), some (.int v5), none], [.int v1, .int v5, .ref 110, .int v5, .ref 138], SH, w)) rfl ?_
      obtain ⟨j8, H⟩ := H
      refine EV.callF (kc := 166) (av := [.ref 110, .int v5, .int v1]) (r := [.int v5, .ref 138]) (rv := some (.int (F_166_110 v5 v1 w))) (w2 := w) cl_233 rfl rfl rfl (m_166_110 w v5 v1 j8) ?_
      refine EV.steps cl_233 3 (q2 := (72, [some (.ref 110), some (.int v1), some (.int v2), some (.int v3), some (.int v4), some (.int v5), none], [.int v5, .ref 133, .int (F_166_110 v5 v1 w), .int v5, .ref 138], SH, w)) rfl ?_
      obtain ⟨j9, H⟩ := H
      refine EV.iaload cl_233 rfl rfl (by decide) j9 ?_
      refine EV.steps cl_233 2 (q2 := (78, [some (.ref 110), some (.int v1), some (.int v2), some (.int v3), some (.int v4), some (.int v5), none], [.int ((F_166_110 v5 v1 w) - (w 133 v5.toNatClampNeg)), .int v5, .ref 138], SH, w)) rfl ?_
      obtain ⟨j10, H⟩ := H
      refine EV.iastore cl_233 rfl rfl (by decide) j10 ?_
      refine EV.steps cl_233 5 (q2 := (87, [some (.ref 110), some (.int v1), some (.int v2), some (.int v3), some (.int v4), some (.int v5), none], [.int v5, .ref 138, .int (kI 0), .int v3], SH, (up2 w 138 v5.toNatClampNeg ((F_166_110 v5 v1 w) - (w 133 v5.toNatClampNeg))))) rfl ?_
      obtain ⟨j11, H⟩ := H
      refine EV.iaload cl_233 rfl rfl (by decide) j11 ?_
      refine EV.callF (kc := 159) (av := [.int (kI 0), .int ((up2 w 138 v5.toNatClampNeg ((F_166_110 v5 v1 w) - (w 133 v5.toNatClampNeg))) 138 v5.toNatClampNeg)]) (r := [.int v3]) (rv := some (.int (F_159 (kI 0) ((up2 w 138 v5.toNatClampNeg ((F_166_110 v5 v1 w) - (w 133 v5.toNatClampNeg))) 138 v5.toNatClampNeg) (up2 w 138 v5.toNatClampNeg ((F_166_110 v5 v1 w) - (w 133 v5.toNatClampNeg)))))) (w2 := (up2 w 138 v5.toNatClampNeg ((F_166_110 v5 v1 w) - (w 133 v5.toNatClampNeg)))) cl_233 rfl rfl rfl (m_159 (up2 w 138 v5.toNatClampNeg ((F_166_110 v5 v1 w) - (w 133 v5.toNatClampNeg))) (kI 0) ((up2 w 138 v5.toNatClampNeg ((F_166_110 v5 v1 w) - (w 133 v5.toNatClampNeg))) 138 v5.toNatClampNeg)) ?_
      refine EV.steps cl_233 7 (q2 := (102, [some (.ref 110), some (.int v1), some (.int v2), some (.int (v3 + (F_159 (kI 0) ((up2 w 138 v5.toNatClampNeg ((F_166_110 v5 v1 w) - (w 133 v5.toNatClampNeg))) 138 v5.toNatClampNeg) (up2 w 138 v5.toNatClampNeg ((F_166_110 v5 v1 w) - (w 133 v5.toNatClampNeg)))))), some (.int v4), some (.int v5), none], [.int v5, .ref 138, .int (kI 0), .int v4], SH, (up2 w 138 v5.toNatClampNeg ((F_166_110 v5 v1 w) - (w 133 v5.toNatClampNeg))))) rfl ?_
      obtain ⟨j12, H⟩ := H
      refine EV.iaload cl_233 rfl rfl (by decide) j12 ?_
      refine EV.steps cl_233 1 (q2 := (104, [some (.ref 110), some (.int v1), some (.int v2), some (.int (v3 + (F_159 (kI 0) ((up2 w 138 v5.toNatClampNeg ((F_166_110 v5 v1 w) - (w 133 v5.toNatClampNeg))) 138 v5.toNatClampNeg) (up2 w 138 v5.toNatClampNeg ((F_166_110 v5 v1 w) - (w 133 v5.toNatClampNeg)))))), some (.int v4), some (.int v5), none], [.int (-((up2 w 138 v5.toNatClampNeg ((F_166_110 v5 v1 w) - (w 133 v5.toNatClampNeg))) 138 v5.toNatClampNeg)), .int (kI 0), .int v4], SH, (up2 w 138 v5.toNatClampNeg ((F_166_110 v5 v1 w) - (w 133 v5.toNatClampNeg))))) rfl ?_
      refine EV.callF (kc := 159) (av := [.int (kI 0), .int (-((up2 w 138 v5.toNatClampNeg ((F_166_110 v5 v1 w) - (w 133 v5.toNatClampNeg))) 138 v5.toNatClampNeg))]) (r := [.int v4]) (rv := some (.int (F_159 (kI 0) (-((up2 w 138 v5.toNatClampNeg ((F_166_110 v5 v1 w) - (w 133 v5.toNatClampNeg))) 138 v5.toNatClampNeg)) (up2 w 138 v5.toNatClampNeg ((F_166_110 v5 v1 w) - (w 133 v5.toNatClampNeg)))))) (w2 := (up2 w 138 v5.toNatClampNeg ((F_166_110 v5 v1 w) - (w 133 v5.toNatClampNeg)))) cl_233 rfl rfl rfl (m_159 (up2 w 138 v5.toNatClampNeg ((F_166_110 v5 v1 w) - (w 133 v5.toNatClampNeg))) (kI 0) (-((up2 w 138 v5.toNatClampNeg ((F_166_110 v5 v1 w) - (w 133 v5.toNatClampNeg))) 138 v5.toNatClampNeg))) ?_
      refine EV.steps cl_233 4 (q2 := (37, [some (.ref 110), some (.int v1), some (.int v2), some (.int (v3 + (F_159 (kI 0) ((up2 w 138 v5.toNatClampNeg ((F_166_110 v5 v1 w) - (w 133 v5.toNatClampNeg))) 138 v5.toNatClampNeg) (up2 w 138 v5.toNatClampNeg ((F_166_110 v5 v1 w) - (w 133 v5.toNatClampNeg)))))), some (.int (v4 + (F_159 (kI 0) (-((up2 w 138 v5.toNatClampNeg ((F_166_110 v5 v1 w) - (w 133 v5.toNatClampNeg))) 138 v5.toNatClampNeg)) (up2 w 138 v5.toNatClampNeg ((F_166_110 v5 v1 w) - (w 133 v5.toNatClampNeg)))))), some (.int (v5 + (kI 1))), none], [], SH, (up2 w 138 v5.toNatClampNeg ((F_166_110 v5 v1 w) - (w 133 v5.toNatClampNeg))))) rfl ?_
      exact H
theorem t233_110_at140 {X : Scr} {d : Nat} {Q : Int32 → Wd → Prop} (w : Wd) (v1 : Int32) (v2 : Int32) (v3 : Int32) (v4 : Int32) (v5 : Int32) (v6 : Int32)
    (H : (if (kI 64) ≤ v6 then Q v5 w else CI X (d + 2) 232 [.ref 110, .int v6] w (fun x1 w1 => EI X (d + 2) 233 (140, [some (.ref 110), some (.int v1), some (.int v2), some (.int v3), some (.int v4), some (.int (F_158 v5 x1 w1)), some (.int (v6 + (kI 1)))], [], SH, w1) Q))) : EI X (d + 2) 233 (140, [some (.ref 110), some (.int v1), some (.int v2), some (.int v3), some (.int v4), some (.int v5), some (.int v6)], [], SH, w) Q := by
  unfold EI
  refine EV.steps cl_233 2 (q2 := (144, [some (.ref 110), some (.int v1), some (.int v2), some (.int v3), some (.int v4), some (.int v5), some (.int v6)], [.int (kI 64), .int v6], SH, w)) rfl ?_
  refine EV.i_ge cl_233 rfl (fun h1 => ?_) (fun h1 => ?_)
  · skip
    rw [if_pos h1] at H
    refine EV.steps cl_233 1 (q2 := (168, [some (.ref 110), some (.int v1), some (.int v2), some (.int v3), some (.int v4), some (.int v5), some (.int v6)], [.int v5], SH, w)) rfl ?_
    refine EV.ret cl_233 rfl rfl rfl ?_
    exact ⟨_, rfl, rfl, H⟩
  · skip
    rw [if_neg h1] at H
    refine EV.steps cl_233 3 (q2 := (152, [some (.ref 110), some (.int v1), some (.int v2), some (.int v3), some (.int v4), some (.int v5), some (.int v6)], [.int v6, .ref 110, .int v5], SH, w)) rfl ?_
    refine EV.call (kc := 232) (av := [.ref 110, .int v6]) (r := [.int v5]) cl_233 rfl rfl rfl H ?_
    clear H; intro y1 s1 w1 e1
    obtain ⟨x1, rfl, rfl, H⟩ := e1
    refine EV.callF (kc := 158) (av := [.int v5, .int x1]) (r := []) (rv := some (.int (F_158 v5 x1 w1))) (w2 := w1) cl_233 rfl rfl rfl (m_158 w1 v5 x1) ?_
    refine EV.steps cl_233 3 (q2 := (140, [some (.ref 110), some (.int v1), some (.int v2), some (.int v3), some (.int v4), some (.int (F_158 v5 x1 w1)), some (.int (v6 + (kI 1)))], [], SH, w1)) rfl ?_
    exact H
theorem t234_110_at0 {X : Scr} {d : Nat} {Q : Int32 → Wd → Prop} (w : Wd) (v1 : Int32)
    (H : (if (F_157 v1 (kI 0) (kI 2) w) = 0 then Q (kI (-1)) w else EI X (d + 2) 234 (15, [some (.ref 110), some (.int v1), some (.int (kI 0)), some (.int (kI 0)), none, none, none, none], [], SH, w) Q)) : EI X (d + 2) 234 (0, [some (.ref 110), some (.int v1), none, none, none, none, none, none], [], SH, w) Q := by
  unfold EI
  refine EV.steps cl_234 3 (q2 := (3, [some (.ref 110), some (.int v1), none, none, none, none, none, none], [.int (kI 2), .int (kI 0), .int v1], SH, w)) rfl ?_
  refine EV.callF (kc := 157) (av := [.int v1, .int (kI 0), .int (kI 2)]) (r := []) (rv := some (.int (F_157 v1 (kI 0) (kI 2) w))) (w2 := w) cl_234 rfl rfl rfl (m_157 w v1 (kI 0) (kI 2)) ?_
  refine EV.z_ne cl_234 rfl (fun h1 => ?_) (fun h1 => ?_)
  · skip
    rw [if_neg h1] at H
    refine EV.steps cl_234 4 (q2 := (15, [some (.ref 110), some (.int v1), some (.int (kI 0)), some (.int (kI 0)), none, none, none, none], [], SH, w)) rfl ?_
    exact H
  · skip
    rw [if_pos h1] at H
    refine EV.steps cl_234 1 (q2 := (10, [some (.ref 110), some (.int v1), none, none, none, none, none, none], [.int (kI (-1))], SH, w)) rfl ?_
    refine EV.ret cl_234 rfl rfl rfl ?_
    exact ⟨_, rfl, rfl, H⟩
theorem t234_110_at15 {X : Scr} {d : Nat} {Q : Int32 → Wd → Prop} (w : Wd) (v1 : Int32) (v2 : Int32) (v3 : Int32)
    (H : (if (kI 6) ≤ v3 then EI X (d + 2) 234 (74, [some (.ref 110), some (.int v1), some (.int v2), some (.int (kI 0)), some (.int (kI 0)), some (.int (kI 1)), none, none], [], SH, w) Q else (if (F_165_110 v3 w) = 0 then (inB v3 6 = true ∧ (inB v3 6 = true ∧ (if ((up2 w 139 v3.toNatClampNeg (kI (-2))) 139 v3.toNatClampNeg) < 0 then EI X (d + 2) 234 (15, [some (.ref 110), some (.int v1), some (.int v2), some (.int (v3 + (kI 1))), none, none, none, none], [], SH, (up2 w 139 v3.toNatClampNeg (kI (-2)))) Q else EI X (d + 2) 234 (15, [some (.ref 110), some (.int v1), some (.int (v2 ||| ((kI 1) <<< (v3 &&& 31)))), some (.int (v3 + (kI 1))), none, none, none, none], [], SH, (up2 w 139 v3.toNatClampNeg (kI (-2)))) Q))) else CI X (d + 2) 216 [.ref 110, .int v3] w (fun x1 w1 => (inB v3 6 = true ∧ (inB v3 6 = true ∧ (if ((up2 w1 139 v3.toNatClampNeg x1) 139 v3.toNatClampNeg) < 0 then EI X (d + 2) 234 (15, [some (.ref 110), some (.int v1), some (.int v2), some (.int (v3 + (kI 1))), none, none, none, none], [], SH, (up2 w1 139 v3.toNatClampNeg x1)) Q else EI X (d + 2) 234 (15, [some (.ref 110), some (.int v1), some (.int (v2 ||| ((kI 1) <<< (v3 &&& 31)))), some (.int (v3 + (kI 1))), none, none, none, none], [], SH, (up2 w1 139 v3.toNatClampNeg x1)) Q))))))) : EI X (d + 2) 234 (15, [some (.ref 110), some (.int v1), some (.int v2), some (.int v3), none, none, none, none], [], SH, w) Q := by
  unfold EI
  refine EV.steps cl_234 2 (q2 := (18, [some (.ref 110), some (.int v1), some (.int v2), some (.int v3), none, none, none, none], [.int (kI 6), .int v3], SH, w)) rfl ?_
  refine EV.i_ge cl_234 rfl (fun h1 => ?_) (fun h1 => ?_)
  · skip
    rw [if_pos h1] at H
    refine EV.steps cl_234 6 (q2 := (74, [some (.ref 110), some (.int v1), some (.int v2), some (.int (kI 0)), some (.int (kI 0)), some (.int (kI 1)), none, none], [], SH, w)) rfl ?_
    exact H
  · skip
    rw [if_neg h1] at H
    refine EV.steps cl_234 5 (q2 := (28, [some (.ref 110), some (.int v1), some (.int v2), some (.int v3), none, none, none, none], [.int v3, .ref 110, .int v3, .ref 139], SH, w)) rfl ?_
    refine EV.callF (kc := 165) (av := [.ref 110, .int v3]) (r := [.int v3, .ref 139]) (rv := some (.int (F_165_110 v3 w))) (w2 := w) cl_234 rfl rfl rfl (m_165_110 w v3) ?_
    refine EV.z_eq cl_234 rfl (fun h2 => ?_) (fun h2 => ?_)
    · skip
      rw [if_pos h2] at H
      refine EV.steps cl_234 1 (q2 := (44, [some (.ref 110), some (.int v1), some (.int v2), some (.int v3), none, none, none, none], [.int (kI (-2)), .int v3, .ref 139], SH, w)) rfl ?_
      obtain ⟨j3, H⟩ := H
      refine EV.iastore cl_234 rfl rfl (by decide) j3 ?_
      refine EV.steps cl_234 3 (q2 := (50, [some (.ref 110), some (.int v1), some (.int v2), some (.int v3), none, none, none, none], [.int v3, .ref 139], SH, (up2 w 139 v3.toNatClampNeg (kI (-2))))) rfl ?_
      obtain ⟨j4, H⟩ := H
      refine EV.iaload cl_234 rfl rfl (by decide) j4 ?_
      refine EV.z_lt cl_234 rfl (fun h5 => ?_) (fun h5 => ?_)
      · skip
        rw [if_pos h5] at H
        refine EV.steps cl_234 2 (q2 := (15, [some (.ref 110), some (.int v1), some (.int v2), some (.int (v3 + (kI 1))), none, none, none, none], [], SH, (up2 w 139 v3.toNatClampNeg (kI (-2))))) rfl ?_
        exact H
      · skip
        rw [if_neg h5] at H
        refine EV.steps cl_234 8 (q2 := (15, [some (.ref 110), some (.int v1), some (.int (v2 ||| ((kI 1) <<< (v3 &&& 31)))), some (.int (v3 + (kI 1))), none, none, none, none], [], SH, (up2 w 139 v3.toNatClampNeg (kI (-2))))) rfl ?_
        exact H
    · skip
      rw [if_neg h2] at H
      refine EV.steps cl_234 2 (q2 := (36, [some (.ref 110), some (.int v1), some (.int v2), some (.int v3), none, none, none, none], [.int v3, .ref 110, .int v3, .ref 139], SH, w)) rfl ?_
      refine EV.call (kc := 216) (av := [.ref 110, .int v3]) (r := [.int v3, .ref 139]) cl_234 rfl rfl rfl H ?_
      clear H; intro y1 s1 w1 e1
      obtain ⟨x1, rfl, rfl, H⟩ := e1
      refine EV.steps cl_234 1 (q2 := (44, [some (.ref 110), some (.int v1), some (.int v2), some (.int v3), none, none, none, none], [.int x1, .int v3, .ref 139], SH, w1)) rfl ?_
      obtain ⟨j6, H⟩ := H
      refine EV.iastore cl_234 rfl rfl (by decide) j6 ?_
      refine EV.steps cl_234 3 (q2 := (50, [some (.ref 110), some (.int v1), some (.int v2), some (.int v3), none, none, none, none], [.int v3, .ref 139], SH, (up2 w1 139 v3.toNatClampNeg x1))) rfl ?_
      obtain ⟨j7, H⟩ := H
      refine EV.iaload cl_234 rfl rfl (by decide) j7 ?_
      refine EV.z_lt cl_234 rfl (fun h8 => ?_) (fun h8 => ?_)
      · skip
        rw [if_pos h8] at H
        refine EV.steps cl_234 2 (q2 := (15, [some (.ref 110), some (.int v1), some (.int v2), some (.int (v3 + (kI 1))), none, none, none, none], [], SH, (up2 w1 139 v3.toNatClampNeg x1))) rfl ?_
        exact H
      · skip
        rw [if_neg h8] at H
        refine EV.steps cl_234 8 (q2 := (15, [some (.ref 110), some (.int v1), some (.int (v2 ||| ((kI 1) <<< (v3 &&& 31)))), some (.int (v3 + (kI 1))), none, none, none, none], [], SH, (up2 w1 139 v3.toNatClampNeg x1))) rfl ?_
        exact H
theorem t234_110_at74 {X : Scr} {d : Nat} {Q : Int32 → Wd → Prop} (w : Wd) (v1 : Int32) (v2 : Int32) (v3 : Int32) (v4 : Int32) (v5 : Int32)
    (H : (if (kI 64) ≤ v5 then (if v1 = 0 then Q (F_162 v3 w) w else (if v1 = (kI 1) then Q v3 w else Q v4 w)) else (if (v5 &&& (v2 ^^^ (kI (-1)))) = 0 then EI X (d + 2) 234 (99, [some (.ref 110), some (.int v1), some (.int v2), some (.int v3), some (.int v4), some (.int v5), some (.int (kI 0)), some (.int (kI 0))], [], SH, w) Q else EI X (d + 2) 234 (74, [some (.ref 110), some (.int v1), some (.int v2), some (.int v3), some (.int v4), some (.int (v5 + (kI 1))), none, none], [], SH, w) Q))) : EI X (d + 2) 234 (74, [some (.ref 110), some (.int v1), some (.int v2), some (.int v3), some (.int v4), some (.int v5), none, none], [], SH, w) Q := by
  unfold EI
  refine EV.steps cl_234 2 (q2 := (78, [some (.ref 110), some (.int v1), some (.int v2), some (.int v3), some (.int v4), some (.int v5), none, none], [.int (kI 64), .int v5], SH, w)) rfl ?_
  refine EV.i_ge cl_234 rfl (fun h1 => ?_) (fun h1 => ?_)
  · skip
    rw [if_pos h1] at H
    refine EV.steps cl_234 1 (q2 := (199, [some (.ref 110), some (.int v1), some (.int v2), some (.int v3), some (.int v4), some (.int v5), none, none], [.int v1], SH, w)) rfl ?_
    refine EV.z_ne cl_234 rfl (fun h2 => ?_) (fun h2 => ?_)
    · skip
      rw [if_neg h2] at H
      refine EV.steps cl_234 2 (q2 := (211, [some (.ref 110), some (.int v1), some (.int v2), some (.int v3), some (.int v4), some (.int v5), none, none], [.int (kI 1), .int v1], SH, w)) rfl ?_
      refine EV.i_ne cl_234 rfl (fun h3 => ?_) (fun h3 => ?_)
      · skip
        rw [if_neg h3] at H
        refine EV.steps cl_234 1 (q2 := (220, [some (.ref 110), some (.int v1), some (.int v2), some (.int v3), some (.int v4), some (.int v5), none, none], [.int v4], SH, w)) rfl ?_
        refine EV.ret cl_234 rfl rfl rfl ?_
        exact ⟨_, rfl, rfl, H⟩
      · skip
        rw [if_pos h3] at H
        refine EV.steps cl_234 2 (q2 := (220, [some (.ref 110), some (.int v1), some (.int v2), some (.int v3), some (.int v4), some (.int v5), none, none], [.int v3], SH, w)) rfl ?_
        refine EV.ret cl_234 rfl rfl rfl ?_
        exact ⟨_, rfl, rfl, H⟩
    · skip
      rw [if_pos h2] at H
      refine EV.steps cl_234 1 (q2 := (203, [some (.ref 110), some (.int v1), some (.int v2), some (.int v3), some (.int v4), some (.int v5), none, none], [.int v3], SH, w)) rfl ?_
      refine EV.callF (kc := 162) (av := [.int v3]) (r := []) (rv := some (.int (F_162 v3 w))) (w2 := w) cl_234 rfl rfl rfl (m_162 w v3) ?_
      refine EV.steps cl_234 1 (q2 := (220, [some (.ref 110), some (.int v1), some (.int v2), some (.int v3), some (.int v4), some (.int v5), none, none], [.int (F_162 v3 w)], SH, w)) rfl ?_
      refine EV.ret cl_234 rfl rfl rfl ?_
      exact ⟨_, rfl, rfl, H⟩
  · skip
    rw [if_neg h1] at H
    refine EV.steps cl_234 5 (q2 := (87, [some (.ref 110), some (.int v1), some (.int v2), some (.int v3), some (.int v4), some (.int v5), none, none], [.int (v5 &&& (v2 ^^^ (kI (-1))))], SH, w)) rfl ?_
    refine EV.z_eq cl_234 rfl (fun h4 => ?_) (fun h4 => ?_)
    · skip
      rw [if_pos h4] at H
      refine EV.steps cl_234 4 (q2 := (99, [some (.ref 110), some (.int v1), some (.int v2), some (.int v3), some (.int v4), some (.int v5), some (.int (kI 0)), some (.int (kI 0))], [], SH, w)) rfl ?_
      exact H
    · skip
      rw [if_neg h4] at H
      refine EV.steps cl_234 3 (q2 := (74, [some (.ref 110), some (.int v1), some (.int v2), some (.int v3), some (.int v4), some (.int (v5 + (kI 1))), none, none], [], SH, w)) rfl ?_
      exact H
theorem t234_110_at99 {X : Scr} {d : Nat} {Q : Int32 → Wd → Prop} (w : Wd) (v1 : Int32) (v2 : Int32) (v3 : Int32) (v4 : Int32) (v5 : Int32) (v6 : Int32) (v7 : Int32)
    (H : (if (kI 6) ≤ v7 then (if (w 111 (kI 159).toNatClampNeg) < v6 then EI X (d + 2) 234 (74, [some (.ref 110), some (.int v1), some (.int v2), some (.int v3), some (.int v4), some (.int (v5 + (kI 1))), none, none], [], SH, w) Q else (if (F_162 v5 w) < (F_162 v3 w) then EI X (d + 2) 234 (74, [some (.ref 110), some (.int v1), some (.int v2), some (.int v3), some (.int v4), some (.int (v5 + (kI 1))), none, none], [], SH, w) Q else (if (F_162 v5 w) = (F_162 v3 w) then (if v6 < v4 then EI X (d + 2) 234 (74, [some (.ref 110), some (.int v1), some (.int v2), some (.int v5), some (.int v6), some (.int (v5 + (kI 1))), none, none], [], SH, w) Q else EI X (d + 2) 234 (74, [some (.ref 110), some (.int v1), some (.int v2), some (.int v3), some (.int v4), some (.int (v5 + (kI 1))), none, none], [], SH, w) Q) else EI X (d + 2) 234 (74, [some (.ref 110), some (.int v1), some (.int v2), some (.int v5), some (.int v6), some (.int (v5 + (kI 1))), none, none], [], SH, w) Q))) else (if (F_161 v5 v7 w) = 0 then EI X (d + 2) 234 (99, [some (.ref 110), some (.int v1), some (.int v2), some (.int v3), some (.int v4), some (.int v5), some (.int (v6 + (kI 0))), some (.int (v7 + (kI 1)))], [], SH, w) Q else (inB v7 6 = true ∧ EI X (d + 2) 234 (99, [some (.ref 110), some (.int v1), some (.int v2), some (.int v3), some (.int v4), some (.int v5), some (.int (v6 + (w 139 v7.toNatClampNeg))), some (.int (v7 + (kI 1)))], [], SH, w) Q)))) : EI X (d + 2) 234 (99, [some (.ref 110), some (.int v1), some (.int v2), some (.int v3), some (.int v4), some (.int v5), some (.int v6), some (.int v7)], [], SH, w) Q := by
  unfold EI
  refine EV.steps cl_234 2 (q2 := (103, [some (.ref 110), some (.int v1), some (.int v2), some (.int v3), some (.int v4), some (.int v5), some (.int v6), some (.int v7)], [.int (kI 6), .int v7], SH, w)) rfl ?_
  refine EV.i_ge cl_234 rfl (fun h1 => ?_) (fun h1 => ?_)
  · skip
    rw [if_pos h1] at H
    refine EV.steps cl_234 4 (q2 := (147, [some (.ref 110), some (.int v1), some (.int v2), some (.int v3), some (.int v4), some (.int v5), some (.int v6), some (.int v7)], [.int (kI 159), .ref 111, .int v6], SH, w)) rfl ?_
    refine EV.iaload cl_234 rfl rfl (by decide) rfl ?_
    refine EV.i_gt cl_234 rfl (fun h2 => ?_) (fun h2 => ?_)
    · skip
      rw [if_pos h2] at H
      refine EV.steps cl_234 2 (q2 := (74, [some (.ref 110), some (.int v1), some (.int v2), some (.int v3), some (.int v4), some (.int (v5 + (kI 1))), some (.int v6), some (.int v7)], [], SH, w)) rfl ?_
      exact EV.weak (l := [some (.ref 110), some (.int v1), some (.int v2), some (.int v3), some (.int v4), some (.int (v5 + (kI 1))), none, none]) ⟨rfl, ⟨rfl, ⟨rfl, ⟨rfl, ⟨rfl, ⟨rfl, ⟨rfl, ⟨rfl, trivial⟩⟩⟩⟩⟩⟩⟩⟩ H
    · skip
      rw [if_neg h2] at H
      refine EV.steps cl_234 1 (q2 := (153, [some (.ref 110), some (.int v1), some (.int v2), some (.int v3), some (.int v4), some (.int v5), some (.int v6), some (.int v7)], [.int v5], SH, w)) rfl ?_
      refine EV.callF (kc := 162) (av := [.int v5]) (r := []) (rv := some (.int (F_162 v5 w))) (w2 := w) cl_234 rfl rfl rfl (m_162 w v5) ?_
      refine EV.steps cl_234 1 (q2 := (157, [some (.ref 110), some (.int v1), some (.int v2), some (.int v3), some (.int v4), some (.int v5), some (.int v6), some (.int v7)], [.int v3, .int (F_162 v5 w)], SH, w)) rfl ?_
      refine EV.callF (kc := 162) (av := [.int v3]) (r := [.int (F_162 v5 w)]) (rv := some (.int (F_162 v3 w))) (w2 := w) cl_234 rfl rfl rfl (m_162 w v3) ?_
      refine EV.i_lt cl_234 rfl (fun h3 => ?_) (fun h3 => ?_)
      · skip
        rw [if_pos h3] at H
        refine EV.steps cl_234 2 (q2 := (74, [some (.ref 110), some (.int v1), some (.int v2), some (.int v3), some (.int v4), some (.int (v5 + (kI 1))), some (.int v6), some (.int v7)], [], SH, w)) rfl ?_
        exact EV.weak (l := [some (.ref 110), some (.int v1), some (.int v2), some (.int v3), some (.int v4), some (.int (v5 + (kI 1))), none, none]) ⟨rfl, ⟨rfl, ⟨rfl, ⟨rfl, ⟨rfl, ⟨rfl, ⟨rfl, ⟨rfl, trivial⟩⟩⟩⟩⟩⟩⟩⟩ H
      · skip
        rw [if_neg h3] at H
        refine EV.steps cl_234 1 (q2 := (165, [some (.ref 110), some (.int v1), some (.int v2), some (.int v3), some (.int v4), some (.int v5), some (.int v6), some (.int v7)], [.int v5], SH, w)) rfl ?_
        refine EV.callF (kc := 162) (av := [.int v5]) (r := []) (rv := some (.int (F_162 v5 w))) (w2 := w) cl_234 rfl rfl rfl (m_162 w v5) ?_
        refine EV.steps cl_234 1 (q2 := (169, [some (.ref 110), some (.int v1), some (.int v2), some (.int v3), some (.int v4), some (.int v5), some (.int v6), some (.int v7)], [.int v3, .int (F_162 v5 w)], SH, w)) rfl ?_
        refine EV.callF (kc := 162) (av := [.int v3]) (r := [.int (F_162 v5 w)]) (rv := some (.int (F_162 v3 w))) (w2 := w) cl_234 rfl rfl rfl (m_162 w v3) ?_
        refine EV.i_ne cl_234 rfl (fun h4 => ?_) (fun h4 => ?_)
        · skip
          rw [if_neg h4] at H
          refine EV.steps cl_234 6 (q2 := (74, [some (.ref 110), some (.int v1), some (.int v2), some (.int v5), some (.int v6), some (.int (v5 + (kI 1))), some (.int v6), some (.int v7)], [], SH, w)) rfl ?_
          exact EV.weak (l := [some (.ref 110), some (.int v1), some (.int v2), some (.int v5), some (.int v6), some (.int (v5 + (kI 1))), none, none]) ⟨rfl, ⟨rfl, ⟨rfl, ⟨rfl, ⟨rfl, ⟨rfl, ⟨rfl, ⟨rfl, trivial⟩⟩⟩⟩⟩⟩⟩⟩ H
        · skip
          rw [if_pos h4] at H
          refine EV.steps cl_234 2 (q2 := (179, [some (.ref 110), some (.int v1), some (.int v2), some (.int v3), some (.int v4), some (.int v5), some (.int v6), some (.int v7)], [.int v4, .int v6], SH, w)) rfl ?_
          refine EV.i_lt cl_234 rfl (fun h5 => ?_) (fun h5 => ?_)
          · skip
            rw [if_pos h5] at H
            refine EV.steps cl_234 6 (q2 := (74, [some (.ref 110), some (.int v1), some (.int v2), some (.int v5), some (.int v6), some (.int (v5 + (kI 1))), some (.int v6), some (.int v7)], [], SH, w)) rfl ?_
            exact EV.weak (l := [some (.ref 110), some (.int v1), some (.int v2), some (.int v5), some (.int v6), some (.int (v5 + (kI 1))), none, none]) ⟨rfl, ⟨rfl, ⟨rfl, ⟨rfl, ⟨rfl, ⟨rfl, ⟨rfl, ⟨rfl, trivial⟩⟩⟩⟩⟩⟩⟩⟩ H
          · skip
            rw [if_neg h5] at H
            refine EV.steps cl_234 3 (q2 := (74, [some (.ref 110), some (.int v1), some (.int v2), some (.int v3), some (.int v4), some (.int (v5 + (kI 1))), some (.int v6), some (.int v7)], [], SH, w)) rfl ?_
            exact EV.weak (l := [some (.ref 110), some (.int v1), some (.int v2), some (.int v3), some (.int v4), some (.int (v5 + (kI 1))), none, none]) ⟨rfl, ⟨rfl, ⟨rfl, ⟨rfl, ⟨rfl, ⟨rfl, ⟨rfl, ⟨rfl, trivial⟩⟩⟩⟩⟩⟩⟩⟩ H
  · skip
    rw [if_neg h1] at H
    refine EV.steps cl_234 3 (q2 := (112, [some (.ref 110), some (.int v1), some (.int v2), some (.int v3), some (.int v4), some (.int v5), some (.int v6), some (.int v7)], [.int v7, .int v5, .int v6], SH, w)) rfl ?_
    refine EV.callF (kc := 161) (av := [.int v5, .int v7]) (r := [.int v6]) (rv := some (.int (F_161 v5 v7 w))) (w2 := w) cl_234 rfl rfl rfl (m_161 w v5 v7) ?_
    refine EV.z_eq cl_234 rfl (fun h6 => ?_) (fun h6 => ?_)
    · skip
      rw [if_pos h6] at H
      refine EV.steps cl_234 5 (q2 := (99, [some (.ref 110), some (.int v1), some (.int v2), some (.int v3), some (.int v4), some (.int v5), some (.int (v6 + (kI 0))), some (.int (v7 + (kI 1)))], [], SH, w)) rfl ?_
      exact H
    · skip
      rw [if_neg h6] at H
      refine EV.steps cl_234 3 (q2 := (124, [some (.ref 110), some (.int v1), some (.int v2), some (.int v3), some (.int v4), some (.int v5), some (.int v6), some (.int v7)], [.int v7, .ref 139, .int v6], SH, w)) rfl ?_
      obtain ⟨j7, H⟩ := H
      refine EV.iaload cl_234 rfl rfl (by decide) j7 ?_
      refine EV.steps cl_234 5 (q2 := (99, [some (.ref 110), some (.int v1), some (.int v2), some (.int v3), some (.int v4), some (.int v5), some (.int (v6 + (w 139 v7.toNatClampNeg))), some (.int (v7 + (kI 1)))], [], SH, w)) rfl ?_
      exact H
theorem t236_110_at0 {X : Scr} {d : Nat} {Q : Int32 → Wd → Prop} (w : Wd) (v1 : Int32) (v2 : Int32)
    (H : EI X (d + 1) 236 (2, [some (.ref 110), some (.int v1), some (.int v2), some (.int (kI 0)), none], [], SH, w) Q) : EI X (d + 1) 236 (0, [some (.ref 110), some (.int v1), some (.int v2), none, none], [], SH, w) Q := by
  unfold EI
  refine EV.steps cl_236 2 (q2 := (2, [some (.ref 110), some (.int v1), some (.int v2), some (.int (kI 0)), none], [], SH, w)) rfl ?_
  exact H
theorem t236_110_at2 {X : Scr} {d : Nat} {Q : Int32 → Wd → Prop} (w : Wd) (v1 : Int32) (v2 : Int32) (v3 : Int32)
    (H : (inB v1 6 = true ∧ (if (w 145 v1.toNatClampNeg) ≤ v3 then EI X (d + 1) 236 (50, [some (.ref 110), some (.int v1), some (.int v2), some (.int (kI 0)), none], [], SH, w) Q else (inB v3 260 = true ∧ (inB v3 260 = true ∧ (inB (((kI 260) * v1) + v3) 1560 = true ∧ (inB v3 260 = true ∧ EI X (d + 1) 236 (2, [some (.ref 110), some (.int v1), some (.int v2), some (.int (v3 + (kI 1))), none], [], SH, (up2 (up2 w 146 v3.toNatClampNeg (w 124 v3.toNatClampNeg)) 124 v3.toNatClampNeg (w 144 (((kI 260) * v1) + v3).toNatClampNeg))) Q))))))) : EI X (d + 1) 236 (2, [some (.ref 110), some (.int v1), some (.int v2), some (.int v3), none], [], SH, w) Q := by
  unfold EI
  refine EV.steps cl_236 4 (q2 := (8, [some (.ref 110), some (.int v1), some (.int v2), some (.int v3), none], [.int v1, .ref 145, .int v3], SH, w)) rfl ?_
  obtain ⟨j1, H⟩ := H
  refine EV.iaload cl_236 rfl rfl (by decide) j1 ?_
  refine EV.i_ge cl_236 rfl (fun h2 => ?_) (fun h2 => ?_)
  · skip
    rw [if_pos h2] at H
    refine EV.steps cl_236 2 (q2 := (50, [some (.ref 110), some (.int v1), some (.int v2), some (.int (kI 0)), none], [], SH, w)) rfl ?_
    exact H
  · skip
    rw [if_neg h2] at H
    refine EV.steps cl_236 6 (q2 := (22, [some (.ref 110), some (.int v1), some (.int v2), some (.int v3), none], [.int v3, .ref 124, .int v3, .ref 146], SH, w)) rfl ?_
    obtain ⟨j3, H⟩ := H
    refine EV.iaload cl_236 rfl rfl (by decide) j3 ?_
    obtain ⟨j4, H⟩ := H
    refine EV.iastore cl_236 rfl rfl (by decide) j4 ?_
    refine EV.steps cl_236 10 (q2 := (40, [some (.ref 110), some (.int v1), some (.int v2), some (.int v3), none], [.int (((kI 260) * v1) + v3), .ref 144, .int v3, .ref 124], SH, (up2 w 146 v3.toNatClampNeg (w 124 v3.toNatClampNeg)))) rfl ?_
    obtain ⟨j5, H⟩ := H
    refine EV.iaload cl_236 rfl rfl (by decide) j5 ?_
    obtain ⟨j6, H⟩ := H
    refine EV.iastore cl_236 rfl rfl (by decide) j6 ?_
    refine EV.steps cl_236 2 (q2 := (2, [some (.ref 110), some (.int v1), some (.int v2), some (.int (v3 + (kI 1))), none], [], SH, (up2 (up2 w 146 v3.toNatClampNeg (w 124 v3.toNatClampNeg)) 124 v3.toNatClampNeg (w 144 (((kI 260) * v1) + v3).toNatClampNeg)))) rfl ?_
    exact H
theorem t236_110_at50 {X : Scr} {d : Nat} {Q : Int32 → Wd → Prop} (w : Wd) (v1 : Int32) (v2 : Int32) (v3 : Int32)
    (H : (if (kI 12) ≤ v3 then (inB v2 20 = true ∧ (inB v2 20 = true ∧ (inB v2 20 = true ∧ (inB v2 20 = true ∧ (inB v1 6 = true ∧ CI X (d + 1) 198 [.ref 110, .int (kI 0), .int (w 145 v1.toNatClampNeg)] (up2 (up2 (up2 (up2 (up2 w 130 (kI 0).toNatClampNeg (w 140 v2.toNatClampNeg)) 130 (kI 8).toNatClampNeg v2) 130 (kI 9).toNatClampNeg (w 141 v2.toNatClampNeg)) 130 (kI 10).toNatClampNeg (w 142 v2.toNatClampNeg)) 130 (kI 11).toNatClampNeg (w 143 v2.toNatClampNeg)) (fun x1 w1 => (if x1 = (kI 1) then EI X (d + 1) 236 (152, [some (.ref 110), some (.int v1), some (.int v2), some (.int (kI 1)), some (.int (kI 0))], [], SH, w1) Q else EI X (d + 1) 236 (152, [some (.ref 110), some (.int v1), some (.int v2), some (.int (kI 0)), some (.int (kI 0))], [], SH, w1) Q))))))) else (inB v3 12 = true ∧ EI X (d + 1) 236 (50, [some (.ref 110), some (.int v1), some (.int v2), some (.int (v3 + (kI 1))), none], [], SH, (up2 w 130 v3.toNatClampNeg (kI 0))) Q))) : EI X (d + 1) 236 (50, [some (.ref 110), some (.int v1), some (.int v2), some (.int v3), none], [], SH, w) Q := by
  unfold EI
  refine EV.steps cl_236 2 (q2 := (53, [some (.ref 110), some (.int v1), some (.int v2), some (.int v3), none], [.int (kI 12), .int v3], SH, w)) rfl ?_
  refine EV.i_ge cl_236 rfl (fun h1 => ?_) (fun h1 => ?_)
  · skip
    rw [if_pos h1] at H
    refine EV.steps cl_236 6 (q2 := (79, [some (.ref 110), some (.int v1), some (.int v2), some (.int v3), none], [.int v2, .ref 140, .int (kI 0), .ref 130], SH, w)) rfl ?_
    obtain ⟨j2, H⟩ := H
    refine EV.iaload cl_236 rfl rfl (by decide) j2 ?_
    refine EV.iastore cl_236 rfl rfl (by decide) rfl ?_
    refine EV.steps cl_236 4 (q2 := (88, [some (.ref 110), some (.int v1), some (.int v2), some (.int v3), none], [.int v2, .int (kI 8), .ref 130], SH, (up2 w 130 (kI 0).toNatClampNeg (w 140 v2.toNatClampNeg)))) rfl ?_
    refine EV.iastore cl_236 rfl rfl (by decide) rfl ?_
    refine EV.steps cl_236 6 (q2 := (100, [some (.ref 110), some (.int v1), some (.int v2), some (.int v3), none], [.int v2, .ref 141, .int (kI 9), .ref 130], SH, (up2 (up2 w 130 (kI 0).toNatClampNeg (w 140 v2.toNatClampNeg)) 130 (kI 8).toNatClampNeg v2))) rfl ?_
    obtain ⟨j3, H⟩ := H
    refine EV.iaload cl_236 rfl rfl (by decide) j3 ?_
    refine EV.iastore cl_236 rfl rfl (by decide) rfl ?_
    refine EV.steps cl_236 6 (q2 := (113, [some (.ref 110), some (.int v1), some (.int v2), some (.int v3), none], [.int v2, .ref 142, .int (kI 10), .ref 130], SH, (up2 (up2 (up2 w 130 (kI 0).toNatClampNeg (w 140 v2.toNatClampNeg)) 130 (kI 8).toNatClampNeg v2) 130 (kI 9).toNatClampNeg (w 141 v2.toNatClampNeg)))) rfl ?_
    obtain ⟨j4, H⟩ := H
    refine EV.iaload cl_236 rfl rfl (by decide) j4 ?_
    refine EV.iastore cl_236 rfl rfl (by decide) rfl ?_
    refine EV.steps cl_236 6 (q2 := (126, [some (.ref 110), some (.int v1), some (.int v2), some (.int v3), none], [.int v2, .ref 143, .int (kI 11), .ref 130], SH, (up2 (up2 (up2 (up2 w 130 (kI 0).toNatClampNeg (w 140 v2.toNatClampNeg)) 130 (kI 8).toNatClampNeg v2) 130 (kI 9).toNatClampNeg (w 141 v2.toNatClampNeg)) 130 (kI 10).toNatClampNeg (w 142 v2.toNatClampNeg)))) rfl ?_
    obtain ⟨j5, H⟩ := H
    refine EV.iaload cl_236 rfl rfl (by decide) j5 ?_
    refine EV.iastore cl_236 rfl rfl (by decide) rfl ?_
    refine EV.steps cl_236 5 (q2 := (135, [some (.ref 110), some (.int v1), some (.int v2), some (.int v3), none], [.int v1, .ref 145, .int (kI 0), .ref 110], SH, (up2 (up2 (up2 (up2 (up2 w 130 (kI 0).toNatClampNeg (w 140 v2.toNatClampNeg)) 130 (kI 8).toNatClampNeg v2) 130 (kI 9).toNatClampNeg (w 141 v2.toNatClampNeg)) 130 (kI 10).toNatClampNeg (w 142 v2.toNatClampNeg)) 130 (kI 11).toNatClampNeg (w 143 v2.toNatClampNeg)))) rfl ?_
    obtain ⟨j6, H⟩ := H
    refine EV.iaload cl_236 rfl rfl (by decide) j6 ?_
    refine EV.call (kc := 198) (av := [.ref 110, .int (kI 0), .int (w 145 v1.toNatClampNeg)]) (r := []) cl_236 rfl rfl rfl H ?_
    clear H; intro y1 s1 w1 e1
    obtain ⟨x1, rfl, rfl, H⟩ := e1
    refine EV.steps cl_236 1 (q2 := (140, [some (.ref 110), some (.int v1), some (.int v2), some (.int v3), none], [.int (kI 1), .int x1], SH, w1)) rfl ?_
    refine EV.i_ne cl_236 rfl (fun h7 => ?_) (fun h7 => ?_)
    · skip
      rw [if_neg h7] at H
      refine EV.steps cl_236 4 (q2 := (152, [some (.ref 110), some (.int v1), some (.int v2), some (.int (kI 0)), some (.int (kI 0))], [], SH, w1)) rfl ?_
      exact H
    · skip
      rw [if_pos h7] at H
      refine EV.steps cl_236 5 (q2 := (152, [some (.ref 110), some (.int v1), some (.int v2), some (.int (kI 1)), some (.int (kI 0))], [], SH, w1)) rfl ?_
      exact H
  · skip
    rw [if_neg h1] at H
    refine EV.steps cl_236 4 (q2 := (62, [some (.ref 110), some (.int v1), some (.int v2), some (.int v3), none], [.int (kI 0), .int v3, .ref 130], SH, w)) rfl ?_
    obtain ⟨j8, H⟩ := H
    refine EV.iastore cl_236 rfl rfl (by decide) j8 ?_
    refine EV.steps cl_236 2 (q2 := (50, [some (.ref 110), some (.int v1), some (.int v2), some (.int (v3 + (kI 1))), none], [], SH, (up2 w 130 v3.toNatClampNeg (kI 0)))) rfl ?_
    exact H
