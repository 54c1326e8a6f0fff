theorem t210_110_at0 {X : Scr} {d : Nat} {Q : Wd → Prop} (w : Wd) 
    (H : EU X (d + 2) 210 (2, [some (.ref 110), some (.int (kI 0)), none], [], SH, w) Q) : EU X (d + 2) 210 (0, [some (.ref 110), none, none], [], SH, w) Q := by
  unfold EU
  refine EV.steps cl_210 2 (q2 := (2, [some (.ref 110), some (.int (kI 0)), none], [], SH, w)) rfl ?_
  exact H
theorem t210_110_at2 {X : Scr} {d : Nat} {Q : Wd → Prop} (w : Wd) (v1 : Int32)
    (H : (if (kI 6) ≤ v1 then (if (w 111 (kI 157).toNatClampNeg) = (kI 11) then CU X (d + 2) 209 [.ref 110] w (fun w1 => Q w1) else Q (up2 w 111 (kI 157).toNatClampNeg ((w 111 (kI 157).toNatClampNeg) + (kI 1)))) else EU X (d + 2) 210 (10, [some (.ref 110), some (.int v1), some (.int (kI 0))], [], SH, w) Q)) : EU X (d + 2) 210 (2, [some (.ref 110), some (.int v1), none], [], SH, w) Q := by
  unfold EU
  refine EV.steps cl_210 2 (q2 := (5, [some (.ref 110), some (.int v1), none], [.int (kI 6), .int v1], SH, w)) rfl ?_
  refine EV.i_ge cl_210 rfl (fun h1 => ?_) (fun h1 => ?_)
  · skip
    rw [if_pos h1] at H
    refine EV.steps cl_210 3 (q2 := (57, [some (.ref 110), some (.int v1), none], [.int (kI 157), .ref 111], SH, w)) rfl ?_
    refine EV.iaload cl_210 rfl rfl (by decide) rfl ?_
    refine EV.steps cl_210 1 (q2 := (60, [some (.ref 110), some (.int v1), none], [.int (kI 11), .int (w 111 (kI 157).toNatClampNeg)], SH, w)) rfl ?_
    refine EV.i_ne cl_210 rfl (fun h2 => ?_) (fun h2 => ?_)
    · skip
      rw [if_neg h2] at H
      refine EV.steps cl_210 6 (q2 := (84, [some (.ref 110), some (.int v1), none], [.int (kI 157), .ref 111, .int (kI 157), .ref 111], SH, w)) rfl ?_
      refine EV.iaload cl_210 rfl rfl (by decide) rfl ?_
      refine EV.steps cl_210 2 (q2 := (87, [some (.ref 110), some (.int v1), none], [.int ((w 111 (kI 157).toNatClampNeg) + (kI 1)), .int (kI 157), .ref 111], SH, w)) rfl ?_
      refine EV.iastore cl_210 rfl rfl (by decide) rfl ?_
      refine EV.ret cl_210 rfl rfl rfl ?_
      exact ⟨rfl, rfl, H⟩
    · skip
      rw [if_pos h2] at H
      refine EV.steps cl_210 1 (q2 := (64, [some (.ref 110), some (.int v1), none], [.ref 110], SH, w)) rfl ?_
      refine EV.call (kc := 209) (av := [.ref 110]) (r := []) cl_210 rfl rfl rfl H ?_
      clear H; intro y1 s1 w1 e1
      obtain ⟨rfl, rfl, H⟩ := e1
      refine EV.steps cl_210 1 (q2 := (88, [some (.ref 110), some (.int v1), none], [], SH, w1)) rfl ?_
      refine EV.ret cl_210 rfl rfl rfl ?_
      exact ⟨rfl, rfl, H⟩
  · skip
    rw [if_neg h1] at H
    refine EV.steps cl_210 2 (q2 := (10, [some (.ref 110), some (.int v1), some (.int (kI 0))], [], SH, w)) rfl ?_
    exact H
theorem t210_110_at10 {X : Scr} {d : Nat} {Q : Wd → Prop} (w : Wd) (v1 : Int32) (v2 : Int32)
    (H : (if (kI 6) ≤ v2 then EU X (d + 2) 210 (2, [some (.ref 110), some (.int (v1 + (kI 1))), none], [], SH, w) Q else (if (F_164_110 v1 w) = 0 then EU X (d + 2) 210 (10, [some (.ref 110), some (.int v1), some (.int (v2 + (kI 1)))], [], SH, w) Q else (if (F_165_110 v2 w) = 0 then EU X (d + 2) 210 (10, [some (.ref 110), some (.int v1), some (.int (v2 + (kI 1)))], [], SH, w) Q else CU X (d + 2) 204 [.ref 110, .int v1, .int v2] w (fun w1 => EU X (d + 2) 210 (10, [some (.ref 110), some (.int v1), some (.int (v2 + (kI 1)))], [], SH, w1) Q))))) : EU X (d + 2) 210 (10, [some (.ref 110), some (.int v1), some (.int v2)], [], SH, w) Q := by
  unfold EU
  refine EV.steps cl_210 2 (q2 := (13, [some (.ref 110), some (.int v1), some (.int v2)], [.int (kI 6), .int v2], SH, w)) rfl ?_
  refine EV.i_ge cl_210 rfl (fun h1 => ?_) (fun h1 => ?_)
  · skip
    rw [if_pos h1] at H
    refine EV.steps cl_210 2 (q2 := (2, [some (.ref 110), some (.int (v1 + (kI 1))), some (.int v2)], [], SH, w)) rfl ?_
    exact EV.weak (l := [some (.ref 110), some (.int (v1 + (kI 1))), none]) ⟨rfl, ⟨rfl, ⟨rfl, trivial⟩⟩⟩ H
  · skip
    rw [if_neg h1] at H
    refine EV.steps cl_210 2 (q2 := (18, [some (.ref 110), some (.int v1), some (.int v2)], [.int v1, .ref 110], SH, w)) rfl ?_
    refine EV.callF (kc := 164) (av := [.ref 110, .int v1]) (r := []) (rv := some (.int (F_164_110 v1 w))) (w2 := w) cl_210 rfl rfl rfl (m_164_110 w v1) ?_
    refine EV.z_eq cl_210 rfl (fun h2 => ?_) (fun h2 => ?_)
    · skip
      rw [if_pos h2] at H
      refine EV.steps cl_210 2 (q2 := (10, [some (.ref 110), some (.int v1), some (.int (v2 + (kI 1)))], [], SH, w)) rfl ?_
      exact H
    · skip
      rw [if_neg h2] at H
      refine EV.steps cl_210 2 (q2 := (26, [some (.ref 110), some (.int v1), some (.int v2)], [.int v2, .ref 110], SH, w)) rfl ?_
      refine EV.callF (kc := 165) (av := [.ref 110, .int v2]) (r := []) (rv := some (.int (F_165_110 v2 w))) (w2 := w) cl_210 rfl rfl rfl (m_165_110 w v2) ?_
      refine EV.z_eq cl_210 rfl (fun h3 => ?_) (fun h3 => ?_)
      · skip
        rw [if_pos h3] at H
        refine EV.steps cl_210 2 (q2 := (10, [some (.ref 110), some (.int v1), some (.int (v2 + (kI 1)))], [], SH, w)) rfl ?_
        exact H
      · skip
        rw [if_neg h3] at H
        refine EV.steps cl_210 3 (q2 := (35, [some (.ref 110), some (.int v1), some (.int v2)], [.int v2, .int v1, .ref 110], SH, w)) rfl ?_
        refine EV.call (kc := 204) (av := [.ref 110, .int v1, .int v2]) (r := []) cl_210 rfl rfl rfl H ?_
        clear H; intro y1 s1 w1 e1
        obtain ⟨rfl, rfl, H⟩ := e1
        refine EV.steps cl_210 2 (q2 := (10, [some (.ref 110), some (.int v1), some (.int (v2 + (kI 1)))], [], SH, w1)) rfl ?_
        exact H
theorem t211_110_at0 {X : Scr} {d : Nat} {Q : Wd → Prop} (w : Wd) (v1 : Int32)
    (H : EU X (d + 1) 211 (22, [some (.ref 110), some (.int v1), some (.int (kI 0))], [], SH, (up2 (up2 (up2 (up2 w 110 36 (kI 0)) 110 37 (kI 0)) 110 38 (kI 0)) 110 39 (kI 0))) Q) : EU X (d + 1) 211 (0, [some (.ref 110), some (.int v1), none], [], SH, w) Q := by
  unfold EU
  refine EV.steps cl_211 14 (q2 := (22, [some (.ref 110), some (.int v1), some (.int (kI 0))], [], SH, (up2 (up2 (up2 (up2 w 110 36 (kI 0)) 110 37 (kI 0)) 110 38 (kI 0)) 110 39 (kI 0)))) rfl ?_
  exact H
theorem t211_110_at22 {X : Scr} {d : Nat} {Q : Wd → Prop} (w : Wd) (v1 : Int32) (v2 : Int32)
    (H : (if v1 ≤ v2 then Q w else (if (kI 999) ≤ (w 111 (kI 158).toNatClampNeg) then Q w else CU X (d + 1) 210 [.ref 110] w (fun w1 => EU X (d + 1) 211 (22, [some (.ref 110), some (.int v1), some (.int (v2 + (kI 1)))], [], SH, w1) Q)))) : EU X (d + 1) 211 (22, [some (.ref 110), some (.int v1), some (.int v2)], [], SH, w) Q := by
  unfold EU
  refine EV.steps cl_211 2 (q2 := (24, [some (.ref 110), some (.int v1), some (.int v2)], [.int v1, .int v2], SH, w)) rfl ?_
  refine EV.i_ge cl_211 rfl (fun h1 => ?_) (fun h1 => ?_)
  · skip
    rw [if_pos h1] at H
    refine EV.ret cl_211 rfl rfl rfl ?_
    exact ⟨rfl, rfl, H⟩
  · skip
    rw [if_neg h1] at H
    refine EV.steps cl_211 3 (q2 := (34, [some (.ref 110), some (.int v1), some (.int v2)], [.int (kI 158), .ref 111], SH, w)) rfl ?_
    refine EV.iaload cl_211 rfl rfl (by decide) rfl ?_
    refine EV.steps cl_211 1 (q2 := (38, [some (.ref 110), some (.int v1), some (.int v2)], [.int (kI 999), .int (w 111 (kI 158).toNatClampNeg)], SH, w)) rfl ?_
    refine EV.i_ge cl_211 rfl (fun h2 => ?_) (fun h2 => ?_)
    · skip
      rw [if_pos h2] at H
      refine EV.ret cl_211 rfl rfl rfl ?_
      exact ⟨rfl, rfl, H⟩
    · skip
      rw [if_neg h2] at H
      refine EV.steps cl_211 1 (q2 := (42, [some (.ref 110), some (.int v1), some (.int v2)], [.ref 110], SH, w)) rfl ?_
      refine EV.call (kc := 210) (av := [.ref 110]) (r := []) cl_211 rfl rfl rfl H ?_
      clear H; intro y1 s1 w1 e1
      obtain ⟨rfl, rfl, H⟩ := e1
      refine EV.steps cl_211 2 (q2 := (22, [some (.ref 110), some (.int v1), some (.int (v2 + (kI 1)))], [], SH, w1)) rfl ?_
      exact H
theorem t212_110_at0 {X : Scr} {d : Nat} {Q : Int32 → Wd → Prop} (w : Wd) (v1 : Int32)
    (H : (if (F_157 v1 (kI 1) (kI 60) w) = 0 then Q (kI (-1)) w else CU X (d + 1) 211 [.ref 110, .int v1] w (fun w1 => Q (w1 110 36) w1))) : EI X (d + 1) 212 (0, [some (.ref 110), some (.int v1)], [], SH, w) Q := by
  unfold EI
  refine EV.steps cl_212 3 (q2 := (4, [some (.ref 110), some (.int v1)], [.int (kI 60), .int (kI 1), .int v1], SH, w)) rfl ?_
  refine EV.callF (kc := 157) (av := [.int v1, .int (kI 1), .int (kI 60)]) (r := []) (rv := some (.int (F_157 v1 (kI 1) (kI 60) w))) (w2 := w) cl_212 rfl rfl rfl (m_157 w v1 (kI 1) (kI 60)) ?_
  refine EV.z_ne cl_212 rfl (fun h1 => ?_) (fun h1 => ?_)
  · skip
    rw [if_neg h1] at H
    refine EV.steps cl_212 2 (q2 := (14, [some (.ref 110), some (.int v1)], [.int v1, .ref 110], SH, w)) rfl ?_
    refine EV.call (kc := 211) (av := [.ref 110, .int v1]) (r := []) cl_212 rfl rfl rfl H ?_
    clear H; intro y1 s1 w1 e1
    obtain ⟨rfl, rfl, H⟩ := e1
    refine EV.steps cl_212 2 (q2 := (21, [some (.ref 110), some (.int v1)], [.int (w1 110 36)], SH, w1)) rfl ?_
    refine EV.ret cl_212 rfl rfl rfl ?_
    exact ⟨_, rfl, rfl, H⟩
  · skip
    rw [if_pos h1] at H
    refine EV.steps cl_212 1 (q2 := (11, [some (.ref 110), some (.int v1)], [.int (kI (-1))], SH, w)) rfl ?_
    refine EV.ret cl_212 rfl rfl rfl ?_
    exact ⟨_, rfl, rfl, H⟩
theorem t213_110_at0 {X : Scr} {d : Nat} {Q : Int32 → Wd → Prop} (w : Wd) (v1 : Int32) (v2 : Int32)
    (H : (if (F_157 v1 (kI 1) (kI 60) w) = 0 then Q (kI (-1)) w else (if (F_157 v2 (kI 0) (kI 3) w) = 0 then (if (F_157 v2 (kI 10) (kI 15) w) = 0 then Q (kI (-1)) w else (if (F_165_110 (v2 - (kI 10)) w) = 0 then Q (kI (-1)) w else CU X (d + 2) 163 [.ref 111, .ref 112] w (fun w9 => CU X (d + 2) 211 [.ref 110, .int v1] w9 (fun w10 => (if v2 = 0 then CU X (d + 2) 163 [.ref 112, .ref 111] w10 (fun w16 => Q (w10 110 36) w16) else (if v2 = (kI 1) then CU X (d + 2) 163 [.ref 112, .ref 111] w10 (fun w15 => Q (w10 110 37) w15) else (if v2 = (kI 2) then CU X (d + 2) 163 [.ref 112, .ref 111] w10 (fun w14 => Q (w10 110 38) w14) else (if v2 = (kI 3) then CU X (d + 2) 163 [.ref 112, .ref 111] w10 (fun w13 => Q (w10 110 39) w13) else CI X (d + 2) 167 [.ref 110, .int (v2 - (kI 10))] w10 (fun x11 w11 => CU X (d + 2) 163 [.ref 112, .ref 111] w11 (fun w12 => Q x11 w12)))))))))) else CU X (d + 2) 163 [.ref 111, .ref 112] w (fun w1 => CU X (d + 2) 211 [.ref 110, .int v1] w1 (fun w2 => (if v2 = 0 then CU X (d + 2) 163 [.ref 112, .ref 111] w2 (fun w8 => Q (w2 110 36) w8) else (if v2 = (kI 1) then CU X (d + 2) 163 [.ref 112, .ref 111] w2 (fun w7 => Q (w2 110 37) w7) else (if v2 = (kI 2) then CU X (d + 2) 163 [.ref 112, .ref 111] w2 (fun w6 => Q (w2 110 38) w6) else (if v2 = (kI 3) then CU X (d + 2) 163 [.ref 112, .ref 111] w2 (fun w5 => Q (w2 110 39) w5) else CI X (d + 2) 167 [.ref 110, .int (v2 - (kI 10))] w2 (fun x3 w3 => CU X (d + 2) 163 [.ref 112, .ref 111] w3 (fun w4 => Q x3 w4))))))))))) : EI X (d + 2) 213 (0, [some (.ref 110), some (.int v1), some (.int v2), none], [], SH, w) Q := by
  unfold EI
  refine EV.steps cl_213 3 (q2 := (4, [some (.ref 110), some (.int v1), some (.int v2), none], [.int (kI 60), .int (kI 1), .int v1], SH, w)) rfl ?_
  refine EV.callF (kc := 157) (av := [.int v1, .int (kI 1), .int (kI 60)]) (r := []) (rv := some (.int (F_157 v1 (kI 1) (kI 60) w))) (w2 := w) cl_213 rfl rfl rfl (m_157 w v1 (kI 1) (kI 60)) ?_
  refine EV.z_eq cl_213 rfl (fun h1 => ?_) (fun h1 => ?_)
  · skip
    rw [if_pos h1] at H
    refine EV.steps cl_213 1 (q2 := (42, [some (.ref 110), some (.int v1), some (.int v2), none], [.int (kI (-1))], SH, w)) rfl ?_
    refine EV.ret cl_213 rfl rfl rfl ?_
    exact ⟨_, rfl, rfl, H⟩
  · skip
    rw [if_neg h1] at H
    refine EV.steps cl_213 3 (q2 := (13, [some (.ref 110), some (.int v1), some (.int v2), none], [.int (kI 3), .int (kI 0), .int v2], SH, w)) rfl ?_
    refine EV.callF (kc := 157) (av := [.int v2, .int (kI 0), .int (kI 3)]) (r := []) (rv := some (.int (F_157 v2 (kI 0) (kI 3) w))) (w2 := w) cl_213 rfl rfl rfl (m_157 w v2 (kI 0) (kI 3)) ?_
    refine EV.z_ne cl_213 rfl (fun h2 => ?_) (fun h2 => ?_)
    · skip
      rw [if_neg h2] at H
      refine EV.steps cl_213 4 (q2 := (51, [some (.ref 110), some (.int v1), some (.int v2), none], [.ref 112, .ref 111], SH, w)) rfl ?_
      refine EV.call (kc := 163) (av := [.ref 111, .ref 112]) (r := []) cl_213 rfl rfl rfl H ?_
      clear H; intro y1 s1 w1 e1
      obtain ⟨rfl, rfl, H⟩ := e1
      refine EV.steps cl_213 2 (q2 := (56, [some (.ref 110), some (.int v1), some (.int v2), none], [.int v1, .ref 110], SH, w1)) rfl ?_
      refine EV.call (kc := 211) (av := [.ref 110, .int v1]) (r := []) cl_213 rfl rfl rfl H ?_
      clear H; intro y2 s2 w2 e2
      obtain ⟨rfl, rfl, H⟩ := e2
      refine EV.steps cl_213 1 (q2 := (60, [some (.ref 110), some (.int v1), some (.int v2), none], [.int v2], SH, w2)) rfl ?_
      refine EV.z_ne cl_213 rfl (fun h3 => ?_) (fun h3 => ?_)
      · skip
        rw [if_neg h3] at H
        refine EV.steps cl_213 2 (q2 := (72, [some (.ref 110), some (.int v1), some (.int v2), none], [.int (kI 1), .int v2], SH, w2)) rfl ?_
        refine EV.i_ne cl_213 rfl (fun h4 => ?_) (fun h4 => ?_)
        · skip
          rw [if_neg h4] at H
          refine EV.steps cl_213 2 (q2 := (84, [some (.ref 110), some (.int v1), some (.int v2), none], [.int (kI 2), .int v2], SH, w2)) rfl ?_
          refine EV.i_ne cl_213 rfl (fun h5 => ?_) (fun h5 => ?_)
          · skip
            rw [if_neg h5] at H
            refine EV.steps cl_213 2 (q2 := (96, [some (.ref 110), some (.int v1), some (.int v2), none], [.int (kI 3), .int v2], SH, w2)) rfl ?_
            refine EV.i_ne cl_213 rfl (fun h6 => ?_) (fun h6 => ?_)
            · skip
              rw [if_neg h6] at H
              refine EV.steps cl_213 4 (q2 := (111, [some (.ref 110), some (.int v1), some (.int v2), none], [.int (v2 - (kI 10)), .ref 110], SH, w2)) rfl ?_
              refine EV.call (kc := 167) (av := [.ref 110, .int (v2 - (kI 10))]) (r := []) cl_213 rfl rfl rfl H ?_
              clear H; intro y3 s3 w3 e3
              obtain ⟨x3, rfl, rfl, H⟩ := e3
              refine EV.steps cl_213 5 (q2 := (123, [some (.ref 110), some (.int v1), some (.int v2), some (.int x3)], [.ref 111, .ref 112], SH, w3)) rfl ?_
              refine EV.call (kc := 163) (av := [.ref 112, .ref 111]) (r := []) cl_213 rfl rfl rfl H ?_
              clear H; intro y4 s4 w4 e4
              obtain ⟨rfl, rfl, H⟩ := e4
              refine EV.steps cl_213 1 (q2 := (127, [some (.ref 110), some (.int v1), some (.int v2), some (.int x3)], [.int x3], SH, w4)) rfl ?_
              refine EV.ret cl_213 rfl rfl rfl ?_
              exact ⟨_, rfl, rfl, H⟩
            · skip
              rw [if_pos h6] at H
              refine EV.steps cl_213 8 (q2 := (123, [some (.ref 110), some (.int v1), some (.int v2), some (.int (w2 110 39))], [.ref 111, .ref 112], SH, w2)) rfl ?_
              refine EV.call (kc := 163) (av := [.ref 112, .ref 111]) (r := []) cl_213 rfl rfl rfl H ?_
              clear H; intro y5 s5 w5 e5
              obtain ⟨rfl, rfl, H⟩ := e5
              refine EV.steps cl_213 1 (q2 := (127, [some (.ref 110), some (.int v1), some (.int v2), some (.int (w2 110 39))], [.int (w2 110 39)], SH, w5)) rfl ?_
              refine EV.ret cl_213 rfl rfl rfl ?_
              exact ⟨_, rfl, rfl, H⟩
          · skip
            rw [if_pos h5] at H
            refine EV.steps cl_213 8 (q2 := (123, [some (.ref 110), some (.int v1), some (.int v2), some (.int (w2 110 38))], [.ref 111, .ref 112], SH, w2)) rfl ?_
            refine EV.call (kc := 163) (av := [.ref 112, .ref 111]) (r := []) cl_213 rfl rfl rfl H ?_
            clear H; intro y6 s6 w6 e6
            obtain ⟨rfl, rfl, H⟩ := e6
            refine EV.steps cl_213 1 (q2 := (127, [some (.ref 110), some (.int v1), some (.int v2), some (.int (w2 110 38))], [.int (w2 110 38)], SH, w6)) rfl ?_
            refine EV.ret cl_213 rfl rfl rfl ?_
            exact ⟨_, rfl, rfl, H⟩
        · skip
          rw [if_pos h4] at H
          refine EV.steps cl_213 8 (q2 := (123, [some (.ref 110), some (.int v1), some (.int v2), some (.int (w2 110 37))], [.ref 111, .ref 112], SH, w2)) rfl ?_
          refine EV.call (kc := 163) (av := [.ref 112, .ref 111]) (r := []) cl_213 rfl rfl rfl H ?_
          clear H; intro y7 s7 w7 e7
          obtain ⟨rfl, rfl, H⟩ := e7
          refine EV.steps cl_213 1 (q2 := (127, [some (.ref 110), some (.int v1), some (.int v2), some (.int (w2 110 37))], [.int (w2 110 37)], SH, w7)) rfl ?_
          refine EV.ret cl_213 rfl rfl rfl ?_
          exact ⟨_, rfl, rfl, H⟩
      · skip
        rw [if_pos h3] at H
        refine EV.steps cl_213 8 (q2 := (123, [some (.ref 110), some (.int v1), some (.int v2), some (.int (w2 110 36))], [.ref 111, .ref 112], SH, w2)) rfl ?_
        refine EV.call (kc := 163) (av := [.ref 112, .ref 111]) (r := []) cl_213 rfl rfl rfl H ?_
        clear H; intro y8 s8 w8 e8
        obtain ⟨rfl, rfl, H⟩ := e8
        refine EV.steps cl_213 1 (q2 := (127, [some (.ref 110), some (.int v1), some (.int v2), some (.int (w2 110 36))], [.int (w2 110 36)], SH, w8)) rfl ?_
        refine EV.ret cl_213 rfl rfl rfl ?_
        exact ⟨_, rfl, rfl, H⟩
    · skip
      rw [if_pos h2] at H
      refine EV.steps cl_213 3 (q2 := (24, [some (.ref 110), some (.int v1), some (.int v2), none], [.int (kI 15), .int (kI 10), .int v2], SH, w)) rfl ?_
      refine EV.callF (kc := 157) (av := [.int v2, .int (kI 10), .int (kI 15)]) (r := []) (rv := some (.int (F_157 v2 (kI 10) (kI 15) w))) (w2 := w) cl_213 rfl rfl rfl (m_157 w v2 (kI 10) (kI 15)) ?_
      refine EV.z_eq cl_213 rfl (fun h7 => ?_) (fun h7 => ?_)
      · skip
        rw [if_pos h7] at H
        refine EV.steps cl_213 1 (q2 := (42, [some (.ref 110), some (.int v1), some (.int v2), none], [.int (kI (-1))], SH, w)) rfl ?_
        refine EV.ret cl_213 rfl rfl rfl ?_
        exact ⟨_, rfl, rfl, H⟩
      · skip
        rw [if_neg h7] at H
        refine EV.steps cl_213 4 (q2 := (35, [some (.ref 110), some (.int v1), some (.int v2), none], [.int (v2 - (kI 10)), .ref 110], SH, w)) rfl ?_
        refine EV.callF (kc := 165) (av := [.ref 110, .int (v2 - (kI 10))]) (r := []) (rv := some (.int (F_165_110 (v2 - (kI 10)) w))) (w2 := w) cl_213 rfl rfl rfl (m_165_110 w (v2 - (kI 10))) ?_
        refine EV.z_ne cl_213 rfl (fun h8 => ?_) (fun h8 => ?_)
        · skip
          rw [if_neg h8] at H
          refine EV.steps cl_213 4 (q2 := (51, [some (.ref 110), some (.int v1), some (.int v2), none], [.ref 112, .ref 111], SH, w)) rfl ?_
          refine EV.call (kc := 163) (av := [.ref 111, .ref 112]) (r := []) cl_213 rfl rfl rfl H ?_
          clear H; intro y9 s9 w9 e9
          obtain ⟨rfl, rfl, H⟩ := e9
          refine EV.steps cl_213 2 (q2 := (56, [some (.ref 110), some (.int v1), some (.int v2), none], [.int v1, .ref 110], SH, w9)) rfl ?_
          refine EV.call (kc := 211) (av := [.ref 110, .int v1]) (r := []) cl_213 rfl rfl rfl H ?_
          clear H; intro y10 s10 w10 e10
          obtain ⟨rfl, rfl, H⟩ := e10
          refine EV.steps cl_213 1 (q2 := (60, [some (.ref 110), some (.int v1), some (.int v2), none], [.int v2], SH, w10)) rfl ?_
          refine EV.z_ne cl_213 rfl (fun h9 => ?_) (fun h9 => ?_)
          · skip
            rw [if_neg h9] at H
            refine EV.steps cl_213 2 (q2 := (72, [some (.ref 110), some (.int v1), some (.int v2), none], [.int (kI 1), .int v2], SH, w10)) rfl ?_
            refine EV.i_ne cl_213 rfl (fun h10 => ?_) (fun h10 => ?_)
            · skip
              rw [if_neg h10] at H
              refine EV.steps cl_213 2 (q2 := (84, [some (.ref 110), some (.int v1), some (.int v2), none], [.int (kI 2), .int v2], SH, w10)) rfl ?_
              refine EV.i_ne cl_213 rfl (fun h11 => ?_) (fun h11 => ?_)
              · skip
                rw [if_neg h11] at H
                refine EV.steps cl_213 2 (q2 := (96, [some (.ref 110), some (.int v1), some (.int v2), none], [.int (kI 3), .int v2], SH, w10)) rfl ?_
                refine EV.i_ne cl_213 rfl (fun h12 => ?_) (fun h12 => ?_)
                · skip
                  rw [if_neg h12] at H
                  refine EV.steps cl_213 4 (q2 := (111, [some (.ref 110), some (.int v1), some (.int v2), none], [.int (v2 - (kI 10)), .ref 110], SH, w10)) rfl ?_
                  refine EV.call (kc := 167) (av := [.ref 110, .int (v2 - (kI 10))]) (r := []) cl_213 rfl rfl rfl H ?_
                  clear H; intro y11 s11 w11 e11
                  obtain ⟨x11, rfl, rfl, H⟩ := e11
                  refine EV.steps cl_213 5 (q2 := (123, [some (.ref 110), some (.int v1), some (.int v2), some (.int x11)], [.ref 111, .ref 112], SH, w11)) rfl ?_
                  refine EV.call (kc := 163) (av := [.ref 112, .ref 111]) (r := []) cl_213 rfl rfl rfl H ?_
                  clear H; intro y12 s12 w12 e12
                  obtain ⟨rfl, rfl, H⟩ := e12
                  refine EV.steps cl_213 1 (q2 := (127, [some (.ref 110), some (.int v1), some (.int v2), some (.int x11)], [.int x11], SH, w12)) rfl ?_
                  refine EV.ret cl_213 rfl rfl rfl ?_
                  exact ⟨_, rfl, rfl, H⟩
                · skip
                  rw [if_pos h12] at H
                  refine EV.steps cl_213 8 (q2 := (123, [some (.ref 110), some (.int v1), some (.int v2), some (.int (w10 110 39))], [.ref 111, .ref 112], SH, w10)) rfl ?_
                  refine EV.call (kc := 163) (av := [.ref 112, .ref 111]) (r := []) cl_213 rfl rfl rfl H ?_
                  clear H; intro y13 s13 w13 e13
                  obtain ⟨rfl, rfl, H⟩ := e13
                  refine EV.steps cl_213 1 (q2 := (127, [some (.ref 110), some (.int v1), some (.int v2), some (.int (w10 110 39))], [.int (w10 110 39)], SH, w13)) rfl ?_
                  refine EV.ret cl_213 rfl rfl rfl ?_
                  exact ⟨_, rfl, rfl, H⟩
              · skip
                rw [if_pos h11] at H
                refine EV.steps cl_213 8 (q2 := (123, [some (.ref 110), some (.int v1), some (.int v2), some (.int (w10 110 38))], [.ref 111, .ref 112], SH, w10)) rfl ?_
                refine EV.call (kc := 163) (av := [.ref 112, .ref 111]) (r := []) cl_213 rfl rfl rfl H ?_
                clear H; intro y14 s14 w14 e14
                obtain ⟨rfl, rfl, H⟩ := e14
                refine EV.steps cl_213 1 (q2 := (127, [some (.ref 110), some (.int v1), some (.int v2), some (.int (w10 110 38))], [.int (w10 110 38)], SH, w14)) rfl ?_
                refine EV.ret cl_213 rfl rfl rfl ?_
                exact ⟨_, rfl, rfl, H⟩
            · skip
              rw [if_pos h10] at H
              refine EV.steps cl_213 8 (q2 := (123, [some (.ref 110), some (.int v1), some (.int v2), some (.int (w10 110 37))], [.ref 111, .ref 112], SH, w10)) rfl ?_
              refine EV.call (kc := 163) (av := [.ref 112, .ref 111]) (r := []) cl_213 rfl rfl rfl H ?_
              clear H; intro y15 s15 w15 e15
              obtain ⟨rfl, rfl, H⟩ := e15
              refine EV.steps cl_213 1 (q2 := (127, [some (.ref 110), some (.int v1), some (.int v2), some (.int (w10 110 37))], [.int (w10 110 37)], SH, w15)) rfl ?_
              refine EV.ret cl_213 rfl rfl rfl ?_
              exact ⟨_, rfl, rfl, H⟩
          · skip
            rw [if_pos h9] at H
            refine EV.steps cl_213 8 (q2 := (123, [some (.ref 110), some (.int v1), some (.int v2), some (.int (w10 110 36))], [.ref 111, .ref 112], SH, w10)) rfl ?_
            refine EV.call (kc := 163) (av := [.ref 112, .ref 111]) (r := []) cl_213 rfl rfl rfl H ?_
            clear H; intro y16 s16 w16 e16
            obtain ⟨rfl, rfl, H⟩ := e16
            refine EV.steps cl_213 1 (q2 := (127, [some (.ref 110), some (.int v1), some (.int v2), some (.int (w10 110 36))], [.int (w10 110 36)], SH, w16)) rfl ?_
            refine EV.ret cl_213 rfl rfl rfl ?_
            exact ⟨_, rfl, rfl, H⟩
        · skip
          rw [if_pos h8] at H
          refine EV.steps cl_213 1 (q2 := (42, [some (.ref 110), some (.int v1), some (.int v2), none], [.int (kI (-1))], SH, w)) rfl ?_
          refine EV.ret cl_213 rfl rfl rfl ?_
          exact ⟨_, rfl, rfl, H⟩
theorem t215_110_at0 {X : Scr} {d : Nat} {Q : Int32 → Wd → Prop} (w : Wd) (v1 : Int32)
    (H : EI X (d + 1) 215 (14, [some (.ref 110), some (.int v1), some (.int (w 111 (kI 157).toNatClampNeg)), some (.int (kI 0)), some (.int (kI 0))], [], SH, w) Q) : EI X (d + 1) 215 (0, [some (.ref 110), some (.int v1), none, none, none], [], SH, w) Q := by
  unfold EI
  refine EV.steps cl_215 3 (q2 := (7, [some (.ref 110), some (.int v1), none, none, none], [.int (kI 157), .ref 111], SH, w)) rfl ?_
  refine EV.iaload cl_215 rfl rfl (by decide) rfl ?_
  refine EV.steps cl_215 5 (q2 := (14, [some (.ref 110), some (.int v1), some (.int (w 111 (kI 157).toNatClampNeg)), some (.int (kI 0)), some (.int (kI 0))], [], SH, w)) rfl ?_
  exact H
theorem t215_110_at14 {X : Scr} {d : Nat} {Q : Int32 → Wd → Prop} (w : Wd) (v1 : Int32) (v2 : Int32) (v3 : Int32) (v4 : Int32)
    (H : (if v2 ≤ v4 then (if v2 = 0 then Q (kI (-2)) w else (¬ ((kI 2) * v2) = 0 ∧ Q ((((kI 24) * v3) + v2) / ((kI 2) * v2)) w)) else (inB (((kI 36) + ((kI 12) * v1)) + v4) 162 = true ∧ EI X (d + 1) 215 (14, [some (.ref 110), some (.int v1), some (.int v2), some (.int (v3 + (w 111 (((kI 36) + ((kI 12) * v1)) + v4).toNatClampNeg))), some (.int (v4 + (kI 1)))], [], SH, w) Q))) : EI X (d + 1) 215 (14, [some (.ref 110), some (.int v1), some (.int v2), some (.int v3), some (.int v4)], [], SH, w) Q := by
  unfold EI
  refine EV.steps cl_215 2 (q2 := (17, [some (.ref 110), some (.int v1), some (.int v2), some (.int v3), some (.int v4)], [.int v2, .int v4], SH, w)) rfl ?_
  refine EV.i_ge cl_215 rfl (fun h1 => ?_) (fun h1 => ?_)
  · skip
    rw [if_pos h1] at H
    refine EV.steps cl_215 1 (q2 := (45, [some (.ref 110), some (.int v1), some (.int v2), some (.int v3), some (.int v4)], [.int v2], SH, w)) rfl ?_
    refine EV.z_ne cl_215 rfl (fun h2 => ?_) (fun h2 => ?_)
    · skip
      rw [if_neg h2] at H
      refine EV.steps cl_215 8 (q2 := (62, [some (.ref 110), some (.int v1), some (.int v2), some (.int v3), some (.int v4)], [.int ((kI 2) * v2), .int (((kI 24) * v3) + v2)], SH, w)) rfl ?_
      obtain ⟨j3, H⟩ := H
      refine EV.idiv cl_215 rfl j3 ?_
      refine EV.ret cl_215 rfl rfl rfl ?_
      exact ⟨_, rfl, rfl, H⟩
    · skip
      rw [if_pos h2] at H
      refine EV.steps cl_215 2 (q2 := (63, [some (.ref 110), some (.int v1), some (.int v2), some (.int v3), some (.int v4)], [.int (kI (-2))], SH, w)) rfl ?_
      refine EV.ret cl_215 rfl rfl rfl ?_
      exact ⟨_, rfl, rfl, H⟩
  · skip
    rw [if_neg h1] at H
    refine EV.steps cl_215 10 (q2 := (35, [some (.ref 110), some (.int v1), some (.int v2), some (.int v3), some (.int v4)], [.int (((kI 36) + ((kI 12) * v1)) + v4), .ref 111, .int v3], SH, w)) rfl ?_
    obtain ⟨j4, H⟩ := H
    refine EV.iaload cl_215 rfl rfl (by decide) j4 ?_
    refine EV.steps cl_215 4 (q2 := (14, [some (.ref 110), some (.int v1), some (.int v2), some (.int (v3 + (w 111 (((kI 36) + ((kI 12) * v1)) + v4).toNatClampNeg))), some (.int (v4 + (kI 1)))], [], SH, w)) rfl ?_
    exact H
theorem t216_110_at0 {X : Scr} {d : Nat} {Q : Int32 → Wd → Prop} (w : Wd) (v1 : Int32)
    (H : CI X (d + 2) 167 [.ref 110, .int v1] w (fun x1 w1 => (inB v1 6 = true ∧ (if x1 ≤ (w1 116 v1.toNatClampNeg) then CU X (d + 2) 163 [.ref 111, .ref 112] w1 (fun w2 => (inB v1 6 = true ∧ CI X (d + 2) 167 [.ref 110, .int v1] w2 (fun x3 w3 => (if (kI 200) < ((w2 116 v1.toNatClampNeg) - x3) then EI X (d + 2) 216 (57, [some (.ref 110), some (.int v1), some (.int (kI 0)), some (.int (kI 0)), some (.int (kI 0)), none], [], SH, w3) Q else EI X (d + 2) 216 (57, [some (.ref 110), some (.int v1), some (.int (kI 0)), some (.int (kI 1)), some (.int (kI 0)), none], [], SH, w3) Q)))) else Q (kI (-2)) w1)))) : EI X (d + 2) 216 (0, [some (.ref 110), some (.int v1), none, none, none, none], [], SH, w) Q := by
  unfold EI
  refine EV.steps cl_216 2 (q2 := (2, [some (.ref 110), some (.int v1), none, none, none, none], [.int v1, .ref 110], SH, w)) rfl ?_
  refine EV.call (kc := 167) (av := [.ref 110, .int v1]) (r := []) cl_216 rfl rfl rfl H ?_
  clear H; intro y1 s1 w1 e1
  obtain ⟨x1, rfl, rfl, H⟩ := e1
  refine EV.steps cl_216 3 (q2 := (10, [some (.ref 110), some (.int v1), none, none, none, none], [.int v1, .ref 116, .int x1], SH, w1)) rfl ?_
  obtain ⟨j1, H⟩ := H
  refine EV.iaload cl_216 rfl rfl (by decide) j1 ?_
  refine EV.i_le cl_216 rfl (fun h2 => ?_) (fun h2 => ?_)
  · skip
    rw [if_pos h2] at H
    refine EV.steps cl_216 4 (q2 := (25, [some (.ref 110), some (.int v1), none, none, none, none], [.ref 112, .ref 111], SH, w1)) rfl ?_
    refine EV.call (kc := 163) (av := [.ref 111, .ref 112]) (r := []) cl_216 rfl rfl rfl H ?_
    clear H; intro y2 s2 w2 e2
    obtain ⟨rfl, rfl, H⟩ := e2
    refine EV.steps cl_216 5 (q2 := (35, [some (.ref 110), some (.int v1), some (.int (kI 0)), none, none, none], [.int v1, .ref 116], SH, w2)) rfl ?_
    obtain ⟨j3, H⟩ := H
    refine EV.iaload cl_216 rfl rfl (by decide) j3 ?_
    refine EV.steps cl_216 2 (q2 := (38, [some (.ref 110), some (.int v1), some (.int (kI 0)), none, none, none], [.int v1, .ref 110, .int (w2 116 v1.toNatClampNeg)], SH, w2)) rfl ?_
    refine EV.call (kc := 167) (av := [.ref 110, .int v1]) (r := [.int (w2 116 v1.toNatClampNeg)]) cl_216 rfl rfl rfl H ?_
    clear H; intro y3 s3 w3 e3
    obtain ⟨x3, rfl, rfl, H⟩ := e3
    refine EV.steps cl_216 2 (q2 := (45, [some (.ref 110), some (.int v1), some (.int (kI 0)), none, none, none], [.int (kI 200), .int ((w2 116 v1.toNatClampNeg) - x3)], SH, w3)) rfl ?_
    refine EV.i_gt cl_216 rfl (fun h4 => ?_) (fun h4 => ?_)
    · skip
      rw [if_pos h4] at H
      refine EV.steps cl_216 4 (q2 := (57, [some (.ref 110), some (.int v1), some (.int (kI 0)), some (.int (kI 0)), some (.int (kI 0)), none], [], SH, w3)) rfl ?_
      exact H
    · skip
      rw [if_neg h4] at H
      refine EV.steps cl_216 5 (q2 := (57, [some (.ref 110), some (.int v1), some (.int (kI 0)), some (.int (kI 1)), some (.int (kI 0)), none], [], SH, w3)) rfl ?_
      exact H
  · skip
    rw [if_neg h2] at H
    refine EV.steps cl_216 1 (q2 := (16, [some (.ref 110), some (.int v1), none, none, none, none], [.int (kI (-2))], SH, w1)) rfl ?_
    refine EV.ret cl_216 rfl rfl rfl ?_
    exact ⟨_, rfl, rfl, H⟩
theorem t216_110_at57 {X : Scr} {d : Nat} {Q : Int32 → Wd → Prop} (w : Wd) (v1 : Int32) (v2 : Int32) (v3 : Int32) (v4 : Int32)
    (H : (if (kI 200) ≤ v4 then (if v3 = 0 then CU X (d + 2) 163 [.ref 112, .ref 111] w (fun w1 => Q (kI (-2)) w1) else CI X (d + 2) 167 [.ref 110, .int v1] w (fun x2 w2 => (inB v1 6 = true ∧ (if x2 = (w2 116 v1.toNatClampNeg) then CU X (d + 2) 163 [.ref 112, .ref 111] w2 (fun w4 => Q v2 w4) else CU X (d + 2) 163 [.ref 112, .ref 111] w2 (fun w3 => Q (kI (-2)) w3))))) else (if v3 = 0 then CU X (d + 2) 163 [.ref 112, .ref 111] w (fun w5 => Q (kI (-2)) w5) else CI X (d + 2) 167 [.ref 110, .int v1] w (fun x6 w6 => (inB v1 6 = true ∧ (if (w6 116 v1.toNatClampNeg) ≤ x6 then CI X (d + 2) 167 [.ref 110, .int v1] w6 (fun x7 w7 => (inB v1 6 = true ∧ (if x7 = (w7 116 v1.toNatClampNeg) then CU X (d + 2) 163 [.ref 112, .ref 111] w7 (fun w9 => Q v2 w9) else CU X (d + 2) 163 [.ref 112, .ref 111] w7 (fun w8 => Q (kI (-2)) w8)))) else CI X (d + 2) 205 [.ref 110, .int v1] w6 (fun x10 w10 => (if x10 = (kI (-1)) then EI X (d + 2) 216 (57, [some (.ref 110), some (.int v1), some (.int v2), some (.int (kI 0)), some (.int (v4 + (kI 1))), none], [], SH, w10) Q else (((inB (((kI 0) + ((kI 6) * x10)) + v1) 162 = true)) ∧ EI X (d + 2) 216 (57, [some (.ref 110), some (.int v1), some (.int (v2 + (w10 110 40))), some (.int (kI 1)), some (.int (v4 + (kI 1))), none], [], SH, (G_206_110 x10 v1 w10)) Q))))))))) : EI X (d + 2) 216 (57, [some (.ref 110), some (.int v1), some (.int v2), some (.int v3), some (.int v4), none], [], SH, w) Q := by
  unfold EI
  refine EV.steps cl_216 2 (q2 := (62, [some (.ref 110), some (.int v1), some (.int v2), some (.int v3), some (.int v4), none], [.int (kI 200), .int v4], SH, w)) rfl ?_
  refine EV.i_ge cl_216 rfl (fun h1 => ?_) (fun h1 => ?_)
  · skip
    rw [if_pos h1] at H
    refine EV.steps cl_216 1 (q2 := (130, [some (.ref 110), some (.int v1), some (.int v2), some (.int v3), some (.int v4), none], [.int v3], SH, w)) rfl ?_
    refine EV.z_eq cl_216 rfl (fun h2 => ?_) (fun h2 => ?_)
    · skip
      rw [if_pos h2] at H
      refine EV.steps cl_216 6 (q2 := (161, [some (.ref 110), some (.int v1), some (.int v2), some (.int (kI 0)), some (.int v4), none], [.ref 111, .ref 112], SH, w)) rfl ?_
      refine EV.call (kc := 163) (av := [.ref 112, .ref 111]) (r := []) cl_216 rfl rfl rfl H ?_
      clear H; intro y1 s1 w1 e1
      obtain ⟨rfl, rfl, H⟩ := e1
      refine EV.steps cl_216 3 (q2 := (174, [some (.ref 110), some (.int v1), some (.int v2), some (.int (kI 0)), some (.int v4), none], [.int (kI (-2))], SH, w1)) rfl ?_
      refine EV.ret cl_216 rfl rfl rfl ?_
      exact ⟨_, rfl, rfl, H⟩
    · skip
      rw [if_neg h2] at H
      refine EV.steps cl_216 2 (q2 := (135, [some (.ref 110), some (.int v1), some (.int v2), some (.int v3), some (.int v4), none], [.int v1, .ref 110], SH, w)) rfl ?_
      refine EV.call (kc := 167) (av := [.ref 110, .int v1]) (r := []) cl_216 rfl rfl rfl H ?_
      clear H; intro y2 s2 w2 e2
      obtain ⟨x2, rfl, rfl, H⟩ := e2
      refine EV.steps cl_216 3 (q2 := (143, [some (.ref 110), some (.int v1), some (.int v2), some (.int v3), some (.int v4), none], [.int v1, .ref 116, .int x2], SH, w2)) rfl ?_
      obtain ⟨j3, H⟩ := H
      refine EV.iaload cl_216 rfl rfl (by decide) j3 ?_
      refine EV.i_ne cl_216 rfl (fun h4 => ?_) (fun h4 => ?_)
      · skip
        rw [if_neg h4] at H
        refine EV.steps cl_216 6 (q2 := (161, [some (.ref 110), some (.int v1), some (.int v2), some (.int (kI 0)), some (.int v4), none], [.ref 111, .ref 112], SH, w2)) rfl ?_
        refine EV.call (kc := 163) (av := [.ref 112, .ref 111]) (r := []) cl_216 rfl rfl rfl H ?_
        clear H; intro y3 s3 w3 e3
        obtain ⟨rfl, rfl, H⟩ := e3
        refine EV.steps cl_216 3 (q2 := (174, [some (.ref 110), some (.int v1), some (.int v2), some (.int (kI 0)), some (.int v4), none], [.int (kI (-2))], SH, w3)) rfl ?_
        refine EV.ret cl_216 rfl rfl rfl ?_
        exact ⟨_, rfl, rfl, H⟩
      · skip
        rw [if_pos h4] at H
        refine EV.steps cl_216 7 (q2 := (161, [some (.ref 110), some (.int v1), some (.int v2), some (.int (kI 1)), some (.int v4), none], [.ref 111, .ref 112], SH, w2)) rfl ?_
        refine EV.call (kc := 163) (av := [.ref 112, .ref 111]) (r := []) cl_216 rfl rfl rfl H ?_
        clear H; intro y4 s4 w4 e4
        obtain ⟨rfl, rfl, H⟩ := e4
        refine EV.steps cl_216 4 (q2 := (174, [some (.ref 110), some (.int v1), some (.int v2), some (.int (kI 1)), some (.int v4), none], [.int v2], SH, w4)) rfl ?_
        refine EV.ret cl_216 rfl rfl rfl ?_
        exact ⟨_, rfl, rfl, H⟩
  · skip
    rw [if_neg h1] at H
    refine EV.steps cl_216 1 (q2 := (66, [some (.ref 110), some (.int v1), some (.int v2), some (.int v3), some (.int v4), none], [.int v3], SH, w)) rfl ?_
    refine EV.z_eq cl_216 rfl (fun h5 => ?_) (fun h5 => ?_)
    · skip
      rw [if_pos h5] at H
      refine EV.steps cl_216 1 (q2 := (130, [some (.ref 110), some (.int v1), some (.int v2), some (.int v3), some (.int v4), none], [.int v3], SH, w)) rfl ?_
      refine EV.z_eq cl_216 rfl (fun h6 => ?_) (fun h6 => ?_)
      · skip
        refine EV.steps cl_216 6 (q2 := (161, [some (.ref 110), some (.int v1), some (.int v2), some (.int (kI 0)), some (.int v4), none], [.ref 111, .ref 112], SH, w)) rfl ?_
        refine EV.call (kc := 163) (av := [.ref 112, .ref 111]) (r := []) cl_216 rfl rfl rfl H ?_
        clear H; intro y5 s5 w5 e5
        obtain ⟨rfl, rfl, H⟩ := e5
        refine EV.steps cl_216 3 (q2 := (174, [some (.ref 110), some (.int v1), some (.int v2), some (.int (kI 0)), some (.int v4), none], [.int (kI (-2))], SH, w5)) rfl ?_
        refine EV.ret cl_216 rfl rfl rfl ?_
        exact ⟨_, rfl, rfl, H⟩
      · skip
        exact absurd h5 h6
    · skip
      rw [if_neg h5] at H
      refine EV.steps cl_216 2 (q2 := (71, [some (.ref 110), some (.int v1), some (.int v2), some (.int v3), some (.int v4), none], [.int v1, .ref 110], SH, w)) rfl ?_
      refine EV.call (kc := 167) (av := [.ref 110, .int v1]) (r := []) cl_216 rfl rfl rfl H ?_
      clear H; intro y6 s6 w6 e6
      obtain ⟨x6, rfl, rfl, H⟩ := e6
      refine EV.steps cl_216 3 (q2 := (79, [some (.ref 110), some (.int v1), some (.int v2), some (.int v3), some (.int v4), none], [.int v1, .ref 116, .int x6], SH, w6)) rfl ?_
      obtain ⟨j7, H⟩ := H
      refine EV.iaload cl_216 rfl rfl (by decide) j7 ?_
      refine EV.i_ge cl_216 rfl (fun h8 => ?_) (fun h8 => ?_)
      · skip
        rw [if_pos h8] at H
        refine EV.steps cl_216 1 (q2 := (130, [some (.ref 110), some (.int v1), some (.int v2), some (.int v3), some (.int v4), none], [.int v3], SH, w6)) rfl ?_
        refine EV.z_eq cl_216 rfl (fun h9 => ?_) (fun h9 => ?_)
        · skip
          exact absurd h9 h5
        · skip
          refine EV.steps cl_216 2 (q2 := (135, [some (.ref 110), some (.int v1), some (.int v2), some (.int v3), some (.int v4), none], [.int v1, .ref 110], SH, w6)) rfl ?_
          refine EV.call (kc := 167) (av := [.ref 110, .int v1]) (r := []) cl_216 rfl rfl rfl H ?_
          clear H; intro y7 s7 w7 e7
          obtain ⟨x7, rfl, rfl, H⟩ := e7
          refine EV.steps cl_216 3 (q2 := (143, [some (.ref 110), some (.int v1), some (.int v2), some (.int v3), some (.int v4), none], [.int v1, .ref 116, .int x7], SH, w7)) rfl ?_
          obtain ⟨j10, H⟩ := H
          refine EV.iaload cl_216 rfl rfl (by decide) j10 ?_
          refine EV.i_ne cl_216 rfl (fun h11 => ?_) (fun h11 => ?_)
          · skip
            rw [if_neg h11] at H
            refine EV.steps cl_216 6 (q2 := (161, [some (.ref 110), some (.int v1), some (.int v2), some (.int (kI 0)), some (.int v4), none], [.ref 111, .ref 112], SH, w7)) rfl ?_
            refine EV.call (kc := 163) (av := [.ref 112, .ref 111]) (r := []) cl_216 rfl rfl rfl H ?_
            clear H; intro y8 s8 w8 e8
            obtain ⟨rfl, rfl, H⟩ := e8
            refine EV.steps cl_216 3 (q2 := (174, [some (.ref 110), some (.int v1), some (.int v2), some (.int (kI 0)), some (.int v4), none], [.int (kI (-2))], SH, w8)) rfl ?_
            refine EV.ret cl_216 rfl rfl rfl ?_
            exact ⟨_, rfl, rfl, H⟩
          · skip
            rw [if_pos h11] at H
            refine EV.steps cl_216 7 (q2 := (161, [some (.ref 110), some (.int v1), some (.int v2), some (.int (kI 1)), some (.int v4), none], [.ref 111, .ref 112], SH, w7)) rfl ?_
            refine EV.call (kc := 163) (av := [.ref 112, .ref 111]) (r := []) cl_216 rfl rfl rfl H ?_
            clear H; intro y9 s9 w9 e9
            obtain ⟨rfl, rfl, H⟩ := e9
            refine EV.steps cl_216 4 (q2 := (174, [some (.ref 110), some (.int v1), some (.int v2), some (.int (kI 1)), some (.int v4), none], [.int v2], SH, w9)) rfl ?_
            refine EV.ret cl_216 rfl rfl rfl ?_
            exact ⟨_, rfl, rfl, H⟩
      · skip
        rw [if_neg h8] at H
        refine EV.steps cl_216 2 (q2 := (85, [some (.ref 110), some (.int v1), some (.int v2), some (.int v3), some (.int v4), none], [.int v1, .ref 110], SH, w6)) rfl ?_
        refine EV.call (kc := 205) (av := [.ref 110, .int v1]) (r := []) cl_216 rfl rfl rfl H ?_
        clear H; intro y10 s10 w10 e10
        obtain ⟨x10, rfl, rfl, H⟩ := e10
        refine EV.steps cl_216 3 (q2 := (93, [some (.ref 110), some (.int v1), some (.int v2), some (.int v3), some (.int v4), some (.int x10)], [.int (kI (-1)), .int x10], SH, w10)) rfl ?_
        refine EV.i_eq cl_216 rfl (fun h12 => ?_) (fun h12 => ?_)
        · skip
          rw [if_pos h12] at H
          refine EV.steps cl_216 7 (q2 := (57, [some (.ref 110), some (.int v1), some (.int v2), some (.int (kI 0)), some (.int (v4 + (kI 1))), some (.int x10)], [], SH, w10)) rfl ?_
          exact EV.weak (l := [some (.ref 110), some (.int v1), some (.int v2), some (.int (kI 0)), some (.int (v4 + (kI 1))), none]) ⟨rfl, ⟨rfl, ⟨rfl, ⟨rfl, ⟨rfl, ⟨rfl, trivial⟩⟩⟩⟩⟩⟩ H
        · skip
          rw [if_neg h12] at H
          refine EV.steps cl_216 13 (q2 := (120, [some (.ref 110), some (.int v1), some (.int (v2 + (w10 110 40))), some (.int (kI 1)), some (.int v4), some (.int x10)], [.int v1, .int x10, .ref 110], SH, w10)) rfl ?_
          obtain ⟨j13, H⟩ := H
          refine EV.callF (kc := 206) (av := [.ref 110, .int x10, .int v1]) (r := []) (rv := none) (w2 := (G_206_110 x10 v1 w10)) cl_216 rfl rfl rfl (m_206_110 w10 x10 v1 j13) ?_
          refine EV.steps cl_216 2 (q2 := (57, [some (.ref 110), some (.int v1), some (.int (v2 + (w10 110 40))), some (.int (kI 1)), some (.int (v4 + (kI 1))), some (.int x10)], [], SH, (G_206_110 x10 v1 w10))) rfl ?_
          exact EV.weak (l := [some (.ref 110), some (.int v1), some (.int (v2 + (w10 110 40))), some (.int (kI 1)), some (.int (v4 + (kI 1))), none]) ⟨rfl, ⟨rfl, ⟨rfl, ⟨rfl, ⟨rfl, ⟨rfl, trivial⟩⟩⟩⟩⟩⟩ H
theorem t217_110_at0 {X : Scr} {d : Nat} {Q : Int32 → Wd → Prop} (w : Wd) (v1 : Int32) (v2 : Int32)
    (H : (if (F_165_110 v1 w) = 0 then Q (kI (-1)) w else (if v2 = (kI 0) then (inB v1 6 = true ∧ Q (w 116 v1.toNatClampNeg) w) else (if v2 = (kI 1) then CI X (d + 2) 167 [.ref 110, .int v1] w (fun x1 w1 => Q x1 w1) else (if v2 = (kI 2) then CI X (d + 2) 215 [.ref 110, .int v1] w (fun x2 w2 => Q x2 w2) else (if v2 = (kI 3) then CI X (d + 2) 216 [.ref 110, .int v1] w (fun x3 w3 => Q x3 w3) else (if (F_157 v2 (kI 10) (kI 21) w) = 0 then Q (kI (-1)) w else (inB ((((kI 36) + ((kI 12) * v1)) + v2) - (kI 10)) 162 = true ∧ Q (w 111 ((((kI 36) + ((kI 12) * v1)) + v2) - (kI 10)).toNatClampNeg) w)))))))) : EI X (d + 2) 217 (0, [some (.ref 110), some (.int v1), some (.int v2)], [], SH, w) Q := by
  unfold EI
  refine EV.steps cl_217 2 (q2 := (2, [some (.ref 110), some (.int v1), some (.int v2)], [.int v1, .ref 110], SH, w)) rfl ?_
  refine EV.callF (kc := 165) (av := [.ref 110, .int v1]) (r := []) (rv := some (.int (F_165_110 v1 w))) (w2 := w) cl_217 rfl rfl rfl (m_165_110 w v1) ?_
  refine EV.z_ne cl_217 rfl (fun h1 => ?_) (fun h1 => ?_)
  · skip
    rw [if_neg h1] at H
    refine EV.steps cl_217 1 (q2 := (11, [some (.ref 110), some (.int v1), some (.int v2)], [.int v2], SH, w)) rfl ?_
    by_cases h2 : v2 = (kI 0)
    · refine EV.swEq (e := (kI 0)) cl_217 rfl rfl h2 rfl ?_
      rw [if_pos h2] at H
      refine EV.steps cl_217 3 (q2 := (45, [some (.ref 110), some (.int v1), some (.int v2)], [.int v1, .ref 116], SH, w)) rfl ?_
      obtain ⟨j3, H⟩ := H
      refine EV.iaload cl_217 rfl rfl (by decide) j3 ?_
      refine EV.ret cl_217 rfl rfl rfl ?_
      exact ⟨_, rfl, rfl, H⟩
    rw [if_neg h2] at H
    by_cases h4 : v2 = (kI 1)
    · refine EV.swEq (e := (kI 1)) cl_217 rfl rfl h4 rfl ?_
      rw [if_pos h4] at H
      refine EV.steps cl_217 2 (q2 := (49, [some (.ref 110), some (.int v1), some (.int v2)], [.int v1, .ref 110], SH, w)) rfl ?_
      refine EV.call (kc := 167) (av := [.ref 110, .int v1]) (r := []) cl_217 rfl rfl rfl H ?_
      clear H; intro y1 s1 w1 e1
      obtain ⟨x1, rfl, rfl, H⟩ := e1
      refine EV.ret cl_217 rfl rfl rfl ?_
      exact ⟨_, rfl, rfl, H⟩
    rw [if_neg h4] at H
    by_cases h5 : v2 = (kI 2)
    · refine EV.swEq (e := (kI 2)) cl_217 rfl rfl h5 rfl ?_
      rw [if_pos h5] at H
      refine EV.steps cl_217 2 (q2 := (55, [some (.ref 110), some (.int v1), some (.int v2)], [.int v1, .ref 110], SH, w)) rfl ?_
      refine EV.call (kc := 215) (av := [.ref 110, .int v1]) (r := []) cl_217 rfl rfl rfl H ?_
      clear H; intro y2 s2 w2 e2
      obtain ⟨x2, rfl, rfl, H⟩ := e2
      refine EV.ret cl_217 rfl rfl rfl ?_
      exact ⟨_, rfl, rfl, H⟩
    rw [if_neg h5] at H
    by_cases h6 : v2 = (kI 3)
    · refine EV.swEq (e := (kI 3)) cl_217 rfl rfl h6 rfl ?_
      rw [if_pos h6] at H
      refine EV.steps cl_217 2 (q2 := (61, [some (.ref 110), some (.int v1), some (.int v2)], [.int v1, .ref 110], SH, w)) rfl ?_
      refine EV.call (kc := 216) (av := [.ref 110, .int v1]) (r := []) cl_217 rfl rfl rfl H ?_
      clear H; intro y3 s3 w3 e3
      obtain ⟨x3, rfl, rfl, H⟩ := e3
      refine EV.ret cl_217 rfl rfl rfl ?_
      exact ⟨_, rfl, rfl, H⟩
    rw [if_neg h6] at H
    refine EV.swT cl_217 rfl (by have a0 := sw_ne h2 (by decide); have a1 := sw_ne h4 (by decide); have a2 := sw_ne h5 (by decide); have a3 := sw_ne h6 (by decide); clear h2 h4 h5 h6; omega) ?_
    refine EV.steps cl_217 3 (q2 := (70, [some (.ref 110), some (.int v1), some (.int v2)], [.int (kI 21), .int (kI 10), .int v2], SH, w)) rfl ?_
    refine EV.callF (kc := 157) (av := [.int v2, .int (kI 10), .int (kI 21)]) (r := []) (rv := some (.int (F_157 v2 (kI 10) (kI 21) w))) (w2 := w) cl_217 rfl rfl rfl (m_157 w v2 (kI 10) (kI 21)) ?_
    refine EV.z_eq cl_217 rfl (fun h7 => ?_) (fun h7 => ?_)
    · skip
      rw [if_pos h7] at H
      refine EV.steps cl_217 1 (q2 := (97, [some (.ref 110), some (.int v1), some (.int v2)], [.int (kI (-1))], SH, w)) rfl ?_
      refine EV.ret cl_217 rfl rfl rfl ?_
      exact ⟨_, rfl, rfl, H⟩
    · skip
      rw [if_neg h7] at H
      refine EV.steps cl_217 11 (q2 := (92, [some (.ref 110), some (.int v1), some (.int v2)], [.int ((((kI 36) + ((kI 12) * v1)) + v2) - (kI 10)), .ref 111], SH, w)) rfl ?_
      obtain ⟨j8, H⟩ := H
      refine EV.iaload cl_217 rfl rfl (by decide) j8 ?_
      refine EV.steps cl_217 1 (q2 := (97, [some (.ref 110), some (.int v1), some (.int v2)], [.int (w 111 ((((kI 36) + ((kI 12) * v1)) + v2) - (kI 10)).toNatClampNeg)], SH, w)) rfl ?_
      refine EV.ret cl_217 rfl rfl rfl ?_
      exact ⟨_, rfl, rfl, H⟩
  · skip
    rw [if_pos h1] at H
    refine EV.steps cl_217 1 (q2 := (9, [some (.ref 110), some (.int v1), some (.int v2)], [.int (kI (-1))], SH, w)) rfl ?_
    refine EV.ret cl_217 rfl rfl rfl ?_
    exact ⟨_, rfl, rfl, H⟩
theorem t218_110_at0 {X : Scr} {d : Nat} {Q : Wd → Prop} (w : Wd) (v1 : Int32)
    (H : EU X (d + 3) 218 (13, [some (.ref 110), some (.int v1), some (.int (F_168_110 w)), some (.int v1), some (.int (kI 0)), some (.int (kI 0)), none], [], SH, w) Q) : EU X (d + 3) 218 (0, [some (.ref 110), some (.int v1), none, none, none, none, none], [], SH, w) Q := by
  unfold EU
  refine EV.steps cl_218 1 (q2 := (1, [some (.ref 110), some (.int v1), none, none, none, none, none], [.ref 110], SH, w)) rfl ?_
  refine EV.callF (kc := 168) (av := [.ref 110]) (r := []) (rv := some (.int (F_168_110 w))) (w2 := w) cl_218 rfl rfl rfl (m_168_110 w ) ?_
  refine EV.steps cl_218 7 (q2 := (13, [some (.ref 110), some (.int v1), some (.int (F_168_110 w)), some (.int v1), some (.int (kI 0)), some (.int (kI 0)), none], [], SH, w)) rfl ?_
  exact H
theorem t218_110_at13 {X : Scr} {d : Nat} {Q : Wd → Prop} (w : Wd) (v1 : Int32) (v2 : Int32) (v3 : Int32) (v4 : Int32) (v5 : Int32)
    (H : (if (kI 6) ≤ v5 then EU X (d + 3) 218 (71, [some (.ref 110), some (.int v1), some (.int v2), some (.int v3), some (.int v4), some (.int v5), none], [], SH, w) Q else (if v2 ≤ 0 then (inB v5 6 = true ∧ (inB v5 6 = true ∧ EU X (d + 3) 218 (13, [some (.ref 110), some (.int v1), some (.int v2), some (.int (v3 - ((up2 w 133 v5.toNatClampNeg (kI 0)) 133 v5.toNatClampNeg))), some (.int v4), some (.int (v5 + (kI 1))), none], [], SH, (up2 w 133 v5.toNatClampNeg (kI 0))) Q)) else (if (F_164_110 v5 w) = 0 then (inB v5 6 = true ∧ (inB v5 6 = true ∧ EU X (d + 3) 218 (13, [some (.ref 110), some (.int v1), some (.int v2), some (.int (v3 - ((up2 w 133 v5.toNatClampNeg (kI 0)) 133 v5.toNatClampNeg))), some (.int v4), some (.int (v5 + (kI 1))), none], [], SH, (up2 w 133 v5.toNatClampNeg (kI 0))) Q)) else (inB v5 6 = true ∧ (¬ v2 = 0 ∧ (inB v5 6 = true ∧ (inB v5 6 = true ∧ EU X (d + 3) 218 (13, [some (.ref 110), some (.int v1), some (.int v2), some (.int (v3 - ((up2 w 133 v5.toNatClampNeg (((w 114 v5.toNatClampNeg) * v1) / v2)) 133 v5.toNatClampNeg))), some (.int v4), some (.int (v5 + (kI 1))), none], [], SH, (up2 w 133 v5.toNatClampNeg (((w 114 v5.toNatClampNeg) * v1) / v2))) Q)))))))) : EU X (d + 3) 218 (13, [some (.ref 110), some (.int v1), some (.int v2), some (.int v3), some (.int v4), some (.int v5), none], [], SH, w) Q := by
  unfold EU
  refine EV.steps cl_218 2 (q2 := (17, [some (.ref 110), some (.int v1), some (.int v2), some (.int v3), some (.int v4), some (.int v5), none], [.int (kI 6), .int v5], SH, w)) rfl ?_
  refine EV.i_ge cl_218 rfl (fun h1 => ?_) (fun h1 => ?_)
  · skip
    rw [if_pos h1] at H
    exact H
  · skip
    rw [if_neg h1] at H
    refine EV.steps cl_218 4 (q2 := (27, [some (.ref 110), some (.int v1), some (.int v2), some (.int v3), some (.int v4), some (.int v5), none], [.int v2, .int v5, .ref 133], SH, w)) rfl ?_
    refine EV.z_le cl_218 rfl (fun h2 => ?_) (fun h2 => ?_)
    · skip
      rw [if_pos h2] at H
      refine EV.steps cl_218 1 (q2 := (54, [some (.ref 110), some (.int v1), some (.int v2), some (.int v3), some (.int v4), some (.int v5), none], [.int (kI 0), .int v5, .ref 133], SH, w)) rfl ?_
      obtain ⟨j3, H⟩ := H
      refine EV.iastore cl_218 rfl rfl (by decide) j3 ?_
      refine EV.steps cl_218 4 (q2 := (62, [some (.ref 110), some (.int v1), some (.int v2), some (.int v3), some (.int v4), some (.int v5), none], [.int v5, .ref 133, .int v3], SH, (up2 w 133 v5.toNatClampNeg (kI 0)))) rfl ?_
      obtain ⟨j4, H⟩ := H
      refine EV.iaload cl_218 rfl rfl (by decide) j4 ?_
      refine EV.steps cl_218 4 (q2 := (13, [some (.ref 110), some (.int v1), some (.int v2), some (.int (v3 - ((up2 w 133 v5.toNatClampNeg (kI 0)) 133 v5.toNatClampNeg))), some (.int v4), some (.int (v5 + (kI 1))), none], [], SH, (up2 w 133 v5.toNatClampNeg (kI 0)))) rfl ?_
      exact H
    · skip
      rw [if_neg h2] at H
      refine EV.steps cl_218 2 (q2 := (33, [some (.ref 110), some (.int v1), some (.int v2), some (.int v3), some (.int v4), some (.int v5), none], [.int v5, .ref 110, .int v5, .ref 133], SH, w)) rfl ?_
      refine EV.callF (kc := 164) (av := [.ref 110, .int v5]) (r := [.int v5, .ref 133]) (rv := some (.int (F_164_110 v5 w))) (w2 := w) cl_218 rfl rfl rfl (m_164_110 w v5) ?_
      refine EV.z_eq cl_218 rfl (fun h5 => ?_) (fun h5 => ?_)
      · skip
        rw [if_pos h5] at H
        refine EV.steps cl_218 1 (q2 := (54, [some (.ref 110), some (.int v1), some (.int v2), some (.int v3), some (.int v4), some (.int v5), none], [.int (kI 0), .int v5, .ref 133], SH, w)) rfl ?_
        obtain ⟨j6, H⟩ := H
        refine EV.iastore cl_218 rfl rfl (by decide) j6 ?_
        refine EV.steps cl_218 4 (q2 := (62, [some (.ref 110), some (.int v1), some (.int v2), some (.int v3), some (.int v4), some (.int v5), none], [.int v5, .ref 133, .int v3], SH, (up2 w 133 v5.toNatClampNeg (kI 0)))) rfl ?_
        obtain ⟨j7, H⟩ := H
        refine EV.iaload cl_218 rfl rfl (by decide) j7 ?_
        refine EV.steps cl_218 4 (q2 := (13, [some (.ref 110), some (.int v1), some (.int v2), some (.int (v3 - ((up2 w 133 v5.toNatClampNeg (kI 0)) 133 v5.toNatClampNeg))), some (.int v4), some (.int (v5 + (kI 1))), none], [], SH, (up2 w 133 v5.toNatClampNeg (kI 0)))) rfl ?_
        exact H
      · skip
        rw [if_neg h5] at H
        refine EV.steps cl_218 3 (q2 := (45, [some (.ref 110), some (.int v1), some (.int v2), some (.int v3), some (.int v4), some (.int v5), none], [.int v5, .ref 114, .int v5, .ref 133], SH, w)) rfl ?_
        obtain ⟨j8, H⟩ := H
        refine EV.iaload cl_218 rfl rfl (by decide) j8 ?_
        refine EV.steps cl_218 3 (q2 := (49, [some (.ref 110), some (.int v1), some (.int v2), some (.int v3), some (.int v4), some (.int v5), none], [.int v2, .int ((w 114 v5.toNatClampNeg) * v1), .int v5, .ref 133], SH, w)) rfl ?_
        obtain ⟨j9, H⟩ := H
        refine EV.idiv cl_218 rfl j9 ?_
        refine EV.steps cl_218 1 (q2 := (54, [some (.ref 110), some (.int v1), some (.int v2), some (.int v3), some (.int v4), some (.int v5), none], [.int (((w 114 v5.toNatClampNeg) * v1) / v2), .int v5, .ref 133], SH, w)) rfl ?_
        obtain ⟨j10, H⟩ := H
        refine EV.iastore cl_218 rfl rfl (by decide) j10 ?_
        refine EV.steps cl_218 4 (q2 := (62, [some (.ref 110), some (.int v1), some (.int v2), some (.int v3), some (.int v4), some (.int v5), none], [.int v5, .ref 133, .int v3], SH, (up2 w 133 v5.toNatClampNeg (((w 114 v5.toNatClampNeg) * v1) / v2)))) rfl ?_
        obtain ⟨j11, H⟩ := H
        refine EV.iaload cl_218 rfl rfl (by decide) j11 ?_
        refine EV.steps cl_218 4 (q2 := (13, [some (.ref 110), some (.int v1), some (.int v2), some (.int (v3 - ((up2 w 133 v5.toNatClampNeg (((w 114 v5.toNatClampNeg) * v1) / v2)) 133 v5.toNatClampNeg))), some (.int v4), some (.int (v5 + (kI 1))), none], [], SH, (up2 w 133 v5.toNatClampNeg (((w 114 v5.toNatClampNeg) * v1) / v2)))) rfl ?_
        exact H
theorem t218_110_at71 {X : Scr} {d : Nat} {Q : Wd → Prop} (w : Wd) (v1 : Int32) (v2 : Int32) (v3 : Int32) (v4 : Int32) (v5 : Int32)
    (H : (if v3 ≤ 0 then Q w else (if v2 ≤ 0 then Q w else EU X (d + 3) 218 (85, [some (.ref 110), some (.int v1), some (.int v2), some (.int v3), some (.int v4), some (.int (kI (-1))), some (.int (kI 0))], [], SH, w) Q))) : EU X (d + 3) 218 (71, [some (.ref 110), some (.int v1), some (.int v2), some (.int v3), some (.int v4), some (.int v5), none], [], SH, w) Q := by
  unfold EU
  refine EV.steps cl_218 1 (q2 := (72, [some (.ref 110), some (.int v1), some (.int v2), some (.int v3), some (.int v4), some (.int v5), none], [.int v3], SH, w)) rfl ?_
  refine EV.z_le cl_218 rfl (fun h1 => ?_) (fun h1 => ?_)
  · skip
    rw [if_pos h1] at H
    refine EV.ret cl_218 rfl rfl rfl ?_
    exact ⟨rfl, rfl, H⟩
  · skip
    rw [if_neg h1] at H
    refine EV.steps cl_218 1 (q2 := (76, [some (.ref 110), some (.int v1), some (.int v2), some (.int v3), some (.int v4), some (.int v5), none], [.int v2], SH, w)) rfl ?_
    refine EV.z_le cl_218 rfl (fun h2 => ?_) (fun h2 => ?_)
    · skip
      rw [if_pos h2] at H
      refine EV.ret cl_218 rfl rfl rfl ?_
      exact ⟨rfl, rfl, H⟩
    · skip
      rw [if_neg h2] at H
      refine EV.steps cl_218 4 (q2 := (85, [some (.ref 110), some (.int v1), some (.int v2), some (.int v3), some (.int v4), some (.int (kI (-1))), some (.int (kI 0))], [], SH, w)) rfl ?_
      exact H
theorem t218_110_at85 {X : Scr} {d : Nat} {Q : Wd → Prop} (w : Wd) (v1 : Int32) (v2 : Int32) (v3 : Int32) (v4 : Int32) (v5 : Int32) (v6 : Int32)
    (H : (if (kI 6) ≤ v6 then (inB v5 6 = true ∧ (inB v5 6 = true ∧ EU X (d + 3) 218 (71, [some (.ref 110), some (.int v1), some (.int v2), some (.int (v3 - (kI 1))), some (.int (v4 ||| ((kI 1) <<< (v5 &&& 31)))), some (.int v5), none], [], SH, (up2 w 133 v5.toNatClampNeg ((w 133 v5.toNatClampNeg) + (kI 1)))) Q)) else (if (F_164_110 v6 w) = 0 then EU X (d + 3) 218 (85, [some (.ref 110), some (.int v1), some (.int v2), some (.int v3), some (.int v4), some (.int v5), some (.int (v6 + (kI 1)))], [], SH, w) Q else (inB v6 6 = true ∧ (if (w 114 v6.toNatClampNeg) = 0 then EU X (d + 3) 218 (85, [some (.ref 110), some (.int v1), some (.int v2), some (.int v3), some (.int v4), some (.int v5), some (.int (v6 + (kI 1)))], [], SH, w) Q else (if (F_161 v4 v6 w) = 0 then (if v5 = (kI (-1)) then EU X (d + 3) 218 (85, [some (.ref 110), some (.int v1), some (.int v2), some (.int v3), some (.int v4), some (.int v6), some (.int (v6 + (kI 1)))], [], SH, w) Q else (inB v6 6 = true ∧ (¬ v2 = 0 ∧ (inB v5 6 = true ∧ (¬ v2 = 0 ∧ (if (((w 114 v6.toNatClampNeg) * v1) - ((w 114 v6.toNatClampNeg) * v1) / v2 * v2) ≤ (((w 114 v5.toNatClampNeg) * v1) - ((w 114 v5.toNatClampNeg) * v1) / v2 * v2) then EU X (d + 3) 218 (85, [some (.ref 110), some (.int v1), some (.int v2), some (.int v3), some (.int v4), some (.int v5), some (.int (v6 + (kI 1)))], [], SH, w) Q else EU X (d + 3) 218 (85, [some (.ref 110), some (.int v1), some (.int v2), some (.int v3), some (.int v4), some (.int v6), some (.int (v6 + (kI 1)))], [], SH, w) Q)))))) else EU X (d + 3) 218 (85, [some (.ref 110), some (.int v1), some (.int v2), some (.int v3), some (.int v4), some (.int v5), some (.int (v6 + (kI 1)))], [], SH, w) Q)))))) : EU X (d + 3) 218 (85, [some (.ref 110), some (.int v1), some (.int v2), some (.int v3), some (.int v4), some (.int v5), some (.int v6)], [], SH, w) Q := by
  unfold EU
  refine EV.steps cl_218 2 (q2 := (89, [some (.ref 110), some (.int v1), some (.int v2), some (.int v3), some (.int v4), some (.int v5), some (.int v6)], [.int (kI 6), .int v6], SH, w)) rfl ?_
  refine EV.i_ge cl_218 rfl (fun h1 => ?_) (fun h1 => ?_)
  · skip
    rw [if_pos h1] at H
    refine EV.steps cl_218 12 (q2 := (186, [some (.ref 110), some (.int v1), some (.int v2), some (.int v3), some (.int (v4 ||| ((kI 1) <<< (v5 &&& 31)))), some (.int v5), some (.int v6)], [.int v5, .ref 133, .int v5, .ref 133], SH, w)) rfl ?_
    obtain ⟨j2, H⟩ := H
    refine EV.iaload cl_218 rfl rfl (by decide) j2 ?_
    refine EV.steps cl_218 2 (q2 := (189, [some (.ref 110), some (.int v1), some (.int v2), some (.int v3), some (.int (v4 ||| ((kI 1) <<< (v5 &&& 31)))), some (.int v5), some (.int v6)], [.int ((w 133 v5.toNatClampNeg) + (kI 1)), .int v5, .ref 133], SH, w)) rfl ?_
    obtain ⟨j3, H⟩ := H
    refine EV.iastore cl_218 rfl rfl (by decide) j3 ?_
    refine EV.steps cl_218 5 (q2 := (71, [some (.ref 110), some (.int v1), some (.int v2), some (.int (v3 - (kI 1))), some (.int (v4 ||| ((kI 1) <<< (v5 &&& 31)))), some (.int v5), some (.int v6)], [], SH, (up2 w 133 v5.toNatClampNeg ((w 133 v5.toNatClampNeg) + (kI 1))))) rfl ?_
    exact EV.weak (l := [some (.ref 110), some (.int v1), some (.int v2), some (.int (v3 - (kI 1))), some (.int (v4 ||| ((kI 1) <<< (v5 &&& 31)))), some (.int v5), none]) ⟨rfl, ⟨rfl, ⟨rfl, ⟨rfl, ⟨rfl, ⟨rfl, ⟨rfl, trivial⟩⟩⟩⟩⟩⟩⟩ H
  · skip
    rw [if_neg h1] at H
    refine EV.steps cl_218 2 (q2 := (95, [some (.ref 110), some (.int v1), some (.int v2), some (.int v3), some (.int v4), some (.int v5), some (.int v6)], [.int v6, .ref 110], SH, w)) rfl ?_
    refine EV.callF (kc := 164) (av := [.ref 110, .int v6]) (r := []) (rv := some (.int (F_164_110 v6 w))) (w2 := w) cl_218 rfl rfl rfl (m_164_110 w v6) ?_
    refine EV.z_eq cl_218 rfl (fun h4 => ?_) (fun h4 => ?_)
    · skip
      rw [if_pos h4] at H
      refine EV.steps cl_218 2 (q2 := (85, [some (.ref 110), some (.int v1), some (.int v2), some (.int v3), some (.int v4), some (.int v5), some (.int (v6 + (kI 1)))], [], SH, w)) rfl ?_
      exact H
    · skip
      rw [if_neg h4] at H
      refine EV.steps cl_218 3 (q2 := (107, [some (.ref 110), some (.int v1), some (.int v2), some (.int v3), some (.int v4), some (.int v5), some (.int v6)], [.int v6, .ref 114], SH, w)) rfl ?_
      obtain ⟨j5, H⟩ := H
      refine EV.iaload cl_218 rfl rfl (by decide) j5 ?_
      refine EV.z_eq cl_218 rfl (fun h6 => ?_) (fun h6 => ?_)
      · skip
        rw [if_pos h6] at H
        refine EV.steps cl_218 2 (q2 := (85, [some (.ref 110), some (.int v1), some (.int v2), some (.int v3), some (.int v4), some (.int v5), some (.int (v6 + (kI 1)))], [], SH, w)) rfl ?_
        exact H
      · skip
        rw [if_neg h6] at H
        refine EV.steps cl_218 2 (q2 := (115, [some (.ref 110), some (.int v1), some (.int v2), some (.int v3), some (.int v4), some (.int v5), some (.int v6)], [.int v6, .int v4], SH, w)) rfl ?_
        refine EV.callF (kc := 161) (av := [.int v4, .int v6]) (r := []) (rv := some (.int (F_161 v4 v6 w))) (w2 := w) cl_218 rfl rfl rfl (m_161 w v4 v6) ?_
        refine EV.z_eq cl_218 rfl (fun h7 => ?_) (fun h7 => ?_)
        · skip
          rw [if_pos h7] at H
          refine EV.steps cl_218 2 (q2 := (127, [some (.ref 110), some (.int v1), some (.int v2), some (.int v3), some (.int v4), some (.int v5), some (.int v6)], [.int (kI (-1)), .int v5], SH, w)) rfl ?_
          refine EV.i_eq cl_218 rfl (fun h8 => ?_) (fun h8 => ?_)
          · skip
            rw [if_pos h8] at H
            refine EV.steps cl_218 4 (q2 := (85, [some (.ref 110), some (.int v1), some (.int v2), some (.int v3), some (.int v4), some (.int v6), some (.int (v6 + (kI 1)))], [], SH, w)) rfl ?_
            exact H
          · skip
            rw [if_neg h8] at H
            refine EV.steps cl_218 3 (q2 := (136, [some (.ref 110), some (.int v1), some (.int v2), some (.int v3), some (.int v4), some (.int v5), some (.int v6)], [.int v6, .ref 114], SH, w)) rfl ?_
            obtain ⟨j9, H⟩ := H
            refine EV.iaload cl_218 rfl rfl (by decide) j9 ?_
            refine EV.steps cl_218 3 (q2 := (140, [some (.ref 110), some (.int v1), some (.int v2), some (.int v3), some (.int v4), some (.int v5), some (.int v6)], [.int v2, .int ((w 114 v6.toNatClampNeg) * v1)], SH, w)) rfl ?_
            obtain ⟨j10, H⟩ := H
            refine EV.irem cl_218 rfl j10 ?_
            refine EV.steps cl_218 3 (q2 := (147, [some (.ref 110), some (.int v1), some (.int v2), some (.int v3), some (.int v4), some (.int v5), some (.int v6)], [.int v5, .ref 114, .int (((w 114 v6.toNatClampNeg) * v1) - ((w 114 v6.toNatClampNeg) * v1) / v2 * v2)], SH, w)) rfl ?_
            obtain ⟨j11, H⟩ := H
            refine EV.iaload cl_218 rfl rfl (by decide) j11 ?_
            refine EV.steps cl_218 3 (q2 := (151, [some (.ref 110), some (.int v1), some (.int v2), some (.int v3), some (.int v4), some (.int v5), some (.int v6)], [.int v2, .int ((w 114 v5.toNatClampNeg) * v1), .int (((w 114 v6.toNatClampNeg) * v1) - ((w 114 v6.toNatClampNeg) * v1) / v2 * v2)], SH, w)) rfl ?_
            obtain ⟨j12, H⟩ := H
            refine EV.irem cl_218 rfl j12 ?_
            refine EV.i_le cl_218 rfl (fun h13 => ?_) (fun h13 => ?_)
            · skip
              rw [if_pos h13] at H
              refine EV.steps cl_218 2 (q2 := (85, [some (.ref 110), some (.int v1), some (.int v2), some (.int v3), some (.int v4), some (.int v5), some (.int (v6 + (kI 1)))], [], SH, w)) rfl ?_
              exact H
            · skip
              rw [if_neg h13] at H
              refine EV.steps cl_218 4 (q2 := (85, [some (.ref 110), some (.int v1), some (.int v2), some (.int v3), some (.int v4), some (.int v6), some (.int (v6 + (kI 1)))], [], SH, w)) rfl ?_
              exact H
        · skip
          rw [if_neg h7] at H
          refine EV.steps cl_218 3 (q2 := (85, [some (.ref 110), some (.int v1), some (.int v2), some (.int v3), some (.int v4), some (.int v5), some (.int (v6 + (kI 1)))], [], SH, w)) rfl ?_
          exact H
