theorem t93_89_at2 {X : Scr} {d : Nat} {Q : Wd → Prop} (w : Wd) (v1 : Int32) (v2 : Int32) (v3 : Int32)
    (H : (if v1 ≤ v3 then Q w else EU X (d + 3) 93 (13, [some (.ref 89), some (.int v1), some (.int v2), some (.int v3), some (.int (kI (-1))), some (.int (kI 0))], [], SH, w) Q)) : EU X (d + 3) 93 (2, [some (.ref 89), some (.int v1), some (.int v2), some (.int v3), none, none], [], SH, w) Q := by
  unfold EU
  refine EV.steps cl_93 2 (q2 := (4, [some (.ref 89), some (.int v1), some (.int v2), some (.int v3), none, none], [.int v1, .int v3], SH, w)) rfl ?_
  refine EV.i_ge cl_93 rfl (fun h1 => ?_) (fun h1 => ?_)
  · skip
    rw [if_pos h1] at H
    refine EV.ret cl_93 rfl rfl rfl ?_
    exact ⟨rfl, rfl, H⟩
  · skip
    rw [if_neg h1] at H
    refine EV.steps cl_93 4 (q2 := (13, [some (.ref 89), some (.int v1), some (.int v2), some (.int v3), some (.int (kI (-1))), some (.int (kI 0))], [], SH, w)) rfl ?_
    exact H
theorem t93_89_at13 {X : Scr} {d : Nat} {Q : Wd → Prop} (w : Wd) (v1 : Int32) (v2 : Int32) (v3 : Int32) (v4 : Int32) (v5 : Int32)
    (H : (if (kI 6) ≤ v5 then (if v4 = (kI (-1)) then EU X (d + 3) 93 (2, [some (.ref 89), some (.int v1), some (.int v2), some (.int (v3 + (kI 1))), none, none], [], SH, w) Q else (inB v4 6 = true ∧ (inB v4 6 = true ∧ EU X (d + 3) 93 (2, [some (.ref 89), some (.int v1), some (.int v2), some (.int (v3 + (kI 1))), none, none], [], SH, (up2 w 90 v4.toNatClampNeg ((w 90 v4.toNatClampNeg) + (kI 1)))) Q))) else (if (F_53_3 v5 w) ≤ 0 then EU X (d + 3) 93 (13, [some (.ref 89), some (.int v1), some (.int v2), some (.int v3), some (.int v4), some (.int (v5 + (kI 1)))], [], SH, w) Q else (if v4 = (kI (-1)) then EU X (d + 3) 93 (13, [some (.ref 89), some (.int v1), some (.int v2), some (.int v3), some (.int v5), some (.int (v5 + (kI 1)))], [], SH, w) Q else (if (F_94_89 v5 v4 v2 w) = 0 then EU X (d + 3) 93 (13, [some (.ref 89), some (.int v1), some (.int v2), some (.int v3), some (.int v4), some (.int (v5 + (kI 1)))], [], SH, w) Q else EU X (d + 3) 93 (13, [some (.ref 89), some (.int v1), some (.int v2), some (.int v3), some (.int v5), some (.int (v5 + (kI 1)))], [], SH, w) Q))))) : EU X (d + 3) 93 (13, [some (.ref 89), some (.int v1), some (.int v2), some (.int v3), some (.int v4), some (.int v5)], [], SH, w) Q := by
  unfold EU
  refine EV.steps cl_93 2 (q2 := (17, [some (.ref 89), some (.int v1), some (.int v2), some (.int v3), some (.int v4), some (.int v5)], [.int (kI 6), .int v5], SH, w)) rfl ?_
  refine EV.i_ge cl_93 rfl (fun h1 => ?_) (fun h1 => ?_)
  · skip
    rw [if_pos h1] at H
    refine EV.steps cl_93 2 (q2 := (63, [some (.ref 89), some (.int v1), some (.int v2), some (.int v3), some (.int v4), some (.int v5)], [.int (kI (-1)), .int v4], SH, w)) rfl ?_
    refine EV.i_eq cl_93 rfl (fun h2 => ?_) (fun h2 => ?_)
    · skip
      rw [if_pos h2] at H
      refine EV.steps cl_93 2 (q2 := (2, [some (.ref 89), some (.int v1), some (.int v2), some (.int (v3 + (kI 1))), some (.int v4), some (.int v5)], [], SH, w)) rfl ?_
      exact EV.weak (l := [some (.ref 89), some (.int v1), some (.int v2), some (.int (v3 + (kI 1))), none, none]) ⟨rfl, ⟨rfl, ⟨rfl, ⟨rfl, ⟨rfl, ⟨rfl, trivial⟩⟩⟩⟩⟩⟩ H
    · skip
      rw [if_neg h2] at H
      refine EV.steps cl_93 4 (q2 := (73, [some (.ref 89), some (.int v1), some (.int v2), some (.int v3), some (.int v4), some (.int v5)], [.int v4, .ref 90, .int v4, .ref 90], SH, w)) rfl ?_
      obtain ⟨j3, H⟩ := H
      refine EV.iaload cl_93 rfl rfl (by decide) j3 ?_
      refine EV.steps cl_93 2 (q2 := (76, [some (.ref 89), some (.int v1), some (.int v2), some (.int v3), some (.int v4), some (.int v5)], [.int ((w 90 v4.toNatClampNeg) + (kI 1)), .int v4, .ref 90], SH, w)) rfl ?_
      obtain ⟨j4, H⟩ := H
      refine EV.iastore cl_93 rfl rfl (by decide) j4 ?_
      refine EV.steps cl_93 2 (q2 := (2, [some (.ref 89), some (.int v1), some (.int v2), some (.int (v3 + (kI 1))), some (.int v4), some (.int v5)], [], SH, (up2 w 90 v4.toNatClampNeg ((w 90 v4.toNatClampNeg) + (kI 1))))) rfl ?_
      exact EV.weak (l := [some (.ref 89), some (.int v1), some (.int v2), some (.int (v3 + (kI 1))), none, none]) ⟨rfl, ⟨rfl, ⟨rfl, ⟨rfl, ⟨rfl, ⟨rfl, trivial⟩⟩⟩⟩⟩⟩ H
  · skip
    rw [if_neg h1] at H
    refine EV.steps cl_93 3 (q2 := (26, [some (.ref 89), some (.int v1), some (.int v2), some (.int v3), some (.int v4), some (.int v5)], [.int v5, .ref 3], SH, w)) rfl ?_
    refine EV.callF (kc := 53) (av := [.ref 3, .int v5]) (r := []) (rv := some (.int (F_53_3 v5 w))) (w2 := w) cl_93 rfl rfl rfl (m_53_3 w v5) ?_
    refine EV.z_le cl_93 rfl (fun h5 => ?_) (fun h5 => ?_)
    · skip
      rw [if_pos h5] at H
      refine EV.steps cl_93 2 (q2 := (13, [some (.ref 89), some (.int v1), some (.int v2), some (.int v3), some (.int v4), some (.int (v5 + (kI 1)))], [], SH, w)) rfl ?_
      exact H
    · skip
      rw [if_neg h5] at H
      refine EV.steps cl_93 2 (q2 := (35, [some (.ref 89), some (.int v1), some (.int v2), some (.int v3), some (.int v4), some (.int v5)], [.int (kI (-1)), .int v4], SH, w)) rfl ?_
      refine EV.i_eq cl_93 rfl (fun h6 => ?_) (fun h6 => ?_)
      · skip
        rw [if_pos h6] at H
        refine EV.steps cl_93 4 (q2 := (13, [some (.ref 89), some (.int v1), some (.int v2), some (.int v3), some (.int v5), some (.int (v5 + (kI 1)))], [], SH, w)) rfl ?_
        exact H
      · skip
        rw [if_neg h6] at H
        refine EV.steps cl_93 4 (q2 := (44, [some (.ref 89), some (.int v1), some (.int v2), some (.int v3), some (.int v4), some (.int v5)], [.int v2, .int v4, .int v5, .ref 89], SH, w)) rfl ?_
        refine EV.callF (kc := 94) (av := [.ref 89, .int v5, .int v4, .int v2]) (r := []) (rv := some (.int (F_94_89 v5 v4 v2 w))) (w2 := w) cl_93 rfl rfl rfl (m_94_89 w v5 v4 v2) ?_
        refine EV.z_eq cl_93 rfl (fun h7 => ?_) (fun h7 => ?_)
        · skip
          rw [if_pos h7] at H
          refine EV.steps cl_93 2 (q2 := (13, [some (.ref 89), some (.int v1), some (.int v2), some (.int v3), some (.int v4), some (.int (v5 + (kI 1)))], [], SH, w)) rfl ?_
          exact H
        · skip
          rw [if_neg h7] at H
          refine EV.steps cl_93 4 (q2 := (13, [some (.ref 89), some (.int v1), some (.int v2), some (.int v3), some (.int v5), some (.int (v5 + (kI 1)))], [], SH, w)) rfl ?_
          exact H
theorem t96_89_at0 {X : Scr} {d : Nat} {Q : Int32 → Wd → Prop} (w : Wd) (v1 : Int32)
    (H : EI X (d + 1) 96 (2, [some (.ref 89), some (.int v1), some (.int (kI 0)), none], [], SH, w) Q) : EI X (d + 1) 96 (0, [some (.ref 89), some (.int v1), none, none], [], SH, w) Q := by
  unfold EI
  refine EV.steps cl_96 2 (q2 := (2, [some (.ref 89), some (.int v1), some (.int (kI 0)), none], [], SH, w)) rfl ?_
  exact H
theorem t96_89_at2 {X : Scr} {d : Nat} {Q : Int32 → Wd → Prop} (w : Wd) (v1 : Int32) (v2 : Int32)
    (H : (if (kI 60) < v2 then Q (kI 0) w else (if v1 = 0 then CU X (d + 1) 91 [.ref 89, .int v2, .int v1] w (fun w1 => CU X (d + 1) 91 [.ref 89, .int (v2 + (kI 1)), .int v1] (cp2 w1 90 91 (kI 0).toNatClampNeg (kI 0).toNatClampNeg (kI 6).toNatClampNeg) (fun w2 => EI X (d + 1) 96 (43, [some (.ref 89), some (.int v1), some (.int v2), some (.int (kI 0))], [], SH, w2) Q)) else Q (kI 0) w))) : EI X (d + 1) 96 (2, [some (.ref 89), some (.int v1), some (.int v2), none], [], SH, w) Q := by
  unfold EI
  refine EV.steps cl_96 2 (q2 := (5, [some (.ref 89), some (.int v1), some (.int v2), none], [.int (kI 60), .int v2], SH, w)) rfl ?_
  refine EV.i_gt cl_96 rfl (fun h1 => ?_) (fun h1 => ?_)
  · skip
    rw [if_pos h1] at H
    refine EV.steps cl_96 1 (q2 := (89, [some (.ref 89), some (.int v1), some (.int v2), none], [.int (kI 0)], SH, w)) rfl ?_
    refine EV.ret cl_96 rfl rfl rfl ?_
    exact ⟨_, rfl, rfl, H⟩
  · skip
    rw [if_neg h1] at H
    refine EV.steps cl_96 1 (q2 := (9, [some (.ref 89), some (.int v1), some (.int v2), none], [.int v1], SH, w)) rfl ?_
    refine EV.z_ne cl_96 rfl (fun h2 => ?_) (fun h2 => ?_)
    · skip
      rw [if_neg h2] at H
      refine EV.steps cl_96 1 (q2 := (89, [some (.ref 89), some (.int v1), some (.int v2), none], [.int (kI 0)], SH, w)) rfl ?_
      refine EV.ret cl_96 rfl rfl rfl ?_
      exact ⟨_, rfl, rfl, H⟩
    · skip
      rw [if_pos h2] at H
      refine EV.steps cl_96 3 (q2 := (15, [some (.ref 89), some (.int v1), some (.int v2), none], [.int v1, .int v2, .ref 89], SH, w)) rfl ?_
      refine EV.call (kc := 91) (av := [.ref 89, .int v2, .int v1]) (r := []) cl_96 rfl rfl rfl H ?_
      clear H; intro y1 s1 w1 e1
      obtain ⟨rfl, rfl, H⟩ := e1
      refine EV.steps cl_96 7 (q2 := (30, [some (.ref 89), some (.int v1), some (.int v2), none], [.int (kI 6), .int (kI 0), .ref 91, .int (kI 0), .ref 90], SH, w1)) rfl ?_
      refine EV.acopy cl_96 rfl rfl rfl (by decide) (by decide) ?_
      refine EV.steps cl_96 5 (q2 := (38, [some (.ref 89), some (.int v1), some (.int v2), none], [.int v1, .int (v2 + (kI 1)), .ref 89], SH, (cp2 w1 90 91 (kI 0).toNatClampNeg (kI 0).toNatClampNeg (kI 6).toNatClampNeg))) rfl ?_
      refine EV.call (kc := 91) (av := [.ref 89, .int (v2 + (kI 1)), .int v1]) (r := []) cl_96 rfl rfl rfl H ?_
      clear H; intro y2 s2 w2 e2
      obtain ⟨rfl, rfl, H⟩ := e2
      refine EV.steps cl_96 2 (q2 := (43, [some (.ref 89), some (.int v1), some (.int v2), some (.int (kI 0))], [], SH, w2)) rfl ?_
      exact H
theorem t96_89_at43 {X : Scr} {d : Nat} {Q : Int32 → Wd → Prop} (w : Wd) (v1 : Int32) (v2 : Int32) (v3 : Int32)
    (H : (if (kI 6) ≤ v3 then EI X (d + 1) 96 (2, [some (.ref 89), some (.int v1), some (.int (v2 + (kI 1))), none], [], SH, w) Q else (inB v3 6 = true ∧ (inB v3 6 = true ∧ (if (w 91 v3.toNatClampNeg) ≤ (w 90 v3.toNatClampNeg) then EI X (d + 1) 96 (43, [some (.ref 89), some (.int v1), some (.int v2), some (.int (v3 + (kI 1)))], [], SH, w) Q else Q (kI 1) (up2 (up2 w 89 6 v2) 89 7 v3)))))) : EI X (d + 1) 96 (43, [some (.ref 89), some (.int v1), some (.int v2), some (.int v3)], [], SH, w) Q := by
  unfold EI
  refine EV.steps cl_96 2 (q2 := (46, [some (.ref 89), some (.int v1), some (.int v2), some (.int v3)], [.int (kI 6), .int v3], SH, w)) rfl ?_
  refine EV.i_ge cl_96 rfl (fun h1 => ?_) (fun h1 => ?_)
  · skip
    rw [if_pos h1] at H
    refine EV.steps cl_96 2 (q2 := (2, [some (.ref 89), some (.int v1), some (.int (v2 + (kI 1))), some (.int v3)], [], SH, w)) rfl ?_
    exact EV.weak (l := [some (.ref 89), some (.int v1), some (.int (v2 + (kI 1))), none]) ⟨rfl, ⟨rfl, ⟨rfl, ⟨rfl, trivial⟩⟩⟩⟩ H
  · skip
    rw [if_neg h1] at H
    refine EV.steps cl_96 3 (q2 := (54, [some (.ref 89), some (.int v1), some (.int v2), some (.int v3)], [.int v3, .ref 90], SH, w)) rfl ?_
    obtain ⟨j2, H⟩ := H
    refine EV.iaload cl_96 rfl rfl (by decide) j2 ?_
    refine EV.steps cl_96 3 (q2 := (60, [some (.ref 89), some (.int v1), some (.int v2), some (.int v3)], [.int v3, .ref 91, .int (w 90 v3.toNatClampNeg)], SH, w)) rfl ?_
    obtain ⟨j3, H⟩ := H
    refine EV.iaload cl_96 rfl rfl (by decide) j3 ?_
    refine EV.i_ge cl_96 rfl (fun h4 => ?_) (fun h4 => ?_)
    · skip
      rw [if_pos h4] at H
      refine EV.steps cl_96 2 (q2 := (43, [some (.ref 89), some (.int v1), some (.int v2), some (.int (v3 + (kI 1)))], [], SH, w)) rfl ?_
      exact H
    · skip
      rw [if_neg h4] at H
      refine EV.steps cl_96 7 (q2 := (75, [some (.ref 89), some (.int v1), some (.int v2), some (.int v3)], [.int (kI 1)], SH, (up2 (up2 w 89 6 v2) 89 7 v3))) rfl ?_
      refine EV.ret cl_96 rfl rfl rfl ?_
      exact ⟨_, rfl, rfl, H⟩
theorem t97_89_at0 {X : Scr} {d : Nat} {Q : Int32 → Wd → Prop} (w : Wd) (v1 : Int32)
    (H : EI X (d + 2) 97 (13, [some (.ref 89), some (.int v1), some (.int (F_57_3 w)), some (.int (kI 0)), some (.int (kI 0)), none], [], SH, w) Q) : EI X (d + 2) 97 (0, [some (.ref 89), some (.int v1), none, none, none, none], [], SH, w) Q := by
  unfold EI
  refine EV.steps cl_97 2 (q2 := (4, [some (.ref 89), some (.int v1), none, none, none, none], [.ref 3], SH, w)) rfl ?_
  refine EV.callF (kc := 57) (av := [.ref 3]) (r := []) (rv := some (.int (F_57_3 w))) (w2 := w) cl_97 rfl rfl rfl (m_57_3 w ) ?_
  refine EV.steps cl_97 5 (q2 := (13, [some (.ref 89), some (.int v1), some (.int (F_57_3 w)), some (.int (kI 0)), some (.int (kI 0)), none], [], SH, w)) rfl ?_
  exact H
theorem t97_89_at13 {X : Scr} {d : Nat} {Q : Int32 → Wd → Prop} (w : Wd) (v1 : Int32) (v2 : Int32) (v3 : Int32) (v4 : Int32)
    (H : (if (kI 6) ≤ v4 then Q v3 w else (if v2 ≤ 0 then Q v3 w else (inB v4 6 = true ∧ (¬ v2 = 0 ∧ (if (w 90 v4.toNatClampNeg) < (((F_53_3 v4 w) * v1) / v2) then EI X (d + 2) 97 (13, [some (.ref 89), some (.int v1), some (.int v2), some (.int (v3 ||| ((kI 1) <<< (v4 &&& 31)))), some (.int (v4 + (kI 1))), none], [], SH, w) Q else (inB v4 6 = true ∧ (¬ v2 = 0 ∧ (if (w 90 v4.toNatClampNeg) ≤ (((((F_53_3 v4 w) * v1) + v2) - (kI 1)) / v2) then EI X (d + 2) 97 (13, [some (.ref 89), some (.int v1), some (.int v2), some (.int v3), some (.int (v4 + (kI 1))), none], [], SH, w) Q else EI X (d + 2) 97 (13, [some (.ref 89), some (.int v1), some (.int v2), some (.int (v3 ||| ((kI 1) <<< (v4 &&& 31)))), some (.int (v4 + (kI 1))), none], [], SH, w) Q))))))))) : EI X (d + 2) 97 (13, [some (.ref 89), some (.int v1), some (.int v2), some (.int v3), some (.int v4), none], [], SH, w) Q := by
  unfold EI
  refine EV.steps cl_97 2 (q2 := (17, [some (.ref 89), some (.int v1), some (.int v2), some (.int v3), some (.int v4), none], [.int (kI 6), .int v4], SH, w)) rfl ?_
  refine EV.i_ge cl_97 rfl (fun h1 => ?_) (fun h1 => ?_)
  · skip
    rw [if_pos h1] at H
    refine EV.steps cl_97 1 (q2 := (83, [some (.ref 89), some (.int v1), some (.int v2), some (.int v3), some (.int v4), none], [.int v3], SH, w)) rfl ?_
    refine EV.ret cl_97 rfl rfl rfl ?_
    exact ⟨_, rfl, rfl, H⟩
  · skip
    rw [if_neg h1] at H
    refine EV.steps cl_97 1 (q2 := (21, [some (.ref 89), some (.int v1), some (.int v2), some (.int v3), some (.int v4), none], [.int v2], SH, w)) rfl ?_
    refine EV.z_le cl_97 rfl (fun h2 => ?_) (fun h2 => ?_)
    · skip
      rw [if_pos h2] at H
      refine EV.steps cl_97 1 (q2 := (83, [some (.ref 89), some (.int v1), some (.int v2), some (.int v3), some (.int v4), none], [.int v3], SH, w)) rfl ?_
      refine EV.ret cl_97 rfl rfl rfl ?_
      exact ⟨_, rfl, rfl, H⟩
    · skip
      rw [if_neg h2] at H
      refine EV.steps cl_97 3 (q2 := (30, [some (.ref 89), some (.int v1), some (.int v2), some (.int v3), some (.int v4), none], [.int v4, .ref 3], SH, w)) rfl ?_
      refine EV.callF (kc := 53) (av := [.ref 3, .int v4]) (r := []) (rv := some (.int (F_53_3 v4 w))) (w2 := w) cl_97 rfl rfl rfl (m_53_3 w v4) ?_
      refine EV.steps cl_97 6 (q2 := (43, [some (.ref 89), some (.int v1), some (.int v2), some (.int v3), some (.int v4), some (.int ((F_53_3 v4 w) * v1))], [.int v4, .ref 90], SH, w)) rfl ?_
      obtain ⟨j3, H⟩ := H
      refine EV.iaload cl_97 rfl rfl (by decide) j3 ?_
      refine EV.steps cl_97 2 (q2 := (47, [some (.ref 89), some (.int v1), some (.int v2), some (.int v3), some (.int v4), some (.int ((F_53_3 v4 w) * v1))], [.int v2, .int ((F_53_3 v4 w) * v1), .int (w 90 v4.toNatClampNeg)], SH, w)) rfl ?_
      obtain ⟨j4, H⟩ := H
      refine EV.idiv cl_97 rfl j4 ?_
      refine EV.i_lt cl_97 rfl (fun h5 => ?_) (fun h5 => ?_)
      · skip
        rw [if_pos h5] at H
        refine EV.steps cl_97 8 (q2 := (13, [some (.ref 89), some (.int v1), some (.int v2), some (.int (v3 ||| ((kI 1) <<< (v4 &&& 31)))), some (.int (v4 + (kI 1))), some (.int ((F_53_3 v4 w) * v1))], [], SH, w)) rfl ?_
        exact EV.weak (l := [some (.ref 89), some (.int v1), some (.int v2), some (.int (v3 ||| ((kI 1) <<< (v4 &&& 31)))), some (.int (v4 + (kI 1))), none]) ⟨rfl, ⟨rfl, ⟨rfl, ⟨rfl, ⟨rfl, ⟨rfl, trivial⟩⟩⟩⟩⟩⟩ H
      · skip
        rw [if_neg h5] at H
        refine EV.steps cl_97 3 (q2 := (57, [some (.ref 89), some (.int v1), some (.int v2), some (.int v3), some (.int v4), some (.int ((F_53_3 v4 w) * v1))], [.int v4, .ref 90], SH, w)) rfl ?_
        obtain ⟨j6, H⟩ := H
        refine EV.iaload cl_97 rfl rfl (by decide) j6 ?_
        refine EV.steps cl_97 6 (q2 := (65, [some (.ref 89), some (.int v1), some (.int v2), some (.int v3), some (.int v4), some (.int ((F_53_3 v4 w) * v1))], [.int v2, .int ((((F_53_3 v4 w) * v1) + v2) - (kI 1)), .int (w 90 v4.toNatClampNeg)], SH, w)) rfl ?_
        obtain ⟨j7, H⟩ := H
        refine EV.idiv cl_97 rfl j7 ?_
        refine EV.i_le cl_97 rfl (fun h8 => ?_) (fun h8 => ?_)
        · skip
          rw [if_pos h8] at H
          refine EV.steps cl_97 2 (q2 := (13, [some (.ref 89), some (.int v1), some (.int v2), some (.int v3), some (.int (v4 + (kI 1))), some (.int ((F_53_3 v4 w) * v1))], [], SH, w)) rfl ?_
          exact EV.weak (l := [some (.ref 89), some (.int v1), some (.int v2), some (.int v3), some (.int (v4 + (kI 1))), none]) ⟨rfl, ⟨rfl, ⟨rfl, ⟨rfl, ⟨rfl, ⟨rfl, trivial⟩⟩⟩⟩⟩⟩ H
        · skip
          rw [if_neg h8] at H
          refine EV.steps cl_97 8 (q2 := (13, [some (.ref 89), some (.int v1), some (.int v2), some (.int (v3 ||| ((kI 1) <<< (v4 &&& 31)))), some (.int (v4 + (kI 1))), some (.int ((F_53_3 v4 w) * v1))], [], SH, w)) rfl ?_
          exact EV.weak (l := [some (.ref 89), some (.int v1), some (.int v2), some (.int (v3 ||| ((kI 1) <<< (v4 &&& 31)))), some (.int (v4 + (kI 1))), none]) ⟨rfl, ⟨rfl, ⟨rfl, ⟨rfl, ⟨rfl, ⟨rfl, trivial⟩⟩⟩⟩⟩⟩ H
theorem t98_89_7_at0 {X : Scr} {d : Nat} {Q : Wd → Prop} (w : Wd) (v2 : Int32)
    (H : CU X (d + 2) 91 [.ref 89, .int (F_54_3 v2 w), .int (kI 0)] w (fun w1 => EU X (d + 2) 98 (15, [some (.ref 89), some (.ref 7), some (.int v2), some (.int (kI 0)), none], [], SH, w1) Q)) : EU X (d + 2) 98 (0, [some (.ref 89), some (.ref 7), some (.int v2), none, none], [], SH, w) Q := by
  unfold EU
  refine EV.steps cl_98 4 (q2 := (6, [some (.ref 89), some (.ref 7), some (.int v2), none, none], [.int v2, .ref 3, .ref 89], SH, w)) rfl ?_
  refine EV.callF (kc := 54) (av := [.ref 3, .int v2]) (r := [.ref 89]) (rv := some (.int (F_54_3 v2 w))) (w2 := w) cl_98 rfl rfl rfl (m_54_3 w v2) ?_
  refine EV.steps cl_98 1 (q2 := (10, [some (.ref 89), some (.ref 7), some (.int v2), none, none], [.int (kI 0), .int (F_54_3 v2 w), .ref 89], SH, w)) rfl ?_
  refine EV.call (kc := 91) (av := [.ref 89, .int (F_54_3 v2 w), .int (kI 0)]) (r := []) cl_98 rfl rfl rfl H ?_
  clear H; intro y1 s1 w1 e1
  obtain ⟨rfl, rfl, H⟩ := e1
  refine EV.steps cl_98 2 (q2 := (15, [some (.ref 89), some (.ref 7), some (.int v2), some (.int (kI 0)), none], [], SH, w1)) rfl ?_
  exact H
theorem t98_89_7_at15 {X : Scr} {d : Nat} {Q : Wd → Prop} (w : Wd) (v2 : Int32) (v3 : Int32)
    (H : (if (kI 6) ≤ v3 then Q w else (inB v3 6 = true ∧ (inB v3 6 = true ∧ (inB v3 6 = true ∧ EU X (d + 2) 98 (15, [some (.ref 89), some (.ref 7), some (.int v2), some (.int (v3 + (kI 1))), none], [], SH, (up2 (up2 w 93 v3.toNatClampNeg (if (kI 0) < ((F_11_7 v3 v2 w) - (w 90 v3.toNatClampNeg)) then ((F_11_7 v3 v2 w) - (w 90 v3.toNatClampNeg)) else (kI 0))) 94 v3.toNatClampNeg (if (kI 0) < (-((F_11_7 v3 v2 w) - (w 90 v3.toNatClampNeg))) then (-((F_11_7 v3 v2 w) - (w 90 v3.toNatClampNeg))) else (kI 0)))) Q))))) : EU X (d + 2) 98 (15, [some (.ref 89), some (.ref 7), some (.int v2), some (.int v3), none], [], SH, w) Q := by
  unfold EU
  refine EV.steps cl_98 2 (q2 := (18, [some (.ref 89), some (.ref 7), some (.int v2), some (.int v3), none], [.int (kI 6), .int v3], SH, w)) rfl ?_
  refine EV.i_ge cl_98 rfl (fun h1 => ?_) (fun h1 => ?_)
  · skip
    rw [if_pos h1] at H
    refine EV.ret cl_98 rfl rfl rfl ?_
    exact ⟨rfl, rfl, H⟩
  · skip
    rw [if_neg h1] at H
    refine EV.steps cl_98 3 (q2 := (24, [some (.ref 89), some (.ref 7), some (.int v2), some (.int v3), none], [.int v2, .int v3, .ref 7], SH, w)) rfl ?_
    refine EV.callF (kc := 11) (av := [.ref 7, .int v3, .int v2]) (r := []) (rv := some (.int (F_11_7 v3 v2 w))) (w2 := w) cl_98 rfl rfl rfl (m_11_7 w v3 v2) ?_
    refine EV.steps cl_98 3 (q2 := (32, [some (.ref 89), some (.ref 7), some (.int v2), some (.int v3), none], [.int v3, .ref 90, .int (F_11_7 v3 v2 w)], SH, w)) rfl ?_
    obtain ⟨j2, H⟩ := H
    refine EV.iaload cl_98 rfl rfl (by decide) j2 ?_
    refine EV.steps cl_98 8 (q2 := (47, [some (.ref 89), some (.ref 7), some (.int v2), some (.int v3), some (.int ((F_11_7 v3 v2 w) - (w 90 v3.toNatClampNeg)))], [.int (if (kI 0) < ((F_11_7 v3 v2 w) - (w 90 v3.toNatClampNeg)) then ((F_11_7 v3 v2 w) - (w 90 v3.toNatClampNeg)) else (kI 0)), .int v3, .ref 93], SH, w)) rfl ?_
    obtain ⟨j3, H⟩ := H
    refine EV.iastore cl_98 rfl rfl (by decide) j3 ?_
    refine EV.steps cl_98 7 (q2 := (60, [some (.ref 89), some (.ref 7), some (.int v2), some (.int v3), some (.int ((F_11_7 v3 v2 w) - (w 90 v3.toNatClampNeg)))], [.int (if (kI 0) < (-((F_11_7 v3 v2 w) - (w 90 v3.toNatClampNeg))) then (-((F_11_7 v3 v2 w) - (w 90 v3.toNatClampNeg))) else (kI 0)), .int v3, .ref 94], SH, (up2 w 93 v3.toNatClampNeg (if (kI 0) < ((F_11_7 v3 v2 w) - (w 90 v3.toNatClampNeg)) then ((F_11_7 v3 v2 w) - (w 90 v3.toNatClampNeg)) else (kI 0))))) rfl ?_
    obtain ⟨j4, H⟩ := H
    refine EV.iastore cl_98 rfl rfl (by decide) j4 ?_
    refine EV.steps cl_98 2 (q2 := (15, [some (.ref 89), some (.ref 7), some (.int v2), some (.int (v3 + (kI 1))), some (.int ((F_11_7 v3 v2 w) - (w 90 v3.toNatClampNeg)))], [], SH, (up2 (up2 w 93 v3.toNatClampNeg (if (kI 0) < ((F_11_7 v3 v2 w) - (w 90 v3.toNatClampNeg)) then ((F_11_7 v3 v2 w) - (w 90 v3.toNatClampNeg)) else (kI 0))) 94 v3.toNatClampNeg (if (kI 0) < (-((F_11_7 v3 v2 w) - (w 90 v3.toNatClampNeg))) then (-((F_11_7 v3 v2 w) - (w 90 v3.toNatClampNeg))) else (kI 0))))) rfl ?_
    exact EV.weak (l := [some (.ref 89), some (.ref 7), some (.int v2), some (.int (v3 + (kI 1))), none]) ⟨rfl, ⟨rfl, ⟨rfl, ⟨rfl, ⟨rfl, trivial⟩⟩⟩⟩⟩ H
theorem t99_89_at0 {X : Scr} {d : Nat} {Q : Int32 → Wd → Prop} (w : Wd) 
    (H : CI X (d + 1) 102 [.ref 93, .int (kI 63)] w (fun x1 w1 => Q x1 w1)) : EI X (d + 1) 99 (0, [some (.ref 89)], [], SH, w) Q := by
  unfold EI
  refine EV.steps cl_99 3 (q2 := (6, [some (.ref 89)], [.int (kI 63), .ref 93], SH, w)) rfl ?_
  refine EV.call (kc := 102) (av := [.ref 93, .int (kI 63)]) (r := []) cl_99 rfl rfl rfl H ?_
  clear H; intro y1 s1 w1 e1
  obtain ⟨x1, rfl, rfl, H⟩ := e1
  refine EV.ret cl_99 rfl rfl rfl ?_
  exact ⟨_, rfl, rfl, H⟩
theorem t100_89_at0 {X : Scr} {d : Nat} {Q : Int32 → Wd → Prop} (w : Wd) 
    (H : CI X (d + 1) 102 [.ref 94, .int (kI 63)] w (fun x1 w1 => Q x1 w1)) : EI X (d + 1) 100 (0, [some (.ref 89)], [], SH, w) Q := by
  unfold EI
  refine EV.steps cl_100 3 (q2 := (6, [some (.ref 89)], [.int (kI 63), .ref 94], SH, w)) rfl ?_
  refine EV.call (kc := 102) (av := [.ref 94, .int (kI 63)]) (r := []) cl_100 rfl rfl rfl H ?_
  clear H; intro y1 s1 w1 e1
  obtain ⟨x1, rfl, rfl, H⟩ := e1
  refine EV.ret cl_100 rfl rfl rfl ?_
  exact ⟨_, rfl, rfl, H⟩
theorem t101_89_at0 {X : Scr} {d : Nat} {Q : Int32 → Wd → Prop} (w : Wd) 
    (H : CI X (d + 2) 99 [.ref 89] w (fun x1 w1 => EI X (d + 2) 101 (7, [some (.ref 89), some (.int x1), some (.int (kI 1)), none], [], SH, w1) Q)) : EI X (d + 2) 101 (0, [some (.ref 89), none, none, none], [], SH, w) Q := by
  unfold EI
  refine EV.steps cl_101 1 (q2 := (1, [some (.ref 89), none, none, none], [.ref 89], SH, w)) rfl ?_
  refine EV.call (kc := 99) (av := [.ref 89]) (r := []) cl_101 rfl rfl rfl H ?_
  clear H; intro y1 s1 w1 e1
  obtain ⟨x1, rfl, rfl, H⟩ := e1
  refine EV.steps cl_101 3 (q2 := (7, [some (.ref 89), some (.int x1), some (.int (kI 1)), none], [], SH, w1)) rfl ?_
  exact H
theorem t101_89_at7 {X : Scr} {d : Nat} {Q : Int32 → Wd → Prop} (w : Wd) (v1 : Int32) (v2 : Int32)
    (H : (if (kI 64) ≤ v2 then Q v1 w else CI X (d + 2) 102 [.ref 93, .int (v2 ^^^ (kI (-1)))] w (fun x1 w1 => CI X (d + 2) 102 [.ref 94, .int (F_58_3 v2 w1)] w1 (fun x2 w2 => EI X (d + 2) 101 (7, [some (.ref 89), some (.int (if (x1 + x2) < v1 then (x1 + x2) else v1)), some (.int (v2 + (kI 1))), none], [], SH, w2) Q)))) : EI X (d + 2) 101 (7, [some (.ref 89), some (.int v1), some (.int v2), none], [], SH, w) Q := by
  unfold EI
  refine EV.steps cl_101 2 (q2 := (10, [some (.ref 89), some (.int v1), some (.int v2), none], [.int (kI 64), .int v2], SH, w)) rfl ?_
  refine EV.i_ge cl_101 rfl (fun h1 => ?_) (fun h1 => ?_)
  · skip
    rw [if_pos h1] at H
    refine EV.steps cl_101 1 (q2 := (53, [some (.ref 89), some (.int v1), some (.int v2), none], [.int v1], SH, w)) rfl ?_
    refine EV.ret cl_101 rfl rfl rfl ?_
    exact ⟨_, rfl, rfl, H⟩
  · skip
    rw [if_neg h1] at H
    refine EV.steps cl_101 5 (q2 := (20, [some (.ref 89), some (.int v1), some (.int v2), none], [.int (v2 ^^^ (kI (-1))), .ref 93], SH, w)) rfl ?_
    refine EV.call (kc := 102) (av := [.ref 93, .int (v2 ^^^ (kI (-1)))]) (r := []) cl_101 rfl rfl rfl H ?_
    clear H; intro y1 s1 w1 e1
    obtain ⟨x1, rfl, rfl, H⟩ := e1
    refine EV.steps cl_101 5 (q2 := (32, [some (.ref 89), some (.int v1), some (.int v2), none], [.int v2, .ref 3, .ref 94, .int x1], SH, w1)) rfl ?_
    refine EV.callF (kc := 58) (av := [.ref 3, .int v2]) (r := [.ref 94, .int x1]) (rv := some (.int (F_58_3 v2 w1))) (w2 := w1) cl_101 rfl rfl rfl (m_58_3 w1 v2) ?_
    refine EV.call (kc := 102) (av := [.ref 94, .int (F_58_3 v2 w1)]) (r := [.int x1]) cl_101 rfl rfl rfl H ?_
    clear H; intro y2 s2 w2 e2
    obtain ⟨x2, rfl, rfl, H⟩ := e2
    refine EV.steps cl_101 8 (q2 := (7, [some (.ref 89), some (.int (if (x1 + x2) < v1 then (x1 + x2) else v1)), some (.int (v2 + (kI 1))), some (.int (x1 + x2))], [], SH, w2)) rfl ?_
    exact EV.weak (l := [some (.ref 89), some (.int (if (x1 + x2) < v1 then (x1 + x2) else v1)), some (.int (v2 + (kI 1))), none]) ⟨rfl, ⟨rfl, ⟨rfl, ⟨rfl, trivial⟩⟩⟩⟩ H
theorem t102_93_at0 {X : Scr} {d : Nat} {Q : Int32 → Wd → Prop} (w : Wd) (v1 : Int32)
    (H : EI X (d + 1) 102 (4, [some (.ref 93), some (.int v1), some (.int (kI 0)), some (.int (kI 0))], [], SH, w) Q) : EI X (d + 1) 102 (0, [some (.ref 93), some (.int v1), none, none], [], SH, w) Q := by
  unfold EI
  refine EV.steps cl_102 4 (q2 := (4, [some (.ref 93), some (.int v1), some (.int (kI 0)), some (.int (kI 0))], [], SH, w)) rfl ?_
  exact H
theorem t102_93_at4 {X : Scr} {d : Nat} {Q : Int32 → Wd → Prop} (w : Wd) (v1 : Int32) (v2 : Int32) (v3 : Int32)
    (H : (if (kI 6) ≤ v3 then Q v2 w else (if (Int32.ofNat 6) ≤ v3 then Q v2 w else (if (F_154 v1 v3 w) = 0 then EI X (d + 1) 102 (4, [some (.ref 93), some (.int v1), some (.int v2), some (.int (v3 + (kI 1)))], [], SH, w) Q else (inB v3 6 = true ∧ EI X (d + 1) 102 (4, [some (.ref 93), some (.int v1), some (.int (v2 + (w 93 v3.toNatClampNeg))), some (.int (v3 + (kI 1)))], [], SH, w) Q))))) : EI X (d + 1) 102 (4, [some (.ref 93), some (.int v1), some (.int v2), some (.int v3)], [], SH, w) Q := by
  unfold EI
  refine EV.steps cl_102 2 (q2 := (7, [some (.ref 93), some (.int v1), some (.int v2), some (.int v3)], [.int (kI 6), .int v3], SH, w)) rfl ?_
  refine EV.i_ge cl_102 rfl (fun h1 => ?_) (fun h1 => ?_)
  · skip
    rw [if_pos h1] at H
    refine EV.steps cl_102 1 (q2 := (37, [some (.ref 93), some (.int v1), some (.int v2), some (.int v3)], [.int v2], SH, w)) rfl ?_
    refine EV.ret cl_102 rfl rfl rfl ?_
    exact ⟨_, rfl, rfl, H⟩
  · skip
    rw [if_neg h1] at H
    refine EV.steps cl_102 3 (q2 := (13, [some (.ref 93), some (.int v1), some (.int v2), some (.int v3)], [.int (Int32.ofNat 6), .int v3], SH, w)) rfl ?_
    refine EV.i_ge cl_102 rfl (fun h2 => ?_) (fun h2 => ?_)
    · skip
      rw [if_pos h2] at H
      refine EV.steps cl_102 1 (q2 := (37, [some (.ref 93), some (.int v1), some (.int v2), some (.int v3)], [.int v2], SH, w)) rfl ?_
      refine EV.ret cl_102 rfl rfl rfl ?_
      exact ⟨_, rfl, rfl, H⟩
    · skip
      rw [if_neg h2] at H
      refine EV.steps cl_102 2 (q2 := (18, [some (.ref 93), some (.int v1), some (.int v2), some (.int v3)], [.int v3, .int v1], SH, w)) rfl ?_
      refine EV.callF (kc := 154) (av := [.int v1, .int v3]) (r := []) (rv := some (.int (F_154 v1 v3 w))) (w2 := w) cl_102 rfl rfl rfl (m_154 w v1 v3) ?_
      refine EV.z_eq cl_102 rfl (fun h3 => ?_) (fun h3 => ?_)
      · skip
        rw [if_pos h3] at H
        refine EV.steps cl_102 2 (q2 := (4, [some (.ref 93), some (.int v1), some (.int v2), some (.int (v3 + (kI 1)))], [], SH, w)) rfl ?_
        exact H
      · skip
        rw [if_neg h3] at H
        refine EV.steps cl_102 3 (q2 := (27, [some (.ref 93), some (.int v1), some (.int v2), some (.int v3)], [.int v3, .ref 93, .int v2], SH, w)) rfl ?_
        obtain ⟨j4, H⟩ := H
        refine EV.iaload cl_102 rfl rfl (by decide) j4 ?_
        refine EV.steps cl_102 4 (q2 := (4, [some (.ref 93), some (.int v1), some (.int (v2 + (w 93 v3.toNatClampNeg))), some (.int (v3 + (kI 1)))], [], SH, w)) rfl ?_
        exact H
theorem t102_94_at0 {X : Scr} {d : Nat} {Q : Int32 → Wd → Prop} (w : Wd) (v1 : Int32)
    (H : EI X (d + 1) 102 (4, [some (.ref 94), some (.int v1), some (.int (kI 0)), some (.int (kI 0))], [], SH, w) Q) : EI X (d + 1) 102 (0, [some (.ref 94), some (.int v1), none, none], [], SH, w) Q := by
  unfold EI
  refine EV.steps cl_102 4 (q2 := (4, [some (.ref 94), some (.int v1), some (.int (kI 0)), some (.int (kI 0))], [], SH, w)) rfl ?_
  exact H
theorem t102_94_at4 {X : Scr} {d : Nat} {Q : Int32 → Wd → Prop} (w : Wd) (v1 : Int32) (v2 : Int32) (v3 : Int32)
    (H : (if (kI 6) ≤ v3 then Q v2 w else (if (Int32.ofNat 6) ≤ v3 then Q v2 w else (if (F_154 v1 v3 w) = 0 then EI X (d + 1) 102 (4, [some (.ref 94), some (.int v1), some (.int v2), some (.int (v3 + (kI 1)))], [], SH, w) Q else (inB v3 6 = true ∧ EI X (d + 1) 102 (4, [some (.ref 94), some (.int v1), some (.int (v2 + (w 94 v3.toNatClampNeg))), some (.int (v3 + (kI 1)))], [], SH, w) Q))))) : EI X (d + 1) 102 (4, [some (.ref 94), some (.int v1), some (.int v2), some (.int v3)], [], SH, w) Q := by
  unfold EI
  refine EV.steps cl_102 2 (q2 := (7, [some (.ref 94), some (.int v1), some (.int v2), some (.int v3)], [.int (kI 6), .int v3], SH, w)) rfl ?_
  refine EV.i_ge cl_102 rfl (fun h1 => ?_) (fun h1 => ?_)
  · skip
    rw [if_pos h1] at H
    refine EV.steps cl_102 1 (q2 := (37, [some (.ref 94), some (.int v1), some (.int v2), some (.int v3)], [.int v2], SH, w)) rfl ?_
    refine EV.ret cl_102 rfl rfl rfl ?_
    exact ⟨_, rfl, rfl, H⟩
  · skip
    rw [if_neg h1] at H
    refine EV.steps cl_102 3 (q2 := (13, [some (.ref 94), some (.int v1), some (.int v2), some (.int v3)], [.int (Int32.ofNat 6), .int v3], SH, w)) rfl ?_
    refine EV.i_ge cl_102 rfl (fun h2 => ?_) (fun h2 => ?_)
    · skip
      rw [if_pos h2] at H
      refine EV.steps cl_102 1 (q2 := (37, [some (.ref 94), some (.int v1), some (.int v2), some (.int v3)], [.int v2], SH, w)) rfl ?_
      refine EV.ret cl_102 rfl rfl rfl ?_
      exact ⟨_, rfl, rfl, H⟩
    · skip
      rw [if_neg h2] at H
      refine EV.steps cl_102 2 (q2 := (18, [some (.ref 94), some (.int v1), some (.int v2), some (.int v3)], [.int v3, .int v1], SH, w)) rfl ?_
      refine EV.callF (kc := 154) (av := [.int v1, .int v3]) (r := []) (rv := some (.int (F_154 v1 v3 w))) (w2 := w) cl_102 rfl rfl rfl (m_154 w v1 v3) ?_
      refine EV.z_eq cl_102 rfl (fun h3 => ?_) (fun h3 => ?_)
      · skip
        rw [if_pos h3] at H
        refine EV.steps cl_102 2 (q2 := (4, [some (.ref 94), some (.int v1), some (.int v2), some (.int (v3 + (kI 1)))], [], SH, w)) rfl ?_
        exact H
      · skip
        rw [if_neg h3] at H
        refine EV.steps cl_102 3 (q2 := (27, [some (.ref 94), some (.int v1), some (.int v2), some (.int v3)], [.int v3, .ref 94, .int v2], SH, w)) rfl ?_
        obtain ⟨j4, H⟩ := H
        refine EV.iaload cl_102 rfl rfl (by decide) j4 ?_
        refine EV.steps cl_102 4 (q2 := (4, [some (.ref 94), some (.int v1), some (.int (v2 + (w 94 v3.toNatClampNeg))), some (.int (v3 + (kI 1)))], [], SH, w)) rfl ?_
        exact H
theorem t104_1_at0 {X : Scr} {d : Nat} {Q : Wd → Prop} (w : Wd) (v1 : Int32)
    (H : EU X (d + 1) 104 (3, [some (.ref 1), some (.int v1), some (.int (kI 24))], [], SH, w) Q) : EU X (d + 1) 104 (0, [some (.ref 1), some (.int v1), none], [], SH, w) Q := by
  unfold EU
  refine EV.steps cl_104 2 (q2 := (3, [some (.ref 1), some (.int v1), some (.int (kI 24))], [], SH, w)) rfl ?_
  exact H
theorem t104_1_at3 {X : Scr} {d : Nat} {Q : Wd → Prop} (w : Wd) (v1 : Int32) (v2 : Int32)
    (H : (if v2 < 0 then Q w else (if (kI 260) ≤ (w 1 1) then Q w else (inB (w 1 1) 260 = true ∧ EU X (d + 1) 104 (3, [some (.ref 1), some (.int v1), some (.int (v2 + (kI (-8))))], [], SH, (up2 (up2 w 2 (w 1 1).toNatClampNeg ((v1 >>> (v2 &&& 31)) &&& (kI 255))) 1 1 ((w 1 1) + (kI 1)))) Q)))) : EU X (d + 1) 104 (3, [some (.ref 1), some (.int v1), some (.int v2)], [], SH, w) Q := by
  unfold EU
  refine EV.steps cl_104 1 (q2 := (4, [some (.ref 1), some (.int v1), some (.int v2)], [.int v2], SH, w)) rfl ?_
  refine EV.z_lt cl_104 rfl (fun h1 => ?_) (fun h1 => ?_)
  · skip
    rw [if_pos h1] at H
    refine EV.ret cl_104 rfl rfl rfl ?_
    exact ⟨rfl, rfl, H⟩
  · skip
    rw [if_neg h1] at H
    refine EV.steps cl_104 3 (q2 := (14, [some (.ref 1), some (.int v1), some (.int v2)], [.int (kI 260), .int (w 1 1)], SH, w)) rfl ?_
    refine EV.i_ge cl_104 rfl (fun h2 => ?_) (fun h2 => ?_)
    · skip
      rw [if_pos h2] at H
      refine EV.ret cl_104 rfl rfl rfl ?_
      exact ⟨rfl, rfl, H⟩
    · skip
      rw [if_neg h2] at H
      refine EV.steps cl_104 9 (q2 := (32, [some (.ref 1), some (.int v1), some (.int v2)], [.int ((v1 >>> (v2 &&& 31)) &&& (kI 255)), .int (w 1 1), .ref 2], SH, w)) rfl ?_
      obtain ⟨j3, H⟩ := H
      refine EV.iastore cl_104 rfl rfl (by decide) j3 ?_
      refine EV.steps cl_104 8 (q2 := (3, [some (.ref 1), some (.int v1), some (.int (v2 + (kI (-8))))], [], SH, (up2 (up2 w 2 (w 1 1).toNatClampNeg ((v1 >>> (v2 &&& 31)) &&& (kI 255))) 1 1 ((w 1 1) + (kI 1))))) rfl ?_
      exact H
theorem t114_1_at0 {X : Scr} {d : Nat} {Q : Int32 → Wd → Prop} (w : Wd) (v1 : Int32)
    (H : (((¬ (w 1 2) ≤ (w 1 3) → (¬ (w 1 1) ≤ (w 1 3) → (inB (w 1 3) 260 = true)))) ∧ (if (F_111_1 w) = 0 then Q (kI (-1)) (G_115_1 (kI 1) w) else EI X (d + 3) 114 (19, [some (.ref 1), some (.int v1), some (.int (kI 0)), some (.int (kI 0))], [], SH, w) Q))) : EI X (d + 3) 114 (0, [some (.ref 1), some (.int v1), none, none], [], SH, w) Q := by
  unfold EI
  refine EV.steps cl_114 1 (q2 := (1, [some (.ref 1), some (.int v1), none, none], [.ref 1], SH, w)) rfl ?_
  obtain ⟨j1, H⟩ := H
  refine EV.callF (kc := 111) (av := [.ref 1]) (r := []) (rv := some (.int (F_111_1 w))) (w2 := w) cl_114 rfl rfl rfl (m_111_1 w  j1) ?_
  refine EV.z_ne cl_114 rfl (fun h2 => ?_) (fun h2 => ?_)
  · skip
    rw [if_neg h2] at H
    refine EV.steps cl_114 4 (q2 := (19, [some (.ref 1), some (.int v1), some (.int (kI 0)), some (.int (kI 0))], [], SH, w)) rfl ?_
    exact H
  · skip
    rw [if_pos h2] at H
    refine EV.steps cl_114 2 (q2 := (9, [some (.ref 1), some (.int v1), none, none], [.int (kI 1), .ref 1], SH, w)) rfl ?_
    refine EV.callF (kc := 115) (av := [.ref 1, .int (kI 1)]) (r := []) (rv := some (.int (F_115_1 (kI 1) w))) (w2 := (G_115_1 (kI 1) w)) cl_114 rfl rfl rfl (m_115_1 w (kI 1)) ?_
    refine EV.steps cl_114 2 (q2 := (14, [some (.ref 1), some (.int v1), none, none], [.int (kI (-1))], SH, (G_115_1 (kI 1) w))) rfl ?_
    refine EV.ret cl_114 rfl rfl rfl ?_
    exact ⟨_, rfl, rfl, H⟩
theorem t114_1_at19 {X : Scr} {d : Nat} {Q : Int32 → Wd → Prop} (w : Wd) (v1 : Int32) (v2 : Int32) (v3 : Int32)
    (H : (if v1 ≤ v3 then (((¬ (w 1 2) ≤ (w 1 3) → (¬ (w 1 1) ≤ (w 1 3) → (inB (w 1 3) 260 = true)))) ∧ (if (F_111_1 w) = 0 then Q v2 w else Q (kI (-1)) (G_115_1 (kI 2) w))) else (((¬ (w 1 2) ≤ (w 1 3) → (¬ (w 1 1) ≤ (w 1 3) → (inB (w 1 3) 260 = true)))) ∧ (if (F_111_1 w) = 0 then (((¬ (w 1 2) ≤ (w 1 3) → (¬ (w 1 1) ≤ (w 1 3) → (inB (w 1 3) 260 = true)))) ∧ Q v2 w) else ((¬ (w 1 2) ≤ (w 1 3) → (¬ (w 1 1) ≤ (w 1 3) → (inB (w 1 3) 260 = true))) ∧ EI X (d + 3) 114 (19, [some (.ref 1), some (.int v1), some (.int (((v2 * (kI 10)) + (F_110_1 w)) - (kI 48))), some (.int (v3 + (kI 1)))], [], SH, (up2 w 1 3 ((w 1 3) + (kI 1)))) Q))))) : EI X (d + 3) 114 (19, [some (.ref 1), some (.int v1), some (.int v2), some (.int v3)], [], SH, w) Q := by
  unfold EI
  refine EV.steps cl_114 2 (q2 := (21, [some (.ref 1), some (.int v1), some (.int v2), some (.int v3)], [.int v1, .int v3], SH, w)) rfl ?_
  refine EV.i_ge cl_114 rfl (fun h1 => ?_) (fun h1 => ?_)
  · skip
    rw [if_pos h1] at H
    refine EV.steps cl_114 1 (q2 := (61, [some (.ref 1), some (.int v1), some (.int v2), some (.int v3)], [.ref 1], SH, w)) rfl ?_
    obtain ⟨j2, H⟩ := H
    refine EV.callF (kc := 111) (av := [.ref 1]) (r := []) (rv := some (.int (F_111_1 w))) (w2 := w) cl_114 rfl rfl rfl (m_111_1 w  j2) ?_
    refine EV.z_eq cl_114 rfl (fun h3 => ?_) (fun h3 => ?_)
    · skip
      rw [if_pos h3] at H
      refine EV.steps cl_114 1 (q2 := (76, [some (.ref 1), some (.int v1), some (.int v2), some (.int v3)], [.int v2], SH, w)) rfl ?_
      refine EV.ret cl_114 rfl rfl rfl ?_
      exact ⟨_, rfl, rfl, H⟩
    · skip
      rw [if_neg h3] at H
      refine EV.steps cl_114 2 (q2 := (69, [some (.ref 1), some (.int v1), some (.int v2), some (.int v3)], [.int (kI 2), .ref 1], SH, w)) rfl ?_
      refine EV.callF (kc := 115) (av := [.ref 1, .int (kI 2)]) (r := []) (rv := some (.int (F_115_1 (kI 2) w))) (w2 := (G_115_1 (kI 2) w)) cl_114 rfl rfl rfl (m_115_1 w (kI 2)) ?_
      refine EV.steps cl_114 2 (q2 := (74, [some (.ref 1), some (.int v1), some (.int v2), some (.int v3)], [.int (kI (-1))], SH, (G_115_1 (kI 2) w))) rfl ?_
      refine EV.ret cl_114 rfl rfl rfl ?_
      exact ⟨_, rfl, rfl, H⟩
  · skip
    rw [if_neg h1] at H
    refine EV.steps cl_114 1 (q2 := (25, [some (.ref 1), some (.int v1), some (.int v2), some (.int v3)], [.ref 1], SH, w)) rfl ?_
    obtain ⟨j4, H⟩ := H
    refine EV.callF (kc := 111) (av := [.ref 1]) (r := []) (rv := some (.int (F_111_1 w))) (w2 := w) cl_114 rfl rfl rfl (m_111_1 w  j4) ?_
    refine EV.z_eq cl_114 rfl (fun h5 => ?_) (fun h5 => ?_)
    · skip
      rw [if_pos h5] at H
      refine EV.steps cl_114 1 (q2 := (61, [some (.ref 1), some (.int v1), some (.int v2), some (.int v3)], [.ref 1], SH, w)) rfl ?_
      obtain ⟨j6, H⟩ := H
      refine EV.callF (kc := 111) (av := [.ref 1]) (r := []) (rv := some (.int (F_111_1 w))) (w2 := w) cl_114 rfl rfl rfl (m_111_1 w  j6) ?_
      refine EV.z_eq cl_114 rfl (fun h7 => ?_) (fun h7 => ?_)
      · skip
        refine EV.steps cl_114 1 (q2 := (76, [some (.ref 1), some (.int v1), some (.int v2), some (.int v3)], [.int v2], SH, w)) rfl ?_
        refine EV.ret cl_114 rfl rfl rfl ?_
        exact ⟨_, rfl, rfl, H⟩
      · skip
        exact absurd h5 h7
    · skip
      rw [if_neg h5] at H
      refine EV.steps cl_114 4 (q2 := (36, [some (.ref 1), some (.int v1), some (.int v2), some (.int v3)], [.ref 1, .int (v2 * (kI 10))], SH, w)) rfl ?_
      obtain ⟨j8, H⟩ := H
      refine EV.callF (kc := 110) (av := [.ref 1]) (r := [.int (v2 * (kI 10))]) (rv := some (.int (F_110_1 w))) (w2 := w) cl_114 rfl rfl rfl (m_110_1 w  j8) ?_
      refine EV.steps cl_114 12 (q2 := (19, [some (.ref 1), some (.int v1), some (.int (((v2 * (kI 10)) + (F_110_1 w)) - (kI 48))), some (.int (v3 + (kI 1)))], [], SH, (up2 w 1 3 ((w 1 3) + (kI 1))))) rfl ?_
      exact H
theorem t121_0_at0 {X : Scr} {d : Nat} {Q : Int32 → Wd → Prop} (w : Wd) (v1 : Int32) (v2 : Int32) (v3 : Int32) (v4 : Int32) (v5 : Int32)
    (H : (if (w 1 1) ≤ (kI 240) then CU X (d + 1) 104 [.ref 1, .int v1] w (fun w1 => CU X (d + 1) 104 [.ref 1, .int v2] w1 (fun w2 => CU X (d + 1) 104 [.ref 1, .int v3] w2 (fun w3 => CU X (d + 1) 104 [.ref 1, .int v4] w3 (fun w4 => CU X (d + 1) 104 [.ref 1, .int v5] w4 (fun w5 => Q (w5 1 1) w5))))) else Q (kI (-1)) w)) : EI X (d + 1) 121 (0, [some (.ref 0), some (.int v1), some (.int v2), some (.int v3), some (.int v4), some (.int v5)], [], SH, w) Q := by
  unfold EI
  refine EV.steps cl_121 4 (q2 := (10, [some (.ref 0), some (.int v1), some (.int v2), some (.int v3), some (.int v4), some (.int v5)], [.int (kI 240), .int (w 1 1)], SH, w)) rfl ?_
  refine EV.i_le cl_121 rfl (fun h1 => ?_) (fun h1 => ?_)
  · skip
    rw [if_pos h1] at H
    refine EV.steps cl_121 3 (q2 := (20, [some (.ref 0), some (.int v1), some (.int v2), some (.int v3), some (.int v4), some (.int v5)], [.int v1, .ref 1], SH, w)) rfl ?_
    refine EV.call (kc := 104) (av := [.ref 1, .int v1]) (r := []) cl_121 rfl rfl rfl H ?_
    clear H; intro y1 s1 w1 e1
    obtain ⟨rfl, rfl, H⟩ := e1
    refine EV.steps cl_121 3 (q2 := (28, [some (.ref 0), some (.int v1), some (.int v2), some (.int v3), some (.int v4), some (.int v5)], [.int v2, .ref 1], SH, w1)) rfl ?_
    refine EV.call (kc := 104) (av := [.ref 1, .int v2]) (r := []) cl_121 rfl rfl rfl H ?_
    clear H; intro y2 s2 w2 e2
    obtain ⟨rfl, rfl, H⟩ := e2
    refine EV.steps cl_121 3 (q2 := (36, [some (.ref 0), some (.int v1), some (.int v2), some (.int v3), some (.int v4), some (.int v5)], [.int v3, .ref 1], SH, w2)) rfl ?_
    refine EV.call (kc := 104) (av := [.ref 1, .int v3]) (r := []) cl_121 rfl rfl rfl H ?_
    clear H; intro y3 s3 w3 e3
    obtain ⟨rfl, rfl, H⟩ := e3
    refine EV.steps cl_121 3 (q2 := (45, [some (.ref 0), some (.int v1), some (.int v2), some (.int v3), some (.int v4), some (.int v5)], [.int v4, .ref 1], SH, w3)) rfl ?_
    refine EV.call (kc := 104) (av := [.ref 1, .int v4]) (r := []) cl_121 rfl rfl rfl H ?_
    clear H; intro y4 s4 w4 e4
    obtain ⟨rfl, rfl, H⟩ := e4
    refine EV.steps cl_121 3 (q2 := (54, [some (.ref 0), some (.int v1), some (.int v2), some (.int v3), some (.int v4), some (.int v5)], [.int v5, .ref 1], SH, w4)) rfl ?_
    refine EV.call (kc := 104) (av := [.ref 1, .int v5]) (r := []) cl_121 rfl rfl rfl H ?_
    clear H; intro y5 s5 w5 e5
    obtain ⟨rfl, rfl, H⟩ := e5
    refine EV.steps cl_121 3 (q2 := (64, [some (.ref 0), some (.int v1), some (.int v2), some (.int v3), some (.int v4), some (.int v5)], [.int (w5 1 1)], SH, w5)) rfl ?_
    refine EV.ret cl_121 rfl rfl rfl ?_
    exact ⟨_, rfl, rfl, H⟩
  · skip
    rw [if_neg h1] at H
    refine EV.steps cl_121 1 (q2 := (14, [some (.ref 0), some (.int v1), some (.int v2), some (.int v3), some (.int v4), some (.int v5)], [.int (kI (-1))], SH, w)) rfl ?_
    refine EV.ret cl_121 rfl rfl rfl ?_
    exact ⟨_, rfl, rfl, H⟩
theorem t122_0_at0 {X : Scr} {d : Nat} {Q : Int32 → Wd → Prop} (w : Wd) (v1 : Int32)
    (H : (if (F_105_1 v1 (kI 1) (kI 240) w) = 0 then Q (kI (-1)) w else CI X (d + 2) 62 [.ref 79, .int v1] w (fun x1 w1 => (if 0 ≤ x1 then (((¬ ((if (Int32.ofNat 240) < (w1 29 6) then (Int32.ofNat 240) else (w1 29 6)) < 0 ∨ (kI 0) < 0 ∨ (kI 0) < 0 ∨ 240 < (kI 0).toNatClampNeg + (if (Int32.ofNat 240) < (w1 29 6) then (Int32.ofNat 240) else (w1 29 6)).toNatClampNeg ∨ 240 < (kI 0).toNatClampNeg + (if (Int32.ofNat 240) < (w1 29 6) then (Int32.ofNat 240) else (w1 29 6)).toNatClampNeg))) ∧ (((¬ (((cp2 (up2 (up2 w1 22 6 (if (Int32.ofNat 240) < (w1 29 6) then (Int32.ofNat 240) else (w1 29 6))) 22 7 (if (Int32.ofNat 16) < (w1 29 7) then (Int32.ofNat 16) else (w1 29 7))) 30 23 (kI 0).toNatClampNeg (kI 0).toNatClampNeg (if (Int32.ofNat 240) < (w1 29 6) then (Int32.ofNat 240) else (w1 29 6)).toNatClampNeg) 22 6) < 0 ∨ (kI 0) < 0 ∨ (kI 0) < 0 ∨ 240 < (kI 0).toNatClampNeg + ((cp2 (up2 (up2 w1 22 6 (if (Int32.ofNat 240) < (w1 29 6) then (Int32.ofNat 240) else (w1 29 6))) 22 7 (if (Int32.ofNat 16) < (w1 29 7) then (Int32.ofNat 16) else (w1 29 7))) 30 23 (kI 0).toNatClampNeg (kI 0).toNatClampNeg (if (Int32.ofNat 240) < (w1 29 6) then (Int32.ofNat 240) else (w1 29 6)).toNatClampNeg) 22 6).toNatClampNeg ∨ 240 < (kI 0).toNatClampNeg + ((cp2 (up2 (up2 w1 22 6 (if (Int32.ofNat 240) < (w1 29 6) then (Int32.ofNat 240) else (w1 29 6))) 22 7 (if (Int32.ofNat 16) < (w1 29 7) then (Int32.ofNat 16) else (w1 29 7))) 30 23 (kI 0).toNatClampNeg (kI 0).toNatClampNeg (if (Int32.ofNat 240) < (w1 29 6) then (Int32.ofNat 240) else (w1 29 6)).toNatClampNeg) 22 6).toNatClampNeg))) ∧ (((¬ (((cp2 (cp2 (up2 (up2 w1 22 6 (if (Int32.ofNat 240) < (w1 29 6) then (Int32.ofNat 240) else (w1 29 6))) 22 7 (if (Int32.ofNat 16) < (w1 29 7) then (Int32.ofNat 16) else (w1 29 7))) 30 23 (kI 0).toNatClampNeg (kI 0).toNatClampNeg (if (Int32.ofNat 240) < (w1 29 6) then (Int32.ofNat 240) else (w1 29 6)).toNatClampNeg) 31 24 (kI 0).toNatClampNeg (kI 0).toNatClampNeg ((cp2 (up2 (up2 w1 22 6 (if (Int32.ofNat 240) < (w1 29 6) then (Int32.ofNat 240) else (w1 29 6))) 22 7 (if (Int32.ofNat 16) < (w1 29 7) then (Int32.ofNat 16) else (w1 29 7))) 30 23 (kI 0).toNatClampNeg (kI 0).toNatClampNeg (if (Int32.ofNat 240) < (w1 29 6) then (Int32.ofNat 240) else (w1 29 6)).toNatClampNeg) 22 6).toNatClampNeg) 22 7) < 0 ∨ (kI 0) < 0 ∨ (kI 0) < 0 ∨ 16 < (kI 0).toNatClampNeg + ((cp2 (cp2 (up2 (up2 w1 22 6 (if (Int32.ofNat 240) < (w1 29 6) then (Int32.ofNat 240) else (w1 29 6))) 22 7 (if (Int32.ofNat 16) < (w1 29 7) then (Int32.ofNat 16) else (w1 29 7))) 30 23 (kI 0).toNatClampNeg (kI 0).toNatClampNeg (if (Int32.ofNat 240) < (w1 29 6) then (Int32.ofNat 240) else (w1 29 6)).toNatClampNeg) 31 24 (kI 0).toNatClampNeg (kI 0).toNatClampNeg ((cp2 (up2 (up2 w1 22 6 (if (Int32.ofNat 240) < (w1 29 6) then (Int32.ofNat 240) else (w1 29 6))) 22 7 (if (Int32.ofNat 16) < (w1 29 7) then (Int32.ofNat 16) else (w1 29 7))) 30 23 (kI 0).toNatClampNeg (kI 0).toNatClampNeg (if (Int32.ofNat 240) < (w1 29 6) then (Int32.ofNat 240) else (w1 29 6)).toNatClampNeg) 22 6).toNatClampNeg) 22 7).toNatClampNeg ∨ 16 < (kI 0).toNatClampNeg + ((cp2 (cp2 (up2 (up2 w1 22 6 (if (Int32.ofNat 240) < (w1 29 6) then (Int32.ofNat 240) else (w1 29 6))) 22 7 (if (Int32.ofNat 16) < (w1 29 7) then (Int32.ofNat 16) else (w1 29 7))) 30 23 (kI 0).toNatClampNeg (kI 0).toNatClampNeg (if (Int32.ofNat 240) < (w1 29 6) then (Int32.ofNat 240) else (w1 29 6)).toNatClampNeg) 31 24 (kI 0).toNatClampNeg (kI 0).toNatClampNeg ((cp2 (up2 (up2 w1 22 6 (if (Int32.ofNat 240) < (w1 29 6) then (Int32.ofNat 240) else (w1 29 6))) 22 7 (if (Int32.ofNat 16) < (w1 29 7) then (Int32.ofNat 16) else (w1 29 7))) 30 23 (kI 0).toNatClampNeg (kI 0).toNatClampNeg (if (Int32.ofNat 240) < (w1 29 6) then (Int32.ofNat 240) else (w1 29 6)).toNatClampNeg) 22 6).toNatClampNeg) 22 7).toNatClampNeg))) ∧ (((¬ (((cp2 (cp2 (cp2 (up2 (up2 w1 22 6 (if (Int32.ofNat 240) < (w1 29 6) then (Int32.ofNat 240) else (w1 29 6))) 22 7 (if (Int32.ofNat 16) < (w1 29 7) then (Int32.ofNat 16) else (w1 29 7))) 30 23 (kI 0).toNatClampNeg (kI 0).toNatClampNeg (if (Int32.ofNat 240) < (w1 29 6) then (Int32.ofNat 240) else (w1 29 6)).toNatClampNeg) 31 24 (kI 0).toNatClampNeg (kI 0).toNatClampNeg ((cp2 (up2 (up2 w1 22 6 (if (Int32.ofNat 240) < (w1 29 6) then (Int32.ofNat 240) else (w1 29 6))) 22 7 (if (Int32.ofNat 16) < (w1 29 7) then (Int32.ofNat 16) else (w1 29 7))) 30 23 (kI 0).toNatClampNeg (kI 0).toNatClampNeg (if (Int32.ofNat 240) < (w1 29 6) then (Int32.ofNat 240) else (w1 29 6)).toNatClampNeg) 22 6).toNatClampNeg) 32 25 (kI 0).toNatClampNeg (kI 0).toNatClampNeg ((cp2 (cp2 (up2 (up2 w1 22 6 (if (Int32.ofNat 240) < (w1 29 6) then (Int32.ofNat 240) else (w1 29 6))) 22 7 (if (Int32.ofNat 16) < (w1 29 7) then (Int32.ofNat 16) else (w1 29 7))) 30 23 (kI 0).toNatClampNeg (kI 0).toNatClampNeg (if (Int32.ofNat 240) < (w1 29 6) then (Int32.ofNat 240) else (w1 29 6)).toNatClampNeg) 31 24 (kI 0).toNatClampNeg (kI 0).toNatClampNeg ((cp2 (up2 (up2 w1 22 6 (if (Int32.ofNat 240) < (w1 29 6) then (Int32.ofNat 240) else (w1 29 6))) 22 7 (if (Int32.ofNat 16) < (w1 29 7) then (Int32.ofNat 16) else (w1 29 7))) 30 23 (kI 0).toNatClampNeg (kI 0).toNatClampNeg (if (Int32.ofNat 240) < (w1 29 6) then (Int32.ofNat 240) else (w1 29 6)).toNatClampNeg) 22 6).toNatClampNeg) 22 7).toNatClampNeg) 22 7) < 0 ∨ (kI 0) < 0 ∨ (kI 0) < 0 ∨ 16 < (kI 0).toNatClampNeg + ((cp2 (cp2 (cp2 (up2 (up2 w1 22 6 (if (Int32.ofNat 240) < (w1 29 6) then (Int32.ofNat 240) else (w1 29 6))) 22 7 (if (Int32.ofNat 16) < (w1 29 7) then (Int32.ofNat 16) else (w1 29 7))) 30 23 (kI 0).toNatClampNeg (kI 0).toNatClampNeg (if (Int32.ofNat 240) < (w1 29 6) then (Int32.ofNat 240) else (w1 29 6)).toNatClampNeg) 31 24 (kI 0).toNatClampNeg (kI 0).toNatClampNeg ((cp2 (up2 (up2 w1 22 6 (if (Int32.ofNat 240) < (w1 29 6) then (Int32.ofNat 240) else (w1 29 6))) 22 7 (if (Int32.ofNat 16) < (w1 29 7) then (Int32.ofNat 16) else (w1 29 7))) 30 23 (kI 0).toNatClampNeg (kI 0).toNatClampNeg (if (Int32.ofNat 240) < (w1 29 6) then (Int32.ofNat 240) else (w1 29 6)).toNatClampNeg) 22 6).toNatClampNeg) 32 25 (kI 0).toNatClampNeg (kI 0).toNatClampNeg ((cp2 (cp2 (up2 (up2 w1 22 6 (if (Int32.ofNat 240) < (w1 29 6) then (Int32.ofNat 240) else (w1 29 6))) 22 7 (if (Int32.ofNat 16) < (w1 29 7) then (Int32.ofNat 16) else (w1 29 7))) 30 23 (kI 0).toNatClampNeg (kI 0).toNatClampNeg (if (Int32.ofNat 240) < (w1 29 6) then (Int32.ofNat 240) else (w1 29 6)).toNatClampNeg) 31 24 (kI 0).toNatClampNeg (kI 0).toNatClampNeg ((cp2 (up2 (up2 w1 22 6 (if (Int32.ofNat 240) < (w1 29 6) then (Int32.ofNat 240) else (w1 29 6))) 22 7 (if (Int32.ofNat 16) < (w1 29 7) then (Int32.ofNat 16) else (w1 29 7))) 30 23 (kI 0).toNatClampNeg (kI 0).toNatClampNeg (if (Int32.ofNat 240) < (w1 29 6) then (Int32.ofNat 240) else (w1 29 6)).toNatClampNeg) 22 6).toNatClampNeg) 22 7).toNatClampNeg) 22 7).toNatClampNeg ∨ 16 < (kI 0).toNatClampNeg + ((cp2 (cp2 (cp2 (up2 (up2 w1 22 6 (if (Int32.ofNat 240) < (w1 29 6) then (Int32.ofNat 240) else (w1 29 6))) 22 7 (if (Int32.ofNat 16) < (w1 29 7) then (Int32.ofNat 16) else (w1 29 7))) 30 23 (kI 0).toNatClampNeg (kI 0).toNatClampNeg (if (Int32.ofNat 240) < (w1 29 6) then (Int32.ofNat 240) else (w1 29 6)).toNatClampNeg) 31 24 (kI 0).toNatClampNeg (kI 0).toNatClampNeg ((cp2 (up2 (up2 w1 22 6 (if (Int32.ofNat 240) < (w1 29 6) then (Int32.ofNat 240) else (w1 29 6))) 22 7 (if (Int32.ofNat 16) < (w1 29 7) then (Int32.ofNat 16) else (w1 29 7))) 30 23 (kI 0).toNatClampNeg (kI 0).toNatClampNeg (if (Int32.ofNat 240) < (w1 29 6) then (Int32.ofNat 240) else (w1 29 6)).toNatClampNeg) 22 6).toNatClampNeg) 32 25 (kI 0).toNatClampNeg (kI 0).toNatClampNeg ((cp2 (cp2 (up2 (up2 w1 22 6 (if (Int32.ofNat 240) < (w1 29 6) then (Int32.ofNat 240) else (w1 29 6))) 22 7 (if (Int32.ofNat 16) < (w1 29 7) then (Int32.ofNat 16) else (w1 29 7))) 30 23 (kI 0).toNatClampNeg (kI 0).toNatClampNeg (if (Int32.ofNat 240) < (w1 29 6) then (Int32.ofNat 240) else (w1 29 6)).toNatClampNeg) 31 24 (kI 0).toNatClampNeg (kI 0).toNatClampNeg ((cp2 (up2 (up2 w1 22 6 (if (Int32.ofNat 240) < (w1 29 6) then (Int32.ofNat 240) else (w1 29 6))) 22 7 (if (Int32.ofNat 16) < (w1 29 7) then (Int32.ofNat 16) else (w1 29 7))) 30 23 (kI 0).toNatClampNeg (kI 0).toNatClampNeg (if (Int32.ofNat 240) < (w1 29 6) then (Int32.ofNat 240) else (w1 29 6)).toNatClampNeg) 22 6).toNatClampNeg) 22 7).toNatClampNeg) 22 7).toNatClampNeg))) ∧ (((¬ (((cp2 (cp2 (cp2 (cp2 (up2 (up2 w1 22 6 (if (Int32.ofNat 240) < (w1 29 6) then (Int32.ofNat 240) else (w1 29 6))) 22 7 (if (Int32.ofNat 16) < (w1 29 7) then (Int32.ofNat 16) else (w1 29 7))) 30 23 (kI 0).toNatClampNeg (kI 0).toNatClampNeg (if (Int32.ofNat 240) < (w1 29 6) then (Int32.ofNat 240) else (w1 29 6)).toNatClampNeg) 31 24 (kI 0).toNatClampNeg (kI 0).toNatClampNeg ((cp2 (up2 (up2 w1 22 6 (if (Int32.ofNat 240) < (w1 29 6) then (Int32.ofNat 240) else (w1 29 6))) 22 7 (if (Int32.ofNat 16) < (w1 29 7) then (Int32.ofNat 16) else (w1 29 7))) 30 23 (kI 0).toNatClampNeg (kI 0).toNatClampNeg (if (Int32.ofNat 240) < (w1 29 6) then (Int32.ofNat 240) else (w1 29 6)).toNatClampNeg) 22 6).toNatClampNeg) 32 25 (kI 0).toNatClampNeg (kI 0).toNatClampNeg ((cp2 (cp2 (up2 (up2 w1 22 6 (if (Int32.ofNat 240) < (w1 29 6) then (Int32.ofNat 240) else (w1 29 6))) 22 7 (if (Int32.ofNat 16) < (w1 29 7) then (Int32.ofNat 16) else (w1 29 7))) 30 23 (kI 0).toNatClampNeg (kI 0).toNatClampNeg (if (Int32.ofNat 240) < (w1 29 6) then (Int32.ofNat 240) else (w1 29 6)).toNatClampNeg) 31 24 (kI 0).toNatClampNeg (kI 0).toNatClampNeg ((cp2 (up2 (up2 w1 22 6 (if (Int32.ofNat 240) < (w1 29 6) then (Int32.ofNat 240) else (w1 29 6))) 22 7 (if (Int32.ofNat 16) < (w1 29 7) then (Int32.ofNat 16) else (w1 29 7))) 30 23 (kI 0).toNatClampNeg (kI 0).toNatClampNeg (if (Int32.ofNat 240) < (w1 29 6) then (Int32.ofNat 240) else (w1 29 6)).toNatClampNeg) 22 6).toNatClampNeg) 22 7).toNatClampNeg) 33 26 (kI 0).toNatClampNeg (kI 0).toNatClampNeg ((cp2 (cp2 (cp2 (up2 (up2 w1 22 6 (if (Int32.ofNat 240) < (w1 29 6) then (Int32.ofNat 240) else (w1 29 6))) 22 7 (if (Int32.ofNat 16) < (w1 29 7) then (Int32.ofNat 16) else (w1 29 7))) 30 23 (kI 0).toNatClampNeg (kI 0).toNatClampNeg (if (Int32.ofNat 240) < (w1 29 6) then (Int32.ofNat 240) else (w1 29 6)).toNatClampNeg) 31 24 (kI 0).toNatClampNeg (kI 0).toNatClampNeg ((cp2 (up2 (up2 w1 22 6 (if (Int32.ofNat 240) < (w1 29 6) then (Int32.ofNat 240) else (w1 29 6))) 22 7 (if (Int32.ofNat 16) < (w1 29 7) then (Int32.ofNat 16) else (w1 29 7))) 30 23 (kI 0).toNatClampNeg (kI 0).toNatClampNeg (if (Int32.ofNat 240) < (w1 29 6) then (Int32.ofNat 240) else (w1 29 6)).toNatClampNeg) 22 6).toNatClampNeg) 32 25 (kI 0).toNatClampNeg (kI 0).toNatClampNeg ((cp2 (cp2 (up2 (up2 w1 22 6 (if (Int32.ofNat 240) < (w1 29 6) then (Int32.ofNat 240) else (w1 29 6))) 22 7 (if (Int32.ofNat 16) < (w1 29 7) then (Int32.ofNat 16) else (w1 29 7))) 30 23 (kI 0).toNatClampNeg (kI 0).toNatClampNeg (if (Int32.ofNat 240) < (w1 29 6) then (Int32.ofNat 240) else (w1 29 6)).toNatClampNeg) 31 24 (kI 0).toNatClampNeg (kI 0).toNatClampNeg ((cp2 (up2 (up2 w1 22 6 (if (Int32.ofNat 240) < (w1 29 6) then (Int32.ofNat 240) else (w1 29 6))) 22 7 (if (Int32.ofNat 16) < (w1 29 7) then (Int32.ofNat 16) else (w1 29 7))) 30 23 (kI 0).toNatClampNeg (kI 0).toNatClampNeg (if (Int32.ofNat 240) < (w1 29 6) then (Int32.ofNat 240) else (w1 29 6)).toNatClampNeg) 22 6).toNatClampNeg) 22 7).toNatClampNeg) 22 7).toNatClampNeg) 22 7) < 0 ∨ (kI 0) < 0 ∨ (kI 0) < 0 ∨ 16 < (kI 0).toNatClampNeg + ((cp2 (cp2 (cp2 (cp2 (up2 (up2 w1 22 6 (if (Int32.ofNat 240) < (w1 29 6) then (Int32.ofNat 240) else (w1 29 6))) 22 7 (if (Int32.ofNat 16) < (w1 29 7) then (Int32.ofNat 16) else (w1 29 7))) 30 23 (kI 0).toNatClampNeg (kI 0).toNatClampNeg (if (Int32.ofNat 240) < (w1 29 6) then (Int32.ofNat 240) else (w1 29 6)).toNatClampNeg) 31 24 (kI 0).toNatClampNeg (kI 0).toNatClampNeg ((cp2 (up2 (up2 w1 22 6 (if (Int32.ofNat 240) < (w1 29 6) then (Int32.ofNat 240) else (w1 29 6))) 22 7 (if (Int32.ofNat 16) < (w1 29 7) then (Int32.ofNat 16) else (w1 29 7))) 30 23 (kI 0).toNatClampNeg (kI 0).toNatClampNeg (if (Int32.ofNat 240) < (w1 29 6) then (Int32.ofNat 240) else (w1 29 6)).toNatClampNeg) 22 6).toNatClampNeg) 32 25 (kI 0).toNatClampNeg (kI 0).toNatClampNeg ((cp2 (cp2 (up2 (up2 w1 22 6 (if (Int32.ofNat 240) < (w1 29 6) then (Int32.ofNat 240) else (w1 29 6))) 22 7 (if (Int32.ofNat 16) < (w1 29 7) then (Int32.ofNat 16) else (w1 29 7))) 30 23 (kI 0).toNatClampNeg (kI 0).toNatClampNeg (if (Int32.ofNat 240) < (w1 29 6) then (Int32.ofNat 240) else (w1 29 6)).toNatClampNeg) 31 24 (kI 0).toNatClampNeg (kI 0).toNatClampNeg ((cp2 (up2 (up2 w1 22 6 (if (Int32.ofNat 240) < (w1 29 6) then (Int32.ofNat 240) else (w1 29 6))) 22 7 (if (Int32.ofNat 16) < (w1 29 7) then (Int32.ofNat 16) else (w1 29 7))) 30 23 (kI 0).toNatClampNeg (kI 0).toNatClampNeg (if (Int32.ofNat 240) < (w1 29 6) then (Int32.ofNat 240) else (w1 29 6)).toNatClampNeg) 22 6).toNatClampNeg) 22 7).toNatClampNeg) 33 26 (kI 0).toNatClampNeg (kI 0).toNatClampNeg ((cp2 (cp2 (cp2 (up2 (up2 w1 22 6 (if (Int32.ofNat 240) < (w1 29 6) then (Int32.ofNat 240) else (w1 29 6))) 22 7 (if (Int32.ofNat 16) < (w1 29 7) then (Int32.ofNat 16) else (w1 29 7))) 30 23 (kI 0).toNatClampNeg (kI 0).toNatClampNeg (if (Int32.ofNat 240) < (w1 29 6) then (Int32.ofNat 240) else (w1 29 6)).toNatClampNeg) 31 24 (kI 0).toNatClampNeg (kI 0).toNatClampNeg ((cp2 (up2 (up2 w1 22 6 (if (Int32.ofNat 240) < (w1 29 6) then (Int32.ofNat 240) else (w1 29 6))) 22 7 (if (Int32.ofNat 16) < (w1 29 7) then (Int32.ofNat 16) else (w1 29 7))) 30 23 (kI 0).toNatClampNeg (kI 0).toNatClampNeg (if (Int32.ofNat 240) < (w1 29 6) then (Int32.ofNat 240) else (w1 29 6)).toNatClampNeg) 22 6).toNatClampNeg) 32 25 (kI 0).toNatClampNeg (kI 0).toNatClampNeg ((cp2 (cp2 (up2 (up2 w1 22 6 (if (Int32.ofNat 240) < (w1 29 6) then (Int32.ofNat 240) else (w1 29 6))) 22 7 (if (Int32.ofNat 16) < (w1 29 7) then (Int32.ofNat 16) else (w1 29 7))) 30 23 (kI 0).toNatClampNeg (kI 0).toNatClampNeg (if (Int32.ofNat 240) < (w1 29 6) then (Int32.ofNat 240) else (w1 29 6)).toNatClampNeg) 31 24 (kI 0).toNatClampNeg (kI 0).toNatClampNeg ((cp2 (up2 (up2 w1 22 6 (if (Int32.ofNat 240) < (w1 29 6) then (Int32.ofNat 240) else (w1 29 6))) 22 7 (if (Int32.ofNat 16) < (w1 29 7) then (Int32.ofNat 16) else (w1 29 7))) 30 23 (kI 0).toNatClampNeg (kI 0).toNatClampNeg (if (Int32.ofNat 240) < (w1 29 6) then (Int32.ofNat 240) else (w1 29 6)).toNatClampNeg) 22 6).toNatClampNeg) 22 7).toNatClampNeg) 22 7).toNatClampNeg) 22 7).toNatClampNeg ∨ 16 < (kI 0).toNatClampNeg + ((cp2 (cp2 (cp2 (cp2 (up2 (up2 w1 22 6 (if (Int32.ofNat 240) < (w1 29 6) then (Int32.ofNat 240) else (w1 29 6))) 22 7 (if (Int32.ofNat 16) < (w1 29 7) then (Int32.ofNat 16) else (w1 29 7))) 30 23 (kI 0).toNatClampNeg (kI 0).toNatClampNeg (if (Int32.ofNat 240) < (w1 29 6) then (Int32.ofNat 240) else (w1 29 6)).toNatClampNeg) 31 24 (kI 0).toNatClampNeg (kI 0).toNatClampNeg ((cp2 (up2 (up2 w1 22 6 (if (Int32.ofNat 240) < (w1 29 6) then (Int32.ofNat 240) else (w1 29 6))) 22 7 (if (Int32.ofNat 16) < (w1 29 7) then (Int32.ofNat 16) else (w1 29 7))) 30 23 (kI 0).toNatClampNeg (kI 0).toNatClampNeg (if (Int32.ofNat 240) < (w1 29 6) then (Int32.ofNat 240) else (w1 29 6)).toNatClampNeg) 22 6).toNatClampNeg) 32 25 (kI 0).toNatClampNeg (kI 0).toNatClampNeg ((cp2 (cp2 (up2 (up2 w1 22 6 (if (Int32.ofNat 240) < (w1 29 6) then (Int32.ofNat 240) else (w1 29 6))) 22 7 (if (Int32.ofNat 16) < (w1 29 7) then (Int32.ofNat 16) else (w1 29 7))) 30 23 (kI 0).toNatClampNeg (kI 0).toNatClampNeg (if (Int32.ofNat 240) < (w1 29 6) then (Int32.ofNat 240) else (w1 29 6)).toNatClampNeg) 31 24 (kI 0).toNatClampNeg (kI 0).toNatClampNeg ((cp2 (up2 (up2 w1 22 6 (if (Int32.ofNat 240) < (w1 29 6) then (Int32.ofNat 240) else (w1 29 6))) 22 7 (if (Int32.ofNat 16) < (w1 29 7) then (Int32.ofNat 16) else (w1 29 7))) 30 23 (kI 0).toNatClampNeg (kI 0).toNatClampNeg (if (Int32.ofNat 240) < (w1 29 6) then (Int32.ofNat 240) else (w1 29 6)).toNatClampNeg) 22 6).toNatClampNeg) 22 7).toNatClampNeg) 33 26 (kI 0).toNatClampNeg (kI 0).toNatClampNeg ((cp2 (cp2 (cp2 (up2 (up2 w1 22 6 (if (Int32.ofNat 240) < (w1 29 6) then (Int32.ofNat 240) else (w1 29 6))) 22 7 (if (Int32.ofNat 16) < (w1 29 7) then (Int32.ofNat 16) else (w1 29 7))) 30 23 (kI 0).toNatClampNeg (kI 0).toNatClampNeg (if (Int32.ofNat 240) < (w1 29 6) then (Int32.ofNat 240) else (w1 29 6)).toNatClampNeg) 31 24 (kI 0).toNatClampNeg (kI 0).toNatClampNeg ((cp2 (up2 (up2 w1 22 6 (if (Int32.ofNat 240) < (w1 29 6) then (Int32.ofNat 240) else (w1 29 6))) 22 7 (if (Int32.ofNat 16) < (w1 29 7) then (Int32.ofNat 16) else (w1 29 7))) 30 23 (kI 0).toNatClampNeg (kI 0).toNatClampNeg (if (Int32.ofNat 240) < (w1 29 6) then (Int32.ofNat 240) else (w1 29 6)).toNatClampNeg) 22 6).toNatClampNeg) 32 25 (kI 0).toNatClampNeg (kI 0).toNatClampNeg ((cp2 (cp2 (up2 (up2 w1 22 6 (if (Int32.ofNat 240) < (w1 29 6) then (Int32.ofNat 240) else (w1 29 6))) 22 7 (if (Int32.ofNat 16) < (w1 29 7) then (Int32.ofNat 16) else (w1 29 7))) 30 23 (kI 0).toNatClampNeg (kI 0).toNatClampNeg (if (Int32.ofNat 240) < (w1 29 6) then (Int32.ofNat 240) else (w1 29 6)).toNatClampNeg) 31 24 (kI 0).toNatClampNeg (kI 0).toNatClampNeg ((cp2 (up2 (up2 w1 22 6 (if (Int32.ofNat 240) < (w1 29 6) then (Int32.ofNat 240) else (w1 29 6))) 22 7 (if (Int32.ofNat 16) < (w1 29 7) then (Int32.ofNat 16) else (w1 29 7))) 30 23 (kI 0).toNatClampNeg (kI 0).toNatClampNeg (if (Int32.ofNat 240) < (w1 29 6) then (Int32.ofNat 240) else (w1 29 6)).toNatClampNeg) 22 6).toNatClampNeg) 22 7).toNatClampNeg) 22 7).toNatClampNeg) 22 7).toNatClampNeg))) ∧ (((¬ (((cp2 (cp2 (cp2 (cp2 (cp2 (up2 (up2 w1 22 6 (if (Int32.ofNat 240) < (w1 29 6) then (Int32.ofNat 240) else (w1 29 6))) 22 7 (if (Int32.ofNat 16) < (w1 29 7) then (Int32.ofNat 16) else (w1 29 7))) 30 23 (kI 0).toNatClampNeg (kI 0).toNatClampNeg (if (Int32.ofNat 240) < (w1 29 6) then (Int32.ofNat 240) else (w1 29 6)).toNatClampNeg) 31 24 (kI 0).toNatClampNeg (kI 0).toNatClampNeg ((cp2 (up2 (up2 w1 22 6 (if (Int32.ofNat 240) < (w1 29 6) then (Int32.ofNat 240) else (w1 29 6))) 22 7 (if (Int32.ofNat 16) < (w1 29 7) then (Int32.ofNat 16) else (w1 29 7))) 30 23 (kI 0).toNatClampNeg (kI 0).toNatClampNeg (if (Int32.ofNat 240) < (w1 29 6) then (Int32.ofNat 240) else (w1 29 6)).toNatClampNeg) 22 6).toNatClampNeg) 32 25 (kI 0).toNatClampNeg (kI 0).toNatClampNeg ((cp2 (cp2 (up2 (up2 w1 22 6 (if (Int32.ofNat 240) < (w1 29 6) then (Int32.ofNat 240) else (w1 29 6))) 22 7 (if (Int32.ofNat 16) < (w1 29 7) then (Int32.ofNat 16) else (w1 29 7))) 30 23 (kI 0).toNatClampNeg (kI 0).toNatClampNeg (if (Int32.ofNat 240) < (w1 29 6) then (Int32.ofNat 240) else (w1 29 6)).toNatClampNeg) 31 24 (kI 0).toNatClampNeg (kI 0).toNatClampNeg ((cp2 (up2 (up2 w1 22 6 (if (Int32.ofNat 240) < (w1 29 6) then (Int32.ofNat 240) else (w1 29 6))) 22 7 (if (Int32.ofNat 16) < (w1 29 7) then (Int32.ofNat 16) else (w1 29 7))) 30 23 (kI 0).toNatClampNeg (kI 0).toNatClampNeg (if (Int32.ofNat 240) < (w1 29 6) then (Int32.ofNat 240) else (w1 29 6)).toNatClampNeg) 22 6).toNatClampNeg) 22 7).toNatClampNeg) 33 26 (kI 0).toNatClampNeg (kI 0).toNatClampNeg ((cp2 (cp2 (cp2 (up2 (up2 w1 22 6 (if (Int32.ofNat 240) < (w1 29 6) then (Int32.ofNat 240) else (w1 29 6))) 22 7 (if (Int32.ofNat 16) < (w1 29 7) then (Int32.ofNat 16) else (w1 29 7))) 30 23 (kI 0).toNatClampNeg (kI 0).toNatClampNeg (if (Int32.ofNat 240) < (w1 29 6) then (Int32.ofNat 240) else (w1 29 6)).toNatClampNeg) 31 24 (kI 0).toNatClampNeg (kI 0).toNatClampNeg ((cp2 (up2 (up2 w1 22 6 (if (Int32.ofNat 240) < (w1 29 6) then (Int32.ofNat 240) else (w1 29 6))) 22 7 (if (Int32.ofNat 16) < (w1 29 7) then (Int32.ofNat 16) else (w1 29 7))) 30 23 (kI 0).toNatClampNeg (kI 0).toNatClampNeg (if (Int32.ofNat 240) < (w1 29 6) then (Int32.ofNat 240) else (w1 29 6)).toNatClampNeg) 22 6).toNatClampNeg) 32 25 (kI 0).toNatClampNeg (kI 0).toNatClampNeg ((cp2 (cp2 (up2 (up2 w1 22 6 (if (Int32.ofNat 240) < (w1 29 6) then (Int32.ofNat 240) else (w1 29 6))) 22 7 (if (Int32.ofNat 16) < (w1 29 7) then (Int32.ofNat 16) else (w1 29 7))) 30 23 (kI 0).toNatClampNeg (kI 0).toNatClampNeg (if (Int32.ofNat 240) < (w1 29 6) then (Int32.ofNat 240) else (w1 29 6)).toNatClampNeg) 31 24 (kI 0).toNatClampNeg (kI 0).toNatClampNeg ((cp2 (up2 (up2 w1 22 6 (if (Int32.ofNat 240) < (w1 29 6) then (Int32.ofNat 240) else (w1 29 6))) 22 7 (if (Int32.ofNat 16) < (w1 29 7) then (Int32.ofNat 16) else (w1 29 7))) 30 23 (kI 0).toNatClampNeg (kI 0).toNatClampNeg (if (Int32.ofNat 240) < (w1 29 6) then (Int32.ofNat 240) else (w1 29 6)).toNatClampNeg) 22 6).toNatClampNeg) 22 7).toNatClampNeg) 22 7).toNatClampNeg) 34 27 (kI 0).toNatClampNeg (kI 0).toNatClampNeg ((cp2 (cp2 (cp2 (cp2 (up2 (up2 w1 22 6 (if (Int32.ofNat 240) < (w1 29 6) then (Int32.ofNat 240) else (w1 29 6))) 22 7 (if (Int32.ofNat 16) < (w1 29 7) then (Int32.ofNat 16) else (w1 29 7))) 30 23 (kI 0).toNatClampNeg (kI 0).toNatClampNeg (if (Int32.ofNat 240) < (w1 29 6) then (Int32.ofNat 240) else (w1 29 6)).toNatClampNeg) 31 24 (kI 0).toNatClampNeg (kI 0).toNatClampNeg ((cp2 (up2 (up2 w1 22 6 (if (Int32.ofNat 240) < (w1 29 6) then (Int32.ofNat 240) else (w1 29 6))) 22 7 (if (Int32.ofNat 16) < (w1 29 7) then (Int32.ofNat 16) else (w1 29 7))) 30 23 (kI 0).toNatClampNeg (kI 0).toNatClampNeg (if (Int32.ofNat 240) < (w1 29 6) then (Int32.ofNat 240) else (w1 29 6)).toNatClampNeg) 22 6).toNatClampNeg) 32 25 (kI 0).toNatClampNeg (kI 0).toNatClampNeg ((cp2 (cp2 (up2 (up2 w1 22 6 (if (Int32.ofNat 240) < (w1 29 6) then (Int32.ofNat 240) else (w1 29 6))) 22 7 (if (Int32.ofNat 16) < (w1 29 7) then (Int32.ofNat 16) else (w1 29 7))) 30 23 (kI 0).toNatClampNeg (kI 0).toNatClampNeg (if (Int32.ofNat 240) < (w1 29 6) then (Int32.ofNat 240) else (w1 29 6)).toNatClampNeg) 31 24 (kI 0).toNatClampNeg (kI 0).toNatClampNeg ((cp2 (up2 (up2 w1 22 6 (if (Int32.ofNat 240) < (w1 29 6) then (Int32.ofNat 240) else (w1 29 6))) 22 7 (if (Int32.ofNat 16) < (w1 29 7) then (Int32.ofNat 16) else (w1 29 7))) 30 23 (kI 0).toNatClampNeg (kI 0).toNatClampNeg (if (Int32.ofNat 240) < (w1 29 6) then (Int32.ofNat 240) else (w1 29 6)).toNatClampNeg) 22 6).toNatClampNeg) 22 7).toNatClampNeg) 33 26 (kI 0).toNatClampNeg (kI 0).toNatClampNeg ((cp2 (cp2 (cp2 (up2 (up2 w1 22 6 (if (Int32.ofNat 240) < (w1 29 6) then (Int32.ofNat 240) else (w1 29 6))) 22 7 (if (Int32.ofNat 16) < (w1 29 7) then (Int32.ofNat 16) else (w1 29 7))) 30 23 (kI 0).toNatClampNeg (kI 0).toNatClampNeg (if (Int32.ofNat 240) < (w1 29 6) then (Int32.ofNat 240) else (w1 29 6)).toNatClampNeg) 31 24 (kI 0).toNatClampNeg (kI 0).toNatClampNeg ((cp2 (up2 (up2 w1 22 6 (if (Int32.ofNat 240) < (w1 29 6) then (Int32.ofNat 240) else (w1 29 6))) 22 7 (if (Int32.ofNat 16) < (w1 29 7) then (Int32.ofNat 16) else (w1 29 7))) 30 23 (kI 0).toNatClampNeg (kI 0).toNatClampNeg (if (Int32.ofNat 240) < (w1 29 6) then (Int32.ofNat 240) else (w1 29 6)).toNatClampNeg) 22 6).toNatClampNeg) 32 25 (kI 0).toNatClampNeg (kI 0).toNatClampNeg ((cp2 (cp2 (up2 (up2 w1 22 6 (if (Int32.ofNat 240) < (w1 29 6) then (Int32.ofNat 240) else (w1 29 6))) 22 7 (if (Int32.ofNat 16) < (w1 29 7) then (Int32.ofNat 16) else (w1 29 7))) 30 23 (kI 0).toNatClampNeg (kI 0).toNatClampNeg (if (Int32.ofNat 240) < (w1 29 6) then (Int32.ofNat 240) else (w1 29 6)).toNatClampNeg) 31 24 (kI 0).toNatClampNeg (kI 0).toNatClampNeg ((cp2 (up2 (up2 w1 22 6 (if (Int32.ofNat 240) < (w1 29 6) then (Int32.ofNat 240) else (w1 29 6))) 22 7 (if (Int32.ofNat 16) < (w1 29 7) then (Int32.ofNat 16) else (w1 29 7))) 30 23 (kI 0).toNatClampNeg (kI 0).toNatClampNeg (if (Int32.ofNat 240) < (w1 29 6) then (Int32.ofNat 240) else (w1 29 6)).toNatClampNeg) 22 6).toNatClampNeg) 22 7).toNatClampNeg) 22 7).toNatClampNeg) 22 7).toNatClampNeg) 22 7) < 0 ∨ (kI 0) < 0 ∨ (kI 0) < 0 ∨ 16 < (kI 0).toNatClampNeg + ((cp2 (cp2 (cp2 (cp2 (cp2 (up2 (up2 w1 22 6 (if (Int32.ofNat 240) < (w1 29 6) then (Int32.ofNat 240) else (w1 29 6))) 22 7 (if (Int32.ofNat 16) < (w1 29 7) then (Int32.ofNat 16) else (w1 29 7))) 30 23 (kI 0).toNatClampNeg (kI 0).toNatClampNeg (if (Int32.ofNat 240) < (w1 29 6) then (Int32.ofNat 240) else (w1 29 6)).toNatClampNeg) 31 24 (kI 0).toNatClampNeg (kI 0).toNatClampNeg ((cp2 (up2 (up2 w1 22 6 (if (Int32.ofNat 240) < (w1 29 6) then (Int32.ofNat 240) else (w1 29 6))) 22 7 (if (Int32.ofNat 16) < (w1 29 7) then (Int32.ofNat 16) else (w1 29 7))) 30 23 (kI 0).toNatClampNeg (kI 0).toNatClampNeg (if (Int32.ofNat 240) < (w1 29 6) then (Int32.ofNat 240) else (w1 29 6)).toNatClampNeg) 22 6).toNatClampNeg) 32 25 (kI 0).toNatClampNeg (kI 0).toNatClampNeg ((cp2 (cp2 (up2 (up2 w1 22 6 (if (Int32.ofNat 240) < (w1 29 6) then (Int32.ofNat 240) else (w1 29 6))) 22 7 (if (Int32.ofNat 16) < (w1 29 7) then (Int32.ofNat 16) else (w1 29 7))) 30 23 (kI 0).toNatClampNeg (kI 0).toNatClampNeg (if (Int32.ofNat 240) < (w1 29 6) then (Int32.ofNat 240) else (w1 29 6)).toNatClampNeg) 31 24 (kI 0).toNatClampNeg (kI 0).toNatClampNeg ((cp2 (up2 (up2 w1 22 6 (if (Int32.ofNat 240) < (w1 29 6) then (Int32.ofNat 240) else (w1 29 6))) 22 7 (if (Int32.ofNat 16) < (w1 29 7) then (Int32.ofNat 16) else (w1 29 7))) 30 23 (kI 0).toNatClampNeg (kI 0).toNatClampNeg (if (Int32.ofNat 240) < (w1 29 6) then (Int32.ofNat 240) else (w1 29 6)).toNatClampNeg) 22 6).toNatClampNeg) 22 7).toNatClampNeg) 33 26 (kI 0).toNatClampNeg (kI 0).toNatClampNeg ((cp2 (cp2 (cp2 (up2 (up2 w1 22 6 (if (Int32.ofNat 240) < (w1 29 6) then (Int32.ofNat 240) else (w1 29 6))) 22 7 (if (Int32.ofNat 16) < (w1 29 7) then (Int32.ofNat 16) else (w1 29 7))) 30 23 (kI 0).toNatClampNeg (kI 0).toNatClampNeg (if (Int32.ofNat 240) < (w1 29 6) then (Int32.ofNat 240) else (w1 29 6)).toNatClampNeg) 31 24 (kI 0).toNatClampNeg (kI 0).toNatClampNeg ((cp2 (up2 (up2 w1 22 6 (if (Int32.ofNat 240) < (w1 29 6) then (Int32.ofNat 240) else (w1 29 6))) 22 7 (if (Int32.ofNat 16) < (w1 29 7) then (Int32.ofNat 16) else (w1 29 7))) 30 23 (kI 0).toNatClampNeg (kI 0).toNatClampNeg (if (Int32.ofNat 240) < (w1 29 6) then (Int32.ofNat 240) else (w1 29 6)).toNatClampNeg) 22 6).toNatClampNeg) 32 25 (kI 0).toNatClampNeg (kI 0).toNatClampNeg ((cp2 (cp2 (up2 (up2 w1 22 6 (if (Int32.ofNat 240) < (w1 29 6) then (Int32.ofNat 240) else (w1 29 6))) 22 7 (if (Int32.ofNat 16) < (w1 29 7) then (Int32.ofNat 16) else (w1 29 7))) 30 23 (kI 0).toNatClampNeg (kI 0).toNatClampNeg (if (Int32.ofNat 240) < (w1 29 6) then (Int32.ofNat 240) else (w1 29 6)).toNatClampNeg) 31 24 (kI 0).toNatClampNeg (kI 0).toNatClampNeg ((cp2 (up2 (up2 w1 22 6 (if (Int32.ofNat 240) < (w1 29 6) then (Int32.ofNat 240) else (w1 29 6))) 22 7 (if (Int32.ofNat 16) < (w1 29 7) then (Int32.ofNat 16) else (w1 29 7))) 30 23 (kI 0).toNatClampNeg (kI 0).toNatClampNeg (if (Int32.ofNat 240) < (w1 29 6) then (Int32.ofNat 240) else (w1 29 6)).toNatClampNeg) 22 6).toNatClampNeg) 22 7).toNatClampNeg) 22 7).toNatClampNeg) 34 27 (kI 0).toNatClampNeg (kI 0).toNatClampNeg ((cp2 (cp2 (cp2 (cp2 (up2 (up2 w1 22 6 (if (Int32.ofNat 240) < (w1 29 6) then (Int32.ofNat 240) else (w1 29 6))) 22 7 (if (Int32.ofNat 16) < (w1 29 7) then (Int32.ofNat 16) else (w1 29 7))) 30 23 (kI 0).toNatClampNeg (kI 0).toNatClampNeg (if (Int32.ofNat 240) < (w1 29 6) then (Int32.ofNat 240) else (w1 29 6)).toNatClampNeg) 31 24 (kI 0).toNatClampNeg (kI 0).toNatClampNeg ((cp2 (up2 (up2 w1 22 6 (if (Int32.ofNat 240) < (w1 29 6) then (Int32.ofNat 240) else (w1 29 6))) 22 7 (if (Int32.ofNat 16) < (w1 29 7) then (Int32.ofNat 16) else (w1 29 7))) 30 23 (kI 0).toNatClampNeg (kI 0).toNatClampNeg (if (Int32.ofNat 240) < (w1 29 6) then (Int32.ofNat 240) else (w1 29 6)).toNatClampNeg) 22 6).toNatClampNeg) 32 25 (kI 0).toNatClampNeg (kI 0).toNatClampNeg ((cp2 (cp2 (up2 (up2 w1 22 6 (if (Int32.ofNat 240) < (w1 29 6) then (Int32.ofNat 240) else (w1 29 6))) 22 7 (if (Int32.ofNat 16) < (w1 29 7) then (Int32.ofNat 16) else (w1 29 7))) 30 23 (kI 0).toNatClampNeg (kI 0).toNatClampNeg (if (Int32.ofNat 240) < (w1 29 6) then (Int32.ofNat 240) else (w1 29 6)).toNatClampNeg) 31 24 (kI 0).toNatClampNeg (kI 0).toNatClampNeg ((cp2 (up2 (up2 w1 22 6 (if (Int32.ofNat 240) < (w1 29 6) then (Int32.ofNat 240) else (w1 29 6))) 22 7 (if (Int32.ofNat 16) < (w1 29 7) then (Int32.ofNat 16) else (w1 29 7))) 30 23 (kI 0).toNatClampNeg (kI 0).toNatClampNeg (if (Int32.ofNat 240) < (w1 29 6) then (Int32.ofNat 240) else (w1 29 6)).toNatClampNeg) 22 6).toNatClampNeg) 22 7).toNatClampNeg) 33 26 (kI 0).toNatClampNeg (kI 0).toNatClampNeg ((cp2 (cp2 (cp2 (up2 (up2 w1 22 6 (if (Int32.ofNat 240) < (w1 29 6) then (Int32.ofNat 240) else (w1 29 6))) 22 7 (if (Int32.ofNat 16) < (w1 29 7) then (Int32.ofNat 16) else (w1 29 7))) 30 23 (kI 0).toNatClampNeg (kI 0).toNatClampNeg (if (Int32.ofNat 240) < (w1 29 6) then (Int32.ofNat 240) else (w1 29 6)).toNatClampNeg) 31 24 (kI 0).toNatClampNeg (kI 0).toNatClampNeg ((cp2 (up2 (up2 w1 22 6 (if (Int32.ofNat 240) < (w1 29 6) then (Int32.ofNat 240) else (w1 29 6))) 22 7 (if (Int32.ofNat 16) < (w1 29 7) then (Int32.ofNat 16) else (w1 29 7))) 30 23 (kI 0).toNatClampNeg (kI 0).toNatClampNeg (if (Int32.ofNat 240) < (w1 29 6) then (Int32.ofNat 240) else (w1 29 6)).toNatClampNeg) 22 6).toNatClampNeg) 32 25 (kI 0).toNatClampNeg (kI 0).toNatClampNeg ((cp2 (cp2 (up2 (up2 w1 22 6 (if (Int32.ofNat 240) < (w1 29 6) then (Int32.ofNat 240) else (w1 29 6))) 22 7 (if (Int32.ofNat 16) < (w1 29 7) then (Int32.ofNat 16) else (w1 29 7))) 30 23 (kI 0).toNatClampNeg (kI 0).toNatClampNeg (if (Int32.ofNat 240) < (w1 29 6) then (Int32.ofNat 240) else (w1 29 6)).toNatClampNeg) 31 24 (kI 0).toNatClampNeg (kI 0).toNatClampNeg ((cp2 (up2 (up2 w1 22 6 (if (Int32.ofNat 240) < (w1 29 6) then (Int32.ofNat 240) else (w1 29 6))) 22 7 (if (Int32.ofNat 16) < (w1 29 7) then (Int32.ofNat 16) else (w1 29 7))) 30 23 (kI 0).toNatClampNeg (kI 0).toNatClampNeg (if (Int32.ofNat 240) < (w1 29 6) then (Int32.ofNat 240) else (w1 29 6)).toNatClampNeg) 22 6).toNatClampNeg) 22 7).toNatClampNeg) 22 7).toNatClampNeg) 22 7).toNatClampNeg) 22 7).toNatClampNeg ∨ 16 < (kI 0).toNatClampNeg + ((cp2 (cp2 (cp2 (cp2 (cp2 (up2 (up2 w1 22 6 (if (Int32.ofNat 240) < (w1 29 6) then (Int32.ofNat 240) else (w1 29 6))) 22 7 (if (Int32.ofNat 16) < (w1 29 7) then (Int32.ofNat 16) else (w1 29 7))) 30 23 (kI 0).toNatClampNeg (kI 0).toNatClampNeg (if (Int32.ofNat 240) < (w1 29 6) then (Int32.ofNat 240) else (w1 29 6)).toNatClampNeg) 31 24 (kI 0).toNatClampNeg (kI 0).toNatClampNeg ((cp2 (up2 (up2 w1 22 6 (if (Int32.ofNat 240) < (w1 29 6) then (Int32.ofNat 240) else (w1 29 6))) 22 7 (if (Int32.ofNat 16) < (w1 29 7) then (Int32.ofNat 16) else (w1 29 7))) 30 23 (kI 0).toNatClampNeg (kI 0).toNatClampNeg (if (Int32.ofNat 240) < (w1 29 6) then (Int32.ofNat 240) else (w1 29 6)).toNatClampNeg) 22 6).toNatClampNeg) 32 25 (kI 0).toNatClampNeg (kI 0).toNatClampNeg ((cp2 (cp2 (up2 (up2 w1 22 6 (if (Int32.ofNat 240) < (w1 29 6) then (Int32.ofNat 240) else (w1 29 6))) 22 7 (if (Int32.ofNat 16) < (w1 29 7) then (Int32.ofNat 16) else (w1 29 7))) 30 23 (kI 0).toNatClampNeg (kI 0).toNatClampNeg (if (Int32.ofNat 240) < (w1 29 6) then (Int32.ofNat 240) else (w1 29 6)).toNatClampNeg) 31 24 (kI 0).toNatClampNeg (kI 0).toNatClampNeg ((cp2 (up2 (up2 w1 22 6 (if (Int32.ofNat 240) < (w1 29 6) then (Int32.ofNat 240) else (w1 29 6))) 22 7 (if (Int32.ofNat 16) < (w1 29 7) then (Int32.ofNat 16) else (w1 29 7))) 30 23 (kI 0).toNatClampNeg (kI 0).toNatClampNeg (if (Int32.ofNat 240) < (w1 29 6) then (Int32.ofNat 240) else (w1 29 6)).toNatClampNeg) 22 6).toNatClampNeg) 22 7).toNatClampNeg) 33 26 (kI 0).toNatClampNeg (kI 0).toNatClampNeg ((cp2 (cp2 (cp2 (up2 (up2 w1 22 6 (if (Int32.ofNat 240) < (w1 29 6) then (Int32.ofNat 240) else (w1 29 6))) 22 7 (if (Int32.ofNat 16) < (w1 29 7) then (Int32.ofNat 16) else (w1 29 7))) 30 23 (kI 0).toNatClampNeg (kI 0).toNatClampNeg (if (Int32.ofNat 240) < (w1 29 6) then (Int32.ofNat 240) else (w1 29 6)).toNatClampNeg) 31 24 (kI 0).toNatClampNeg (kI 0).toNatClampNeg ((cp2 (up2 (up2 w1 22 6 (if (Int32.ofNat 240) < (w1 29 6) then (Int32.ofNat 240) else (w1 29 6))) 22 7 (if (Int32.ofNat 16) < (w1 29 7) then (Int32.ofNat 16) else (w1 29 7))) 30 23 (kI 0).toNatClampNeg (kI 0).toNatClampNeg (if (Int32.ofNat 240) < (w1 29 6) then (Int32.ofNat 240) else (w1 29 6)).toNatClampNeg) 22 6).toNatClampNeg) 32 25 (kI 0).toNatClampNeg (kI 0).toNatClampNeg ((cp2 (cp2 (up2 (up2 w1 22 6 (if (Int32.ofNat 240) < (w1 29 6) then (Int32.ofNat 240) else (w1 29 6))) 22 7 (if (Int32.ofNat 16) < (w1 29 7) then (Int32.ofNat 16) else (w1 29 7))) 30 23 (kI 0).toNatClampNeg (kI 0).toNatClampNeg (if (Int32.ofNat 240) < (w1 29 6) then (Int32.ofNat 240) else (w1 29 6)).toNatClampNeg) 31 24 (kI 0).toNatClampNeg (kI 0).toNatClampNeg ((cp2 (up2 (up2 w1 22 6 (if (Int32.ofNat 240) < (w1 29 6) then (Int32.ofNat 240) else (w1 29 6))) 22 7 (if (Int32.ofNat 16) < (w1 29 7) then (Int32.ofNat 16) else (w1 29 7))) 30 23 (kI 0).toNatClampNeg (kI 0).toNatClampNeg (if (Int32.ofNat 240) < (w1 29 6) then (Int32.ofNat 240) else (w1 29 6)).toNatClampNeg) 22 6).toNatClampNeg) 22 7).toNatClampNeg) 22 7).toNatClampNeg) 34 27 (kI 0).toNatClampNeg (kI 0).toNatClampNeg ((cp2 (cp2 (cp2 (cp2 (up2 (up2 w1 22 6 (if (Int32.ofNat 240) < (w1 29 6) then (Int32.ofNat 240) else (w1 29 6))) 22 7 (if (Int32.ofNat 16) < (w1 29 7) then (Int32.ofNat 16) else (w1 29 7))) 30 23 (kI 0).toNatClampNeg (kI 0).toNatClampNeg (if (Int32.ofNat 240) < (w1 29 6) then (Int32.ofNat 240) else (w1 29 6)).toNatClampNeg) 31 24 (kI 0).toNatClampNeg (kI 0).toNatClampNeg ((cp2 (up2 (up2 w1 22 6 (if (Int32.ofNat 240) < (w1 29 6) then (Int32.ofNat 240) else (w1 29 6))) 22 7 (if (Int32.ofNat 16) < (w1 29 7) then (Int32.ofNat 16) else (w1 29 7))) 30 23 (kI 0).toNatClampNeg (kI 0).toNatClampNeg (if (Int32.ofNat 240) < (w1 29 6) then (Int32.ofNat 240) else (w1 29 6)).toNatClampNeg) 22 6).toNatClampNeg) 32 25 (kI 0).toNatClampNeg (kI 0).toNatClampNeg ((cp2 (cp2 (up2 (up2 w1 22 6 (if (Int32.ofNat 240) < (w1 29 6) then (Int32.ofNat 240) else (w1 29 6))) 22 7 (if (Int32.ofNat 16) < (w1 29 7) then (Int32.ofNat 16) else (w1 29 7))) 30 23 (kI 0).toNatClampNeg (kI 0).toNatClampNeg (if (Int32.ofNat 240) < (w1 29 6) then (Int32.ofNat 240) else (w1 29 6)).toNatClampNeg) 31 24 (kI 0).toNatClampNeg (kI 0).toNatClampNeg ((cp2 (up2 (up2 w1 22 6 (if (Int32.ofNat 240) < (w1 29 6) then (Int32.ofNat 240) else (w1 29 6))) 22 7 (if (Int32.ofNat 16) < (w1 29 7) then (Int32.ofNat 16) else (w1 29 7))) 30 23 (kI 0).toNatClampNeg (kI 0).toNatClampNeg (if (Int32.ofNat 240) < (w1 29 6) then (Int32.ofNat 240) else (w1 29 6)).toNatClampNeg) 22 6).toNatClampNeg) 22 7).toNatClampNeg) 33 26 (kI 0).toNatClampNeg (kI 0).toNatClampNeg ((cp2 (cp2 (cp2 (up2 (up2 w1 22 6 (if (Int32.ofNat 240) < (w1 29 6) then (Int32.ofNat 240) else (w1 29 6))) 22 7 (if (Int32.ofNat 16) < (w1 29 7) then (Int32.ofNat 16) else (w1 29 7))) 30 23 (kI 0).toNatClampNeg (kI 0).toNatClampNeg (if (Int32.ofNat 240) < (w1 29 6) then (Int32.ofNat 240) else (w1 29 6)).toNatClampNeg) 31 24 (kI 0).toNatClampNeg (kI 0).toNatClampNeg ((cp2 (up2 (up2 w1 22 6 (if (Int32.ofNat 240) < (w1 29 6) then (Int32.ofNat 240) else (w1 29 6))) 22 7 (if (Int32.ofNat 16) < (w1 29 7) then (Int32.ofNat 16) else (w1 29 7))) 30 23 (kI 0).toNatClampNeg (kI 0).toNatClampNeg (if (Int32.ofNat 240) < (w1 29 6) then (Int32.ofNat 240) else (w1 29 6)).toNatClampNeg) 22 6).toNatClampNeg) 32 25 (kI 0).toNatClampNeg (kI 0).toNatClampNeg ((cp2 (cp2 (up2 (up2 w1 22 6 (if (Int32.ofNat 240) < (w1 29 6) then (Int32.ofNat 240) else (w1 29 6))) 22 7 (if (Int32.ofNat 16) < (w1 29 7) then (Int32.ofNat 16) else (w1 29 7))) 30 23 (kI 0).toNatClampNeg (kI 0).toNatClampNeg (if (Int32.ofNat 240) < (w1 29 6) then (Int32.ofNat 240) else (w1 29 6)).toNatClampNeg) 31 24 (kI 0).toNatClampNeg (kI 0).toNatClampNeg ((cp2 (up2 (up2 w1 22 6 (if (Int32.ofNat 240) < (w1 29 6) then (Int32.ofNat 240) else (w1 29 6))) 22 7 (if (Int32.ofNat 16) < (w1 29 7) then (Int32.ofNat 16) else (w1 29 7))) 30 23 (kI 0).toNatClampNeg (kI 0).toNatClampNeg (if (Int32.ofNat 240) < (w1 29 6) then (Int32.ofNat 240) else (w1 29 6)).toNatClampNeg) 22 6).toNatClampNeg) 22 7).toNatClampNeg) 22 7).toNatClampNeg) 22 7).toNatClampNeg) 22 7).toNatClampNeg))) ∧ Q ((G_76_22_29 w1) 22 7) (G_76_22_29 w1))))))) else Q x1 w1)))) : EI X (d + 2) 122 (0, [some (.ref 0), some (.int v1), none], [], SH, w) Q := by
  unfold EI
  refine EV.steps cl_122 5 (q2 := (9, [some (.ref 0), some (.int v1), none], [.int (kI 240), .int (kI 1), .int v1, .ref 1], SH, w)) rfl ?_
  refine EV.callF (kc := 105) (av := [.ref 1, .int v1, .int (kI 1), .int (kI 240)]) (r := []) (rv := some (.int (F_105_1 v1 (kI 1) (kI 240) w))) (w2 := w) cl_122 rfl rfl rfl (m_105_1 w v1 (kI 1) (kI 240)) ?_
  refine EV.z_ne cl_122 rfl (fun h1 => ?_) (fun h1 => ?_)
  · skip
    rw [if_neg h1] at H
    refine EV.steps cl_122 3 (q2 := (22, [some (.ref 0), some (.int v1), none], [.int v1, .ref 79], SH, w)) rfl ?_
    refine EV.call (kc := 62) (av := [.ref 79, .int v1]) (r := []) cl_122 rfl rfl rfl H ?_
    clear H; intro y1 s1 w1 e1
    obtain ⟨x1, rfl, rfl, H⟩ := e1
    refine EV.steps cl_122 2 (q2 := (27, [some (.ref 0), some (.int v1), some (.int x1)], [.int x1], SH, w1)) rfl ?_
    refine EV.z_ge cl_122 rfl (fun h2 => ?_) (fun h2 => ?_)
    · skip
      rw [if_pos h2] at H
      refine EV.steps cl_122 4 (q2 := (40, [some (.ref 0), some (.int v1), some (.int x1)], [.ref 29, .ref 22], SH, w1)) rfl ?_
      obtain ⟨j3, H⟩ := H
      obtain ⟨j4, H⟩ := H
      obtain ⟨j5, H⟩ := H
      obtain ⟨j6, H⟩ := H
      obtain ⟨j7, H⟩ := H
      obtain ⟨j8, H⟩ := H
      refine EV.callF (kc := 76) (av := [.ref 22, .ref 29]) (r := []) (rv := none) (w2 := (G_76_22_29 w1)) cl_122 rfl rfl rfl (m_76_22_29 w1  j3 j4 j5 j6 j7 j8) ?_
      refine EV.steps cl_122 3 (q2 := (50, [some (.ref 0), some (.int v1), some (.int x1)], [.int ((G_76_22_29 w1) 22 7)], SH, (G_76_22_29 w1))) rfl ?_
      refine EV.ret cl_122 rfl rfl rfl ?_
      exact ⟨_, rfl, rfl, H⟩
    · skip
      rw [if_neg h2] at H
      refine EV.steps cl_122 1 (q2 := (31, [some (.ref 0), some (.int v1), some (.int x1)], [.int x1], SH, w1)) rfl ?_
      refine EV.ret cl_122 rfl rfl rfl ?_
      exact ⟨_, rfl, rfl, H⟩
  · skip
    rw [if_pos h1] at H
    refine EV.steps cl_122 1 (q2 := (16, [some (.ref 0), some (.int v1), none], [.int (kI (-1))], SH, w)) rfl ?_
    refine EV.ret cl_122 rfl rfl rfl ?_
    exact ⟨_, rfl, rfl, H⟩
