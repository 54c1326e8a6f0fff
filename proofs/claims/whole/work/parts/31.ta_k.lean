theorem t36_95_7_at0 {X : Scr} {d : Nat} {Q : Wd → Prop} (w : Wd) (v2 : Int32)
    (H : EU X (d + 3) 36 (2, [some (.ref 95), some (.ref 7), some (.int v2), some (.int (kI 0)), none, none, none], [], SH, w) Q) : EU X (d + 3) 36 (0, [some (.ref 95), some (.ref 7), some (.int v2), none, none, none, none], [], SH, w) Q := by
  unfold EU
  refine EV.steps cl_36 2 (q2 := (2, [some (.ref 95), some (.ref 7), some (.int v2), some (.int (kI 0)), none, none, none], [], SH, w)) rfl ?_
  exact H
theorem t36_95_7_at2 {X : Scr} {d : Nat} {Q : Wd → Prop} (w : Wd) (v2 : Int32) (v3 : Int32)
    (H : (if (kI 12) ≤ v3 then CU X (d + 3) 38 [.ref 95] w (fun w1 => CU X (d + 3) 39 [.ref 95] w1 (fun w2 => EU X (d + 3) 36 (49, [some (.ref 95), some (.ref 7), some (.int v2), some (.int (kI 0)), some (.int (kI 0)), none, none], [], SH, (up2 w2 95 10 (w2 100 (kI 0).toNatClampNeg))) Q)) else (inB v3 12 = true ∧ EU X (d + 3) 36 (2, [some (.ref 95), some (.ref 7), some (.int v2), some (.int (v3 + (kI 1))), none, none, none], [], SH, (up2 w 98 v3.toNatClampNeg (F_12_7 v2 v3 w))) Q))) : EU X (d + 3) 36 (2, [some (.ref 95), some (.ref 7), some (.int v2), some (.int v3), none, none, none], [], SH, w) Q := by
  unfold EU
  refine EV.steps cl_36 2 (q2 := (5, [some (.ref 95), some (.ref 7), some (.int v2), some (.int v3), none, none, none], [.int (kI 12), .int v3], SH, w)) rfl ?_
  refine EV.i_ge cl_36 rfl (fun h1 => ?_) (fun h1 => ?_)
  · skip
    rw [if_pos h1] at H
    refine EV.steps cl_36 1 (q2 := (27, [some (.ref 95), some (.ref 7), some (.int v2), some (.int v3), none, none, none], [.ref 95], SH, w)) rfl ?_
    refine EV.call (kc := 38) (av := [.ref 95]) (r := []) cl_36 rfl rfl rfl H ?_
    clear H; intro y1 s1 w1 e1
    obtain ⟨rfl, rfl, H⟩ := e1
    refine EV.steps cl_36 1 (q2 := (31, [some (.ref 95), some (.ref 7), some (.int v2), some (.int v3), none, none, none], [.ref 95], SH, w1)) rfl ?_
    refine EV.call (kc := 39) (av := [.ref 95]) (r := []) cl_36 rfl rfl rfl H ?_
    clear H; intro y2 s2 w2 e2
    obtain ⟨rfl, rfl, H⟩ := e2
    refine EV.steps cl_36 4 (q2 := (40, [some (.ref 95), some (.ref 7), some (.int v2), some (.int v3), none, none, none], [.int (kI 0), .ref 100, .ref 95], SH, w2)) rfl ?_
    refine EV.iaload cl_36 rfl rfl (by decide) rfl ?_
    refine EV.steps cl_36 5 (q2 := (49, [some (.ref 95), some (.ref 7), some (.int v2), some (.int (kI 0)), some (.int (kI 0)), none, none], [], SH, (up2 w2 95 10 (w2 100 (kI 0).toNatClampNeg)))) rfl ?_
    exact H
  · skip
    rw [if_neg h1] at H
    refine EV.steps cl_36 6 (q2 := (16, [some (.ref 95), some (.ref 7), some (.int v2), some (.int v3), none, none, none], [.int v3, .int v2, .ref 7, .int v3, .ref 98], SH, w)) rfl ?_
    refine EV.callF (kc := 12) (av := [.ref 7, .int v2, .int v3]) (r := [.int v3, .ref 98]) (rv := some (.int (F_12_7 v2 v3 w))) (w2 := w) cl_36 rfl rfl rfl (m_12_7 w v2 v3) ?_
    obtain ⟨j2, H⟩ := H
    refine EV.iastore cl_36 rfl rfl (by decide) j2 ?_
    refine EV.steps cl_36 2 (q2 := (2, [some (.ref 95), some (.ref 7), some (.int v2), some (.int (v3 + (kI 1))), none, none, none], [], SH, (up2 w 98 v3.toNatClampNeg (F_12_7 v2 v3 w)))) rfl ?_
    exact H
theorem t36_95_7_at49 {X : Scr} {d : Nat} {Q : Wd → Prop} (w : Wd) (v2 : Int32) (v3 : Int32) (v4 : Int32)
    (H : (if (kI 12) ≤ v4 then Q w else EU X (d + 3) 36 (68, [some (.ref 95), some (.ref 7), some (.int v2), some (.int v3), some (.int v4), some (.int (F_42_95 v4 v3 w)), some (.int (kI 0))], [], SH, w) Q)) : EU X (d + 3) 36 (49, [some (.ref 95), some (.ref 7), some (.int v2), some (.int v3), some (.int v4), none, none], [], SH, w) Q := by
  unfold EU
  refine EV.steps cl_36 2 (q2 := (53, [some (.ref 95), some (.ref 7), some (.int v2), some (.int v3), some (.int v4), none, none], [.int (kI 12), .int v4], SH, w)) rfl ?_
  refine EV.i_ge cl_36 rfl (fun h1 => ?_) (fun h1 => ?_)
  · skip
    rw [if_pos h1] at H
    refine EV.ret cl_36 rfl rfl rfl ?_
    exact ⟨rfl, rfl, H⟩
  · skip
    rw [if_neg h1] at H
    refine EV.steps cl_36 3 (q2 := (60, [some (.ref 95), some (.ref 7), some (.int v2), some (.int v3), some (.int v4), none, none], [.int v3, .int v4, .ref 95], SH, w)) rfl ?_
    refine EV.callF (kc := 42) (av := [.ref 95, .int v4, .int v3]) (r := []) (rv := some (.int (F_42_95 v4 v3 w))) (w2 := w) cl_36 rfl rfl rfl (m_42_95 w v4 v3) ?_
    refine EV.steps cl_36 3 (q2 := (68, [some (.ref 95), some (.ref 7), some (.int v2), some (.int v3), some (.int v4), some (.int (F_42_95 v4 v3 w)), some (.int (kI 0))], [], SH, w)) rfl ?_
    exact H
theorem t36_95_7_at68 {X : Scr} {d : Nat} {Q : Wd → Prop} (w : Wd) (v2 : Int32) (v3 : Int32) (v4 : Int32) (v5 : Int32) (v6 : Int32)
    (H : (if (kI 12) ≤ v6 then (inB v4 12 = true ∧ EU X (d + 3) 36 (49, [some (.ref 95), some (.ref 7), some (.int v2), some (.int v3), some (.int (v4 + (kI 1))), none, none], [], SH, (up2 w 101 v4.toNatClampNeg (F_41_95 v3 w))) Q) else (if (F_40_95 v4 v3 w) ≤ v5 then (inB v4 12 = true ∧ EU X (d + 3) 36 (49, [some (.ref 95), some (.ref 7), some (.int v2), some (.int v3), some (.int (v4 + (kI 1))), none, none], [], SH, (up2 w 101 v4.toNatClampNeg (F_41_95 v3 w))) Q) else EU X (d + 3) 36 (68, [some (.ref 95), some (.ref 7), some (.int v2), some (.int (v3 + (kI 1))), some (.int v4), some (.int v5), some (.int (v6 + (kI 1)))], [], SH, w) Q))) : EU X (d + 3) 36 (68, [some (.ref 95), some (.ref 7), some (.int v2), some (.int v3), some (.int v4), some (.int v5), some (.int v6)], [], SH, w) Q := by
  unfold EU
  refine EV.steps cl_36 2 (q2 := (72, [some (.ref 95), some (.ref 7), some (.int v2), some (.int v3), some (.int v4), some (.int v5), some (.int v6)], [.int (kI 12), .int v6], SH, w)) rfl ?_
  refine EV.i_ge cl_36 rfl (fun h1 => ?_) (fun h1 => ?_)
  · skip
    rw [if_pos h1] at H
    refine EV.steps cl_36 5 (q2 := (104, [some (.ref 95), some (.ref 7), some (.int v2), some (.int v3), some (.int v4), some (.int v5), some (.int v6)], [.int v3, .ref 95, .int v4, .ref 101], SH, w)) rfl ?_
    refine EV.callF (kc := 41) (av := [.ref 95, .int v3]) (r := [.int v4, .ref 101]) (rv := some (.int (F_41_95 v3 w))) (w2 := w) cl_36 rfl rfl rfl (m_41_95 w v3) ?_
    obtain ⟨j2, H⟩ := H
    refine EV.iastore cl_36 rfl rfl (by decide) j2 ?_
    refine EV.steps cl_36 2 (q2 := (49, [some (.ref 95), some (.ref 7), some (.int v2), some (.int v3), some (.int (v4 + (kI 1))), some (.int v5), some (.int v6)], [], SH, (up2 w 101 v4.toNatClampNeg (F_41_95 v3 w)))) rfl ?_
    exact EV.weak (l := [some (.ref 95), some (.ref 7), some (.int v2), some (.int v3), some (.int (v4 + (kI 1))), none, none]) ⟨rfl, ⟨rfl, ⟨rfl, ⟨rfl, ⟨rfl, ⟨rfl, ⟨rfl, trivial⟩⟩⟩⟩⟩⟩⟩ H
  · skip
    rw [if_neg h1] at H
    refine EV.steps cl_36 3 (q2 := (79, [some (.ref 95), some (.ref 7), some (.int v2), some (.int v3), some (.int v4), some (.int v5), some (.int v6)], [.int v3, .int v4, .ref 95], SH, w)) rfl ?_
    refine EV.callF (kc := 40) (av := [.ref 95, .int v4, .int v3]) (r := []) (rv := some (.int (F_40_95 v4 v3 w))) (w2 := w) cl_36 rfl rfl rfl (m_40_95 w v4 v3) ?_
    refine EV.steps cl_36 1 (q2 := (84, [some (.ref 95), some (.ref 7), some (.int v2), some (.int v3), some (.int v4), some (.int v5), some (.int v6)], [.int v5, .int (F_40_95 v4 v3 w)], SH, w)) rfl ?_
    refine EV.i_le cl_36 rfl (fun h3 => ?_) (fun h3 => ?_)
    · skip
      rw [if_pos h3] at H
      refine EV.steps cl_36 5 (q2 := (104, [some (.ref 95), some (.ref 7), some (.int v2), some (.int v3), some (.int v4), some (.int v5), some (.int v6)], [.int v3, .ref 95, .int v4, .ref 101], SH, w)) rfl ?_
      refine EV.callF (kc := 41) (av := [.ref 95, .int v3]) (r := [.int v4, .ref 101]) (rv := some (.int (F_41_95 v3 w))) (w2 := w) cl_36 rfl rfl rfl (m_41_95 w v3) ?_
      obtain ⟨j4, H⟩ := H
      refine EV.iastore cl_36 rfl rfl (by decide) j4 ?_
      refine EV.steps cl_36 2 (q2 := (49, [some (.ref 95), some (.ref 7), some (.int v2), some (.int v3), some (.int (v4 + (kI 1))), some (.int v5), some (.int v6)], [], SH, (up2 w 101 v4.toNatClampNeg (F_41_95 v3 w)))) rfl ?_
      exact EV.weak (l := [some (.ref 95), some (.ref 7), some (.int v2), some (.int v3), some (.int (v4 + (kI 1))), none, none]) ⟨rfl, ⟨rfl, ⟨rfl, ⟨rfl, ⟨rfl, ⟨rfl, ⟨rfl, trivial⟩⟩⟩⟩⟩⟩⟩ H
    · skip
      rw [if_neg h3] at H
      refine EV.steps cl_36 3 (q2 := (68, [some (.ref 95), some (.ref 7), some (.int v2), some (.int (v3 + (kI 1))), some (.int v4), some (.int v5), some (.int (v6 + (kI 1)))], [], SH, w)) rfl ?_
      exact H
theorem t38_95_at0 {X : Scr} {d : Nat} {Q : Wd → Prop} (w : Wd) 
    (H : EU X (d + 1) 38 (2, [some (.ref 95), some (.int (kI 0)), none, none], [], SH, w) Q) : EU X (d + 1) 38 (0, [some (.ref 95), none, none, none], [], SH, w) Q := by
  unfold EU
  refine EV.steps cl_38 2 (q2 := (2, [some (.ref 95), some (.int (kI 0)), none, none], [], SH, w)) rfl ?_
  exact H
theorem t38_95_at2 {X : Scr} {d : Nat} {Q : Wd → Prop} (w : Wd) (v1 : Int32)
    (H : (if (kI 12) ≤ v1 then Q w else EU X (d + 1) 38 (12, [some (.ref 95), some (.int v1), some (.int v1), some (.int (kI 0))], [], SH, w) Q)) : EU X (d + 1) 38 (2, [some (.ref 95), some (.int v1), none, none], [], SH, w) Q := by
  unfold EU
  refine EV.steps cl_38 2 (q2 := (5, [some (.ref 95), some (.int v1), none, none], [.int (kI 12), .int v1], SH, w)) rfl ?_
  refine EV.i_ge cl_38 rfl (fun h1 => ?_) (fun h1 => ?_)
  · skip
    rw [if_pos h1] at H
    refine EV.ret cl_38 rfl rfl rfl ?_
    exact ⟨rfl, rfl, H⟩
  · skip
    rw [if_neg h1] at H
    refine EV.steps cl_38 4 (q2 := (12, [some (.ref 95), some (.int v1), some (.int v1), some (.int (kI 0))], [], SH, w)) rfl ?_
    exact H
theorem t38_95_at12 {X : Scr} {d : Nat} {Q : Wd → Prop} (w : Wd) (v1 : Int32) (v2 : Int32) (v3 : Int32)
    (H : (if (kI 12) ≤ v3 then (inB v1 12 = true ∧ (inB v2 12 = true ∧ EU X (d + 1) 38 (2, [some (.ref 95), some (.int (v1 + (kI 1))), none, none], [], SH, (up2 w 99 v2.toNatClampNeg (w 98 v1.toNatClampNeg))) Q)) else (if v2 ≤ 0 then (inB v1 12 = true ∧ (inB v2 12 = true ∧ EU X (d + 1) 38 (2, [some (.ref 95), some (.int (v1 + (kI 1))), none, none], [], SH, (up2 w 99 v2.toNatClampNeg (w 98 v1.toNatClampNeg))) Q)) else (inB (v2 - (kI 1)) 12 = true ∧ (inB v1 12 = true ∧ (if (w 99 (v2 - (kI 1)).toNatClampNeg) ≤ (w 98 v1.toNatClampNeg) then (inB v1 12 = true ∧ (inB v2 12 = true ∧ EU X (d + 1) 38 (2, [some (.ref 95), some (.int (v1 + (kI 1))), none, none], [], SH, (up2 w 99 v2.toNatClampNeg (w 98 v1.toNatClampNeg))) Q)) else (inB (v2 - (kI 1)) 12 = true ∧ (inB v2 12 = true ∧ EU X (d + 1) 38 (12, [some (.ref 95), some (.int v1), some (.int (v2 + (kI (-1)))), some (.int (v3 + (kI 1)))], [], SH, (up2 w 99 v2.toNatClampNeg (w 99 (v2 - (kI 1)).toNatClampNeg))) Q)))))))) : EU X (d + 1) 38 (12, [some (.ref 95), some (.int v1), some (.int v2), some (.int v3)], [], SH, w) Q := by
  unfold EU
  refine EV.steps cl_38 2 (q2 := (15, [some (.ref 95), some (.int v1), some (.int v2), some (.int v3)], [.int (kI 12), .int v3], SH, w)) rfl ?_
  refine EV.i_ge cl_38 rfl (fun h1 => ?_) (fun h1 => ?_)
  · skip
    rw [if_pos h1] at H
    refine EV.steps cl_38 6 (q2 := (72, [some (.ref 95), some (.int v1), some (.int v2), some (.int v3)], [.int v1, .ref 98, .int v2, .ref 99], SH, w)) rfl ?_
    obtain ⟨j2, H⟩ := H
    refine EV.iaload cl_38 rfl rfl (by decide) j2 ?_
    obtain ⟨j3, H⟩ := H
    refine EV.iastore cl_38 rfl rfl (by decide) j3 ?_
    refine EV.steps cl_38 2 (q2 := (2, [some (.ref 95), some (.int (v1 + (kI 1))), some (.int v2), some (.int v3)], [], SH, (up2 w 99 v2.toNatClampNeg (w 98 v1.toNatClampNeg)))) rfl ?_
    exact EV.weak (l := [some (.ref 95), some (.int (v1 + (kI 1))), none, none]) ⟨rfl, ⟨rfl, ⟨rfl, ⟨rfl, trivial⟩⟩⟩⟩ H
  · skip
    rw [if_neg h1] at H
    refine EV.steps cl_38 1 (q2 := (19, [some (.ref 95), some (.int v1), some (.int v2), some (.int v3)], [.int v2], SH, w)) rfl ?_
    refine EV.z_le cl_38 rfl (fun h4 => ?_) (fun h4 => ?_)
    · skip
      rw [if_pos h4] at H
      refine EV.steps cl_38 6 (q2 := (72, [some (.ref 95), some (.int v1), some (.int v2), some (.int v3)], [.int v1, .ref 98, .int v2, .ref 99], SH, w)) rfl ?_
      obtain ⟨j5, H⟩ := H
      refine EV.iaload cl_38 rfl rfl (by decide) j5 ?_
      obtain ⟨j6, H⟩ := H
      refine EV.iastore cl_38 rfl rfl (by decide) j6 ?_
      refine EV.steps cl_38 2 (q2 := (2, [some (.ref 95), some (.int (v1 + (kI 1))), some (.int v2), some (.int v3)], [], SH, (up2 w 99 v2.toNatClampNeg (w 98 v1.toNatClampNeg)))) rfl ?_
      exact EV.weak (l := [some (.ref 95), some (.int (v1 + (kI 1))), none, none]) ⟨rfl, ⟨rfl, ⟨rfl, ⟨rfl, trivial⟩⟩⟩⟩ H
    · skip
      rw [if_neg h4] at H
      refine EV.steps cl_38 5 (q2 := (29, [some (.ref 95), some (.int v1), some (.int v2), some (.int v3)], [.int (v2 - (kI 1)), .ref 99], SH, w)) rfl ?_
      obtain ⟨j7, H⟩ := H
      refine EV.iaload cl_38 rfl rfl (by decide) j7 ?_
      refine EV.steps cl_38 3 (q2 := (35, [some (.ref 95), some (.int v1), some (.int v2), some (.int v3)], [.int v1, .ref 98, .int (w 99 (v2 - (kI 1)).toNatClampNeg)], SH, w)) rfl ?_
      obtain ⟨j8, H⟩ := H
      refine EV.iaload cl_38 rfl rfl (by decide) j8 ?_
      refine EV.i_le cl_38 rfl (fun h9 => ?_) (fun h9 => ?_)
      · skip
        rw [if_pos h9] at H
        refine EV.steps cl_38 6 (q2 := (72, [some (.ref 95), some (.int v1), some (.int v2), some (.int v3)], [.int v1, .ref 98, .int v2, .ref 99], SH, w)) rfl ?_
        obtain ⟨j10, H⟩ := H
        refine EV.iaload cl_38 rfl rfl (by decide) j10 ?_
        obtain ⟨j11, H⟩ := H
        refine EV.iastore cl_38 rfl rfl (by decide) j11 ?_
        refine EV.steps cl_38 2 (q2 := (2, [some (.ref 95), some (.int (v1 + (kI 1))), some (.int v2), some (.int v3)], [], SH, (up2 w 99 v2.toNatClampNeg (w 98 v1.toNatClampNeg)))) rfl ?_
        exact EV.weak (l := [some (.ref 95), some (.int (v1 + (kI 1))), none, none]) ⟨rfl, ⟨rfl, ⟨rfl, ⟨rfl, trivial⟩⟩⟩⟩ H
      · skip
        rw [if_neg h9] at H
        refine EV.steps cl_38 8 (q2 := (51, [some (.ref 95), some (.int v1), some (.int v2), some (.int v3)], [.int (v2 - (kI 1)), .ref 99, .int v2, .ref 99], SH, w)) rfl ?_
        obtain ⟨j12, H⟩ := H
        refine EV.iaload cl_38 rfl rfl (by decide) j12 ?_
        obtain ⟨j13, H⟩ := H
        refine EV.iastore cl_38 rfl rfl (by decide) j13 ?_
        refine EV.steps cl_38 3 (q2 := (12, [some (.ref 95), some (.int v1), some (.int (v2 + (kI (-1)))), some (.int (v3 + (kI 1)))], [], SH, (up2 w 99 v2.toNatClampNeg (w 99 (v2 - (kI 1)).toNatClampNeg)))) rfl ?_
        exact H
theorem t39_95_at0 {X : Scr} {d : Nat} {Q : Wd → Prop} (w : Wd) 
    (H : EU X (d + 3) 39 (2, [some (.ref 95), some (.int (kI 0)), none, none], [], SH, w) Q) : EU X (d + 3) 39 (0, [some (.ref 95), none, none, none], [], SH, w) Q := by
  unfold EU
  refine EV.steps cl_39 2 (q2 := (2, [some (.ref 95), some (.int (kI 0)), none, none], [], SH, w)) rfl ?_
  exact H
theorem t39_95_at2 {X : Scr} {d : Nat} {Q : Wd → Prop} (w : Wd) (v1 : Int32)
    (H : (if (kI 12) ≤ v1 then EU X (d + 3) 39 (28, [some (.ref 95), some (.int (kI 11)), none, none], [], SH, w) Q else (inB ((kI 144) + v1) 156 = true ∧ EU X (d + 3) 39 (2, [some (.ref 95), some (.int (v1 + (kI 1))), none, none], [], SH, (up2 w 100 ((kI 144) + v1).toNatClampNeg (kI 0))) Q))) : EU X (d + 3) 39 (2, [some (.ref 95), some (.int v1), none, none], [], SH, w) Q := by
  unfold EU
  refine EV.steps cl_39 2 (q2 := (5, [some (.ref 95), some (.int v1), none, none], [.int (kI 12), .int v1], SH, w)) rfl ?_
  refine EV.i_ge cl_39 rfl (fun h1 => ?_) (fun h1 => ?_)
  · skip
    rw [if_pos h1] at H
    refine EV.steps cl_39 2 (q2 := (28, [some (.ref 95), some (.int (kI 11)), none, none], [], SH, w)) rfl ?_
    exact H
  · skip
    rw [if_neg h1] at H
    refine EV.steps cl_39 6 (q2 := (18, [some (.ref 95), some (.int v1), none, none], [.int (kI 0), .int ((kI 144) + v1), .ref 100], SH, w)) rfl ?_
    obtain ⟨j2, H⟩ := H
    refine EV.iastore cl_39 rfl rfl (by decide) j2 ?_
    refine EV.steps cl_39 2 (q2 := (2, [some (.ref 95), some (.int (v1 + (kI 1))), none, none], [], SH, (up2 w 100 ((kI 144) + v1).toNatClampNeg (kI 0)))) rfl ?_
    exact H
theorem t39_95_at28 {X : Scr} {d : Nat} {Q : Wd → Prop} (w : Wd) (v1 : Int32)
    (H : (if v1 < 0 then Q w else EU X (d + 3) 39 (43, [some (.ref 95), some (.int v1), some (.int (F_40_95 v1 (kI 11) w)), some (.int (kI 11))], [], SH, w) Q)) : EU X (d + 3) 39 (28, [some (.ref 95), some (.int v1), none, none], [], SH, w) Q := by
  unfold EU
  refine EV.steps cl_39 1 (q2 := (29, [some (.ref 95), some (.int v1), none, none], [.int v1], SH, w)) rfl ?_
  refine EV.z_lt cl_39 rfl (fun h1 => ?_) (fun h1 => ?_)
  · skip
    rw [if_pos h1] at H
    refine EV.ret cl_39 rfl rfl rfl ?_
    exact ⟨rfl, rfl, H⟩
  · skip
    rw [if_neg h1] at H
    refine EV.steps cl_39 3 (q2 := (36, [some (.ref 95), some (.int v1), none, none], [.int (kI 11), .int v1, .ref 95], SH, w)) rfl ?_
    refine EV.callF (kc := 40) (av := [.ref 95, .int v1, .int (kI 11)]) (r := []) (rv := some (.int (F_40_95 v1 (kI 11) w))) (w2 := w) cl_39 rfl rfl rfl (m_40_95 w v1 (kI 11)) ?_
    refine EV.steps cl_39 3 (q2 := (43, [some (.ref 95), some (.int v1), some (.int (F_40_95 v1 (kI 11) w)), some (.int (kI 11))], [], SH, w)) rfl ?_
    exact H
theorem t39_95_at43 {X : Scr} {d : Nat} {Q : Wd → Prop} (w : Wd) (v1 : Int32) (v2 : Int32) (v3 : Int32)
    (H : (if v3 < 0 then EU X (d + 3) 39 (28, [some (.ref 95), some (.int (v1 + (kI (-1)))), none, none], [], SH, w) Q else (inB ((v1 * (kI 12)) + v3) 156 = true ∧ EU X (d + 3) 39 (43, [some (.ref 95), some (.int v1), some (.int (if (F_40_95 v1 v3 w) < v2 then (F_40_95 v1 v3 w) else v2)), some (.int (v3 + (kI (-1))))], [], SH, (up2 w 100 ((v1 * (kI 12)) + v3).toNatClampNeg (if (F_40_95 v1 v3 w) < v2 then (F_40_95 v1 v3 w) else v2))) Q))) : EU X (d + 3) 39 (43, [some (.ref 95), some (.int v1), some (.int v2), some (.int v3)], [], SH, w) Q := by
  unfold EU
  refine EV.steps cl_39 1 (q2 := (44, [some (.ref 95), some (.int v1), some (.int v2), some (.int v3)], [.int v3], SH, w)) rfl ?_
  refine EV.z_lt cl_39 rfl (fun h1 => ?_) (fun h1 => ?_)
  · skip
    rw [if_pos h1] at H
    refine EV.steps cl_39 2 (q2 := (28, [some (.ref 95), some (.int (v1 + (kI (-1)))), some (.int v2), some (.int v3)], [], SH, w)) rfl ?_
    exact EV.weak (l := [some (.ref 95), some (.int (v1 + (kI (-1)))), none, none]) ⟨rfl, ⟨rfl, ⟨rfl, ⟨rfl, trivial⟩⟩⟩⟩ H
  · skip
    rw [if_neg h1] at H
    refine EV.steps cl_39 4 (q2 := (51, [some (.ref 95), some (.int v1), some (.int v2), some (.int v3)], [.int v3, .int v1, .ref 95, .int v2], SH, w)) rfl ?_
    refine EV.callF (kc := 40) (av := [.ref 95, .int v1, .int v3]) (r := [.int v2]) (rv := some (.int (F_40_95 v1 v3 w))) (w2 := w) cl_39 rfl rfl rfl (m_40_95 w v1 v3) ?_
    refine EV.steps cl_39 10 (q2 := (69, [some (.ref 95), some (.int v1), some (.int (if (F_40_95 v1 v3 w) < v2 then (F_40_95 v1 v3 w) else v2)), some (.int v3)], [.int (if (F_40_95 v1 v3 w) < v2 then (F_40_95 v1 v3 w) else v2), .int ((v1 * (kI 12)) + v3), .ref 100], SH, w)) rfl ?_
    obtain ⟨j2, H⟩ := H
    refine EV.iastore cl_39 rfl rfl (by decide) j2 ?_
    refine EV.steps cl_39 2 (q2 := (43, [some (.ref 95), some (.int v1), some (.int (if (F_40_95 v1 v3 w) < v2 then (F_40_95 v1 v3 w) else v2)), some (.int (v3 + (kI (-1))))], [], SH, (up2 w 100 ((v1 * (kI 12)) + v3).toNatClampNeg (if (F_40_95 v1 v3 w) < v2 then (F_40_95 v1 v3 w) else v2)))) rfl ?_
    exact H
theorem t44_84_22_at0 {X : Scr} {d : Nat} {Q : Int32 → Wd → Prop} (w : Wd) (v2 : Int32)
    (H : (if (F_153 v2 (kI 0) ((w 22 7) - (kI 1)) w) = 0 then Q (kI 0) w else (inB v2 16 = true ∧ (inB v2 16 = true ∧ CI X (d + 1) 46 [.ref 84, .ref 22, .int (w 27 v2.toNatClampNeg), .int (w 28 v2.toNatClampNeg)] w (fun x1 w1 => (if x1 = 0 then Q (kI 0) w1 else Q (kI 1) w1)))))) : EI X (d + 1) 44 (0, [some (.ref 84), some (.ref 22), some (.int v2)], [], SH, w) Q := by
  unfold EI
  refine EV.steps cl_44 6 (q2 := (8, [some (.ref 84), some (.ref 22), some (.int v2)], [.int ((w 22 7) - (kI 1)), .int (kI 0), .int v2], SH, w)) rfl ?_
  refine EV.callF (kc := 153) (av := [.int v2, .int (kI 0), .int ((w 22 7) - (kI 1))]) (r := []) (rv := some (.int (F_153 v2 (kI 0) ((w 22 7) - (kI 1)) w))) (w2 := w) cl_44 rfl rfl rfl (m_153 w v2 (kI 0) ((w 22 7) - (kI 1))) ?_
  refine EV.z_ne cl_44 rfl (fun h1 => ?_) (fun h1 => ?_)
  · skip
    rw [if_neg h1] at H
    refine EV.steps cl_44 5 (q2 := (23, [some (.ref 84), some (.ref 22), some (.int v2)], [.int v2, .ref 27, .ref 22, .ref 84], SH, w)) rfl ?_
    obtain ⟨j2, H⟩ := H
    refine EV.iaload cl_44 rfl rfl (by decide) j2 ?_
    refine EV.steps cl_44 3 (q2 := (29, [some (.ref 84), some (.ref 22), some (.int v2)], [.int v2, .ref 28, .int (w 27 v2.toNatClampNeg), .ref 22, .ref 84], SH, w)) rfl ?_
    obtain ⟨j3, H⟩ := H
    refine EV.iaload cl_44 rfl rfl (by decide) j3 ?_
    refine EV.call (kc := 46) (av := [.ref 84, .ref 22, .int (w 27 v2.toNatClampNeg), .int (w 28 v2.toNatClampNeg)]) (r := []) cl_44 rfl rfl rfl H ?_
    clear H; intro y1 s1 w1 e1
    obtain ⟨x1, rfl, rfl, H⟩ := e1
    refine EV.z_eq cl_44 rfl (fun h4 => ?_) (fun h4 => ?_)
    · skip
      rw [if_pos h4] at H
      refine EV.steps cl_44 1 (q2 := (41, [some (.ref 84), some (.ref 22), some (.int v2)], [.int (kI 0)], SH, w1)) rfl ?_
      refine EV.ret cl_44 rfl rfl rfl ?_
      exact ⟨_, rfl, rfl, H⟩
    · skip
      rw [if_neg h4] at H
      refine EV.steps cl_44 2 (q2 := (41, [some (.ref 84), some (.ref 22), some (.int v2)], [.int (kI 1)], SH, w1)) rfl ?_
      refine EV.ret cl_44 rfl rfl rfl ?_
      exact ⟨_, rfl, rfl, H⟩
  · skip
    rw [if_pos h1] at H
    refine EV.steps cl_44 1 (q2 := (15, [some (.ref 84), some (.ref 22), some (.int v2)], [.int (kI 0)], SH, w)) rfl ?_
    refine EV.ret cl_44 rfl rfl rfl ?_
    exact ⟨_, rfl, rfl, H⟩
theorem t44_84_37_at0 {X : Scr} {d : Nat} {Q : Int32 → Wd → Prop} (w : Wd) (v2 : Int32)
    (H : (if (F_153 v2 (kI 0) ((w 37 7) - (kI 1)) w) = 0 then Q (kI 0) w else (inB v2 1 = true ∧ (inB v2 1 = true ∧ CI X (d + 1) 46 [.ref 84, .ref 37, .int (w 42 v2.toNatClampNeg), .int (w 43 v2.toNatClampNeg)] w (fun x1 w1 => (if x1 = 0 then Q (kI 0) w1 else Q (kI 1) w1)))))) : EI X (d + 1) 44 (0, [some (.ref 84), some (.ref 37), some (.int v2)], [], SH, w) Q := by
  unfold EI
  refine EV.steps cl_44 6 (q2 := (8, [some (.ref 84), some (.ref 37), some (.int v2)], [.int ((w 37 7) - (kI 1)), .int (kI 0), .int v2], SH, w)) rfl ?_
  refine EV.callF (kc := 153) (av := [.int v2, .int (kI 0), .int ((w 37 7) - (kI 1))]) (r := []) (rv := some (.int (F_153 v2 (kI 0) ((w 37 7) - (kI 1)) w))) (w2 := w) cl_44 rfl rfl rfl (m_153 w v2 (kI 0) ((w 37 7) - (kI 1))) ?_
  refine EV.z_ne cl_44 rfl (fun h1 => ?_) (fun h1 => ?_)
  · skip
    rw [if_neg h1] at H
    refine EV.steps cl_44 5 (q2 := (23, [some (.ref 84), some (.ref 37), some (.int v2)], [.int v2, .ref 42, .ref 37, .ref 84], SH, w)) rfl ?_
    obtain ⟨j2, H⟩ := H
    refine EV.iaload cl_44 rfl rfl (by decide) j2 ?_
    refine EV.steps cl_44 3 (q2 := (29, [some (.ref 84), some (.ref 37), some (.int v2)], [.int v2, .ref 43, .int (w 42 v2.toNatClampNeg), .ref 37, .ref 84], SH, w)) rfl ?_
    obtain ⟨j3, H⟩ := H
    refine EV.iaload cl_44 rfl rfl (by decide) j3 ?_
    refine EV.call (kc := 46) (av := [.ref 84, .ref 37, .int (w 42 v2.toNatClampNeg), .int (w 43 v2.toNatClampNeg)]) (r := []) cl_44 rfl rfl rfl H ?_
    clear H; intro y1 s1 w1 e1
    obtain ⟨x1, rfl, rfl, H⟩ := e1
    refine EV.z_eq cl_44 rfl (fun h4 => ?_) (fun h4 => ?_)
    · skip
      rw [if_pos h4] at H
      refine EV.steps cl_44 1 (q2 := (41, [some (.ref 84), some (.ref 37), some (.int v2)], [.int (kI 0)], SH, w1)) rfl ?_
      refine EV.ret cl_44 rfl rfl rfl ?_
      exact ⟨_, rfl, rfl, H⟩
    · skip
      rw [if_neg h4] at H
      refine EV.steps cl_44 2 (q2 := (41, [some (.ref 84), some (.ref 37), some (.int v2)], [.int (kI 1)], SH, w1)) rfl ?_
      refine EV.ret cl_44 rfl rfl rfl ?_
      exact ⟨_, rfl, rfl, H⟩
  · skip
    rw [if_pos h1] at H
    refine EV.steps cl_44 1 (q2 := (15, [some (.ref 84), some (.ref 37), some (.int v2)], [.int (kI 0)], SH, w)) rfl ?_
    refine EV.ret cl_44 rfl rfl rfl ?_
    exact ⟨_, rfl, rfl, H⟩
theorem t44_84_44_at0 {X : Scr} {d : Nat} {Q : Int32 → Wd → Prop} (w : Wd) (v2 : Int32)
    (H : (if (F_153 v2 (kI 0) ((w 44 7) - (kI 1)) w) = 0 then Q (kI 0) w else (inB v2 1 = true ∧ (inB v2 1 = true ∧ CI X (d + 1) 46 [.ref 84, .ref 44, .int (w 49 v2.toNatClampNeg), .int (w 50 v2.toNatClampNeg)] w (fun x1 w1 => (if x1 = 0 then Q (kI 0) w1 else Q (kI 1) w1)))))) : EI X (d + 1) 44 (0, [some (.ref 84), some (.ref 44), some (.int v2)], [], SH, w) Q := by
  unfold EI
  refine EV.steps cl_44 6 (q2 := (8, [some (.ref 84), some (.ref 44), some (.int v2)], [.int ((w 44 7) - (kI 1)), .int (kI 0), .int v2], SH, w)) rfl ?_
  refine EV.callF (kc := 153) (av := [.int v2, .int (kI 0), .int ((w 44 7) - (kI 1))]) (r := []) (rv := some (.int (F_153 v2 (kI 0) ((w 44 7) - (kI 1)) w))) (w2 := w) cl_44 rfl rfl rfl (m_153 w v2 (kI 0) ((w 44 7) - (kI 1))) ?_
  refine EV.z_ne cl_44 rfl (fun h1 => ?_) (fun h1 => ?_)
  · skip
    rw [if_neg h1] at H
    refine EV.steps cl_44 5 (q2 := (23, [some (.ref 84), some (.ref 44), some (.int v2)], [.int v2, .ref 49, .ref 44, .ref 84], SH, w)) rfl ?_
    obtain ⟨j2, H⟩ := H
    refine EV.iaload cl_44 rfl rfl (by decide) j2 ?_
    refine EV.steps cl_44 3 (q2 := (29, [some (.ref 84), some (.ref 44), some (.int v2)], [.int v2, .ref 50, .int (w 49 v2.toNatClampNeg), .ref 44, .ref 84], SH, w)) rfl ?_
    obtain ⟨j3, H⟩ := H
    refine EV.iaload cl_44 rfl rfl (by decide) j3 ?_
    refine EV.call (kc := 46) (av := [.ref 84, .ref 44, .int (w 49 v2.toNatClampNeg), .int (w 50 v2.toNatClampNeg)]) (r := []) cl_44 rfl rfl rfl H ?_
    clear H; intro y1 s1 w1 e1
    obtain ⟨x1, rfl, rfl, H⟩ := e1
    refine EV.z_eq cl_44 rfl (fun h4 => ?_) (fun h4 => ?_)
    · skip
      rw [if_pos h4] at H
      refine EV.steps cl_44 1 (q2 := (41, [some (.ref 84), some (.ref 44), some (.int v2)], [.int (kI 0)], SH, w1)) rfl ?_
      refine EV.ret cl_44 rfl rfl rfl ?_
      exact ⟨_, rfl, rfl, H⟩
    · skip
      rw [if_neg h4] at H
      refine EV.steps cl_44 2 (q2 := (41, [some (.ref 84), some (.ref 44), some (.int v2)], [.int (kI 1)], SH, w1)) rfl ?_
      refine EV.ret cl_44 rfl rfl rfl ?_
      exact ⟨_, rfl, rfl, H⟩
  · skip
    rw [if_pos h1] at H
    refine EV.steps cl_44 1 (q2 := (15, [some (.ref 84), some (.ref 44), some (.int v2)], [.int (kI 0)], SH, w)) rfl ?_
    refine EV.ret cl_44 rfl rfl rfl ?_
    exact ⟨_, rfl, rfl, H⟩
theorem t44_84_51_at0 {X : Scr} {d : Nat} {Q : Int32 → Wd → Prop} (w : Wd) (v2 : Int32)
    (H : (if (F_153 v2 (kI 0) ((w 51 7) - (kI 1)) w) = 0 then Q (kI 0) w else (inB v2 1 = true ∧ (inB v2 1 = true ∧ CI X (d + 1) 46 [.ref 84, .ref 51, .int (w 56 v2.toNatClampNeg), .int (w 57 v2.toNatClampNeg)] w (fun x1 w1 => (if x1 = 0 then Q (kI 0) w1 else Q (kI 1) w1)))))) : EI X (d + 1) 44 (0, [some (.ref 84), some (.ref 51), some (.int v2)], [], SH, w) Q := by
  unfold EI
  refine EV.steps cl_44 6 (q2 := (8, [some (.ref 84), some (.ref 51), some (.int v2)], [.int ((w 51 7) - (kI 1)), .int (kI 0), .int v2], SH, w)) rfl ?_
  refine EV.callF (kc := 153) (av := [.int v2, .int (kI 0), .int ((w 51 7) - (kI 1))]) (r := []) (rv := some (.int (F_153 v2 (kI 0) ((w 51 7) - (kI 1)) w))) (w2 := w) cl_44 rfl rfl rfl (m_153 w v2 (kI 0) ((w 51 7) - (kI 1))) ?_
  refine EV.z_ne cl_44 rfl (fun h1 => ?_) (fun h1 => ?_)
  · skip
    rw [if_neg h1] at H
    refine EV.steps cl_44 5 (q2 := (23, [some (.ref 84), some (.ref 51), some (.int v2)], [.int v2, .ref 56, .ref 51, .ref 84], SH, w)) rfl ?_
    obtain ⟨j2, H⟩ := H
    refine EV.iaload cl_44 rfl rfl (by decide) j2 ?_
    refine EV.steps cl_44 3 (q2 := (29, [some (.ref 84), some (.ref 51), some (.int v2)], [.int v2, .ref 57, .int (w 56 v2.toNatClampNeg), .ref 51, .ref 84], SH, w)) rfl ?_
    obtain ⟨j3, H⟩ := H
    refine EV.iaload cl_44 rfl rfl (by decide) j3 ?_
    refine EV.call (kc := 46) (av := [.ref 84, .ref 51, .int (w 56 v2.toNatClampNeg), .int (w 57 v2.toNatClampNeg)]) (r := []) cl_44 rfl rfl rfl H ?_
    clear H; intro y1 s1 w1 e1
    obtain ⟨x1, rfl, rfl, H⟩ := e1
    refine EV.z_eq cl_44 rfl (fun h4 => ?_) (fun h4 => ?_)
    · skip
      rw [if_pos h4] at H
      refine EV.steps cl_44 1 (q2 := (41, [some (.ref 84), some (.ref 51), some (.int v2)], [.int (kI 0)], SH, w1)) rfl ?_
      refine EV.ret cl_44 rfl rfl rfl ?_
      exact ⟨_, rfl, rfl, H⟩
    · skip
      rw [if_neg h4] at H
      refine EV.steps cl_44 2 (q2 := (41, [some (.ref 84), some (.ref 51), some (.int v2)], [.int (kI 1)], SH, w1)) rfl ?_
      refine EV.ret cl_44 rfl rfl rfl ?_
      exact ⟨_, rfl, rfl, H⟩
  · skip
    rw [if_pos h1] at H
    refine EV.steps cl_44 1 (q2 := (15, [some (.ref 84), some (.ref 51), some (.int v2)], [.int (kI 0)], SH, w)) rfl ?_
    refine EV.ret cl_44 rfl rfl rfl ?_
    exact ⟨_, rfl, rfl, H⟩
theorem t44_84_58_at0 {X : Scr} {d : Nat} {Q : Int32 → Wd → Prop} (w : Wd) (v2 : Int32)
    (H : (if (F_153 v2 (kI 0) ((w 58 7) - (kI 1)) w) = 0 then Q (kI 0) w else (inB v2 1 = true ∧ (inB v2 1 = true ∧ CI X (d + 1) 46 [.ref 84, .ref 58, .int (w 63 v2.toNatClampNeg), .int (w 64 v2.toNatClampNeg)] w (fun x1 w1 => (if x1 = 0 then Q (kI 0) w1 else Q (kI 1) w1)))))) : EI X (d + 1) 44 (0, [some (.ref 84), some (.ref 58), some (.int v2)], [], SH, w) Q := by
  unfold EI
  refine EV.steps cl_44 6 (q2 := (8, [some (.ref 84), some (.ref 58), some (.int v2)], [.int ((w 58 7) - (kI 1)), .int (kI 0), .int v2], SH, w)) rfl ?_
  refine EV.callF (kc := 153) (av := [.int v2, .int (kI 0), .int ((w 58 7) - (kI 1))]) (r := []) (rv := some (.int (F_153 v2 (kI 0) ((w 58 7) - (kI 1)) w))) (w2 := w) cl_44 rfl rfl rfl (m_153 w v2 (kI 0) ((w 58 7) - (kI 1))) ?_
  refine EV.z_ne cl_44 rfl (fun h1 => ?_) (fun h1 => ?_)
  · skip
    rw [if_neg h1] at H
    refine EV.steps cl_44 5 (q2 := (23, [some (.ref 84), some (.ref 58), some (.int v2)], [.int v2, .ref 63, .ref 58, .ref 84], SH, w)) rfl ?_
    obtain ⟨j2, H⟩ := H
    refine EV.iaload cl_44 rfl rfl (by decide) j2 ?_
    refine EV.steps cl_44 3 (q2 := (29, [some (.ref 84), some (.ref 58), some (.int v2)], [.int v2, .ref 64, .int (w 63 v2.toNatClampNeg), .ref 58, .ref 84], SH, w)) rfl ?_
    obtain ⟨j3, H⟩ := H
    refine EV.iaload cl_44 rfl rfl (by decide) j3 ?_
    refine EV.call (kc := 46) (av := [.ref 84, .ref 58, .int (w 63 v2.toNatClampNeg), .int (w 64 v2.toNatClampNeg)]) (r := []) cl_44 rfl rfl rfl H ?_
    clear H; intro y1 s1 w1 e1
    obtain ⟨x1, rfl, rfl, H⟩ := e1
    refine EV.z_eq cl_44 rfl (fun h4 => ?_) (fun h4 => ?_)
    · skip
      rw [if_pos h4] at H
      refine EV.steps cl_44 1 (q2 := (41, [some (.ref 84), some (.ref 58), some (.int v2)], [.int (kI 0)], SH, w1)) rfl ?_
      refine EV.ret cl_44 rfl rfl rfl ?_
      exact ⟨_, rfl, rfl, H⟩
    · skip
      rw [if_neg h4] at H
      refine EV.steps cl_44 2 (q2 := (41, [some (.ref 84), some (.ref 58), some (.int v2)], [.int (kI 1)], SH, w1)) rfl ?_
      refine EV.ret cl_44 rfl rfl rfl ?_
      exact ⟨_, rfl, rfl, H⟩
  · skip
    rw [if_pos h1] at H
    refine EV.steps cl_44 1 (q2 := (15, [some (.ref 84), some (.ref 58), some (.int v2)], [.int (kI 0)], SH, w)) rfl ?_
    refine EV.ret cl_44 rfl rfl rfl ?_
    exact ⟨_, rfl, rfl, H⟩
theorem t44_84_65_at0 {X : Scr} {d : Nat} {Q : Int32 → Wd → Prop} (w : Wd) (v2 : Int32)
    (H : (if (F_153 v2 (kI 0) ((w 65 7) - (kI 1)) w) = 0 then Q (kI 0) w else (inB v2 1 = true ∧ (inB v2 1 = true ∧ CI X (d + 1) 46 [.ref 84, .ref 65, .int (w 70 v2.toNatClampNeg), .int (w 71 v2.toNatClampNeg)] w (fun x1 w1 => (if x1 = 0 then Q (kI 0) w1 else Q (kI 1) w1)))))) : EI X (d + 1) 44 (0, [some (.ref 84), some (.ref 65), some (.int v2)], [], SH, w) Q := by
  unfold EI
  refine EV.steps cl_44 6 (q2 := (8, [some (.ref 84), some (.ref 65), some (.int v2)], [.int ((w 65 7) - (kI 1)), .int (kI 0), .int v2], SH, w)) rfl ?_
  refine EV.callF (kc := 153) (av := [.int v2, .int (kI 0), .int ((w 65 7) - (kI 1))]) (r := []) (rv := some (.int (F_153 v2 (kI 0) ((w 65 7) - (kI 1)) w))) (w2 := w) cl_44 rfl rfl rfl (m_153 w v2 (kI 0) ((w 65 7) - (kI 1))) ?_
  refine EV.z_ne cl_44 rfl (fun h1 => ?_) (fun h1 => ?_)
  · skip
    rw [if_neg h1] at H
    refine EV.steps cl_44 5 (q2 := (23, [some (.ref 84), some (.ref 65), some (.int v2)], [.int v2, .ref 70, .ref 65, .ref 84], SH, w)) rfl ?_
    obtain ⟨j2, H⟩ := H
    refine EV.iaload cl_44 rfl rfl (by decide) j2 ?_
    refine EV.steps cl_44 3 (q2 := (29, [some (.ref 84), some (.ref 65), some (.int v2)], [.int v2, .ref 71, .int (w 70 v2.toNatClampNeg), .ref 65, .ref 84], SH, w)) rfl ?_
    obtain ⟨j3, H⟩ := H
    refine EV.iaload cl_44 rfl rfl (by decide) j3 ?_
    refine EV.call (kc := 46) (av := [.ref 84, .ref 65, .int (w 70 v2.toNatClampNeg), .int (w 71 v2.toNatClampNeg)]) (r := []) cl_44 rfl rfl rfl H ?_
    clear H; intro y1 s1 w1 e1
    obtain ⟨x1, rfl, rfl, H⟩ := e1
    refine EV.z_eq cl_44 rfl (fun h4 => ?_) (fun h4 => ?_)
    · skip
      rw [if_pos h4] at H
      refine EV.steps cl_44 1 (q2 := (41, [some (.ref 84), some (.ref 65), some (.int v2)], [.int (kI 0)], SH, w1)) rfl ?_
      refine EV.ret cl_44 rfl rfl rfl ?_
      exact ⟨_, rfl, rfl, H⟩
    · skip
      rw [if_neg h4] at H
      refine EV.steps cl_44 2 (q2 := (41, [some (.ref 84), some (.ref 65), some (.int v2)], [.int (kI 1)], SH, w1)) rfl ?_
      refine EV.ret cl_44 rfl rfl rfl ?_
      exact ⟨_, rfl, rfl, H⟩
  · skip
    rw [if_pos h1] at H
    refine EV.steps cl_44 1 (q2 := (15, [some (.ref 84), some (.ref 65), some (.int v2)], [.int (kI 0)], SH, w)) rfl ?_
    refine EV.ret cl_44 rfl rfl rfl ?_
    exact ⟨_, rfl, rfl, H⟩
theorem t44_84_72_at0 {X : Scr} {d : Nat} {Q : Int32 → Wd → Prop} (w : Wd) (v2 : Int32)
    (H : (if (F_153 v2 (kI 0) ((w 72 7) - (kI 1)) w) = 0 then Q (kI 0) w else (inB v2 1 = true ∧ (inB v2 1 = true ∧ CI X (d + 1) 46 [.ref 84, .ref 72, .int (w 77 v2.toNatClampNeg), .int (w 78 v2.toNatClampNeg)] w (fun x1 w1 => (if x1 = 0 then Q (kI 0) w1 else Q (kI 1) w1)))))) : EI X (d + 1) 44 (0, [some (.ref 84), some (.ref 72), some (.int v2)], [], SH, w) Q := by
  unfold EI
  refine EV.steps cl_44 6 (q2 := (8, [some (.ref 84), some (.ref 72), some (.int v2)], [.int ((w 72 7) - (kI 1)), .int (kI 0), .int v2], SH, w)) rfl ?_
  refine EV.callF (kc := 153) (av := [.int v2, .int (kI 0), .int ((w 72 7) - (kI 1))]) (r := []) (rv := some (.int (F_153 v2 (kI 0) ((w 72 7) - (kI 1)) w))) (w2 := w) cl_44 rfl rfl rfl (m_153 w v2 (kI 0) ((w 72 7) - (kI 1))) ?_
  refine EV.z_ne cl_44 rfl (fun h1 => ?_) (fun h1 => ?_)
  · skip
    rw [if_neg h1] at H
    refine EV.steps cl_44 5 (q2 := (23, [some (.ref 84), some (.ref 72), some (.int v2)], [.int v2, .ref 77, .ref 72, .ref 84], SH, w)) rfl ?_
    obtain ⟨j2, H⟩ := H
    refine EV.iaload cl_44 rfl rfl (by decide) j2 ?_
    refine EV.steps cl_44 3 (q2 := (29, [some (.ref 84), some (.ref 72), some (.int v2)], [.int v2, .ref 78, .int (w 77 v2.toNatClampNeg), .ref 72, .ref 84], SH, w)) rfl ?_
    obtain ⟨j3, H⟩ := H
    refine EV.iaload cl_44 rfl rfl (by decide) j3 ?_
    refine EV.call (kc := 46) (av := [.ref 84, .ref 72, .int (w 77 v2.toNatClampNeg), .int (w 78 v2.toNatClampNeg)]) (r := []) cl_44 rfl rfl rfl H ?_
    clear H; intro y1 s1 w1 e1
    obtain ⟨x1, rfl, rfl, H⟩ := e1
    refine EV.z_eq cl_44 rfl (fun h4 => ?_) (fun h4 => ?_)
    · skip
      rw [if_pos h4] at H
      refine EV.steps cl_44 1 (q2 := (41, [some (.ref 84), some (.ref 72), some (.int v2)], [.int (kI 0)], SH, w1)) rfl ?_
      refine EV.ret cl_44 rfl rfl rfl ?_
      exact ⟨_, rfl, rfl, H⟩
    · skip
      rw [if_neg h4] at H
      refine EV.steps cl_44 2 (q2 := (41, [some (.ref 84), some (.ref 72), some (.int v2)], [.int (kI 1)], SH, w1)) rfl ?_
      refine EV.ret cl_44 rfl rfl rfl ?_
      exact ⟨_, rfl, rfl, H⟩
  · skip
    rw [if_pos h1] at H
    refine EV.steps cl_44 1 (q2 := (15, [some (.ref 84), some (.ref 72), some (.int v2)], [.int (kI 0)], SH, w)) rfl ?_
    refine EV.ret cl_44 rfl rfl rfl ?_
    exact ⟨_, rfl, rfl, H⟩
theorem t45_84_22_at0 {X : Scr} {d : Nat} {Q : Int32 → Wd → Prop} (w : Wd) (v2 : Int32)
    (H : (if (F_153 v2 (kI 0) ((w 22 7) - (kI 1)) w) = 0 then Q (kI 0) w else (inB v2 16 = true ∧ (inB v2 16 = true ∧ CI X (d + 1) 46 [.ref 84, .ref 22, .int (w 26 v2.toNatClampNeg), .int (w 27 v2.toNatClampNeg)] w (fun x1 w1 => Q x1 w1))))) : EI X (d + 1) 45 (0, [some (.ref 84), some (.ref 22), some (.int v2)], [], SH, w) Q := by
  unfold EI
  refine EV.steps cl_45 6 (q2 := (8, [some (.ref 84), some (.ref 22), some (.int v2)], [.int ((w 22 7) - (kI 1)), .int (kI 0), .int v2], SH, w)) rfl ?_
  refine EV.callF (kc := 153) (av := [.int v2, .int (kI 0), .int ((w 22 7) - (kI 1))]) (r := []) (rv := some (.int (F_153 v2 (kI 0) ((w 22 7) - (kI 1)) w))) (w2 := w) cl_45 rfl rfl rfl (m_153 w v2 (kI 0) ((w 22 7) - (kI 1))) ?_
  refine EV.z_ne cl_45 rfl (fun h1 => ?_) (fun h1 => ?_)
  · skip
    rw [if_neg h1] at H
    refine EV.steps cl_45 5 (q2 := (23, [some (.ref 84), some (.ref 22), some (.int v2)], [.int v2, .ref 26, .ref 22, .ref 84], SH, w)) rfl ?_
    obtain ⟨j2, H⟩ := H
    refine EV.iaload cl_45 rfl rfl (by decide) j2 ?_
    refine EV.steps cl_45 3 (q2 := (29, [some (.ref 84), some (.ref 22), some (.int v2)], [.int v2, .ref 27, .int (w 26 v2.toNatClampNeg), .ref 22, .ref 84], SH, w)) rfl ?_
    obtain ⟨j3, H⟩ := H
    refine EV.iaload cl_45 rfl rfl (by decide) j3 ?_
    refine EV.call (kc := 46) (av := [.ref 84, .ref 22, .int (w 26 v2.toNatClampNeg), .int (w 27 v2.toNatClampNeg)]) (r := []) cl_45 rfl rfl rfl H ?_
    clear H; intro y1 s1 w1 e1
    obtain ⟨x1, rfl, rfl, H⟩ := e1
    refine EV.ret cl_45 rfl rfl rfl ?_
    exact ⟨_, rfl, rfl, H⟩
  · skip
    rw [if_pos h1] at H
    refine EV.steps cl_45 1 (q2 := (15, [some (.ref 84), some (.ref 22), some (.int v2)], [.int (kI 0)], SH, w)) rfl ?_
    refine EV.ret cl_45 rfl rfl rfl ?_
    exact ⟨_, rfl, rfl, H⟩
theorem t46_84_22_at0 {X : Scr} {d : Nat} {Q : Int32 → Wd → Prop} (w : Wd) (v2 : Int32) (v3 : Int32)
    (H : EI X (d + 1) 46 (40, [some (.ref 84), some (.ref 22), some (.int v2), some (.int v3), some (.ref 23), some (.ref 24), some (.int (if (if (Int32.ofNat 240) < (Int32.ofNat 240) then (Int32.ofNat 240) else (Int32.ofNat 240)) < v3 then (if (Int32.ofNat 240) < (Int32.ofNat 240) then (Int32.ofNat 240) else (Int32.ofNat 240)) else v3)), some (.int (kI (-1))), some (.int (if (kI 0) < v2 then v2 else (kI 0))), some (.int (kI 0)), none, none, none], [], SH, w) Q) : EI X (d + 1) 46 (0, [some (.ref 84), some (.ref 22), some (.int v2), some (.int v3), none, none, none, none, none, none, none, none, none], [], SH, w) Q := by
  unfold EI
  refine EV.steps cl_46 22 (q2 := (40, [some (.ref 84), some (.ref 22), some (.int v2), some (.int v3), some (.ref 23), some (.ref 24), some (.int (if (if (Int32.ofNat 240) < (Int32.ofNat 240) then (Int32.ofNat 240) else (Int32.ofNat 240)) < v3 then (if (Int32.ofNat 240) < (Int32.ofNat 240) then (Int32.ofNat 240) else (Int32.ofNat 240)) else v3)), some (.int (kI (-1))), some (.int (if (kI 0) < v2 then v2 else (kI 0))), some (.int (kI 0)), none, none, none], [], SH, w)) rfl ?_
  exact H
theorem t46_84_22_at40 {X : Scr} {d : Nat} {Q : Int32 → Wd → Prop} (w : Wd) (v2 : Int32) (v3 : Int32) (v6 : Int32) (v7 : Int32) (v8 : Int32) (v9 : Int32)
    (H : (if (kI 240) ≤ v9 then (if 0 ≤ v7 then (inB v7 64 = true ∧ Q (w 86 v7.toNatClampNeg) w) else Q (kI 0) w) else (if v6 ≤ v8 then (if 0 ≤ v7 then (inB v7 64 = true ∧ Q (w 86 v7.toNatClampNeg) w) else Q (kI 0) w) else (inB v8 240 = true ∧ (inB v8 240 = true ∧ (if (w 23 v8.toNatClampNeg) = (kI 1) then (if (v7 + (kI 1)) < (kI 64) then (inB (v7 + (kI 1)) 64 = true ∧ EI X (d + 1) 46 (40, [some (.ref 84), some (.ref 22), some (.int v2), some (.int v3), some (.ref 23), some (.ref 24), some (.int v6), some (.int (v7 + (kI 1))), some (.int (v8 + (kI 1))), some (.int (v9 + (kI 1))), none, none, none], [], SH, (up2 w 86 (v7 + (kI 1)).toNatClampNeg (w 24 v8.toNatClampNeg))) Q) else Q (kI 0) w) else (if (w 23 v8.toNatClampNeg) = (kI 2) then (if (v7 + (kI 1)) < (kI 64) then ((¬ (w 24 v8.toNatClampNeg) < 0 → ¬ (kI 12) ≤ (w 24 v8.toNatClampNeg) → (inB (w 24 v8.toNatClampNeg) 12 = true)) ∧ (inB (v7 + (kI 1)) 64 = true ∧ EI X (d + 1) 46 (40, [some (.ref 84), some (.ref 22), some (.int v2), some (.int v3), some (.ref 23), some (.ref 24), some (.int v6), some (.int (v7 + (kI 1))), some (.int (v8 + (kI 1))), some (.int (v9 + (kI 1))), none, none, none], [], SH, (up2 w 86 (v7 + (kI 1)).toNatClampNeg (F_47_84 (w 24 v8.toNatClampNeg) w))) Q)) else Q (kI 0) w) else (if 0 ≤ v7 then (if (w 23 v8.toNatClampNeg) = (kI 33) then (inB v7 64 = true ∧ (inB v7 64 = true ∧ EI X (d + 1) 46 (40, [some (.ref 84), some (.ref 22), some (.int v2), some (.int v3), some (.ref 23), some (.ref 24), some (.int v6), some (.int v7), some (.int (v8 + (kI 1))), some (.int (v9 + (kI 1))), none, none, none], [], SH, (up2 w 86 v7.toNatClampNeg ((kI 1) - (w 86 v7.toNatClampNeg)))) Q)) else (if (w 23 v8.toNatClampNeg) = (kI 38) then (inB v7 64 = true ∧ (if (w 23 v8.toNatClampNeg) = (kI 124) then (if (w 86 v7.toNatClampNeg) = (kI 1) then EI X (d + 1) 46 (40, [some (.ref 84), some (.ref 22), some (.int v2), some (.int v3), some (.ref 23), some (.ref 24), some (.int v6), some (.int v7), some (.int (if (v8 + (kI 1)) < (w 24 v8.toNatClampNeg) then (w 24 v8.toNatClampNeg) else (v8 + (kI 1)))), some (.int (v9 + (kI 1))), none, none, none], [], SH, w) Q else EI X (d + 1) 46 (40, [some (.ref 84), some (.ref 22), some (.int v2), some (.int v3), some (.ref 23), some (.ref 24), some (.int v6), some (.int (v7 - (kI 1))), some (.int (v8 + (kI 1))), some (.int (v9 + (kI 1))), none, none, none], [], SH, w) Q) else (if (w 86 v7.toNatClampNeg) = (kI 0) then EI X (d + 1) 46 (40, [some (.ref 84), some (.ref 22), some (.int v2), some (.int v3), some (.ref 23), some (.ref 24), some (.int v6), some (.int v7), some (.int (if (v8 + (kI 1)) < (w 24 v8.toNatClampNeg) then (w 24 v8.toNatClampNeg) else (v8 + (kI 1)))), some (.int (v9 + (kI 1))), none, none, none], [], SH, w) Q else EI X (d + 1) 46 (40, [some (.ref 84), some (.ref 22), some (.int v2), some (.int v3), some (.ref 23), some (.ref 24), some (.int v6), some (.int (v7 - (kI 1))), some (.int (v8 + (kI 1))), some (.int (v9 + (kI 1))), none, none, none], [], SH, w) Q))) else (if (w 23 v8.toNatClampNeg) = (kI 124) then (inB v7 64 = true ∧ (if (w 86 v7.toNatClampNeg) = (kI 1) then EI X (d + 1) 46 (40, [some (.ref 84), some (.ref 22), some (.int v2), some (.int v3), some (.ref 23), some (.ref 24), some (.int v6), some (.int v7), some (.int (if (v8 + (kI 1)) < (w 24 v8.toNatClampNeg) then (w 24 v8.toNatClampNeg) else (v8 + (kI 1)))), some (.int (v9 + (kI 1))), none, none, none], [], SH, w) Q else EI X (d + 1) 46 (40, [some (.ref 84), some (.ref 22), some (.int v2), some (.int v3), some (.ref 23), some (.ref 24), some (.int v6), some (.int (v7 - (kI 1))), some (.int (v8 + (kI 1))), some (.int (v9 + (kI 1))), none, none, none], [], SH, w) Q)) else (if v7 < (kI 1) then Q (kI 0) w else (inB v7 64 = true ∧ (if (F_48 (w 23 v8.toNatClampNeg) (w 86 v7.toNatClampNeg) w) = 0 then (inB (v7 + (kI (-1))) 64 = true ∧ (inB ((v7 + (kI (-1))) + (kI 1)) 64 = true ∧ (((w 23 v8.toNatClampNeg) = (kI 37) → ¬ (w 86 ((v7 + (kI (-1))) + (kI 1)).toNatClampNeg) = 0 → (¬ (w 86 ((v7 + (kI (-1))) + (kI 1)).toNatClampNeg) = 0)) ∧ ((¬ (w 23 v8.toNatClampNeg) = (kI 37) → ¬ (w 23 v8.toNatClampNeg) = (kI 42) → ¬ (w 23 v8.toNatClampNeg) = (kI 43) → ¬ (w 23 v8.toNatClampNeg) = (kI 45) → (w 23 v8.toNatClampNeg) = (kI 47) → ¬ (w 86 ((v7 + (kI (-1))) + (kI 1)).toNatClampNeg) = 0 → (¬ (w 86 ((v7 + (kI (-1))) + (kI 1)).toNatClampNeg) = 0)) ∧ (inB (v7 + (kI (-1))) 64 = true ∧ EI X (d + 1) 46 (40, [some (.ref 84), some (.ref 22), some (.int v2), some (.int v3), some (.ref 23), some (.ref 24), some (.int v6), some (.int (v7 + (kI (-1)))), some (.int (v8 + (kI 1))), some (.int (v9 + (kI 1))), none, none, none], [], SH, (up2 w 86 (v7 + (kI (-1))).toNatClampNeg (F_49 (w 23 v8.toNatClampNeg) (w 86 (v7 + (kI (-1))).toNatClampNeg) (w 86 ((v7 + (kI (-1))) + (kI 1)).toNatClampNeg) w))) Q))))) else Q (kI 0) w)))))) else Q (kI 0) w)))))))) : EI X (d + 1) 46 (40, [some (.ref 84), some (.ref 22), some (.int v2), some (.int v3), some (.ref 23), some (.ref 24), some (.int v6), some (.int v7), some (.int v8), some (.int v9), none, none, none], [], SH, w) Q := by
  unfold EI
  refine EV.steps cl_46 2 (q2 := (45, [some (.ref 84), some (.ref 22), some (.int v2), some (.int v3), some (.ref 23), some (.ref 24), some (.int v6), some (.int v7), some (.int v8), some (.int v9), none, none, none], [.int (kI 240), .int v9], SH, w)) rfl ?_
  refine EV.i_ge cl_46 rfl (fun h1 => ?_) (fun h1 => ?_)
  · skip
    rw [if_pos h1] at H
    refine EV.steps cl_46 1 (q2 := (299, [some (.ref 84), some (.ref 22), some (.int v2), some (.int v3), some (.ref 23), some (.ref 24), some (.int v6), some (.int v7), some (.int v8), some (.int v9), none, none, none], [.int v7], SH, w)) rfl ?_
    refine EV.z_ge cl_46 rfl (fun h2 => ?_) (fun h2 => ?_)
    · skip
      rw [if_pos h2] at H
      refine EV.steps cl_46 3 (q2 := (312, [some (.ref 84), some (.ref 22), some (.int v2), some (.int v3), some (.ref 23), some (.ref 24), some (.int v6), some (.int v7), some (.int v8), some (.int v9), none, none, none], [.int v7, .ref 86], SH, w)) rfl ?_
      obtain ⟨j3, H⟩ := H
      refine EV.iaload cl_46 rfl rfl (by decide) j3 ?_
      refine EV.ret cl_46 rfl rfl rfl ?_
      exact ⟨_, rfl, rfl, H⟩
    · skip
      rw [if_neg h2] at H
      refine EV.steps cl_46 2 (q2 := (313, [some (.ref 84), some (.ref 22), some (.int v2), some (.int v3), some (.ref 23), some (.ref 24), some (.int v6), some (.int v7), some (.int v8), some (.int v9), none, none, none], [.int (kI 0)], SH, w)) rfl ?_
      refine EV.ret cl_46 rfl rfl rfl ?_
      exact ⟨_, rfl, rfl, H⟩
  · skip
    rw [if_neg h1] at H
    refine EV.steps cl_46 2 (q2 := (52, [some (.ref 84), some (.ref 22), some (.int v2), some (.int v3), some (.ref 23), some (.ref 24), some (.int v6), some (.int v7), some (.int v8), some (.int v9), none, none, none], [.int v6, .int v8], SH, w)) rfl ?_
    refine EV.i_ge cl_46 rfl (fun h4 => ?_) (fun h4 => ?_)
    · skip
      rw [if_pos h4] at H
      refine EV.steps cl_46 1 (q2 := (299, [some (.ref 84), some (.ref 22), some (.int v2), some (.int v3), some (.ref 23), some (.ref 24), some (.int v6), some (.int v7), some (.int v8), some (.int v9), none, none, none], [.int v7], SH, w)) rfl ?_
      refine EV.z_ge cl_46 rfl (fun h5 => ?_) (fun h5 => ?_)
      · skip
        rw [if_pos h5] at H
        refine EV.steps cl_46 3 (q2 := (312, [some (.ref 84), some (.ref 22), some (.int v2), some (.int v3), some (.ref 23), some (.ref 24), some (.int v6), some (.int v7), some (.int v8), some (.int v9), none, none, none], [.int v7, .ref 86], SH, w)) rfl ?_
        obtain ⟨j6, H⟩ := H
        refine EV.iaload cl_46 rfl rfl (by decide) j6 ?_
        refine EV.ret cl_46 rfl rfl rfl ?_
        exact ⟨_, rfl, rfl, H⟩
      · skip
        rw [if_neg h5] at H
        refine EV.steps cl_46 2 (q2 := (313, [some (.ref 84), some (.ref 22), some (.int v2), some (.int v3), some (.ref 23), some (.ref 24), some (.int v6), some (.int v7), some (.int v8), some (.int v9), none, none, none], [.int (kI 0)], SH, w)) rfl ?_
        refine EV.ret cl_46 rfl rfl rfl ?_
        exact ⟨_, rfl, rfl, H⟩
    · skip
      rw [if_neg h4] at H
      refine EV.steps cl_46 2 (q2 := (59, [some (.ref 84), some (.ref 22), some (.int v2), some (.int v3), some (.ref 23), some (.ref 24), some (.int v6), some (.int v7), some (.int v8), some (.int v9), none, none, none], [.int v8, .ref 23], SH, w)) rfl ?_
      obtain ⟨j7, H⟩ := H
      refine EV.iaload cl_46 rfl rfl (by decide) j7 ?_
      refine EV.steps cl_46 3 (q2 := (66, [some (.ref 84), some (.ref 22), some (.int v2), some (.int v3), some (.ref 23), some (.ref 24), some (.int v6), some (.int v7), some (.int v8), some (.int v9), some (.int (w 23 v8.toNatClampNeg)), none, none], [.int v8, .ref 24], SH, w)) rfl ?_
      obtain ⟨j8, H⟩ := H
      refine EV.iaload cl_46 rfl rfl (by decide) j8 ?_
      refine EV.steps cl_46 4 (q2 := (75, [some (.ref 84), some (.ref 22), some (.int v2), some (.int v3), some (.ref 23), some (.ref 24), some (.int v6), some (.int v7), some (.int (v8 + (kI 1))), some (.int v9), some (.int (w 23 v8.toNatClampNeg)), some (.int (w 24 v8.toNatClampNeg)), none], [.int (kI 1), .int (w 23 v8.toNatClampNeg)], SH, w)) rfl ?_
      refine EV.i_eq cl_46 rfl (fun h9 => ?_) (fun h9 => ?_)
      · skip
        rw [if_pos h9] at H
        refine EV.steps cl_46 3 (q2 := (91, [some (.ref 84), some (.ref 22), some (.int v2), some (.int v3), some (.ref 23), some (.ref 24), some (.int v6), some (.int (v7 + (kI 1))), some (.int (v8 + (kI 1))), some (.int v9), some (.int (w 23 v8.toNatClampNeg)), some (.int (w 24 v8.toNatClampNeg)), none], [.int (kI 64), .int (v7 + (kI 1))], SH, w)) rfl ?_
        refine EV.i_lt cl_46 rfl (fun h10 => ?_) (fun h10 => ?_)
        · skip
          rw [if_pos h10] at H
          refine EV.steps cl_46 5 (q2 := (105, [some (.ref 84), some (.ref 22), some (.int v2), some (.int v3), some (.ref 23), some (.ref 24), some (.int v6), some (.int (v7 + (kI 1))), some (.int (v8 + (kI 1))), some (.int v9), some (.int (w 23 v8.toNatClampNeg)), some (.int (w 24 v8.toNatClampNeg)), none], [.int (kI 1), .int (w 23 v8.toNatClampNeg), .int (v7 + (kI 1)), .ref 86], SH, w)) rfl ?_
          refine EV.i_ne cl_46 rfl (fun h11 => ?_) (fun h11 => ?_)
          · skip
            exact absurd h9 h11
          · skip
            refine EV.steps cl_46 2 (q2 := (119, [some (.ref 84), some (.ref 22), some (.int v2), some (.int v3), some (.ref 23), some (.ref 24), some (.int v6), some (.int (v7 + (kI 1))), some (.int (v8 + (kI 1))), some (.int v9), some (.int (w 23 v8.toNatClampNeg)), some (.int (w 24 v8.toNatClampNeg)), none], [.int (w 24 v8.toNatClampNeg), .int (v7 + (kI 1)), .ref 86], SH, w)) rfl ?_
            obtain ⟨j12, H⟩ := H
            refine EV.iastore cl_46 rfl rfl (by decide) j12 ?_
            refine EV.steps cl_46 3 (q2 := (40, [some (.ref 84), some (.ref 22), some (.int v2), some (.int v3), some (.ref 23), some (.ref 24), some (.int v6), some (.int (v7 + (kI 1))), some (.int (v8 + (kI 1))), some (.int (v9 + (kI 1))), some (.int (w 23 v8.toNatClampNeg)), some (.int (w 24 v8.toNatClampNeg)), none], [], SH, (up2 w 86 (v7 + (kI 1)).toNatClampNeg (w 24 v8.toNatClampNeg)))) rfl ?_
            exact EV.weak (l := [some (.ref 84), some (.ref 22), some (.int v2), some (.int v3), some (.ref 23), some (.ref 24), some (.int v6), some (.int (v7 + (kI 1))), some (.int (v8 + (kI 1))), some (.int (v9 + (kI 1))), none, none, none]) ⟨rfl, ⟨rfl, ⟨rfl, ⟨rfl, ⟨rfl, ⟨rfl, ⟨rfl, ⟨rfl, ⟨rfl, ⟨rfl, ⟨rfl, ⟨rfl, ⟨trivial, trivial⟩⟩⟩⟩⟩⟩⟩⟩⟩⟩⟩⟩⟩ H
        · skip
          rw [if_neg h10] at H
          refine EV.steps cl_46 1 (q2 := (95, [some (.ref 84), some (.ref 22), some (.int v2), some (.int v3), some (.ref 23), some (.ref 24), some (.int v6), some (.int (v7 + (kI 1))), some (.int (v8 + (kI 1))), some (.int v9), some (.int (w 23 v8.toNatClampNeg)), some (.int (w 24 v8.toNatClampNeg)), none], [.int (kI 0)], SH, w)) rfl ?_
          refine EV.ret cl_46 rfl rfl rfl ?_
          exact ⟨_, rfl, rfl, H⟩
      · skip
        rw [if_neg h9] at H
        refine EV.steps cl_46 2 (q2 := (81, [some (.ref 84), some (.ref 22), some (.int v2), some (.int v3), some (.ref 23), some (.ref 24), some (.int v6), some (.int v7), some (.int (v8 + (kI 1))), some (.int v9), some (.int (w 23 v8.toNatClampNeg)), some (.int (w 24 v8.toNatClampNeg)), none], [.int (kI 2), .int (w 23 v8.toNatClampNeg)], SH, w)) rfl ?_
        refine EV.i_ne cl_46 rfl (fun h13 => ?_) (fun h13 => ?_)
        · skip
          rw [if_neg h13] at H
          refine EV.steps cl_46 1 (q2 := (125, [some (.ref 84), some (.ref 22), some (.int v2), some (.int v3), some (.ref 23), some (.ref 24), some (.int v6), some (.int v7), some (.int (v8 + (kI 1))), some (.int v9), some (.int (w 23 v8.toNatClampNeg)), some (.int (w 24 v8.toNatClampNeg)), none], [.int v7], SH, w)) rfl ?_
          refine EV.z_ge cl_46 rfl (fun h14 => ?_) (fun h14 => ?_)
          · skip
            rw [if_pos h14] at H
            refine EV.steps cl_46 2 (q2 := (134, [some (.ref 84), some (.ref 22), some (.int v2), some (.int v3), some (.ref 23), some (.ref 24), some (.int v6), some (.int v7), some (.int (v8 + (kI 1))), some (.int v9), some (.int (w 23 v8.toNatClampNeg)), some (.int (w 24 v8.toNatClampNeg)), none], [.int (kI 33), .int (w 23 v8.toNatClampNeg)], SH, w)) rfl ?_
            refine EV.i_ne cl_46 rfl (fun h15 => ?_) (fun h15 => ?_)
            · skip
              rw [if_neg h15] at H
              refine EV.steps cl_46 2 (q2 := (160, [some (.ref 84), some (.ref 22), some (.int v2), some (.int v3), some (.ref 23), some (.ref 24), some (.int v6), some (.int v7), some (.int (v8 + (kI 1))), some (.int v9), some (.int (w 23 v8.toNatClampNeg)), some (.int (w 24 v8.toNatClampNeg)), none], [.int (kI 38), .int (w 23 v8.toNatClampNeg)], SH, w)) rfl ?_
              refine EV.i_eq cl_46 rfl (fun h16 => ?_) (fun h16 => ?_)
              · skip
                rw [if_pos h16] at H
                refine EV.steps cl_46 3 (q2 := (176, [some (.ref 84), some (.ref 22), some (.int v2), some (.int v3), some (.ref 23), some (.ref 24), some (.int v6), some (.int v7), some (.int (v8 + (kI 1))), some (.int v9), some (.int (w 23 v8.toNatClampNeg)), some (.int (w 24 v8.toNatClampNeg)), none], [.int v7, .ref 86], SH, w)) rfl ?_
                obtain ⟨j17, H⟩ := H
                refine EV.iaload cl_46 rfl rfl (by decide) j17 ?_
                refine EV.steps cl_46 2 (q2 := (181, [some (.ref 84), some (.ref 22), some (.int v2), some (.int v3), some (.ref 23), some (.ref 24), some (.int v6), some (.int v7), some (.int (v8 + (kI 1))), some (.int v9), some (.int (w 23 v8.toNatClampNeg)), some (.int (w 24 v8.toNatClampNeg)), none], [.int (kI 124), .int (w 23 v8.toNatClampNeg), .int (w 86 v7.toNatClampNeg)], SH, w)) rfl ?_
                refine EV.i_ne cl_46 rfl (fun h18 => ?_) (fun h18 => ?_)
                · skip
                  rw [if_neg h18] at H
                  refine EV.steps cl_46 1 (q2 := (189, [some (.ref 84), some (.ref 22), some (.int v2), some (.int v3), some (.ref 23), some (.ref 24), some (.int v6), some (.int v7), some (.int (v8 + (kI 1))), some (.int v9), some (.int (w 23 v8.toNatClampNeg)), some (.int (w 24 v8.toNatClampNeg)), none], [.int (kI 0), .int (w 86 v7.toNatClampNeg)], SH, w)) rfl ?_
                  refine EV.i_ne cl_46 rfl (fun h19 => ?_) (fun h19 => ?_)
                  · skip
                    rw [if_neg h19] at H
                    refine EV.steps cl_46 15 (q2 := (40, [some (.ref 84), some (.ref 22), some (.int v2), some (.int v3), some (.ref 23), some (.ref 24), some (.int v6), some (.int (v7 - (kI 1))), some (.int (v8 + (kI 1))), some (.int (v9 + (kI 1))), some (.int (w 23 v8.toNatClampNeg)), some (.int (w 24 v8.toNatClampNeg)), some (.int (kI 0))], [], SH, w)) rfl ?_
                    exact EV.weak (l := [some (.ref 84), some (.ref 22), some (.int v2), some (.int v3), some (.ref 23), some (.ref 24), some (.int v6), some (.int (v7 - (kI 1))), some (.int (v8 + (kI 1))), some (.int (v9 + (kI 1))), none, none, none]) ⟨rfl, ⟨rfl, ⟨rfl, ⟨rfl, ⟨rfl, ⟨rfl, ⟨rfl, ⟨rfl, ⟨rfl, ⟨rfl, ⟨rfl, ⟨rfl, ⟨rfl, trivial⟩⟩⟩⟩⟩⟩⟩⟩⟩⟩⟩⟩⟩ H
                  · skip
                    rw [if_pos h19] at H
                    refine EV.steps cl_46 18 (q2 := (40, [some (.ref 84), some (.ref 22), some (.int v2), some (.int v3), some (.ref 23), some (.ref 24), some (.int v6), some (.int v7), some (.int (if (v8 + (kI 1)) < (w 24 v8.toNatClampNeg) then (w 24 v8.toNatClampNeg) else (v8 + (kI 1)))), some (.int (v9 + (kI 1))), some (.int (w 23 v8.toNatClampNeg)), some (.int (w 24 v8.toNatClampNeg)), some (.int (kI 1))], [], SH, w)) rfl ?_
                    exact EV.weak (l := [some (.ref 84), some (.ref 22), some (.int v2), some (.int v3), some (.ref 23), some (.ref 24), some (.int v6), some (.int v7), some (.int (if (v8 + (kI 1)) < (w 24 v8.toNatClampNeg) then (w 24 v8.toNatClampNeg) else (v8 + (kI 1)))), some (.int (v9 + (kI 1))), none, none, none]) ⟨rfl, ⟨rfl, ⟨rfl, ⟨rfl, ⟨rfl, ⟨rfl, ⟨rfl, ⟨rfl, ⟨rfl, ⟨rfl, ⟨rfl, ⟨rfl, ⟨rfl, trivial⟩⟩⟩⟩⟩⟩⟩⟩⟩⟩⟩⟩⟩ H
                · skip
                  rw [if_pos h18] at H
                  refine EV.steps cl_46 2 (q2 := (189, [some (.ref 84), some (.ref 22), some (.int v2), some (.int v3), some (.ref 23), some (.ref 24), some (.int v6), some (.int v7), some (.int (v8 + (kI 1))), some (.int v9), some (.int (w 23 v8.toNatClampNeg)), some (.int (w 24 v8.toNatClampNeg)), none], [.int (kI 1), .int (w 86 v7.toNatClampNeg)], SH, w)) rfl ?_
                  refine EV.i_ne cl_46 rfl (fun h20 => ?_) (fun h20 => ?_)
                  · skip
                    rw [if_neg h20] at H
                    refine EV.steps cl_46 15 (q2 := (40, [some (.ref 84), some (.ref 22), some (.int v2), some (.int v3), some (.ref 23), some (.ref 24), some (.int v6), some (.int (v7 - (kI 1))), some (.int (v8 + (kI 1))), some (.int (v9 + (kI 1))), some (.int (w 23 v8.toNatClampNeg)), some (.int (w 24 v8.toNatClampNeg)), some (.int (kI 0))], [], SH, w)) rfl ?_
                    exact EV.weak (l := [some (.ref 84), some (.ref 22), some (.int v2), some (.int v3), some (.ref 23), some (.ref 24), some (.int v6), some (.int (v7 - (kI 1))), some (.int (v8 + (kI 1))), some (.int (v9 + (kI 1))), none, none, none]) ⟨rfl, ⟨rfl, ⟨rfl, ⟨rfl, ⟨rfl, ⟨rfl, ⟨rfl, ⟨rfl, ⟨rfl, ⟨rfl, ⟨rfl, ⟨rfl, ⟨rfl, trivial⟩⟩⟩⟩⟩⟩⟩⟩⟩⟩⟩⟩⟩ H
                  · skip
                    rw [if_pos h20] at H
                    refine EV.steps cl_46 18 (q2 := (40, [some (.ref 84), some (.ref 22), some (.int v2), some (.int v3), some (.ref 23), some (.ref 24), some (.int v6), some (.int v7), some (.int (if (v8 + (kI 1)) < (w 24 v8.toNatClampNeg) then (w 24 v8.toNatClampNeg) else (v8 + (kI 1)))), some (.int (v9 + (kI 1))), some (.int (w 23 v8.toNatClampNeg)), some (.int (w 24 v8.toNatClampNeg)), some (.int (kI 1))], [], SH, w)) rfl ?_
                    exact EV.weak (l := [some (.ref 84), some (.ref 22), some (.int v2), some (.int v3), some (.ref 23), some (.ref 24), some (.int v6), some (.int v7), some (.int (if (v8 + (kI 1)) < (w 24 v8.toNatClampNeg) then (w 24 v8.toNatClampNeg) else (v8 + (kI 1)))), some (.int (v9 + (kI 1))), none, none, none]) ⟨rfl, ⟨rfl, ⟨rfl, ⟨rfl, ⟨rfl, ⟨rfl, ⟨rfl, ⟨rfl, ⟨rfl, ⟨rfl, ⟨rfl, ⟨rfl, ⟨rfl, trivial⟩⟩⟩⟩⟩⟩⟩⟩⟩⟩⟩⟩⟩ H
              · skip
                rw [if_neg h16] at H
                refine EV.steps cl_46 2 (q2 := (167, [some (.ref 84), some (.ref 22), some (.int v2), some (.int v3), some (.ref 23), some (.ref 24), some (.int v6), some (.int v7), some (.int (v8 + (kI 1))), some (.int v9), some (.int (w 23 v8.toNatClampNeg)), some (.int (w 24 v8.toNatClampNeg)), none], [.int (kI 124), .int (w 23 v8.toNatClampNeg)], SH, w)) rfl ?_
                refine EV.i_ne cl_46 rfl (fun h21 => ?_) (fun h21 => ?_)
                · skip
                  rw [if_neg h21] at H
                  refine EV.steps cl_46 2 (q2 := (240, [some (.ref 84), some (.ref 22), some (.int v2), some (.int v3), some (.ref 23), some (.ref 24), some (.int v6), some (.int v7), some (.int (v8 + (kI 1))), some (.int v9), some (.int (w 23 v8.toNatClampNeg)), some (.int (w 24 v8.toNatClampNeg)), none], [.int (kI 1), .int v7], SH, w)) rfl ?_
                  refine EV.i_lt cl_46 rfl (fun h22 => ?_) (fun h22 => ?_)
                  · skip
                    rw [if_pos h22] at H
                    refine EV.steps cl_46 1 (q2 := (259, [some (.ref 84), some (.ref 22), some (.int v2), some (.int v3), some (.ref 23), some (.ref 24), some (.int v6), some (.int v7), some (.int (v8 + (kI 1))), some (.int v9), some (.int (w 23 v8.toNatClampNeg)), some (.int (w 24 v8.toNatClampNeg)), none], [.int (kI 0)], SH, w)) rfl ?_
                    refine EV.ret cl_46 rfl rfl rfl ?_
                    exact ⟨_, rfl, rfl, H⟩
                  · skip
                    rw [if_neg h22] at H
                    refine EV.steps cl_46 4 (q2 := (251, [some (.ref 84), some (.ref 22), some (.int v2), some (.int v3), some (.ref 23), some (.ref 24), some (.int v6), some (.int v7), some (.int (v8 + (kI 1))), some (.int v9), some (.int (w 23 v8.toNatClampNeg)), some (.int (w 24 v8.toNatClampNeg)), none], [.int v7, .ref 86, .int (w 23 v8.toNatClampNeg)], SH, w)) rfl ?_
                    obtain ⟨j23, H⟩ := H
                    refine EV.iaload cl_46 rfl rfl (by decide) j23 ?_
                    refine EV.callF (kc := 48) (av := [.int (w 23 v8.toNatClampNeg), .int (w 86 v7.toNatClampNeg)]) (r := []) (rv := some (.int (F_48 (w 23 v8.toNatClampNeg) (w 86 v7.toNatClampNeg) w))) (w2 := w) cl_46 rfl rfl rfl (m_48 w (w 23 v8.toNatClampNeg) (w 86 v7.toNatClampNeg)) ?_
                    refine EV.z_eq cl_46 rfl (fun h24 => ?_) (fun h24 => ?_)
                    · skip
                      rw [if_pos h24] at H
                      refine EV.steps cl_46 8 (q2 := (277, [some (.ref 84), some (.ref 22), some (.int v2), some (.int v3), some (.ref 23), some (.ref 24), some (.int v6), some (.int (v7 + (kI (-1)))), some (.int (v8 + (kI 1))), some (.int v9), some (.int (w 23 v8.toNatClampNeg)), some (.int (w 24 v8.toNatClampNeg)), none], [.int (v7 + (kI (-1))), .ref 86, .int (w 23 v8.toNatClampNeg), .int (v7 + (kI (-1))), .ref 86], SH, w)) rfl ?_
                      obtain ⟨j25, H⟩ := H
                      refine EV.iaload cl_46 rfl rfl (by decide) j25 ?_
                      refine EV.steps cl_46 5 (q2 := (286, [some (.ref 84), some (.ref 22), some (.int v2), some (.int v3), some (.ref 23), some (.ref 24), some (.int v6), some (.int (v7 + (kI (-1)))), some (.int (v8 + (kI 1))), some (.int v9), some (.int (w 23 v8.toNatClampNeg)), some (.int (w 24 v8.toNatClampNeg)), none], [.int ((v7 + (kI (-1))) + (kI 1)), .ref 86, .int (w 86 (v7 + (kI (-1))).toNatClampNeg), .int (w 23 v8.toNatClampNeg), .int (v7 + (kI (-1))), .ref 86], SH, w)) rfl ?_
                      obtain ⟨j26, H⟩ := H
                      refine EV.iaload cl_46 rfl rfl (by decide) j26 ?_
                      obtain ⟨j27, H⟩ := H
                      obtain ⟨j28, H⟩ := H
                      refine EV.callF (kc := 49) (av := [.int (w 23 v8.toNatClampNeg), .int (w 86 (v7 + (kI (-1))).toNatClampNeg), .int (w 86 ((v7 + (kI (-1))) + (kI 1)).toNatClampNeg)]) (r := [.int (v7 + (kI (-1))), .ref 86]) (rv := some (.int (F_49 (w 23 v8.toNatClampNeg) (w 86 (v7 + (kI (-1))).toNatClampNeg) (w 86 ((v7 + (kI (-1))) + (kI 1)).toNatClampNeg) w))) (w2 := w) cl_46 rfl rfl rfl (m_49 w (w 23 v8.toNatClampNeg) (w 86 (v7 + (kI (-1))).toNatClampNeg) (w 86 ((v7 + (kI (-1))) + (kI 1)).toNatClampNeg) j27 j28) ?_
                      obtain ⟨j29, H⟩ := H
                      refine EV.iastore cl_46 rfl rfl (by decide) j29 ?_
                      refine EV.steps cl_46 2 (q2 := (40, [some (.ref 84), some (.ref 22), some (.int v2), some (.int v3), some (.ref 23), some (.ref 24), some (.int v6), some (.int (v7 + (kI (-1)))), some (.int (v8 + (kI 1))), some (.int (v9 + (kI 1))), some (.int (w 23 v8.toNatClampNeg)), some (.int (w 24 v8.toNatClampNeg)), none], [], SH, (up2 w 86 (v7 + (kI (-1))).toNatClampNeg (F_49 (w 23 v8.toNatClampNeg) (w 86 (v7 + (kI (-1))).toNatClampNeg) (w 86 ((v7 + (kI (-1))) + (kI 1)).toNatClampNeg) w)))) rfl ?_
                      exact EV.weak (l := [some (.ref 84), some (.ref 22), some (.int v2), some (.int v3), some (.ref 23), some (.ref 24), some (.int v6), some (.int (v7 + (kI (-1)))), some (.int (v8 + (kI 1))), some (.int (v9 + (kI 1))), none, none, none]) ⟨rfl, ⟨rfl, ⟨rfl, ⟨rfl, ⟨rfl, ⟨rfl, ⟨rfl, ⟨rfl, ⟨rfl, ⟨rfl, ⟨rfl, ⟨rfl, ⟨trivial, trivial⟩⟩⟩⟩⟩⟩⟩⟩⟩⟩⟩⟩⟩ H
                    · skip
                      rw [if_neg h24] at H
                      refine EV.steps cl_46 1 (q2 := (259, [some (.ref 84), some (.ref 22), some (.int v2), some (.int v3), some (.ref 23), some (.ref 24), some (.int v6), some (.int v7), some (.int (v8 + (kI 1))), some (.int v9), some (.int (w 23 v8.toNatClampNeg)), some (.int (w 24 v8.toNatClampNeg)), none], [.int (kI 0)], SH, w)) rfl ?_
                      refine EV.ret cl_46 rfl rfl rfl ?_
                      exact ⟨_, rfl, rfl, H⟩
                · skip
                  rw [if_pos h21] at H
                  refine EV.steps cl_46 3 (q2 := (176, [some (.ref 84), some (.ref 22), some (.int v2), some (.int v3), some (.ref 23), some (.ref 24), some (.int v6), some (.int v7), some (.int (v8 + (kI 1))), some (.int v9), some (.int (w 23 v8.toNatClampNeg)), some (.int (w 24 v8.toNatClampNeg)), none], [.int v7, .ref 86], SH, w)) rfl ?_
                  obtain ⟨j30, H⟩ := H
                  refine EV.iaload cl_46 rfl rfl (by decide) j30 ?_
                  refine EV.steps cl_46 2 (q2 := (181, [some (.ref 84), some (.ref 22), some (.int v2), some (.int v3), some (.ref 23), some (.ref 24), some (.int v6), some (.int v7), some (.int (v8 + (kI 1))), some (.int v9), some (.int (w 23 v8.toNatClampNeg)), some (.int (w 24 v8.toNatClampNeg)), none], [.int (kI 124), .int (w 23 v8.toNatClampNeg), .int (w 86 v7.toNatClampNeg)], SH, w)) rfl ?_
                  refine EV.i_ne cl_46 rfl (fun h31 => ?_) (fun h31 => ?_)
                  · skip
                    exact absurd h21 h31
                  · skip
                    refine EV.steps cl_46 2 (q2 := (189, [some (.ref 84), some (.ref 22), some (.int v2), some (.int v3), some (.ref 23), some (.ref 24), some (.int v6), some (.int v7), some (.int (v8 + (kI 1))), some (.int v9), some (.int (w 23 v8.toNatClampNeg)), some (.int (w 24 v8.toNatClampNeg)), none], [.int (kI 1), .int (w 86 v7.toNatClampNeg)], SH, w)) rfl ?_
                    refine EV.i_ne cl_46 rfl (fun h32 => ?_) (fun h32 => ?_)
                    · skip
                      rw [if_neg h32] at H
                      refine EV.steps cl_46 15 (q2 := (40, [some (.ref 84), some (.ref 22), some (.int v2), some (.int v3), some (.ref 23), some (.ref 24), some (.int v6), some (.int (v7 - (kI 1))), some (.int (v8 + (kI 1))), some (.int (v9 + (kI 1))), some (.int (w 23 v8.toNatClampNeg)), some (.int (w 24 v8.toNatClampNeg)), some (.int (kI 0))], [], SH, w)) rfl ?_
                      exact EV.weak (l := [some (.ref 84), some (.ref 22), some (.int v2), some (.int v3), some (.ref 23), some (.ref 24), some (.int v6), some (.int (v7 - (kI 1))), some (.int (v8 + (kI 1))), some (.int (v9 + (kI 1))), none, none, none]) ⟨rfl, ⟨rfl, ⟨rfl, ⟨rfl, ⟨rfl, ⟨rfl, ⟨rfl, ⟨rfl, ⟨rfl, ⟨rfl, ⟨rfl, ⟨rfl, ⟨rfl, trivial⟩⟩⟩⟩⟩⟩⟩⟩⟩⟩⟩⟩⟩ H
                    · skip
                      rw [if_pos h32] at H
                      refine EV.steps cl_46 18 (q2 := (40, [some (.ref 84), some (.ref 22), some (.int v2), some (.int v3), some (.ref 23), some (.ref 24), some (.int v6), some (.int v7), some (.int (if (v8 + (kI 1)) < (w 24 v8.toNatClampNeg) then (w 24 v8.toNatClampNeg) else (v8 + (kI 1)))), some (.int (v9 + (kI 1))), some (.int (w 23 v8.toNatClampNeg)), some (.int (w 24 v8.toNatClampNeg)), some (.int (kI 1))], [], SH, w)) rfl ?_
                      exact EV.weak (l := [some (.ref 84), some (.ref 22), some (.int v2), some (.int v3), some (.ref 23), some (.ref 24), some (.int v6), some (.int v7), some (.int (if (v8 + (kI 1)) < (w 24 v8.toNatClampNeg) then (w 24 v8.toNatClampNeg) else (v8 + (kI 1)))), some (.int (v9 + (kI 1))), none, none, none]) ⟨rfl, ⟨rfl, ⟨rfl, ⟨rfl, ⟨rfl, ⟨rfl, ⟨rfl, ⟨rfl, ⟨rfl, ⟨rfl, ⟨rfl, ⟨rfl, ⟨rfl, trivial⟩⟩⟩⟩⟩⟩⟩⟩⟩⟩⟩⟩⟩ H
            · skip
              rw [if_pos h15] at H
              refine EV.steps cl_46 7 (q2 := (150, [some (.ref 84), some (.ref 22), some (.int v2), some (.int v3), some (.ref 23), some (.ref 24), some (.int v6), some (.int v7), some (.int (v8 + (kI 1))), some (.int v9), some (.int (w 23 v8.toNatClampNeg)), some (.int (w 24 v8.toNatClampNeg)), none], [.int v7, .ref 86, .int (kI 1), .int v7, .ref 86], SH, w)) rfl ?_
              obtain ⟨j33, H⟩ := H
              refine EV.iaload cl_46 rfl rfl (by decide) j33 ?_
              refine EV.steps cl_46 1 (q2 := (152, [some (.ref 84), some (.ref 22), some (.int v2), some (.int v3), some (.ref 23), some (.ref 24), some (.int v6), some (.int v7), some (.int (v8 + (kI 1))), some (.int v9), some (.int (w 23 v8.toNatClampNeg)), some (.int (w 24 v8.toNatClampNeg)), none], [.int ((kI 1) - (w 86 v7.toNatClampNeg)), .int v7, .ref 86], SH, w)) rfl ?_
              obtain ⟨j34, H⟩ := H
              refine EV.iastore cl_46 rfl rfl (by decide) j34 ?_
              refine EV.steps cl_46 3 (q2 := (40, [some (.ref 84), some (.ref 22), some (.int v2), some (.int v3), some (.ref 23), some (.ref 24), some (.int v6), some (.int v7), some (.int (v8 + (kI 1))), some (.int (v9 + (kI 1))), some (.int (w 23 v8.toNatClampNeg)), some (.int (w 24 v8.toNatClampNeg)), none], [], SH, (up2 w 86 v7.toNatClampNeg ((kI 1) - (w 86 v7.toNatClampNeg))))) rfl ?_
              exact EV.weak (l := [some (.ref 84), some (.ref 22), some (.int v2), some (.int v3), some (.ref 23), some (.ref 24), some (.int v6), some (.int v7), some (.int (v8 + (kI 1))), some (.int (v9 + (kI 1))), none, none, none]) ⟨rfl, ⟨rfl, ⟨rfl, ⟨rfl, ⟨rfl, ⟨rfl, ⟨rfl, ⟨rfl, ⟨rfl, ⟨rfl, ⟨rfl, ⟨rfl, ⟨trivial, trivial⟩⟩⟩⟩⟩⟩⟩⟩⟩⟩⟩⟩⟩ H
          · skip
            rw [if_neg h14] at H
            refine EV.steps cl_46 1 (q2 := (129, [some (.ref 84), some (.ref 22), some (.int v2), some (.int v3), some (.ref 23), some (.ref 24), some (.int v6), some (.int v7), some (.int (v8 + (kI 1))), some (.int v9), some (.int (w 23 v8.toNatClampNeg)), some (.int (w 24 v8.toNatClampNeg)), none], [.int (kI 0)], SH, w)) rfl ?_
            refine EV.ret cl_46 rfl rfl rfl ?_
            exact ⟨_, rfl, rfl, H⟩
        · skip
          rw [if_pos h13] at H
          refine EV.steps cl_46 3 (q2 := (91, [some (.ref 84), some (.ref 22), some (.int v2), some (.int v3), some (.ref 23), some (.ref 24), some (.int v6), some (.int (v7 + (kI 1))), some (.int (v8 + (kI 1))), some (.int v9), some (.int (w 23 v8.toNatClampNeg)), some (.int (w 24 v8.toNatClampNeg)), none], [.int (kI 64), .int (v7 + (kI 1))], SH, w)) rfl ?_
          refine EV.i_lt cl_46 rfl (fun h35 => ?_) (fun h35 => ?_)
          · skip
            rw [if_pos h35] at H
            refine EV.steps cl_46 5 (q2 := (105, [some (.ref 84), some (.ref 22), some (.int v2), some (.int v3), some (.ref 23), some (.ref 24), some (.int v6), some (.int (v7 + (kI 1))), some (.int (v8 + (kI 1))), some (.int v9), some (.int (w 23 v8.toNatClampNeg)), some (.int (w 24 v8.toNatClampNeg)), none], [.int (kI 1), .int (w 23 v8.toNatClampNeg), .int (v7 + (kI 1)), .ref 86], SH, w)) rfl ?_
            refine EV.i_ne cl_46 rfl (fun h36 => ?_) (fun h36 => ?_)
            · skip
              refine EV.steps cl_46 2 (q2 := (116, [some (.ref 84), some (.ref 22), some (.int v2), some (.int v3), some (.ref 23), some (.ref 24), some (.int v6), some (.int (v7 + (kI 1))), some (.int (v8 + (kI 1))), some (.int v9), some (.int (w 23 v8.toNatClampNeg)), some (.int (w 24 v8.toNatClampNeg)), none], [.int (w 24 v8.toNatClampNeg), .ref 84, .int (v7 + (kI 1)), .ref 86], SH, w)) rfl ?_
              obtain ⟨j37, H⟩ := H
              refine EV.callF (kc := 47) (av := [.ref 84, .int (w 24 v8.toNatClampNeg)]) (r := [.int (v7 + (kI 1)), .ref 86]) (rv := some (.int (F_47_84 (w 24 v8.toNatClampNeg) w))) (w2 := w) cl_46 rfl rfl rfl (m_47_84 w (w 24 v8.toNatClampNeg) j37) ?_
              obtain ⟨j38, H⟩ := H
              refine EV.iastore cl_46 rfl rfl (by decide) j38 ?_
              refine EV.steps cl_46 3 (q2 := (40, [some (.ref 84), some (.ref 22), some (.int v2), some (.int v3), some (.ref 23), some (.ref 24), some (.int v6), some (.int (v7 + (kI 1))), some (.int (v8 + (kI 1))), some (.int (v9 + (kI 1))), some (.int (w 23 v8.toNatClampNeg)), some (.int (w 24 v8.toNatClampNeg)), none], [], SH, (up2 w 86 (v7 + (kI 1)).toNatClampNeg (F_47_84 (w 24 v8.toNatClampNeg) w)))) rfl ?_
              exact EV.weak (l := [some (.ref 84), some (.ref 22), some (.int v2), some (.int v3), some (.ref 23), some (.ref 24), some (.int v6), some (.int (v7 + (kI 1))), some (.int (v8 + (kI 1))), some (.int (v9 + (kI 1))), none, none, none]) ⟨rfl, ⟨rfl, ⟨rfl, ⟨rfl, ⟨rfl, ⟨rfl, ⟨rfl, ⟨rfl, ⟨rfl, ⟨rfl, ⟨rfl, ⟨rfl, ⟨trivial, trivial⟩⟩⟩⟩⟩⟩⟩⟩⟩⟩⟩⟩⟩ H
            · skip
              exact absurd h36 h9
          · skip
            rw [if_neg h35] at H
            refine EV.steps cl_46 1 (q2 := (95, [some (.ref 84), some (.ref 22), some (.int v2), some (.int v3), some (.ref 23), some (.ref 24), some (.int v6), some (.int (v7 + (kI 1))), some (.int (v8 + (kI 1))), some (.int v9), some (.int (w 23 v8.toNatClampNeg)), some (.int (w 24 v8.toNatClampNeg)), none], [.int (kI 0)], SH, w)) rfl ?_
            refine EV.ret cl_46 rfl rfl rfl ?_
            exact ⟨_, rfl, rfl, H⟩
