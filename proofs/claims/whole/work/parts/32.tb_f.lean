theorem t221_110_at0 {X : Scr} {d : Nat} {Q : Wd → Prop} (w : Wd) (v1 : Int32) (v2 : Int32)
    (H : EU X (d + 3) 221 (2, [some (.ref 110), some (.int v1), some (.int v2), some (.int (kI 0)), none, none], [], SH, w) Q) : EU X (d + 3) 221 (0, [some (.ref 110), some (.int v1), some (.int v2), none, none, none], [], SH, w) Q := by
  unfold EU
  refine EV.steps cl_221 2 (q2 := (2, [some (.ref 110), some (.int v1), some (.int v2), some (.int (kI 0)), none, none], [], SH, w)) rfl ?_
  exact H
theorem t221_110_at2 {X : Scr} {d : Nat} {Q : Wd → Prop} (w : Wd) (v1 : Int32) (v2 : Int32) (v3 : Int32)
    (H : (if (kI 6) ≤ v3 then EU X (d + 3) 221 (23, [some (.ref 110), some (.int v1), some (.int v2), some (.int (kI 0)), none, none], [], SH, w) Q else (inB v3 6 = true ∧ EU X (d + 3) 221 (2, [some (.ref 110), some (.int v1), some (.int v2), some (.int (v3 + (kI 1))), none, none], [], SH, (up2 w 133 v3.toNatClampNeg (kI 0))) Q))) : EU X (d + 3) 221 (2, [some (.ref 110), some (.int v1), some (.int v2), some (.int v3), none, none], [], SH, w) Q := by
  unfold EU
  refine EV.steps cl_221 2 (q2 := (5, [some (.ref 110), some (.int v1), some (.int v2), some (.int v3), none, none], [.int (kI 6), .int v3], SH, w)) rfl ?_
  refine EV.i_ge cl_221 rfl (fun h1 => ?_) (fun h1 => ?_)
  · skip
    rw [if_pos h1] at H
    refine EV.steps cl_221 2 (q2 := (23, [some (.ref 110), some (.int v1), some (.int v2), some (.int (kI 0)), none, none], [], SH, w)) rfl ?_
    exact H
  · skip
    rw [if_neg h1] at H
    refine EV.steps cl_221 4 (q2 := (14, [some (.ref 110), some (.int v1), some (.int v2), some (.int v3), none, none], [.int (kI 0), .int v3, .ref 133], SH, w)) rfl ?_
    obtain ⟨j2, H⟩ := H
    refine EV.iastore cl_221 rfl rfl (by decide) j2 ?_
    refine EV.steps cl_221 2 (q2 := (2, [some (.ref 110), some (.int v1), some (.int v2), some (.int (v3 + (kI 1))), none, none], [], SH, (up2 w 133 v3.toNatClampNeg (kI 0)))) rfl ?_
    exact H
theorem t221_110_at23 {X : Scr} {d : Nat} {Q : Wd → Prop} (w : Wd) (v1 : Int32) (v2 : Int32) (v3 : Int32)
    (H : (if v1 ≤ v3 then Q w else (if (F_168_110 w) ≤ 0 then Q w else EU X (d + 3) 221 (41, [some (.ref 110), some (.int v1), some (.int v2), some (.int v3), some (.int (kI (-1))), some (.int (kI 0))], [], SH, w) Q))) : EU X (d + 3) 221 (23, [some (.ref 110), some (.int v1), some (.int v2), some (.int v3), none, none], [], SH, w) Q := by
  unfold EU
  refine EV.steps cl_221 2 (q2 := (25, [some (.ref 110), some (.int v1), some (.int v2), some (.int v3), none, none], [.int v1, .int v3], SH, w)) rfl ?_
  refine EV.i_ge cl_221 rfl (fun h1 => ?_) (fun h1 => ?_)
  · skip
    rw [if_pos h1] at H
    refine EV.ret cl_221 rfl rfl rfl ?_
    exact ⟨rfl, rfl, H⟩
  · skip
    rw [if_neg h1] at H
    refine EV.steps cl_221 1 (q2 := (29, [some (.ref 110), some (.int v1), some (.int v2), some (.int v3), none, none], [.ref 110], SH, w)) rfl ?_
    refine EV.callF (kc := 168) (av := [.ref 110]) (r := []) (rv := some (.int (F_168_110 w))) (w2 := w) cl_221 rfl rfl rfl (m_168_110 w ) ?_
    refine EV.z_le cl_221 rfl (fun h2 => ?_) (fun h2 => ?_)
    · skip
      rw [if_pos h2] at H
      refine EV.ret cl_221 rfl rfl rfl ?_
      exact ⟨rfl, rfl, H⟩
    · skip
      rw [if_neg h2] at H
      refine EV.steps cl_221 4 (q2 := (41, [some (.ref 110), some (.int v1), some (.int v2), some (.int v3), some (.int (kI (-1))), some (.int (kI 0))], [], SH, w)) rfl ?_
      exact H
theorem t221_110_at41 {X : Scr} {d : Nat} {Q : Wd → Prop} (w : Wd) (v1 : Int32) (v2 : Int32) (v3 : Int32) (v4 : Int32) (v5 : Int32)
    (H : (if (kI 6) ≤ v5 then (inB v4 6 = true ∧ (inB v4 6 = true ∧ EU X (d + 3) 221 (23, [some (.ref 110), some (.int v1), some (.int v2), some (.int (v3 + (kI 1))), none, none], [], SH, (up2 w 133 v4.toNatClampNeg ((w 133 v4.toNatClampNeg) + (kI 1)))) Q)) else (if (F_164_110 v5 w) = 0 then EU X (d + 3) 221 (41, [some (.ref 110), some (.int v1), some (.int v2), some (.int v3), some (.int v4), some (.int (v5 + (kI 1)))], [], SH, w) Q else (inB v5 6 = true ∧ (if (w 114 v5.toNatClampNeg) = 0 then EU X (d + 3) 221 (41, [some (.ref 110), some (.int v1), some (.int v2), some (.int v3), some (.int v4), some (.int (v5 + (kI 1)))], [], SH, w) Q else (if v4 = (kI (-1)) then EU X (d + 3) 221 (41, [some (.ref 110), some (.int v1), some (.int v2), some (.int v3), some (.int v5), some (.int (v5 + (kI 1)))], [], SH, w) Q else (((¬ v2 = (kI 1) → ¬ v2 = (kI 2) → (inB v5 6 = true))) ∧ (((¬ v2 = (kI 1) → v2 = (kI 2) → (inB v5 6 = true))) ∧ (((v2 = (kI 1) → (inB v5 6 = true))) ∧ (((¬ v2 = (kI 1) → ¬ v2 = (kI 2) → (inB v4 6 = true))) ∧ (((¬ v2 = (kI 1) → v2 = (kI 2) → (inB v4 6 = true))) ∧ (((v2 = (kI 1) → (inB v4 6 = true))) ∧ ((¬ (F_219_110 v5 v2 w) = 0 → ¬ (F_219_110 v4 v2 w) = 0 → (inB v5 6 = true)) ∧ ((¬ (F_219_110 v5 v2 w) = 0 → ¬ (F_219_110 v4 v2 w) = 0 → (inB v4 6 = true)) ∧ (if (F_220_110 v5 v4 v2 w) = 0 then EU X (d + 3) 221 (41, [some (.ref 110), some (.int v1), some (.int v2), some (.int v3), some (.int v4), some (.int (v5 + (kI 1)))], [], SH, w) Q else EU X (d + 3) 221 (41, [some (.ref 110), some (.int v1), some (.int v2), some (.int v3), some (.int v5), some (.int (v5 + (kI 1)))], [], SH, w) Q))))))))))))))) : EU X (d + 3) 221 (41, [some (.ref 110), some (.int v1), some (.int v2), some (.int v3), some (.int v4), some (.int v5)], [], SH, w) Q := by
  unfold EU
  refine EV.steps cl_221 2 (q2 := (45, [some (.ref 110), some (.int v1), some (.int v2), some (.int v3), some (.int v4), some (.int v5)], [.int (kI 6), .int v5], SH, w)) rfl ?_
  refine EV.i_ge cl_221 rfl (fun h1 => ?_) (fun h1 => ?_)
  · skip
    rw [if_pos h1] at H
    refine EV.steps cl_221 6 (q2 := (110, [some (.ref 110), some (.int v1), some (.int v2), some (.int v3), some (.int v4), some (.int v5)], [.int v4, .ref 133, .int v4, .ref 133], SH, w)) rfl ?_
    obtain ⟨j2, H⟩ := H
    refine EV.iaload cl_221 rfl rfl (by decide) j2 ?_
    refine EV.steps cl_221 2 (q2 := (113, [some (.ref 110), some (.int v1), some (.int v2), some (.int v3), some (.int v4), some (.int v5)], [.int ((w 133 v4.toNatClampNeg) + (kI 1)), .int v4, .ref 133], SH, w)) rfl ?_
    obtain ⟨j3, H⟩ := H
    refine EV.iastore cl_221 rfl rfl (by decide) j3 ?_
    refine EV.steps cl_221 2 (q2 := (23, [some (.ref 110), some (.int v1), some (.int v2), some (.int (v3 + (kI 1))), some (.int v4), some (.int v5)], [], SH, (up2 w 133 v4.toNatClampNeg ((w 133 v4.toNatClampNeg) + (kI 1))))) rfl ?_
    exact EV.weak (l := [some (.ref 110), some (.int v1), some (.int v2), some (.int (v3 + (kI 1))), none, none]) ⟨rfl, ⟨rfl, ⟨rfl, ⟨rfl, ⟨rfl, ⟨rfl, trivial⟩⟩⟩⟩⟩⟩ H
  · skip
    rw [if_neg h1] at H
    refine EV.steps cl_221 2 (q2 := (51, [some (.ref 110), some (.int v1), some (.int v2), some (.int v3), some (.int v4), some (.int v5)], [.int v5, .ref 110], SH, w)) rfl ?_
    refine EV.callF (kc := 164) (av := [.ref 110, .int v5]) (r := []) (rv := some (.int (F_164_110 v5 w))) (w2 := w) cl_221 rfl rfl rfl (m_164_110 w v5) ?_
    refine EV.z_eq cl_221 rfl (fun h4 => ?_) (fun h4 => ?_)
    · skip
      rw [if_pos h4] at H
      refine EV.steps cl_221 2 (q2 := (41, [some (.ref 110), some (.int v1), some (.int v2), some (.int v3), some (.int v4), some (.int (v5 + (kI 1)))], [], SH, w)) rfl ?_
      exact H
    · skip
      rw [if_neg h4] at H
      refine EV.steps cl_221 3 (q2 := (63, [some (.ref 110), some (.int v1), some (.int v2), some (.int v3), some (.int v4), some (.int v5)], [.int v5, .ref 114], SH, w)) rfl ?_
      obtain ⟨j5, H⟩ := H
      refine EV.iaload cl_221 rfl rfl (by decide) j5 ?_
      refine EV.z_ne cl_221 rfl (fun h6 => ?_) (fun h6 => ?_)
      · skip
        rw [if_neg h6] at H
        refine EV.steps cl_221 2 (q2 := (73, [some (.ref 110), some (.int v1), some (.int v2), some (.int v3), some (.int v4), some (.int v5)], [.int (kI (-1)), .int v4], SH, w)) rfl ?_
        refine EV.i_eq cl_221 rfl (fun h7 => ?_) (fun h7 => ?_)
        · skip
          rw [if_pos h7] at H
          refine EV.steps cl_221 4 (q2 := (41, [some (.ref 110), some (.int v1), some (.int v2), some (.int v3), some (.int v5), some (.int (v5 + (kI 1)))], [], SH, w)) rfl ?_
          exact H
        · skip
          rw [if_neg h7] at H
          refine EV.steps cl_221 4 (q2 := (82, [some (.ref 110), some (.int v1), some (.int v2), some (.int v3), some (.int v4), some (.int v5)], [.int v2, .int v4, .int v5, .ref 110], SH, w)) rfl ?_
          obtain ⟨j8, H⟩ := H
          obtain ⟨j9, H⟩ := H
          obtain ⟨j10, H⟩ := H
          obtain ⟨j11, H⟩ := H
          obtain ⟨j12, H⟩ := H
          obtain ⟨j13, H⟩ := H
          obtain ⟨j14, H⟩ := H
          obtain ⟨j15, H⟩ := H
          refine EV.callF (kc := 220) (av := [.ref 110, .int v5, .int v4, .int v2]) (r := []) (rv := some (.int (F_220_110 v5 v4 v2 w))) (w2 := w) cl_221 rfl rfl rfl (m_220_110 w v5 v4 v2 j8 j9 j10 j11 j12 j13 j14 j15) ?_
          refine EV.z_eq cl_221 rfl (fun h16 => ?_) (fun h16 => ?_)
          · skip
            rw [if_pos h16] at H
            refine EV.steps cl_221 2 (q2 := (41, [some (.ref 110), some (.int v1), some (.int v2), some (.int v3), some (.int v4), some (.int (v5 + (kI 1)))], [], SH, w)) rfl ?_
            exact H
          · skip
            rw [if_neg h16] at H
            refine EV.steps cl_221 4 (q2 := (41, [some (.ref 110), some (.int v1), some (.int v2), some (.int v3), some (.int v5), some (.int (v5 + (kI 1)))], [], SH, w)) rfl ?_
            exact H
      · skip
        rw [if_pos h6] at H
        refine EV.steps cl_221 3 (q2 := (41, [some (.ref 110), some (.int v1), some (.int v2), some (.int v3), some (.int v4), some (.int (v5 + (kI 1)))], [], SH, w)) rfl ?_
        exact H
theorem t222_110_at0 {X : Scr} {d : Nat} {Q : Wd → Prop} (w : Wd) (v1 : Int32) (v2 : Int32)
    (H : (if v2 = 0 then CU X (d + 1) 218 [.ref 110, .int v1] w (fun w2 => Q w2) else CU X (d + 1) 221 [.ref 110, .int v1, .int v2] w (fun w1 => Q w1))) : EU X (d + 1) 222 (0, [some (.ref 110), some (.int v1), some (.int v2)], [], SH, w) Q := by
  unfold EU
  refine EV.steps cl_222 1 (q2 := (1, [some (.ref 110), some (.int v1), some (.int v2)], [.int v2], SH, w)) rfl ?_
  refine EV.z_ne cl_222 rfl (fun h1 => ?_) (fun h1 => ?_)
  · skip
    rw [if_neg h1] at H
    refine EV.steps cl_222 3 (q2 := (15, [some (.ref 110), some (.int v1), some (.int v2)], [.int v2, .int v1, .ref 110], SH, w)) rfl ?_
    refine EV.call (kc := 221) (av := [.ref 110, .int v1, .int v2]) (r := []) cl_222 rfl rfl rfl H ?_
    clear H; intro y1 s1 w1 e1
    obtain ⟨rfl, rfl, H⟩ := e1
    refine EV.ret cl_222 rfl rfl rfl ?_
    exact ⟨rfl, rfl, H⟩
  · skip
    rw [if_pos h1] at H
    refine EV.steps cl_222 2 (q2 := (6, [some (.ref 110), some (.int v1), some (.int v2)], [.int v1, .ref 110], SH, w)) rfl ?_
    refine EV.call (kc := 218) (av := [.ref 110, .int v1]) (r := []) cl_222 rfl rfl rfl H ?_
    clear H; intro y2 s2 w2 e2
    obtain ⟨rfl, rfl, H⟩ := e2
    refine EV.steps cl_222 1 (q2 := (18, [some (.ref 110), some (.int v1), some (.int v2)], [], SH, w2)) rfl ?_
    refine EV.ret cl_222 rfl rfl rfl ?_
    exact ⟨rfl, rfl, H⟩
theorem t223_110_at0 {X : Scr} {d : Nat} {Q : Int32 → Wd → Prop} (w : Wd) (v1 : Int32) (v2 : Int32) (v3 : Int32)
    (H : (if (F_164_110 v1 w) = 0 then Q (kI (-1)) w else (if (F_157 v2 (kI 0) (kI 999) w) = 0 then Q (kI (-1)) w else (if (F_157 v3 (kI 0) (kI 3) w) = 0 then Q (kI (-1)) w else CU X (d + 2) 222 [.ref 110, .int v2, .int v3] w (fun w1 => (inB v1 6 = true ∧ Q (w1 133 v1.toNatClampNeg) w1)))))) : EI X (d + 2) 223 (0, [some (.ref 110), some (.int v1), some (.int v2), some (.int v3)], [], SH, w) Q := by
  unfold EI
  refine EV.steps cl_223 2 (q2 := (2, [some (.ref 110), some (.int v1), some (.int v2), some (.int v3)], [.int v1, .ref 110], SH, w)) rfl ?_
  refine EV.callF (kc := 164) (av := [.ref 110, .int v1]) (r := []) (rv := some (.int (F_164_110 v1 w))) (w2 := w) cl_223 rfl rfl rfl (m_164_110 w v1) ?_
  refine EV.z_eq cl_223 rfl (fun h1 => ?_) (fun h1 => ?_)
  · skip
    rw [if_pos h1] at H
    refine EV.steps cl_223 1 (q2 := (29, [some (.ref 110), some (.int v1), some (.int v2), some (.int v3)], [.int (kI (-1))], SH, w)) rfl ?_
    refine EV.ret cl_223 rfl rfl rfl ?_
    exact ⟨_, rfl, rfl, H⟩
  · skip
    rw [if_neg h1] at H
    refine EV.steps cl_223 3 (q2 := (13, [some (.ref 110), some (.int v1), some (.int v2), some (.int v3)], [.int (kI 999), .int (kI 0), .int v2], SH, w)) rfl ?_
    refine EV.callF (kc := 157) (av := [.int v2, .int (kI 0), .int (kI 999)]) (r := []) (rv := some (.int (F_157 v2 (kI 0) (kI 999) w))) (w2 := w) cl_223 rfl rfl rfl (m_157 w v2 (kI 0) (kI 999)) ?_
    refine EV.z_eq cl_223 rfl (fun h2 => ?_) (fun h2 => ?_)
    · skip
      rw [if_pos h2] at H
      refine EV.steps cl_223 1 (q2 := (29, [some (.ref 110), some (.int v1), some (.int v2), some (.int v3)], [.int (kI (-1))], SH, w)) rfl ?_
      refine EV.ret cl_223 rfl rfl rfl ?_
      exact ⟨_, rfl, rfl, H⟩
    · skip
      rw [if_neg h2] at H
      refine EV.steps cl_223 3 (q2 := (22, [some (.ref 110), some (.int v1), some (.int v2), some (.int v3)], [.int (kI 3), .int (kI 0), .int v3], SH, w)) rfl ?_
      refine EV.callF (kc := 157) (av := [.int v3, .int (kI 0), .int (kI 3)]) (r := []) (rv := some (.int (F_157 v3 (kI 0) (kI 3) w))) (w2 := w) cl_223 rfl rfl rfl (m_157 w v3 (kI 0) (kI 3)) ?_
      refine EV.z_ne cl_223 rfl (fun h3 => ?_) (fun h3 => ?_)
      · skip
        rw [if_neg h3] at H
        refine EV.steps cl_223 3 (q2 := (33, [some (.ref 110), some (.int v1), some (.int v2), some (.int v3)], [.int v3, .int v2, .ref 110], SH, w)) rfl ?_
        refine EV.call (kc := 222) (av := [.ref 110, .int v2, .int v3]) (r := []) cl_223 rfl rfl rfl H ?_
        clear H; intro y1 s1 w1 e1
        obtain ⟨rfl, rfl, H⟩ := e1
        refine EV.steps cl_223 3 (q2 := (41, [some (.ref 110), some (.int v1), some (.int v2), some (.int v3)], [.int v1, .ref 133], SH, w1)) rfl ?_
        obtain ⟨j4, H⟩ := H
        refine EV.iaload cl_223 rfl rfl (by decide) j4 ?_
        refine EV.ret cl_223 rfl rfl rfl ?_
        exact ⟨_, rfl, rfl, H⟩
      · skip
        rw [if_pos h3] at H
        refine EV.steps cl_223 1 (q2 := (29, [some (.ref 110), some (.int v1), some (.int v2), some (.int v3)], [.int (kI (-1))], SH, w)) rfl ?_
        refine EV.ret cl_223 rfl rfl rfl ?_
        exact ⟨_, rfl, rfl, H⟩
theorem t224_110_at0 {X : Scr} {d : Nat} {Q : Int32 → Wd → Prop} (w : Wd) (v1 : Int32) (v2 : Int32)
    (H : (if (F_157 v1 (kI 0) (kI 3) w) = 0 then Q (kI (-1)) w else (if (F_157 v2 (kI 0) (kI 1) w) = 0 then Q (kI (-1)) w else EI X (d + 1) 224 (22, [some (.ref 110), some (.int v1), some (.int v2), some (.int (kI 0)), none], [], SH, w) Q))) : EI X (d + 1) 224 (0, [some (.ref 110), some (.int v1), some (.int v2), none, none], [], SH, w) Q := by
  unfold EI
  refine EV.steps cl_224 3 (q2 := (3, [some (.ref 110), some (.int v1), some (.int v2), none, none], [.int (kI 3), .int (kI 0), .int v1], SH, w)) rfl ?_
  refine EV.callF (kc := 157) (av := [.int v1, .int (kI 0), .int (kI 3)]) (r := []) (rv := some (.int (F_157 v1 (kI 0) (kI 3) w))) (w2 := w) cl_224 rfl rfl rfl (m_157 w v1 (kI 0) (kI 3)) ?_
  refine EV.z_eq cl_224 rfl (fun h1 => ?_) (fun h1 => ?_)
  · skip
    rw [if_pos h1] at H
    refine EV.steps cl_224 1 (q2 := (19, [some (.ref 110), some (.int v1), some (.int v2), none, none], [.int (kI (-1))], SH, w)) rfl ?_
    refine EV.ret cl_224 rfl rfl rfl ?_
    exact ⟨_, rfl, rfl, H⟩
  · skip
    rw [if_neg h1] at H
    refine EV.steps cl_224 3 (q2 := (12, [some (.ref 110), some (.int v1), some (.int v2), none, none], [.int (kI 1), .int (kI 0), .int v2], SH, w)) rfl ?_
    refine EV.callF (kc := 157) (av := [.int v2, .int (kI 0), .int (kI 1)]) (r := []) (rv := some (.int (F_157 v2 (kI 0) (kI 1) w))) (w2 := w) cl_224 rfl rfl rfl (m_157 w v2 (kI 0) (kI 1)) ?_
    refine EV.z_ne cl_224 rfl (fun h2 => ?_) (fun h2 => ?_)
    · skip
      rw [if_neg h2] at H
      refine EV.steps cl_224 2 (q2 := (22, [some (.ref 110), some (.int v1), some (.int v2), some (.int (kI 0)), none], [], SH, w)) rfl ?_
      exact H
    · skip
      rw [if_pos h2] at H
      refine EV.steps cl_224 1 (q2 := (19, [some (.ref 110), some (.int v1), some (.int v2), none, none], [.int (kI (-1))], SH, w)) rfl ?_
      refine EV.ret cl_224 rfl rfl rfl ?_
      exact ⟨_, rfl, rfl, H⟩
theorem t224_110_at22 {X : Scr} {d : Nat} {Q : Int32 → Wd → Prop} (w : Wd) (v1 : Int32) (v2 : Int32) (v3 : Int32)
    (H : (if (kI 60) < v3 then Q (kI (-2)) w else CU X (d + 1) 222 [.ref 110, .int v3, .int v1] w (fun w1 => EI X (d + 1) 224 (37, [some (.ref 110), some (.int v1), some (.int v2), some (.int v3), some (.int (kI 0))], [], SH, w1) Q))) : EI X (d + 1) 224 (22, [some (.ref 110), some (.int v1), some (.int v2), some (.int v3), none], [], SH, w) Q := by
  unfold EI
  refine EV.steps cl_224 2 (q2 := (25, [some (.ref 110), some (.int v1), some (.int v2), some (.int v3), none], [.int (kI 60), .int v3], SH, w)) rfl ?_
  refine EV.i_gt cl_224 rfl (fun h1 => ?_) (fun h1 => ?_)
  · skip
    rw [if_pos h1] at H
    refine EV.steps cl_224 1 (q2 := (124, [some (.ref 110), some (.int v1), some (.int v2), some (.int v3), none], [.int (kI (-2))], SH, w)) rfl ?_
    refine EV.ret cl_224 rfl rfl rfl ?_
    exact ⟨_, rfl, rfl, H⟩
  · skip
    rw [if_neg h1] at H
    refine EV.steps cl_224 3 (q2 := (31, [some (.ref 110), some (.int v1), some (.int v2), some (.int v3), none], [.int v1, .int v3, .ref 110], SH, w)) rfl ?_
    refine EV.call (kc := 222) (av := [.ref 110, .int v3, .int v1]) (r := []) cl_224 rfl rfl rfl H ?_
    clear H; intro y1 s1 w1 e1
    obtain ⟨rfl, rfl, H⟩ := e1
    refine EV.steps cl_224 2 (q2 := (37, [some (.ref 110), some (.int v1), some (.int v2), some (.int v3), some (.int (kI 0))], [], SH, w1)) rfl ?_
    exact H
theorem t224_110_at37 {X : Scr} {d : Nat} {Q : Int32 → Wd → Prop} (w : Wd) (v1 : Int32) (v2 : Int32) (v3 : Int32) (v4 : Int32)
    (H : (if (kI 6) ≤ v4 then CU X (d + 1) 222 [.ref 110, .int (v3 + (kI 1)), .int v1] w (fun w1 => EI X (d + 1) 224 (75, [some (.ref 110), some (.int v1), some (.int v2), some (.int v3), some (.int (kI 0))], [], SH, w1) Q) else (inB v4 6 = true ∧ (inB v4 6 = true ∧ EI X (d + 1) 224 (37, [some (.ref 110), some (.int v1), some (.int v2), some (.int v3), some (.int (v4 + (kI 1)))], [], SH, (up2 w 134 v4.toNatClampNeg (w 133 v4.toNatClampNeg))) Q)))) : EI X (d + 1) 224 (37, [some (.ref 110), some (.int v1), some (.int v2), some (.int v3), some (.int v4)], [], SH, w) Q := by
  unfold EI
  refine EV.steps cl_224 2 (q2 := (41, [some (.ref 110), some (.int v1), some (.int v2), some (.int v3), some (.int v4)], [.int (kI 6), .int v4], SH, w)) rfl ?_
  refine EV.i_ge cl_224 rfl (fun h1 => ?_) (fun h1 => ?_)
  · skip
    rw [if_pos h1] at H
    refine EV.steps cl_224 5 (q2 := (69, [some (.ref 110), some (.int v1), some (.int v2), some (.int v3), some (.int v4)], [.int v1, .int (v3 + (kI 1)), .ref 110], SH, w)) rfl ?_
    refine EV.call (kc := 222) (av := [.ref 110, .int (v3 + (kI 1)), .int v1]) (r := []) cl_224 rfl rfl rfl H ?_
    clear H; intro y1 s1 w1 e1
    obtain ⟨rfl, rfl, H⟩ := e1
    refine EV.steps cl_224 2 (q2 := (75, [some (.ref 110), some (.int v1), some (.int v2), some (.int v3), some (.int (kI 0))], [], SH, w1)) rfl ?_
    exact H
  · skip
    rw [if_neg h1] at H
    refine EV.steps cl_224 6 (q2 := (56, [some (.ref 110), some (.int v1), some (.int v2), some (.int v3), some (.int v4)], [.int v4, .ref 133, .int v4, .ref 134], SH, w)) rfl ?_
    obtain ⟨j2, H⟩ := H
    refine EV.iaload cl_224 rfl rfl (by decide) j2 ?_
    obtain ⟨j3, H⟩ := H
    refine EV.iastore cl_224 rfl rfl (by decide) j3 ?_
    refine EV.steps cl_224 2 (q2 := (37, [some (.ref 110), some (.int v1), some (.int v2), some (.int v3), some (.int (v4 + (kI 1)))], [], SH, (up2 w 134 v4.toNatClampNeg (w 133 v4.toNatClampNeg)))) rfl ?_
    exact H
theorem t224_110_at75 {X : Scr} {d : Nat} {Q : Int32 → Wd → Prop} (w : Wd) (v1 : Int32) (v2 : Int32) (v3 : Int32) (v4 : Int32)
    (H : (if (kI 6) ≤ v4 then EI X (d + 1) 224 (22, [some (.ref 110), some (.int v1), some (.int v2), some (.int (v3 + (kI 1))), none], [], SH, w) Q else (inB v4 6 = true ∧ (inB v4 6 = true ∧ (if (w 134 v4.toNatClampNeg) ≤ (w 133 v4.toNatClampNeg) then EI X (d + 1) 224 (75, [some (.ref 110), some (.int v1), some (.int v2), some (.int v3), some (.int (v4 + (kI 1)))], [], SH, w) Q else (if v2 = 0 then Q v3 w else Q v4 w)))))) : EI X (d + 1) 224 (75, [some (.ref 110), some (.int v1), some (.int v2), some (.int v3), some (.int v4)], [], SH, w) Q := by
  unfold EI
  refine EV.steps cl_224 2 (q2 := (79, [some (.ref 110), some (.int v1), some (.int v2), some (.int v3), some (.int v4)], [.int (kI 6), .int v4], SH, w)) rfl ?_
  refine EV.i_ge cl_224 rfl (fun h1 => ?_) (fun h1 => ?_)
  · skip
    rw [if_pos h1] at H
    refine EV.steps cl_224 2 (q2 := (22, [some (.ref 110), some (.int v1), some (.int v2), some (.int (v3 + (kI 1))), some (.int v4)], [], SH, w)) rfl ?_
    exact EV.weak (l := [some (.ref 110), some (.int v1), some (.int v2), some (.int (v3 + (kI 1))), none]) ⟨rfl, ⟨rfl, ⟨rfl, ⟨rfl, ⟨rfl, trivial⟩⟩⟩⟩⟩ H
  · skip
    rw [if_neg h1] at H
    refine EV.steps cl_224 3 (q2 := (88, [some (.ref 110), some (.int v1), some (.int v2), some (.int v3), some (.int v4)], [.int v4, .ref 133], SH, w)) rfl ?_
    obtain ⟨j2, H⟩ := H
    refine EV.iaload cl_224 rfl rfl (by decide) j2 ?_
    refine EV.steps cl_224 3 (q2 := (95, [some (.ref 110), some (.int v1), some (.int v2), some (.int v3), some (.int v4)], [.int v4, .ref 134, .int (w 133 v4.toNatClampNeg)], SH, w)) rfl ?_
    obtain ⟨j3, H⟩ := H
    refine EV.iaload cl_224 rfl rfl (by decide) j3 ?_
    refine EV.i_ge cl_224 rfl (fun h4 => ?_) (fun h4 => ?_)
    · skip
      rw [if_pos h4] at H
      refine EV.steps cl_224 2 (q2 := (75, [some (.ref 110), some (.int v1), some (.int v2), some (.int v3), some (.int (v4 + (kI 1)))], [], SH, w)) rfl ?_
      exact H
    · skip
      rw [if_neg h4] at H
      refine EV.steps cl_224 1 (q2 := (100, [some (.ref 110), some (.int v1), some (.int v2), some (.int v3), some (.int v4)], [.int v2], SH, w)) rfl ?_
      refine EV.z_ne cl_224 rfl (fun h5 => ?_) (fun h5 => ?_)
      · skip
        rw [if_neg h5] at H
        refine EV.steps cl_224 1 (q2 := (109, [some (.ref 110), some (.int v1), some (.int v2), some (.int v3), some (.int v4)], [.int v4], SH, w)) rfl ?_
        refine EV.ret cl_224 rfl rfl rfl ?_
        exact ⟨_, rfl, rfl, H⟩
      · skip
        rw [if_pos h5] at H
        refine EV.steps cl_224 2 (q2 := (109, [some (.ref 110), some (.int v1), some (.int v2), some (.int v3), some (.int v4)], [.int v3], SH, w)) rfl ?_
        refine EV.ret cl_224 rfl rfl rfl ?_
        exact ⟨_, rfl, rfl, H⟩
theorem t225_110_at0 {X : Scr} {d : Nat} {Q : Int32 → Wd → Prop} (w : Wd) (v1 : Int32) (v2 : Int32)
    (H : (if (F_157 v1 (kI 0) (kI 999) w) = 0 then Q (kI (-1)) w else (if (F_157 v2 (kI 0) (kI 3) w) = 0 then Q (kI (-1)) w else CU X (d + 3) 222 [.ref 110, .int v1, .int v2] w (fun w1 => EI X (d + 3) 225 (39, [some (.ref 110), some (.int v1), some (.int v2), some (.int (F_168_110 w1)), some (.int (kI 0)), some (.int (kI 0)), none, none], [], SH, w1) Q)))) : EI X (d + 3) 225 (0, [some (.ref 110), some (.int v1), some (.int v2), none, none, none, none, none], [], SH, w) Q := by
  unfold EI
  refine EV.steps cl_225 3 (q2 := (5, [some (.ref 110), some (.int v1), some (.int v2), none, none, none, none, none], [.int (kI 999), .int (kI 0), .int v1], SH, w)) rfl ?_
  refine EV.callF (kc := 157) (av := [.int v1, .int (kI 0), .int (kI 999)]) (r := []) (rv := some (.int (F_157 v1 (kI 0) (kI 999) w))) (w2 := w) cl_225 rfl rfl rfl (m_157 w v1 (kI 0) (kI 999)) ?_
  refine EV.z_eq cl_225 rfl (fun h1 => ?_) (fun h1 => ?_)
  · skip
    rw [if_pos h1] at H
    refine EV.steps cl_225 1 (q2 := (21, [some (.ref 110), some (.int v1), some (.int v2), none, none, none, none, none], [.int (kI (-1))], SH, w)) rfl ?_
    refine EV.ret cl_225 rfl rfl rfl ?_
    exact ⟨_, rfl, rfl, H⟩
  · skip
    rw [if_neg h1] at H
    refine EV.steps cl_225 3 (q2 := (14, [some (.ref 110), some (.int v1), some (.int v2), none, none, none, none, none], [.int (kI 3), .int (kI 0), .int v2], SH, w)) rfl ?_
    refine EV.callF (kc := 157) (av := [.int v2, .int (kI 0), .int (kI 3)]) (r := []) (rv := some (.int (F_157 v2 (kI 0) (kI 3) w))) (w2 := w) cl_225 rfl rfl rfl (m_157 w v2 (kI 0) (kI 3)) ?_
    refine EV.z_ne cl_225 rfl (fun h2 => ?_) (fun h2 => ?_)
    · skip
      rw [if_neg h2] at H
      refine EV.steps cl_225 3 (q2 := (25, [some (.ref 110), some (.int v1), some (.int v2), none, none, none, none, none], [.int v2, .int v1, .ref 110], SH, w)) rfl ?_
      refine EV.call (kc := 222) (av := [.ref 110, .int v1, .int v2]) (r := []) cl_225 rfl rfl rfl H ?_
      clear H; intro y1 s1 w1 e1
      obtain ⟨rfl, rfl, H⟩ := e1
      refine EV.steps cl_225 1 (q2 := (29, [some (.ref 110), some (.int v1), some (.int v2), none, none, none, none, none], [.ref 110], SH, w1)) rfl ?_
      refine EV.callF (kc := 168) (av := [.ref 110]) (r := []) (rv := some (.int (F_168_110 w1))) (w2 := w1) cl_225 rfl rfl rfl (m_168_110 w1 ) ?_
      refine EV.steps cl_225 5 (q2 := (39, [some (.ref 110), some (.int v1), some (.int v2), some (.int (F_168_110 w1)), some (.int (kI 0)), some (.int (kI 0)), none, none], [], SH, w1)) rfl ?_
      exact H
    · skip
      rw [if_pos h2] at H
      refine EV.steps cl_225 1 (q2 := (21, [some (.ref 110), some (.int v1), some (.int v2), none, none, none, none, none], [.int (kI (-1))], SH, w)) rfl ?_
      refine EV.ret cl_225 rfl rfl rfl ?_
      exact ⟨_, rfl, rfl, H⟩
theorem t225_110_at39 {X : Scr} {d : Nat} {Q : Int32 → Wd → Prop} (w : Wd) (v1 : Int32) (v2 : Int32) (v3 : Int32) (v4 : Int32) (v5 : Int32)
    (H : (if (kI 6) ≤ v5 then Q v4 w else (if (F_164_110 v5 w) = 0 then EI X (d + 3) 225 (39, [some (.ref 110), some (.int v1), some (.int v2), some (.int v3), some (.int v4), some (.int (v5 + (kI 1))), none, none], [], SH, w) Q else (if v3 = 0 then EI X (d + 3) 225 (39, [some (.ref 110), some (.int v1), some (.int v2), some (.int v3), some (.int v4), some (.int (v5 + (kI 1))), none, none], [], SH, w) Q else (inB v5 6 = true ∧ (¬ v3 = 0 ∧ (inB v5 6 = true ∧ (¬ v3 = 0 ∧ (inB v5 6 = true ∧ (if (F_157 (w 133 v5.toNatClampNeg) (((w 114 v5.toNatClampNeg) * v1) / v3) (((((w 114 v5.toNatClampNeg) * v1) + v3) - (kI 1)) / v3) w) = 0 then EI X (d + 3) 225 (39, [some (.ref 110), some (.int v1), some (.int v2), some (.int v3), some (.int (v4 ||| ((kI 1) <<< (v5 &&& 31)))), some (.int (v5 + (kI 1))), none, none], [], SH, w) Q else EI X (d + 3) 225 (39, [some (.ref 110), some (.int v1), some (.int v2), some (.int v3), some (.int v4), some (.int (v5 + (kI 1))), none, none], [], SH, w) Q)))))))))) : EI X (d + 3) 225 (39, [some (.ref 110), some (.int v1), some (.int v2), some (.int v3), some (.int v4), some (.int v5), none, none], [], SH, w) Q := by
  unfold EI
  refine EV.steps cl_225 2 (q2 := (43, [some (.ref 110), some (.int v1), some (.int v2), some (.int v3), some (.int v4), some (.int v5), none, none], [.int (kI 6), .int v5], SH, w)) rfl ?_
  refine EV.i_ge cl_225 rfl (fun h1 => ?_) (fun h1 => ?_)
  · skip
    rw [if_pos h1] at H
    refine EV.steps cl_225 1 (q2 := (126, [some (.ref 110), some (.int v1), some (.int v2), some (.int v3), some (.int v4), some (.int v5), none, none], [.int v4], SH, w)) rfl ?_
    refine EV.ret cl_225 rfl rfl rfl ?_
    exact ⟨_, rfl, rfl, H⟩
  · skip
    rw [if_neg h1] at H
    refine EV.steps cl_225 2 (q2 := (49, [some (.ref 110), some (.int v1), some (.int v2), some (.int v3), some (.int v4), some (.int v5), none, none], [.int v5, .ref 110], SH, w)) rfl ?_
    refine EV.callF (kc := 164) (av := [.ref 110, .int v5]) (r := []) (rv := some (.int (F_164_110 v5 w))) (w2 := w) cl_225 rfl rfl rfl (m_164_110 w v5) ?_
    refine EV.z_eq cl_225 rfl (fun h2 => ?_) (fun h2 => ?_)
    · skip
      rw [if_pos h2] at H
      refine EV.steps cl_225 2 (q2 := (39, [some (.ref 110), some (.int v1), some (.int v2), some (.int v3), some (.int v4), some (.int (v5 + (kI 1))), none, none], [], SH, w)) rfl ?_
      exact H
    · skip
      rw [if_neg h2] at H
      refine EV.steps cl_225 1 (q2 := (56, [some (.ref 110), some (.int v1), some (.int v2), some (.int v3), some (.int v4), some (.int v5), none, none], [.int v3], SH, w)) rfl ?_
      refine EV.z_ne cl_225 rfl (fun h3 => ?_) (fun h3 => ?_)
      · skip
        rw [if_neg h3] at H
        refine EV.steps cl_225 3 (q2 := (68, [some (.ref 110), some (.int v1), some (.int v2), some (.int v3), some (.int v4), some (.int v5), none, none], [.int v5, .ref 114], SH, w)) rfl ?_
        obtain ⟨j4, H⟩ := H
        refine EV.iaload cl_225 rfl rfl (by decide) j4 ?_
        refine EV.steps cl_225 3 (q2 := (72, [some (.ref 110), some (.int v1), some (.int v2), some (.int v3), some (.int v4), some (.int v5), none, none], [.int v3, .int ((w 114 v5.toNatClampNeg) * v1)], SH, w)) rfl ?_
        obtain ⟨j5, H⟩ := H
        refine EV.idiv cl_225 rfl j5 ?_
        refine EV.steps cl_225 4 (q2 := (81, [some (.ref 110), some (.int v1), some (.int v2), some (.int v3), some (.int v4), some (.int v5), some (.int (((w 114 v5.toNatClampNeg) * v1) / v3)), none], [.int v5, .ref 114], SH, w)) rfl ?_
        obtain ⟨j6, H⟩ := H
        refine EV.iaload cl_225 rfl rfl (by decide) j6 ?_
        refine EV.steps cl_225 7 (q2 := (89, [some (.ref 110), some (.int v1), some (.int v2), some (.int v3), some (.int v4), some (.int v5), some (.int (((w 114 v5.toNatClampNeg) * v1) / v3)), none], [.int v3, .int ((((w 114 v5.toNatClampNeg) * v1) + v3) - (kI 1))], SH, w)) rfl ?_
        obtain ⟨j7, H⟩ := H
        refine EV.idiv cl_225 rfl j7 ?_
        refine EV.steps cl_225 4 (q2 := (98, [some (.ref 110), some (.int v1), some (.int v2), some (.int v3), some (.int v4), some (.int v5), some (.int (((w 114 v5.toNatClampNeg) * v1) / v3)), some (.int (((((w 114 v5.toNatClampNeg) * v1) + v3) - (kI 1)) / v3))], [.int v5, .ref 133], SH, w)) rfl ?_
        obtain ⟨j8, H⟩ := H
        refine EV.iaload cl_225 rfl rfl (by decide) j8 ?_
        refine EV.steps cl_225 2 (q2 := (103, [some (.ref 110), some (.int v1), some (.int v2), some (.int v3), some (.int v4), some (.int v5), some (.int (((w 114 v5.toNatClampNeg) * v1) / v3)), some (.int (((((w 114 v5.toNatClampNeg) * v1) + v3) - (kI 1)) / v3))], [.int (((((w 114 v5.toNatClampNeg) * v1) + v3) - (kI 1)) / v3), .int (((w 114 v5.toNatClampNeg) * v1) / v3), .int (w 133 v5.toNatClampNeg)], SH, w)) rfl ?_
        refine EV.callF (kc := 157) (av := [.int (w 133 v5.toNatClampNeg), .int (((w 114 v5.toNatClampNeg) * v1) / v3), .int (((((w 114 v5.toNatClampNeg) * v1) + v3) - (kI 1)) / v3)]) (r := []) (rv := some (.int (F_157 (w 133 v5.toNatClampNeg) (((w 114 v5.toNatClampNeg) * v1) / v3) (((((w 114 v5.toNatClampNeg) * v1) + v3) - (kI 1)) / v3) w))) (w2 := w) cl_225 rfl rfl rfl (m_157 w (w 133 v5.toNatClampNeg) (((w 114 v5.toNatClampNeg) * v1) / v3) (((((w 114 v5.toNatClampNeg) * v1) + v3) - (kI 1)) / v3)) ?_
        refine EV.z_ne cl_225 rfl (fun h9 => ?_) (fun h9 => ?_)
        · skip
          rw [if_neg h9] at H
          refine EV.steps cl_225 2 (q2 := (39, [some (.ref 110), some (.int v1), some (.int v2), some (.int v3), some (.int v4), some (.int (v5 + (kI 1))), some (.int (((w 114 v5.toNatClampNeg) * v1) / v3)), some (.int (((((w 114 v5.toNatClampNeg) * v1) + v3) - (kI 1)) / v3))], [], SH, w)) rfl ?_
          exact EV.weak (l := [some (.ref 110), some (.int v1), some (.int v2), some (.int v3), some (.int v4), some (.int (v5 + (kI 1))), none, none]) ⟨rfl, ⟨rfl, ⟨rfl, ⟨rfl, ⟨rfl, ⟨rfl, ⟨rfl, ⟨rfl, trivial⟩⟩⟩⟩⟩⟩⟩⟩ H
        · skip
          rw [if_pos h9] at H
          refine EV.steps cl_225 8 (q2 := (39, [some (.ref 110), some (.int v1), some (.int v2), some (.int v3), some (.int (v4 ||| ((kI 1) <<< (v5 &&& 31)))), some (.int (v5 + (kI 1))), some (.int (((w 114 v5.toNatClampNeg) * v1) / v3)), some (.int (((((w 114 v5.toNatClampNeg) * v1) + v3) - (kI 1)) / v3))], [], SH, w)) rfl ?_
          exact EV.weak (l := [some (.ref 110), some (.int v1), some (.int v2), some (.int v3), some (.int (v4 ||| ((kI 1) <<< (v5 &&& 31)))), some (.int (v5 + (kI 1))), none, none]) ⟨rfl, ⟨rfl, ⟨rfl, ⟨rfl, ⟨rfl, ⟨rfl, ⟨rfl, ⟨rfl, trivial⟩⟩⟩⟩⟩⟩⟩⟩ H
      · skip
        rw [if_pos h3] at H
        refine EV.steps cl_225 3 (q2 := (39, [some (.ref 110), some (.int v1), some (.int v2), some (.int v3), some (.int v4), some (.int (v5 + (kI 1))), none, none], [], SH, w)) rfl ?_
        exact H
theorem t226_110_at0 {X : Scr} {d : Nat} {Q : Int32 → Wd → Prop} (w : Wd) (v1 : Int32)
    (H : EI X (d + 1) 226 (6, [some (.ref 110), some (.int v1), some (.int ((kI 1) <<< (v1 &&& 31))), some (.int (kI 0)), none], [], SH, w) Q) : EI X (d + 1) 226 (0, [some (.ref 110), some (.int v1), none, none, none], [], SH, w) Q := by
  unfold EI
  refine EV.steps cl_226 6 (q2 := (6, [some (.ref 110), some (.int v1), some (.int ((kI 1) <<< (v1 &&& 31))), some (.int (kI 0)), none], [], SH, w)) rfl ?_
  exact H
theorem t226_110_at6 {X : Scr} {d : Nat} {Q : Int32 → Wd → Prop} (w : Wd) (v1 : Int32) (v2 : Int32) (v3 : Int32)
    (H : (if v2 = v3 then Q v2 w else EI X (d + 1) 226 (16, [some (.ref 110), some (.int v1), some (.int v2), some (.int v2), some (.int (kI 0))], [], SH, w) Q)) : EI X (d + 1) 226 (6, [some (.ref 110), some (.int v1), some (.int v2), some (.int v3), none], [], SH, w) Q := by
  unfold EI
  refine EV.steps cl_226 2 (q2 := (8, [some (.ref 110), some (.int v1), some (.int v2), some (.int v3), none], [.int v3, .int v2], SH, w)) rfl ?_
  refine EV.i_eq cl_226 rfl (fun h1 => ?_) (fun h1 => ?_)
  · skip
    rw [if_pos h1] at H
    refine EV.steps cl_226 1 (q2 := (52, [some (.ref 110), some (.int v1), some (.int v2), some (.int v3), none], [.int v2], SH, w)) rfl ?_
    refine EV.ret cl_226 rfl rfl rfl ?_
    exact ⟨_, rfl, rfl, H⟩
  · skip
    rw [if_neg h1] at H
    refine EV.steps cl_226 4 (q2 := (16, [some (.ref 110), some (.int v1), some (.int v2), some (.int v2), some (.int (kI 0))], [], SH, w)) rfl ?_
    exact H
theorem t226_110_at16 {X : Scr} {d : Nat} {Q : Int32 → Wd → Prop} (w : Wd) (v1 : Int32) (v2 : Int32) (v3 : Int32) (v4 : Int32)
    (H : (if (kI 6) ≤ v4 then EI X (d + 1) 226 (6, [some (.ref 110), some (.int v1), some (.int v2), some (.int v3), none], [], SH, w) Q else (if (F_161 v3 v4 w) = 0 then EI X (d + 1) 226 (16, [some (.ref 110), some (.int v1), some (.int v2), some (.int v3), some (.int (v4 + (kI 1)))], [], SH, w) Q else (inB v4 6 = true ∧ EI X (d + 1) 226 (16, [some (.ref 110), some (.int v1), some (.int (v2 ||| (w 115 v4.toNatClampNeg))), some (.int v3), some (.int (v4 + (kI 1)))], [], SH, w) Q)))) : EI X (d + 1) 226 (16, [some (.ref 110), some (.int v1), some (.int v2), some (.int v3), some (.int v4)], [], SH, w) Q := by
  unfold EI
  refine EV.steps cl_226 2 (q2 := (20, [some (.ref 110), some (.int v1), some (.int v2), some (.int v3), some (.int v4)], [.int (kI 6), .int v4], SH, w)) rfl ?_
  refine EV.i_ge cl_226 rfl (fun h1 => ?_) (fun h1 => ?_)
  · skip
    rw [if_pos h1] at H
    refine EV.steps cl_226 1 (q2 := (6, [some (.ref 110), some (.int v1), some (.int v2), some (.int v3), some (.int v4)], [], SH, w)) rfl ?_
    exact EV.weak (l := [some (.ref 110), some (.int v1), some (.int v2), some (.int v3), none]) ⟨rfl, ⟨rfl, ⟨rfl, ⟨rfl, ⟨rfl, trivial⟩⟩⟩⟩⟩ H
  · skip
    rw [if_neg h1] at H
    refine EV.steps cl_226 2 (q2 := (26, [some (.ref 110), some (.int v1), some (.int v2), some (.int v3), some (.int v4)], [.int v4, .int v3], SH, w)) rfl ?_
    refine EV.callF (kc := 161) (av := [.int v3, .int v4]) (r := []) (rv := some (.int (F_161 v3 v4 w))) (w2 := w) cl_226 rfl rfl rfl (m_161 w v3 v4) ?_
    refine EV.z_eq cl_226 rfl (fun h2 => ?_) (fun h2 => ?_)
    · skip
      rw [if_pos h2] at H
      refine EV.steps cl_226 2 (q2 := (16, [some (.ref 110), some (.int v1), some (.int v2), some (.int v3), some (.int (v4 + (kI 1)))], [], SH, w)) rfl ?_
      exact H
    · skip
      rw [if_neg h2] at H
      refine EV.steps cl_226 4 (q2 := (39, [some (.ref 110), some (.int v1), some (.int v2), some (.int v3), some (.int v4)], [.int v4, .ref 115, .int v2], SH, w)) rfl ?_
      obtain ⟨j3, H⟩ := H
      refine EV.iaload cl_226 rfl rfl (by decide) j3 ?_
      refine EV.steps cl_226 4 (q2 := (16, [some (.ref 110), some (.int v1), some (.int (v2 ||| (w 115 v4.toNatClampNeg))), some (.int v3), some (.int (v4 + (kI 1)))], [], SH, w)) rfl ?_
      exact H
theorem t227_110_at0 {X : Scr} {d : Nat} {Q : Int32 → Wd → Prop} (w : Wd) (v1 : Int32)
    (H : (if v1 = (kI 100) then EI X (d + 2) 227 (34, [some (.ref 110), some (.int v1), some (.int (w 110 6)), some (.int (kI 0)), some (.int (kI 0))], [], SH, w) Q else (if (F_164_110 v1 w) = 0 then Q (kI (-1)) w else CI X (d + 2) 226 [.ref 110, .int v1] w (fun x1 w1 => Q x1 w1)))) : EI X (d + 2) 227 (0, [some (.ref 110), some (.int v1), none, none, none], [], SH, w) Q := by
  unfold EI
  refine EV.steps cl_227 2 (q2 := (3, [some (.ref 110), some (.int v1), none, none, none], [.int (kI 100), .int v1], SH, w)) rfl ?_
  refine EV.i_eq cl_227 rfl (fun h1 => ?_) (fun h1 => ?_)
  · skip
    rw [if_pos h1] at H
    refine EV.steps cl_227 7 (q2 := (34, [some (.ref 110), some (.int v1), some (.int (w 110 6)), some (.int (kI 0)), some (.int (kI 0))], [], SH, w)) rfl ?_
    exact H
  · skip
    rw [if_neg h1] at H
    refine EV.steps cl_227 2 (q2 := (8, [some (.ref 110), some (.int v1), none, none, none], [.int v1, .ref 110], SH, w)) rfl ?_
    refine EV.callF (kc := 164) (av := [.ref 110, .int v1]) (r := []) (rv := some (.int (F_164_110 v1 w))) (w2 := w) cl_227 rfl rfl rfl (m_164_110 w v1) ?_
    refine EV.z_eq cl_227 rfl (fun h2 => ?_) (fun h2 => ?_)
    · skip
      rw [if_pos h2] at H
      refine EV.steps cl_227 1 (q2 := (23, [some (.ref 110), some (.int v1), none, none, none], [.int (kI (-1))], SH, w)) rfl ?_
      refine EV.ret cl_227 rfl rfl rfl ?_
      exact ⟨_, rfl, rfl, H⟩
    · skip
      rw [if_neg h2] at H
      refine EV.steps cl_227 2 (q2 := (16, [some (.ref 110), some (.int v1), none, none, none], [.int v1, .ref 110], SH, w)) rfl ?_
      refine EV.call (kc := 226) (av := [.ref 110, .int v1]) (r := []) cl_227 rfl rfl rfl H ?_
      clear H; intro y1 s1 w1 e1
      obtain ⟨x1, rfl, rfl, H⟩ := e1
      refine EV.steps cl_227 1 (q2 := (23, [some (.ref 110), some (.int v1), none, none, none], [.int x1], SH, w1)) rfl ?_
      refine EV.ret cl_227 rfl rfl rfl ?_
      exact ⟨_, rfl, rfl, H⟩
theorem t227_110_at34 {X : Scr} {d : Nat} {Q : Int32 → Wd → Prop} (w : Wd) (v1 : Int32) (v2 : Int32) (v3 : Int32) (v4 : Int32)
    (H : (if (kI 6) ≤ v4 then Q v3 w else (if (F_161 v2 v4 w) = 0 then EI X (d + 2) 227 (34, [some (.ref 110), some (.int v1), some (.int v2), some (.int v3), some (.int (v4 + (kI 1)))], [], SH, w) Q else CI X (d + 2) 226 [.ref 110, .int v4] w (fun x1 w1 => EI X (d + 2) 227 (34, [some (.ref 110), some (.int v1), some (.int (v2 &&& (x1 ^^^ (kI (-1))))), some (.int (v3 + (kI 1))), some (.int (v4 + (kI 1)))], [], SH, w1) Q)))) : EI X (d + 2) 227 (34, [some (.ref 110), some (.int v1), some (.int v2), some (.int v3), some (.int v4)], [], SH, w) Q := by
  unfold EI
  refine EV.steps cl_227 2 (q2 := (38, [some (.ref 110), some (.int v1), some (.int v2), some (.int v3), some (.int v4)], [.int (kI 6), .int v4], SH, w)) rfl ?_
  refine EV.i_ge cl_227 rfl (fun h1 => ?_) (fun h1 => ?_)
  · skip
    rw [if_pos h1] at H
    refine EV.steps cl_227 1 (q2 := (75, [some (.ref 110), some (.int v1), some (.int v2), some (.int v3), some (.int v4)], [.int v3], SH, w)) rfl ?_
    refine EV.ret cl_227 rfl rfl rfl ?_
    exact ⟨_, rfl, rfl, H⟩
  · skip
    rw [if_neg h1] at H
    refine EV.steps cl_227 2 (q2 := (44, [some (.ref 110), some (.int v1), some (.int v2), some (.int v3), some (.int v4)], [.int v4, .int v2], SH, w)) rfl ?_
    refine EV.callF (kc := 161) (av := [.int v2, .int v4]) (r := []) (rv := some (.int (F_161 v2 v4 w))) (w2 := w) cl_227 rfl rfl rfl (m_161 w v2 v4) ?_
    refine EV.z_ne cl_227 rfl (fun h2 => ?_) (fun h2 => ?_)
    · skip
      rw [if_neg h2] at H
      refine EV.steps cl_227 3 (q2 := (57, [some (.ref 110), some (.int v1), some (.int v2), some (.int v3), some (.int v4)], [.int v4, .ref 110, .int v2], SH, w)) rfl ?_
      refine EV.call (kc := 226) (av := [.ref 110, .int v4]) (r := [.int v2]) cl_227 rfl rfl rfl H ?_
      clear H; intro y1 s1 w1 e1
      obtain ⟨x1, rfl, rfl, H⟩ := e1
      refine EV.steps cl_227 10 (q2 := (34, [some (.ref 110), some (.int v1), some (.int (v2 &&& (x1 ^^^ (kI (-1))))), some (.int (v3 + (kI 1))), some (.int (v4 + (kI 1)))], [], SH, w1)) rfl ?_
      exact H
    · skip
      rw [if_pos h2] at H
      refine EV.steps cl_227 3 (q2 := (34, [some (.ref 110), some (.int v1), some (.int v2), some (.int v3), some (.int (v4 + (kI 1)))], [], SH, w)) rfl ?_
      exact H
theorem t228_110_at0 {X : Scr} {d : Nat} {Q : Wd → Prop} (w : Wd) (v1 : Int32) (v2 : Int32)
    (H : EU X (d + 1) 228 (12, [some (.ref 110), some (.int v1), some (.int v2), some (.int (kI 0)), none], [], SH, (up2 (up2 w 110 46 (kI 0)) 110 47 (kI 0))) Q) : EU X (d + 1) 228 (0, [some (.ref 110), some (.int v1), some (.int v2), none, none], [], SH, w) Q := by
  unfold EU
  refine EV.steps cl_228 8 (q2 := (12, [some (.ref 110), some (.int v1), some (.int v2), some (.int (kI 0)), none], [], SH, (up2 (up2 w 110 46 (kI 0)) 110 47 (kI 0)))) rfl ?_
  exact H
theorem t228_110_at12 {X : Scr} {d : Nat} {Q : Wd → Prop} (w : Wd) (v1 : Int32) (v2 : Int32) (v3 : Int32)
    (H : (if (kI 6) ≤ v3 then EU X (d + 1) 228 (57, [some (.ref 110), some (.int v1), some (.int v2), some (.int (kI 0)), none], [], SH, w) Q else (if (F_161 v1 v3 w) = 0 then EU X (d + 1) 228 (12, [some (.ref 110), some (.int v1), some (.int v2), some (.int (v3 + (kI 1))), none], [], SH, w) Q else (inB (w 110 46) 4 = true ∧ EU X (d + 1) 228 (12, [some (.ref 110), some (.int v1), some (.int v2), some (.int (v3 + (kI 1))), none], [], SH, (up2 (up2 w 136 (w 110 46).toNatClampNeg v3) 110 46 ((w 110 46) + (kI 1)))) Q)))) : EU X (d + 1) 228 (12, [some (.ref 110), some (.int v1), some (.int v2), some (.int v3), none], [], SH, w) Q := by
  unfold EU
  refine EV.steps cl_228 2 (q2 := (15, [some (.ref 110), some (.int v1), some (.int v2), some (.int v3), none], [.int (kI 6), .int v3], SH, w)) rfl ?_
  refine EV.i_ge cl_228 rfl (fun h1 => ?_) (fun h1 => ?_)
  · skip
    rw [if_pos h1] at H
    refine EV.steps cl_228 2 (q2 := (57, [some (.ref 110), some (.int v1), some (.int v2), some (.int (kI 0)), none], [], SH, w)) rfl ?_
    exact H
  · skip
    rw [if_neg h1] at H
    refine EV.steps cl_228 2 (q2 := (20, [some (.ref 110), some (.int v1), some (.int v2), some (.int v3), none], [.int v3, .int v1], SH, w)) rfl ?_
    refine EV.callF (kc := 161) (av := [.int v1, .int v3]) (r := []) (rv := some (.int (F_161 v1 v3 w))) (w2 := w) cl_228 rfl rfl rfl (m_161 w v1 v3) ?_
    refine EV.z_ne cl_228 rfl (fun h2 => ?_) (fun h2 => ?_)
    · skip
      rw [if_neg h2] at H
      refine EV.steps cl_228 5 (q2 := (38, [some (.ref 110), some (.int v1), some (.int v2), some (.int v3), none], [.int v3, .int (w 110 46), .ref 136], SH, w)) rfl ?_
      obtain ⟨j3, H⟩ := H
      refine EV.iastore cl_228 rfl rfl (by decide) j3 ?_
      refine EV.steps cl_228 8 (q2 := (12, [some (.ref 110), some (.int v1), some (.int v2), some (.int (v3 + (kI 1))), none], [], SH, (up2 (up2 w 136 (w 110 46).toNatClampNeg v3) 110 46 ((w 110 46) + (kI 1))))) rfl ?_
      exact H
    · skip
      rw [if_pos h2] at H
      refine EV.steps cl_228 3 (q2 := (12, [some (.ref 110), some (.int v1), some (.int v2), some (.int (v3 + (kI 1))), none], [], SH, w)) rfl ?_
      exact H
theorem t228_110_at57 {X : Scr} {d : Nat} {Q : Wd → Prop} (w : Wd) (v1 : Int32) (v2 : Int32) (v3 : Int32)
    (H : (if (kI 6) ≤ v3 then EU X (d + 1) 228 (102, [some (.ref 110), some (.int v1), some (.int v2), some (.int (kI 0)), none], [], SH, w) Q else (if (F_161 v2 v3 w) = 0 then EU X (d + 1) 228 (57, [some (.ref 110), some (.int v1), some (.int v2), some (.int (v3 + (kI 1))), none], [], SH, w) Q else (inB (w 110 47) 3 = true ∧ EU X (d + 1) 228 (57, [some (.ref 110), some (.int v1), some (.int v2), some (.int (v3 + (kI 1))), none], [], SH, (up2 (up2 w 137 (w 110 47).toNatClampNeg v3) 110 47 ((w 110 47) + (kI 1)))) Q)))) : EU X (d + 1) 228 (57, [some (.ref 110), some (.int v1), some (.int v2), some (.int v3), none], [], SH, w) Q := by
  unfold EU
  refine EV.steps cl_228 2 (q2 := (60, [some (.ref 110), some (.int v1), some (.int v2), some (.int v3), none], [.int (kI 6), .int v3], SH, w)) rfl ?_
  refine EV.i_ge cl_228 rfl (fun h1 => ?_) (fun h1 => ?_)
  · skip
    rw [if_pos h1] at H
    refine EV.steps cl_228 2 (q2 := (102, [some (.ref 110), some (.int v1), some (.int v2), some (.int (kI 0)), none], [], SH, w)) rfl ?_
    exact H
  · skip
    rw [if_neg h1] at H
    refine EV.steps cl_228 2 (q2 := (65, [some (.ref 110), some (.int v1), some (.int v2), some (.int v3), none], [.int v3, .int v2], SH, w)) rfl ?_
    refine EV.callF (kc := 161) (av := [.int v2, .int v3]) (r := []) (rv := some (.int (F_161 v2 v3 w))) (w2 := w) cl_228 rfl rfl rfl (m_161 w v2 v3) ?_
    refine EV.z_ne cl_228 rfl (fun h2 => ?_) (fun h2 => ?_)
    · skip
      rw [if_neg h2] at H
      refine EV.steps cl_228 5 (q2 := (83, [some (.ref 110), some (.int v1), some (.int v2), some (.int v3), none], [.int v3, .int (w 110 47), .ref 137], SH, w)) rfl ?_
      obtain ⟨j3, H⟩ := H
      refine EV.iastore cl_228 rfl rfl (by decide) j3 ?_
      refine EV.steps cl_228 8 (q2 := (57, [some (.ref 110), some (.int v1), some (.int v2), some (.int (v3 + (kI 1))), none], [], SH, (up2 (up2 w 137 (w 110 47).toNatClampNeg v3) 110 47 ((w 110 47) + (kI 1))))) rfl ?_
      exact H
    · skip
      rw [if_pos h2] at H
      refine EV.steps cl_228 3 (q2 := (57, [some (.ref 110), some (.int v1), some (.int v2), some (.int (v3 + (kI 1))), none], [], SH, w)) rfl ?_
      exact H
theorem t228_110_at102 {X : Scr} {d : Nat} {Q : Wd → Prop} (w : Wd) (v1 : Int32) (v2 : Int32) (v3 : Int32)
    (H : (if (w 110 46) ≤ v3 then Q w else EU X (d + 1) 228 (113, [some (.ref 110), some (.int v1), some (.int v2), some (.int v3), some (.int (kI 0))], [], SH, w) Q)) : EU X (d + 1) 228 (102, [some (.ref 110), some (.int v1), some (.int v2), some (.int v3), none], [], SH, w) Q := by
  unfold EU
  refine EV.steps cl_228 3 (q2 := (107, [some (.ref 110), some (.int v1), some (.int v2), some (.int v3), none], [.int (w 110 46), .int v3], SH, w)) rfl ?_
  refine EV.i_ge cl_228 rfl (fun h1 => ?_) (fun h1 => ?_)
  · skip
    rw [if_pos h1] at H
    refine EV.ret cl_228 rfl rfl rfl ?_
    exact ⟨rfl, rfl, H⟩
  · skip
    rw [if_neg h1] at H
    refine EV.steps cl_228 2 (q2 := (113, [some (.ref 110), some (.int v1), some (.int v2), some (.int v3), some (.int (kI 0))], [], SH, w)) rfl ?_
    exact H
theorem t228_110_at113 {X : Scr} {d : Nat} {Q : Wd → Prop} (w : Wd) (v1 : Int32) (v2 : Int32) (v3 : Int32) (v4 : Int32)
    (H : (if (w 110 47) ≤ v4 then EU X (d + 1) 228 (102, [some (.ref 110), some (.int v1), some (.int v2), some (.int (v3 + (kI 1))), none], [], SH, w) Q else (inB v3 4 = true ∧ (inB v4 3 = true ∧ (((inB (((kI 0) + ((kI 6) * (w 136 v3.toNatClampNeg))) + (w 137 v4.toNatClampNeg)) 162 = true)) ∧ (inB (((w 110 47) * v3) + v4) 12 = true ∧ EU X (d + 1) 228 (113, [some (.ref 110), some (.int v1), some (.int v2), some (.int v3), some (.int (v4 + (kI 1)))], [], SH, (up2 w 135 (((w 110 47) * v3) + v4).toNatClampNeg (F_166_110 (w 136 v3.toNatClampNeg) (w 137 v4.toNatClampNeg) w))) Q)))))) : EU X (d + 1) 228 (113, [some (.ref 110), some (.int v1), some (.int v2), some (.int v3), some (.int v4)], [], SH, w) Q := by
  unfold EU
  refine EV.steps cl_228 3 (q2 := (119, [some (.ref 110), some (.int v1), some (.int v2), some (.int v3), some (.int v4)], [.int (w 110 47), .int v4], SH, w)) rfl ?_
  refine EV.i_ge cl_228 rfl (fun h1 => ?_) (fun h1 => ?_)
  · skip
    rw [if_pos h1] at H
    refine EV.steps cl_228 2 (q2 := (102, [some (.ref 110), some (.int v1), some (.int v2), some (.int (v3 + (kI 1))), some (.int v4)], [], SH, w)) rfl ?_
    exact EV.weak (l := [some (.ref 110), some (.int v1), some (.int v2), some (.int (v3 + (kI 1))), none]) ⟨rfl, ⟨rfl, ⟨rfl, ⟨rfl, ⟨rfl, trivial⟩⟩⟩⟩⟩ H
  · skip
    rw [if_neg h1] at H
    refine EV.steps cl_228 12 (q2 := (141, [some (.ref 110), some (.int v1), some (.int v2), some (.int v3), some (.int v4)], [.int v3, .ref 136, .ref 110, .int (((w 110 47) * v3) + v4), .ref 135], SH, w)) rfl ?_
    obtain ⟨j2, H⟩ := H
    refine EV.iaload cl_228 rfl rfl (by decide) j2 ?_
    refine EV.steps cl_228 3 (q2 := (148, [some (.ref 110), some (.int v1), some (.int v2), some (.int v3), some (.int v4)], [.int v4, .ref 137, .int (w 136 v3.toNatClampNeg), .ref 110, .int (((w 110 47) * v3) + v4), .ref 135], SH, w)) rfl ?_
    obtain ⟨j3, H⟩ := H
    refine EV.iaload cl_228 rfl rfl (by decide) j3 ?_
    obtain ⟨j4, H⟩ := H
    refine EV.callF (kc := 166) (av := [.ref 110, .int (w 136 v3.toNatClampNeg), .int (w 137 v4.toNatClampNeg)]) (r := [.int (((w 110 47) * v3) + v4), .ref 135]) (rv := some (.int (F_166_110 (w 136 v3.toNatClampNeg) (w 137 v4.toNatClampNeg) w))) (w2 := w) cl_228 rfl rfl rfl (m_166_110 w (w 136 v3.toNatClampNeg) (w 137 v4.toNatClampNeg) j4) ?_
    obtain ⟨j5, H⟩ := H
    refine EV.iastore cl_228 rfl rfl (by decide) j5 ?_
    refine EV.steps cl_228 2 (q2 := (113, [some (.ref 110), some (.int v1), some (.int v2), some (.int v3), some (.int (v4 + (kI 1)))], [], SH, (up2 w 135 (((w 110 47) * v3) + v4).toNatClampNeg (F_166_110 (w 136 v3.toNatClampNeg) (w 137 v4.toNatClampNeg) w)))) rfl ?_
    exact H
theorem t230_110_at0 {X : Scr} {d : Nat} {Q : Int32 → Wd → Prop} (w : Wd) (v1 : Int32) (v2 : Int32)
    (H : EI X (d + 2) 230 (8, [some (.ref 110), some (.int v1), some (.int v2), some (.int (kI 0)), some (.int (kI 0)), some (.int (kI 0)), none, none], [], SH, w) Q) : EI X (d + 2) 230 (0, [some (.ref 110), some (.int v1), some (.int v2), none, none, none, none, none], [], SH, w) Q := by
  unfold EI
  refine EV.steps cl_230 6 (q2 := (8, [some (.ref 110), some (.int v1), some (.int v2), some (.int (kI 0)), some (.int (kI 0)), some (.int (kI 0)), none, none], [], SH, w)) rfl ?_
  exact H
theorem t230_110_at8 {X : Scr} {d : Nat} {Q : Int32 → Wd → Prop} (w : Wd) (v1 : Int32) (v2 : Int32) (v3 : Int32) (v4 : Int32) (v5 : Int32)
    (H : (if (w 110 46) ≤ v5 then EI X (d + 2) 230 (94, [some (.ref 110), some (.int v1), some (.int v2), some (.int v3), some (.int v4), some (.int (kI 0)), none, none], [], SH, w) Q else EI X (d + 2) 230 (23, [some (.ref 110), some (.int v1), some (.int v2), some (.int v3), some (.int v4), some (.int v5), some (.int (kI 0)), some (.int (kI 0))], [], SH, w) Q)) : EI X (d + 2) 230 (8, [some (.ref 110), some (.int v1), some (.int v2), some (.int v3), some (.int v4), some (.int v5), none, none], [], SH, w) Q := by
  unfold EI
  refine EV.steps cl_230 3 (q2 := (14, [some (.ref 110), some (.int v1), some (.int v2), some (.int v3), some (.int v4), some (.int v5), none, none], [.int (w 110 46), .int v5], SH, w)) rfl ?_
  refine EV.i_ge cl_230 rfl (fun h1 => ?_) (fun h1 => ?_)
  · skip
    rw [if_pos h1] at H
    refine EV.steps cl_230 2 (q2 := (94, [some (.ref 110), some (.int v1), some (.int v2), some (.int v3), some (.int v4), some (.int (kI 0)), none, none], [], SH, w)) rfl ?_
    exact H
  · skip
    rw [if_neg h1] at H
    refine EV.steps cl_230 4 (q2 := (23, [some (.ref 110), some (.int v1), some (.int v2), some (.int v3), some (.int v4), some (.int v5), some (.int (kI 0)), some (.int (kI 0))], [], SH, w)) rfl ?_
    exact H
theorem t230_110_at23 {X : Scr} {d : Nat} {Q : Int32 → Wd → Prop} (w : Wd) (v1 : Int32) (v2 : Int32) (v3 : Int32) (v4 : Int32) (v5 : Int32) (v6 : Int32) (v7 : Int32)
    (H : (if (w 110 47) ≤ v7 then (if (F_160 v6 w) < v1 then EI X (d + 2) 230 (8, [some (.ref 110), some (.int v1), some (.int v2), some (.int (v3 + (F_160 v6 w))), some (.int (v4 + v6)), some (.int (v5 + (kI 1))), none, none], [], SH, w) Q else Q (kI (-1)) w) else (((inB (((w 110 47) * v5) + v7) 12 = true)) ∧ (((¬ v1 = 0)) ∧ EI X (d + 2) 230 (23, [some (.ref 110), some (.int v1), some (.int v2), some (.int v3), some (.int v4), some (.int v5), some (.int (v6 + (F_229_110 (((w 110 47) * v5) + v7) v1 v2 w))), some (.int (v7 + (kI 1)))], [], SH, w) Q)))) : EI X (d + 2) 230 (23, [some (.ref 110), some (.int v1), some (.int v2), some (.int v3), some (.int v4), some (.int v5), some (.int v6), some (.int v7)], [], SH, w) Q := by
  unfold EI
  refine EV.steps cl_230 3 (q2 := (29, [some (.ref 110), some (.int v1), some (.int v2), some (.int v3), some (.int v4), some (.int v5), some (.int v6), some (.int v7)], [.int (w 110 47), .int v7], SH, w)) rfl ?_
  refine EV.i_ge cl_230 rfl (fun h1 => ?_) (fun h1 => ?_)
  · skip
    rw [if_pos h1] at H
    refine EV.steps cl_230 1 (q2 := (61, [some (.ref 110), some (.int v1), some (.int v2), some (.int v3), some (.int v4), some (.int v5), some (.int v6), some (.int v7)], [.int v6], SH, w)) rfl ?_
    refine EV.callF (kc := 160) (av := [.int v6]) (r := []) (rv := some (.int (F_160 v6 w))) (w2 := w) cl_230 rfl rfl rfl (m_160 w v6) ?_
    refine EV.steps cl_230 1 (q2 := (65, [some (.ref 110), some (.int v1), some (.int v2), some (.int v3), some (.int v4), some (.int v5), some (.int v6), some (.int v7)], [.int v1, .int (F_160 v6 w)], SH, w)) rfl ?_
    refine EV.i_lt cl_230 rfl (fun h2 => ?_) (fun h2 => ?_)
    · skip
      rw [if_pos h2] at H
      refine EV.steps cl_230 2 (q2 := (73, [some (.ref 110), some (.int v1), some (.int v2), some (.int v3), some (.int v4), some (.int v5), some (.int v6), some (.int v7)], [.int v6, .int v3], SH, w)) rfl ?_
      refine EV.callF (kc := 160) (av := [.int v6]) (r := [.int v3]) (rv := some (.int (F_160 v6 w))) (w2 := w) cl_230 rfl rfl rfl (m_160 w v6) ?_
      refine EV.steps cl_230 8 (q2 := (8, [some (.ref 110), some (.int v1), some (.int v2), some (.int (v3 + (F_160 v6 w))), some (.int (v4 + v6)), some (.int (v5 + (kI 1))), some (.int v6), some (.int v7)], [], SH, w)) rfl ?_
      exact EV.weak (l := [some (.ref 110), some (.int v1), some (.int v2), some (.int (v3 + (F_160 v6 w))), some (.int (v4 + v6)), some (.int (v5 + (kI 1))), none, none]) ⟨rfl, ⟨rfl, ⟨rfl, ⟨rfl, ⟨rfl, ⟨rfl, ⟨rfl, ⟨rfl, trivial⟩⟩⟩⟩⟩⟩⟩⟩ H
    · skip
      rw [if_neg h2] at H
      refine EV.steps cl_230 1 (q2 := (69, [some (.ref 110), some (.int v1), some (.int v2), some (.int v3), some (.int v4), some (.int v5), some (.int v6), some (.int v7)], [.int (kI (-1))], SH, w)) rfl ?_
      refine EV.ret cl_230 rfl rfl rfl ?_
      exact ⟨_, rfl, rfl, H⟩
  · skip
    rw [if_neg h1] at H
    refine EV.steps cl_230 10 (q2 := (47, [some (.ref 110), some (.int v1), some (.int v2), some (.int v3), some (.int v4), some (.int v5), some (.int v6), some (.int v7)], [.int v2, .int v1, .int (((w 110 47) * v5) + v7), .ref 110, .int v6], SH, w)) rfl ?_
    obtain ⟨j3, H⟩ := H
    obtain ⟨j4, H⟩ := H
    refine EV.callF (kc := 229) (av := [.ref 110, .int (((w 110 47) * v5) + v7), .int v1, .int v2]) (r := [.int v6]) (rv := some (.int (F_229_110 (((w 110 47) * v5) + v7) v1 v2 w))) (w2 := w) cl_230 rfl rfl rfl (m_229_110 w (((w 110 47) * v5) + v7) v1 v2 j3 j4) ?_
    refine EV.steps cl_230 4 (q2 := (23, [some (.ref 110), some (.int v1), some (.int v2), some (.int v3), some (.int v4), some (.int v5), some (.int (v6 + (F_229_110 (((w 110 47) * v5) + v7) v1 v2 w))), some (.int (v7 + (kI 1)))], [], SH, w)) rfl ?_
    exact H
theorem t230_110_at94 {X : Scr} {d : Nat} {Q : Int32 → Wd → Prop} (w : Wd) (v1 : Int32) (v2 : Int32) (v3 : Int32) (v4 : Int32) (v5 : Int32)
    (H : (if (w 110 47) ≤ v5 then (if (F_160 v4 w) < v1 then Q v3 w else Q (kI (-1)) w) else EI X (d + 2) 230 (109, [some (.ref 110), some (.int v1), some (.int v2), some (.int v3), some (.int v4), some (.int v5), some (.int (kI 0)), some (.int (kI 0))], [], SH, w) Q)) : EI X (d + 2) 230 (94, [some (.ref 110), some (.int v1), some (.int v2), some (.int v3), some (.int v4), some (.int v5), none, none], [], SH, w) Q := by
  unfold EI
  refine EV.steps cl_230 3 (q2 := (100, [some (.ref 110), some (.int v1), some (.int v2), some (.int v3), some (.int v4), some (.int v5), none, none], [.int (w 110 47), .int v5], SH, w)) rfl ?_
  refine EV.i_ge cl_230 rfl (fun h1 => ?_) (fun h1 => ?_)
  · skip
    rw [if_pos h1] at H
    refine EV.steps cl_230 1 (q2 := (172, [some (.ref 110), some (.int v1), some (.int v2), some (.int v3), some (.int v4), some (.int v5), none, none], [.int v4], SH, w)) rfl ?_
    refine EV.callF (kc := 160) (av := [.int v4]) (r := []) (rv := some (.int (F_160 v4 w))) (w2 := w) cl_230 rfl rfl rfl (m_160 w v4) ?_
    refine EV.steps cl_230 1 (q2 := (176, [some (.ref 110), some (.int v1), some (.int v2), some (.int v3), some (.int v4), some (.int v5), none, none], [.int v1, .int (F_160 v4 w)], SH, w)) rfl ?_
    refine EV.i_lt cl_230 rfl (fun h2 => ?_) (fun h2 => ?_)
    · skip
      rw [if_pos h2] at H
      refine EV.steps cl_230 1 (q2 := (184, [some (.ref 110), some (.int v1), some (.int v2), some (.int v3), some (.int v4), some (.int v5), none, none], [.int v3], SH, w)) rfl ?_
      refine EV.ret cl_230 rfl rfl rfl ?_
      exact ⟨_, rfl, rfl, H⟩
    · skip
      rw [if_neg h2] at H
      refine EV.steps cl_230 2 (q2 := (184, [some (.ref 110), some (.int v1), some (.int v2), some (.int v3), some (.int v4), some (.int v5), none, none], [.int (kI (-1))], SH, w)) rfl ?_
      refine EV.ret cl_230 rfl rfl rfl ?_
      exact ⟨_, rfl, rfl, H⟩
  · skip
    rw [if_neg h1] at H
    refine EV.steps cl_230 4 (q2 := (109, [some (.ref 110), some (.int v1), some (.int v2), some (.int v3), some (.int v4), some (.int v5), some (.int (kI 0)), some (.int (kI 0))], [], SH, w)) rfl ?_
    exact H
theorem t230_110_at109 {X : Scr} {d : Nat} {Q : Int32 → Wd → Prop} (w : Wd) (v1 : Int32) (v2 : Int32) (v3 : Int32) (v4 : Int32) (v5 : Int32) (v6 : Int32) (v7 : Int32)
    (H : (if (w 110 46) ≤ v7 then (if (F_160 v6 w) < v1 then EI X (d + 2) 230 (94, [some (.ref 110), some (.int v1), some (.int v2), some (.int (v3 + (F_160 v6 w))), some (.int v4), some (.int (v5 + (kI 1))), none, none], [], SH, w) Q else Q (kI (-1)) w) else (((inB (((w 110 47) * v7) + v5) 12 = true)) ∧ (((¬ v1 = 0)) ∧ EI X (d + 2) 230 (109, [some (.ref 110), some (.int v1), some (.int v2), some (.int v3), some (.int v4), some (.int v5), some (.int (v6 + (F_229_110 (((w 110 47) * v7) + v5) v1 v2 w))), some (.int (v7 + (kI 1)))], [], SH, w) Q)))) : EI X (d + 2) 230 (109, [some (.ref 110), some (.int v1), some (.int v2), some (.int v3), some (.int v4), some (.int v5), some (.int v6), some (.int v7)], [], SH, w) Q := by
  unfold EI
  refine EV.steps cl_230 3 (q2 := (115, [some (.ref 110), some (.int v1), some (.int v2), some (.int v3), some (.int v4), some (.int v5), some (.int v6), some (.int v7)], [.int (w 110 46), .int v7], SH, w)) rfl ?_
  refine EV.i_ge cl_230 rfl (fun h1 => ?_) (fun h1 => ?_)
  · skip
    rw [if_pos h1] at H
    refine EV.steps cl_230 1 (q2 := (147, [some (.ref 110), some (.int v1), some (.int v2), some (.int v3), some (.int v4), some (.int v5), some (.int v6), some (.int v7)], [.int v6], SH, w)) rfl ?_
    refine EV.callF (kc := 160) (av := [.int v6]) (r := []) (rv := some (.int (F_160 v6 w))) (w2 := w) cl_230 rfl rfl rfl (m_160 w v6) ?_
    refine EV.steps cl_230 1 (q2 := (151, [some (.ref 110), some (.int v1), some (.int v2), some (.int v3), some (.int v4), some (.int v5), some (.int v6), some (.int v7)], [.int v1, .int (F_160 v6 w)], SH, w)) rfl ?_
    refine EV.i_lt cl_230 rfl (fun h2 => ?_) (fun h2 => ?_)
    · skip
      rw [if_pos h2] at H
      refine EV.steps cl_230 2 (q2 := (159, [some (.ref 110), some (.int v1), some (.int v2), some (.int v3), some (.int v4), some (.int v5), some (.int v6), some (.int v7)], [.int v6, .int v3], SH, w)) rfl ?_
      refine EV.callF (kc := 160) (av := [.int v6]) (r := [.int v3]) (rv := some (.int (F_160 v6 w))) (w2 := w) cl_230 rfl rfl rfl (m_160 w v6) ?_
      refine EV.steps cl_230 4 (q2 := (94, [some (.ref 110), some (.int v1), some (.int v2), some (.int (v3 + (F_160 v6 w))), some (.int v4), some (.int (v5 + (kI 1))), some (.int v6), some (.int v7)], [], SH, w)) rfl ?_
      exact EV.weak (l := [some (.ref 110), some (.int v1), some (.int v2), some (.int (v3 + (F_160 v6 w))), some (.int v4), some (.int (v5 + (kI 1))), none, none]) ⟨rfl, ⟨rfl, ⟨rfl, ⟨rfl, ⟨rfl, ⟨rfl, ⟨rfl, ⟨rfl, trivial⟩⟩⟩⟩⟩⟩⟩⟩ H
    · skip
      rw [if_neg h2] at H
      refine EV.steps cl_230 1 (q2 := (155, [some (.ref 110), some (.int v1), some (.int v2), some (.int v3), some (.int v4), some (.int v5), some (.int v6), some (.int v7)], [.int (kI (-1))], SH, w)) rfl ?_
      refine EV.ret cl_230 rfl rfl rfl ?_
      exact ⟨_, rfl, rfl, H⟩
  · skip
    rw [if_neg h1] at H
    refine EV.steps cl_230 10 (q2 := (133, [some (.ref 110), some (.int v1), some (.int v2), some (.int v3), some (.int v4), some (.int v5), some (.int v6), some (.int v7)], [.int v2, .int v1, .int (((w 110 47) * v7) + v5), .ref 110, .int v6], SH, w)) rfl ?_
    obtain ⟨j3, H⟩ := H
    obtain ⟨j4, H⟩ := H
    refine EV.callF (kc := 229) (av := [.ref 110, .int (((w 110 47) * v7) + v5), .int v1, .int v2]) (r := [.int v6]) (rv := some (.int (F_229_110 (((w 110 47) * v7) + v5) v1 v2 w))) (w2 := w) cl_230 rfl rfl rfl (m_229_110 w (((w 110 47) * v7) + v5) v1 v2 j3 j4) ?_
    refine EV.steps cl_230 4 (q2 := (109, [some (.ref 110), some (.int v1), some (.int v2), some (.int v3), some (.int v4), some (.int v5), some (.int (v6 + (F_229_110 (((w 110 47) * v7) + v5) v1 v2 w))), some (.int (v7 + (kI 1)))], [], SH, w)) rfl ?_
    exact H
