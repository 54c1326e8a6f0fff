theorem t248_110_at0 {X : Scr} {d : Nat} {Q : Wd → Prop} (w : Wd) (v1 : Int32)
    (H : EU X (d + 1) 248 (2, [some (.ref 110), some (.int v1), some (.int v1), none, none], [], SH, w) Q) : EU X (d + 1) 248 (0, [some (.ref 110), some (.int v1), none, none, none], [], SH, w) Q := by
  unfold EU
  refine EV.steps cl_248 2 (q2 := (2, [some (.ref 110), some (.int v1), some (.int v1), none, none], [], SH, w)) rfl ?_
  exact H
theorem t248_110_at2 {X : Scr} {d : Nat} {Q : Wd → Prop} (w : Wd) (v1 : Int32) (v2 : Int32)
    (H : (if v2 = (kI (-1)) then Q w else (inB v2 20 = true ∧ (inB (w 149 v2.toNatClampNeg) 20 = true ∧ (inB (w 149 v2.toNatClampNeg) 20 = true ∧ (inB v2 20 = true ∧ EU X (d + 1) 248 (2, [some (.ref 110), some (.int v1), some (.int (w 148 (w 149 v2.toNatClampNeg).toNatClampNeg)), none, none], [], SH, (up2 (up2 w 148 (w 149 v2.toNatClampNeg).toNatClampNeg v2) 148 v2.toNatClampNeg (w 149 v2.toNatClampNeg))) Q)))))) : EU X (d + 1) 248 (2, [some (.ref 110), some (.int v1), some (.int v2), none, none], [], SH, w) Q := by
  unfold EU
  refine EV.steps cl_248 2 (q2 := (4, [some (.ref 110), some (.int v1), some (.int v2), none, none], [.int (kI (-1)), .int v2], SH, w)) rfl ?_
  refine EV.i_eq cl_248 rfl (fun h1 => ?_) (fun h1 => ?_)
  · skip
    rw [if_pos h1] at H
    refine EV.ret cl_248 rfl rfl rfl ?_
    exact ⟨rfl, rfl, H⟩
  · skip
    rw [if_neg h1] at H
    refine EV.steps cl_248 3 (q2 := (12, [some (.ref 110), some (.int v1), some (.int v2), none, none], [.int v2, .ref 149], SH, w)) rfl ?_
    obtain ⟨j2, H⟩ := H
    refine EV.iaload cl_248 rfl rfl (by decide) j2 ?_
    refine EV.steps cl_248 4 (q2 := (19, [some (.ref 110), some (.int v1), some (.int v2), some (.int (w 149 v2.toNatClampNeg)), none], [.int (w 149 v2.toNatClampNeg), .ref 148], SH, w)) rfl ?_
    obtain ⟨j3, H⟩ := H
    refine EV.iaload cl_248 rfl rfl (by decide) j3 ?_
    refine EV.steps cl_248 5 (q2 := (28, [some (.ref 110), some (.int v1), some (.int v2), some (.int (w 149 v2.toNatClampNeg)), some (.int (w 148 (w 149 v2.toNatClampNeg).toNatClampNeg))], [.int v2, .int (w 149 v2.toNatClampNeg), .ref 148], SH, w)) rfl ?_
    obtain ⟨j4, H⟩ := H
    refine EV.iastore cl_248 rfl rfl (by decide) j4 ?_
    refine EV.steps cl_248 4 (q2 := (35, [some (.ref 110), some (.int v1), some (.int v2), some (.int (w 149 v2.toNatClampNeg)), some (.int (w 148 (w 149 v2.toNatClampNeg).toNatClampNeg))], [.int (w 149 v2.toNatClampNeg), .int v2, .ref 148], SH, (up2 w 148 (w 149 v2.toNatClampNeg).toNatClampNeg v2))) rfl ?_
    obtain ⟨j5, H⟩ := H
    refine EV.iastore cl_248 rfl rfl (by decide) j5 ?_
    refine EV.steps cl_248 3 (q2 := (2, [some (.ref 110), some (.int v1), some (.int (w 148 (w 149 v2.toNatClampNeg).toNatClampNeg)), some (.int (w 149 v2.toNatClampNeg)), some (.int (w 148 (w 149 v2.toNatClampNeg).toNatClampNeg))], [], SH, (up2 (up2 w 148 (w 149 v2.toNatClampNeg).toNatClampNeg v2) 148 v2.toNatClampNeg (w 149 v2.toNatClampNeg)))) rfl ?_
    exact EV.weak (l := [some (.ref 110), some (.int v1), some (.int (w 148 (w 149 v2.toNatClampNeg).toNatClampNeg)), none, none]) ⟨rfl, ⟨rfl, ⟨rfl, ⟨rfl, ⟨rfl, trivial⟩⟩⟩⟩⟩ H
theorem t249_110_at0 {X : Scr} {d : Nat} {Q : Int32 → Wd → Prop} (w : Wd) (v1 : Int32)
    (H : (if (F_157 v1 (kI 0) (kI 1) w) = 0 then Q (kI (-1)) w else EI X (d + 2) 249 (18, [some (.ref 110), some (.int v1), some (.int (kI 0)), some (.int (kI 0)), some (.int (kI 0)), none], [], SH, w) Q)) : EI X (d + 2) 249 (0, [some (.ref 110), some (.int v1), none, none, none, none], [], SH, w) Q := by
  unfold EI
  refine EV.steps cl_249 3 (q2 := (3, [some (.ref 110), some (.int v1), none, none, none, none], [.int (kI 1), .int (kI 0), .int v1], SH, w)) rfl ?_
  refine EV.callF (kc := 157) (av := [.int v1, .int (kI 0), .int (kI 1)]) (r := []) (rv := some (.int (F_157 v1 (kI 0) (kI 1) w))) (w2 := w) cl_249 rfl rfl rfl (m_157 w v1 (kI 0) (kI 1)) ?_
  refine EV.z_ne cl_249 rfl (fun h1 => ?_) (fun h1 => ?_)
  · skip
    rw [if_neg h1] at H
    refine EV.steps cl_249 6 (q2 := (18, [some (.ref 110), some (.int v1), some (.int (kI 0)), some (.int (kI 0)), some (.int (kI 0)), none], [], SH, w)) rfl ?_
    exact H
  · skip
    rw [if_pos h1] at H
    refine EV.steps cl_249 1 (q2 := (10, [some (.ref 110), some (.int v1), none, none, none, none], [.int (kI (-1))], SH, w)) rfl ?_
    refine EV.ret cl_249 rfl rfl rfl ?_
    exact ⟨_, rfl, rfl, H⟩
theorem t249_110_at18 {X : Scr} {d : Nat} {Q : Int32 → Wd → Prop} (w : Wd) (v1 : Int32) (v2 : Int32) (v3 : Int32) (v4 : Int32)
    (H : (if (kI 20) ≤ v4 then (if v1 = 0 then Q v2 w else EI X (d + 2) 249 (79, [some (.ref 110), some (.int v1), some (.int v2), some (.int v3), some (.int (kI 0)), none], [], SH, w) Q) else (inB v4 20 = true ∧ EI X (d + 2) 249 (36, [some (.ref 110), some (.int v1), some (.int v2), some (.int v3), some (.int v4), some (.int (kI 0))], [], SH, (up2 w 148 v4.toNatClampNeg (kI (-1)))) Q))) : EI X (d + 2) 249 (18, [some (.ref 110), some (.int v1), some (.int v2), some (.int v3), some (.int v4), none], [], SH, w) Q := by
  unfold EI
  refine EV.steps cl_249 2 (q2 := (22, [some (.ref 110), some (.int v1), some (.int v2), some (.int v3), some (.int v4), none], [.int (kI 20), .int v4], SH, w)) rfl ?_
  refine EV.i_ge cl_249 rfl (fun h1 => ?_) (fun h1 => ?_)
  · skip
    rw [if_pos h1] at H
    refine EV.steps cl_249 1 (q2 := (71, [some (.ref 110), some (.int v1), some (.int v2), some (.int v3), some (.int v4), none], [.int v1], SH, w)) rfl ?_
    refine EV.z_ne cl_249 rfl (fun h2 => ?_) (fun h2 => ?_)
    · skip
      rw [if_neg h2] at H
      refine EV.steps cl_249 2 (q2 := (79, [some (.ref 110), some (.int v1), some (.int v2), some (.int v3), some (.int (kI 0)), none], [], SH, w)) rfl ?_
      exact H
    · skip
      rw [if_pos h2] at H
      refine EV.steps cl_249 1 (q2 := (75, [some (.ref 110), some (.int v1), some (.int v2), some (.int v3), some (.int v4), none], [.int v2], SH, w)) rfl ?_
      refine EV.ret cl_249 rfl rfl rfl ?_
      exact ⟨_, rfl, rfl, H⟩
  · skip
    rw [if_neg h1] at H
    refine EV.steps cl_249 4 (q2 := (32, [some (.ref 110), some (.int v1), some (.int v2), some (.int v3), some (.int v4), none], [.int (kI (-1)), .int v4, .ref 148], SH, w)) rfl ?_
    obtain ⟨j3, H⟩ := H
    refine EV.iastore cl_249 rfl rfl (by decide) j3 ?_
    refine EV.steps cl_249 2 (q2 := (36, [some (.ref 110), some (.int v1), some (.int v2), some (.int v3), some (.int v4), some (.int (kI 0))], [], SH, (up2 w 148 v4.toNatClampNeg (kI (-1))))) rfl ?_
    exact H
theorem t249_110_at36 {X : Scr} {d : Nat} {Q : Int32 → Wd → Prop} (w : Wd) (v1 : Int32) (v2 : Int32) (v3 : Int32) (v4 : Int32) (v5 : Int32)
    (H : (if v4 ≤ v5 then EI X (d + 2) 249 (18, [some (.ref 110), some (.int v1), some (.int v2), some (.int v3), some (.int (v4 + (kI 1))), none], [], SH, w) Q else ((¬ (F_161 (w 110 56) v4 w) = 0 → ¬ (F_161 (w 110 56) v5 w) = 0 → (inB v4 20 = true)) ∧ ((¬ (F_161 (w 110 56) v4 w) = 0 → ¬ (F_161 (w 110 56) v5 w) = 0 → (inB v5 20 = true)) ∧ ((¬ (F_161 (w 110 56) v4 w) = 0 → ¬ (F_161 (w 110 56) v5 w) = 0 → (w 140 v4.toNatClampNeg) = (w 140 v5.toNatClampNeg) → (inB v4 20 = true)) ∧ ((¬ (F_161 (w 110 56) v4 w) = 0 → ¬ (F_161 (w 110 56) v5 w) = 0 → (w 140 v4.toNatClampNeg) = (w 140 v5.toNatClampNeg) → (inB v5 20 = true)) ∧ ((¬ (F_161 (w 110 56) v4 w) = 0 → ¬ (F_161 (w 110 56) v5 w) = 0 → (w 140 v4.toNatClampNeg) = (w 140 v5.toNatClampNeg) → (w 143 v4.toNatClampNeg) = (w 143 v5.toNatClampNeg) → (inB v4 20 = true)) ∧ ((¬ (F_161 (w 110 56) v4 w) = 0 → ¬ (F_161 (w 110 56) v5 w) = 0 → (w 140 v4.toNatClampNeg) = (w 140 v5.toNatClampNeg) → (w 143 v4.toNatClampNeg) = (w 143 v5.toNatClampNeg) → (inB v5 20 = true)) ∧ ((¬ (F_161 (w 110 56) v4 w) = 0 → ¬ (F_161 (w 110 56) v5 w) = 0 → (w 140 v4.toNatClampNeg) = (w 140 v5.toNatClampNeg) → (w 143 v4.toNatClampNeg) = (w 143 v5.toNatClampNeg) → (w 141 v4.toNatClampNeg) = (w 141 v5.toNatClampNeg) → (inB v4 20 = true)) ∧ ((¬ (F_161 (w 110 56) v4 w) = 0 → ¬ (F_161 (w 110 56) v5 w) = 0 → (w 140 v4.toNatClampNeg) = (w 140 v5.toNatClampNeg) → (w 143 v4.toNatClampNeg) = (w 143 v5.toNatClampNeg) → (w 141 v4.toNatClampNeg) = (w 141 v5.toNatClampNeg) → (inB v5 20 = true)) ∧ (if (F_246_110 v4 v5 w) = 0 then EI X (d + 2) 249 (36, [some (.ref 110), some (.int v1), some (.int v2), some (.int v3), some (.int v4), some (.int (v5 + (kI 1)))], [], SH, w) Q else EI X (d + 2) 249 (36, [some (.ref 110), some (.int v1), some (.int (v2 + (kI 1))), some (.int v3), some (.int v4), some (.int (v5 + (kI 1)))], [], SH, w) Q))))))))))) : EI X (d + 2) 249 (36, [some (.ref 110), some (.int v1), some (.int v2), some (.int v3), some (.int v4), some (.int v5)], [], SH, w) Q := by
  unfold EI
  refine EV.steps cl_249 2 (q2 := (40, [some (.ref 110), some (.int v1), some (.int v2), some (.int v3), some (.int v4), some (.int v5)], [.int v4, .int v5], SH, w)) rfl ?_
  refine EV.i_ge cl_249 rfl (fun h1 => ?_) (fun h1 => ?_)
  · skip
    rw [if_pos h1] at H
    refine EV.steps cl_249 2 (q2 := (18, [some (.ref 110), some (.int v1), some (.int v2), some (.int v3), some (.int (v4 + (kI 1))), some (.int v5)], [], SH, w)) rfl ?_
    exact EV.weak (l := [some (.ref 110), some (.int v1), some (.int v2), some (.int v3), some (.int (v4 + (kI 1))), none]) ⟨rfl, ⟨rfl, ⟨rfl, ⟨rfl, ⟨rfl, ⟨rfl, trivial⟩⟩⟩⟩⟩⟩ H
  · skip
    rw [if_neg h1] at H
    refine EV.steps cl_249 3 (q2 := (48, [some (.ref 110), some (.int v1), some (.int v2), some (.int v3), some (.int v4), some (.int v5)], [.int v5, .int v4, .ref 110], SH, w)) rfl ?_
    obtain ⟨j2, H⟩ := H
    obtain ⟨j3, H⟩ := H
    obtain ⟨j4, H⟩ := H
    obtain ⟨j5, H⟩ := H
    obtain ⟨j6, H⟩ := H
    obtain ⟨j7, H⟩ := H
    obtain ⟨j8, H⟩ := H
    obtain ⟨j9, H⟩ := H
    refine EV.callF (kc := 246) (av := [.ref 110, .int v4, .int v5]) (r := []) (rv := some (.int (F_246_110 v4 v5 w))) (w2 := w) cl_249 rfl rfl rfl (m_246_110 w v4 v5 j2 j3 j4 j5 j6 j7 j8 j9) ?_
    refine EV.z_eq cl_249 rfl (fun h10 => ?_) (fun h10 => ?_)
    · skip
      rw [if_pos h10] at H
      refine EV.steps cl_249 2 (q2 := (36, [some (.ref 110), some (.int v1), some (.int v2), some (.int v3), some (.int v4), some (.int (v5 + (kI 1)))], [], SH, w)) rfl ?_
      exact H
    · skip
      rw [if_neg h10] at H
      refine EV.steps cl_249 6 (q2 := (36, [some (.ref 110), some (.int v1), some (.int (v2 + (kI 1))), some (.int v3), some (.int v4), some (.int (v5 + (kI 1)))], [], SH, w)) rfl ?_
      exact H
theorem t249_110_at79 {X : Scr} {d : Nat} {Q : Int32 → Wd → Prop} (w : Wd) (v1 : Int32) (v2 : Int32) (v3 : Int32) (v4 : Int32)
    (H : (if (kI 20) ≤ v4 then Q v3 w else (inB v4 20 = true ∧ (if ((w 142 v4.toNatClampNeg) - (w 142 v4.toNatClampNeg) / (kI 2) * (kI 2)) = 0 then (if (F_161 (w 110 56) v4 w) = 0 then EI X (d + 2) 249 (79, [some (.ref 110), some (.int v1), some (.int v2), some (.int v3), some (.int (v4 + (kI 1))), none], [], SH, w) Q else CI X (d + 2) 247 [.ref 110, .int v4] w (fun x1 w1 => (if x1 = 0 then EI X (d + 2) 249 (79, [some (.ref 110), some (.int v1), some (.int v2), some (.int v3), some (.int (v4 + (kI 1))), none], [], SH, w1) Q else EI X (d + 2) 249 (79, [some (.ref 110), some (.int v1), some (.int v2), some (.int (v3 + (kI 1))), some (.int (v4 + (kI 1))), none], [], SH, w1) Q))) else EI X (d + 2) 249 (79, [some (.ref 110), some (.int v1), some (.int v2), some (.int v3), some (.int (v4 + (kI 1))), none], [], SH, w) Q)))) : EI X (d + 2) 249 (79, [some (.ref 110), some (.int v1), some (.int v2), some (.int v3), some (.int v4), none], [], SH, w) Q := by
  unfold EI
  refine EV.steps cl_249 2 (q2 := (83, [some (.ref 110), some (.int v1), some (.int v2), some (.int v3), some (.int v4), none], [.int (kI 20), .int v4], SH, w)) rfl ?_
  refine EV.i_ge cl_249 rfl (fun h1 => ?_) (fun h1 => ?_)
  · skip
    rw [if_pos h1] at H
    refine EV.steps cl_249 1 (q2 := (130, [some (.ref 110), some (.int v1), some (.int v2), some (.int v3), some (.int v4), none], [.int v3], SH, w)) rfl ?_
    refine EV.ret cl_249 rfl rfl rfl ?_
    exact ⟨_, rfl, rfl, H⟩
  · skip
    rw [if_neg h1] at H
    refine EV.steps cl_249 3 (q2 := (92, [some (.ref 110), some (.int v1), some (.int v2), some (.int v3), some (.int v4), none], [.int v4, .ref 142], SH, w)) rfl ?_
    obtain ⟨j2, H⟩ := H
    refine EV.iaload cl_249 rfl rfl (by decide) j2 ?_
    refine EV.steps cl_249 1 (q2 := (94, [some (.ref 110), some (.int v1), some (.int v2), some (.int v3), some (.int v4), none], [.int (kI 2), .int (w 142 v4.toNatClampNeg)], SH, w)) rfl ?_
    refine EV.irem cl_249 rfl (by decide) ?_
    refine EV.z_ne cl_249 rfl (fun h3 => ?_) (fun h3 => ?_)
    · skip
      rw [if_neg h3] at H
      refine EV.steps cl_249 2 (q2 := (79, [some (.ref 110), some (.int v1), some (.int v2), some (.int v3), some (.int (v4 + (kI 1))), none], [], SH, w)) rfl ?_
      exact H
    · skip
      rw [if_pos h3] at H
      refine EV.steps cl_249 3 (q2 := (104, [some (.ref 110), some (.int v1), some (.int v2), some (.int v3), some (.int v4), none], [.int v4, .int (w 110 56)], SH, w)) rfl ?_
      refine EV.callF (kc := 161) (av := [.int (w 110 56), .int v4]) (r := []) (rv := some (.int (F_161 (w 110 56) v4 w))) (w2 := w) cl_249 rfl rfl rfl (m_161 w (w 110 56) v4) ?_
      refine EV.z_eq cl_249 rfl (fun h4 => ?_) (fun h4 => ?_)
      · skip
        rw [if_pos h4] at H
        refine EV.steps cl_249 2 (q2 := (79, [some (.ref 110), some (.int v1), some (.int v2), some (.int v3), some (.int (v4 + (kI 1))), none], [], SH, w)) rfl ?_
        exact H
      · skip
        rw [if_neg h4] at H
        refine EV.steps cl_249 2 (q2 := (113, [some (.ref 110), some (.int v1), some (.int v2), some (.int v3), some (.int v4), none], [.int v4, .ref 110], SH, w)) rfl ?_
        refine EV.call (kc := 247) (av := [.ref 110, .int v4]) (r := []) cl_249 rfl rfl rfl H ?_
        clear H; intro y1 s1 w1 e1
        obtain ⟨x1, rfl, rfl, H⟩ := e1
        refine EV.z_eq cl_249 rfl (fun h5 => ?_) (fun h5 => ?_)
        · skip
          rw [if_pos h5] at H
          refine EV.steps cl_249 2 (q2 := (79, [some (.ref 110), some (.int v1), some (.int v2), some (.int v3), some (.int (v4 + (kI 1))), none], [], SH, w1)) rfl ?_
          exact H
        · skip
          rw [if_neg h5] at H
          refine EV.steps cl_249 6 (q2 := (79, [some (.ref 110), some (.int v1), some (.int v2), some (.int (v3 + (kI 1))), some (.int (v4 + (kI 1))), none], [], SH, w1)) rfl ?_
          exact H
theorem t250_110_at0 {X : Scr} {d : Nat} {Q : Wd → Prop} (w : Wd) (v1 : Int32)
    (H : EU X (d + 1) 250 (2, [some (.ref 110), some (.int v1), some (.int (kI 0)), none, none], [], SH, w) Q) : EU X (d + 1) 250 (0, [some (.ref 110), some (.int v1), none, none, none], [], SH, w) Q := by
  unfold EU
  refine EV.steps cl_250 2 (q2 := (2, [some (.ref 110), some (.int v1), some (.int (kI 0)), none, none], [], SH, w)) rfl ?_
  exact H
theorem t250_110_at2 {X : Scr} {d : Nat} {Q : Wd → Prop} (w : Wd) (v1 : Int32) (v2 : Int32)
    (H : (if (kI 12) ≤ v2 then EU X (d + 1) 250 (86, [some (.ref 110), some (.int v1), some (.int (kI 11)), none, none], [], SH, w) Q else (inB (((kI 36) + ((kI 12) * v1)) + v2) 162 = true ∧ EU X (d + 1) 250 (26, [some (.ref 110), some (.int v1), some (.int v2), some (.int (w 111 (((kI 36) + ((kI 12) * v1)) + v2).toNatClampNeg)), some (.int v2)], [], SH, w) Q))) : EU X (d + 1) 250 (2, [some (.ref 110), some (.int v1), some (.int v2), none, none], [], SH, w) Q := by
  unfold EU
  refine EV.steps cl_250 2 (q2 := (5, [some (.ref 110), some (.int v1), some (.int v2), none, none], [.int (kI 12), .int v2], SH, w)) rfl ?_
  refine EV.i_ge cl_250 rfl (fun h1 => ?_) (fun h1 => ?_)
  · skip
    rw [if_pos h1] at H
    refine EV.steps cl_250 2 (q2 := (86, [some (.ref 110), some (.int v1), some (.int (kI 11)), none, none], [], SH, w)) rfl ?_
    exact H
  · skip
    rw [if_neg h1] at H
    refine EV.steps cl_250 9 (q2 := (21, [some (.ref 110), some (.int v1), some (.int v2), none, none], [.int (((kI 36) + ((kI 12) * v1)) + v2), .ref 111], SH, w)) rfl ?_
    obtain ⟨j2, H⟩ := H
    refine EV.iaload cl_250 rfl rfl (by decide) j2 ?_
    refine EV.steps cl_250 3 (q2 := (26, [some (.ref 110), some (.int v1), some (.int v2), some (.int (w 111 (((kI 36) + ((kI 12) * v1)) + v2).toNatClampNeg)), some (.int v2)], [], SH, w)) rfl ?_
    exact H
theorem t250_110_at26 {X : Scr} {d : Nat} {Q : Wd → Prop} (w : Wd) (v1 : Int32) (v2 : Int32) (v3 : Int32) (v4 : Int32)
    (H : (if v4 ≤ 0 then (inB v4 12 = true ∧ EU X (d + 1) 250 (2, [some (.ref 110), some (.int v1), some (.int (v2 + (kI 1))), none, none], [], SH, (up2 w 150 v4.toNatClampNeg v3)) Q) else (inB (v4 - (kI 1)) 12 = true ∧ (if (w 150 (v4 - (kI 1)).toNatClampNeg) ≤ v3 then (inB v4 12 = true ∧ EU X (d + 1) 250 (2, [some (.ref 110), some (.int v1), some (.int (v2 + (kI 1))), none, none], [], SH, (up2 w 150 v4.toNatClampNeg v3)) Q) else (inB (v4 - (kI 1)) 12 = true ∧ (inB v4 12 = true ∧ EU X (d + 1) 250 (26, [some (.ref 110), some (.int v1), some (.int v2), some (.int v3), some (.int (v4 - (kI 1)))], [], SH, (up2 w 150 v4.toNatClampNeg (w 150 (v4 - (kI 1)).toNatClampNeg))) Q)))))) : EU X (d + 1) 250 (26, [some (.ref 110), some (.int v1), some (.int v2), some (.int v3), some (.int v4)], [], SH, w) Q := by
  unfold EU
  refine EV.steps cl_250 1 (q2 := (28, [some (.ref 110), some (.int v1), some (.int v2), some (.int v3), some (.int v4)], [.int v4], SH, w)) rfl ?_
  refine EV.z_le cl_250 rfl (fun h1 => ?_) (fun h1 => ?_)
  · skip
    rw [if_pos h1] at H
    refine EV.steps cl_250 4 (q2 := (76, [some (.ref 110), some (.int v1), some (.int v2), some (.int v3), some (.int v4)], [.int v3, .int v4, .ref 150], SH, w)) rfl ?_
    obtain ⟨j2, H⟩ := H
    refine EV.iastore cl_250 rfl rfl (by decide) j2 ?_
    refine EV.steps cl_250 2 (q2 := (2, [some (.ref 110), some (.int v1), some (.int (v2 + (kI 1))), some (.int v3), some (.int v4)], [], SH, (up2 w 150 v4.toNatClampNeg v3))) rfl ?_
    exact EV.weak (l := [some (.ref 110), some (.int v1), some (.int (v2 + (kI 1))), none, none]) ⟨rfl, ⟨rfl, ⟨rfl, ⟨rfl, ⟨rfl, trivial⟩⟩⟩⟩⟩ H
  · skip
    rw [if_neg h1] at H
    refine EV.steps cl_250 5 (q2 := (39, [some (.ref 110), some (.int v1), some (.int v2), some (.int v3), some (.int v4)], [.int (v4 - (kI 1)), .ref 150], SH, w)) rfl ?_
    obtain ⟨j3, H⟩ := H
    refine EV.iaload cl_250 rfl rfl (by decide) j3 ?_
    refine EV.steps cl_250 1 (q2 := (41, [some (.ref 110), some (.int v1), some (.int v2), some (.int v3), some (.int v4)], [.int v3, .int (w 150 (v4 - (kI 1)).toNatClampNeg)], SH, w)) rfl ?_
    refine EV.i_le cl_250 rfl (fun h4 => ?_) (fun h4 => ?_)
    · skip
      rw [if_pos h4] at H
      refine EV.steps cl_250 4 (q2 := (76, [some (.ref 110), some (.int v1), some (.int v2), some (.int v3), some (.int v4)], [.int v3, .int v4, .ref 150], SH, w)) rfl ?_
      obtain ⟨j5, H⟩ := H
      refine EV.iastore cl_250 rfl rfl (by decide) j5 ?_
      refine EV.steps cl_250 2 (q2 := (2, [some (.ref 110), some (.int v1), some (.int (v2 + (kI 1))), some (.int v3), some (.int v4)], [], SH, (up2 w 150 v4.toNatClampNeg v3))) rfl ?_
      exact EV.weak (l := [some (.ref 110), some (.int v1), some (.int (v2 + (kI 1))), none, none]) ⟨rfl, ⟨rfl, ⟨rfl, ⟨rfl, ⟨rfl, trivial⟩⟩⟩⟩⟩ H
    · skip
      rw [if_neg h4] at H
      refine EV.steps cl_250 8 (q2 := (58, [some (.ref 110), some (.int v1), some (.int v2), some (.int v3), some (.int v4)], [.int (v4 - (kI 1)), .ref 150, .int v4, .ref 150], SH, w)) rfl ?_
      obtain ⟨j6, H⟩ := H
      refine EV.iaload cl_250 rfl rfl (by decide) j6 ?_
      obtain ⟨j7, H⟩ := H
      refine EV.iastore cl_250 rfl rfl (by decide) j7 ?_
      refine EV.steps cl_250 5 (q2 := (26, [some (.ref 110), some (.int v1), some (.int v2), some (.int v3), some (.int (v4 - (kI 1)))], [], SH, (up2 w 150 v4.toNatClampNeg (w 150 (v4 - (kI 1)).toNatClampNeg)))) rfl ?_
      exact H
theorem t250_110_at86 {X : Scr} {d : Nat} {Q : Wd → Prop} (w : Wd) (v1 : Int32) (v2 : Int32)
    (H : (if v2 < 0 then Q w else EU X (d + 1) 250 (98, [some (.ref 110), some (.int v1), some (.int v2), some (.int (kI 100000000)), some (.int (kI 11))], [], SH, w) Q)) : EU X (d + 1) 250 (86, [some (.ref 110), some (.int v1), some (.int v2), none, none], [], SH, w) Q := by
  unfold EU
  refine EV.steps cl_250 1 (q2 := (87, [some (.ref 110), some (.int v1), some (.int v2), none, none], [.int v2], SH, w)) rfl ?_
  refine EV.z_lt cl_250 rfl (fun h1 => ?_) (fun h1 => ?_)
  · skip
    rw [if_pos h1] at H
    refine EV.ret cl_250 rfl rfl rfl ?_
    exact ⟨rfl, rfl, H⟩
  · skip
    rw [if_neg h1] at H
    refine EV.steps cl_250 4 (q2 := (98, [some (.ref 110), some (.int v1), some (.int v2), some (.int (kI 100000000)), some (.int (kI 11))], [], SH, w)) rfl ?_
    exact H
theorem t250_110_at98 {X : Scr} {d : Nat} {Q : Wd → Prop} (w : Wd) (v1 : Int32) (v2 : Int32) (v3 : Int32) (v4 : Int32)
    (H : (if v4 < 0 then EU X (d + 1) 250 (86, [some (.ref 110), some (.int v1), some (.int (v2 + (kI (-1)))), none, none], [], SH, w) Q else (if v2 = (kI 11) then (inB (((kI 36) + ((kI 12) * v1)) + v2) 162 = true ∧ (inB v4 12 = true ∧ (inB (((kI 12) * v2) + v4) 144 = true ∧ EU X (d + 1) 250 (98, [some (.ref 110), some (.int v1), some (.int v2), some (.int (kI 0)), some (.int (v4 + (kI (-1))))], [], SH, (up2 w 151 (((kI 12) * v2) + v4).toNatClampNeg ((F_160 ((w 111 (((kI 36) + ((kI 12) * v1)) + v2).toNatClampNeg) - (w 150 v4.toNatClampNeg)) w) + (kI 0)))) Q))) else (inB (((kI 12) * (v2 + (kI 1))) + v4) 144 = true ∧ (inB (((kI 36) + ((kI 12) * v1)) + v2) 162 = true ∧ (inB v4 12 = true ∧ (inB (((kI 12) * v2) + v4) 144 = true ∧ EU X (d + 1) 250 (98, [some (.ref 110), some (.int v1), some (.int v2), some (.int (F_158 v3 (w 151 (((kI 12) * (v2 + (kI 1))) + v4).toNatClampNeg) w)), some (.int (v4 + (kI (-1))))], [], SH, (up2 w 151 (((kI 12) * v2) + v4).toNatClampNeg ((F_160 ((w 111 (((kI 36) + ((kI 12) * v1)) + v2).toNatClampNeg) - (w 150 v4.toNatClampNeg)) w) + (F_158 v3 (w 151 (((kI 12) * (v2 + (kI 1))) + v4).toNatClampNeg) w)))) Q))))))) : EU X (d + 1) 250 (98, [some (.ref 110), some (.int v1), some (.int v2), some (.int v3), some (.int v4)], [], SH, w) Q := by
  unfold EU
  refine EV.steps cl_250 1 (q2 := (100, [some (.ref 110), some (.int v1), some (.int v2), some (.int v3), some (.int v4)], [.int v4], SH, w)) rfl ?_
  refine EV.z_lt cl_250 rfl (fun h1 => ?_) (fun h1 => ?_)
  · skip
    rw [if_pos h1] at H
    refine EV.steps cl_250 2 (q2 := (86, [some (.ref 110), some (.int v1), some (.int (v2 + (kI (-1)))), some (.int v3), some (.int v4)], [], SH, w)) rfl ?_
    exact EV.weak (l := [some (.ref 110), some (.int v1), some (.int (v2 + (kI (-1)))), none, none]) ⟨rfl, ⟨rfl, ⟨rfl, ⟨rfl, ⟨rfl, trivial⟩⟩⟩⟩⟩ H
  · skip
    rw [if_neg h1] at H
    refine EV.steps cl_250 2 (q2 := (106, [some (.ref 110), some (.int v1), some (.int v2), some (.int v3), some (.int v4)], [.int (kI 11), .int v2], SH, w)) rfl ?_
    refine EV.i_ne cl_250 rfl (fun h2 => ?_) (fun h2 => ?_)
    · skip
      rw [if_neg h2] at H
      refine EV.steps cl_250 10 (q2 := (127, [some (.ref 110), some (.int v1), some (.int v2), some (.int v3), some (.int v4)], [.int (((kI 12) * (v2 + (kI 1))) + v4), .ref 151, .int v3], SH, w)) rfl ?_
      obtain ⟨j3, H⟩ := H
      refine EV.iaload cl_250 rfl rfl (by decide) j3 ?_
      refine EV.callF (kc := 158) (av := [.int v3, .int (w 151 (((kI 12) * (v2 + (kI 1))) + v4).toNatClampNeg)]) (r := []) (rv := some (.int (F_158 v3 (w 151 (((kI 12) * (v2 + (kI 1))) + v4).toNatClampNeg) w))) (w2 := w) cl_250 rfl rfl rfl (m_158 w v3 (w 151 (((kI 12) * (v2 + (kI 1))) + v4).toNatClampNeg)) ?_
      refine EV.steps cl_250 17 (q2 := (156, [some (.ref 110), some (.int v1), some (.int v2), some (.int (F_158 v3 (w 151 (((kI 12) * (v2 + (kI 1))) + v4).toNatClampNeg) w)), some (.int v4)], [.int (((kI 36) + ((kI 12) * v1)) + v2), .ref 111, .int (((kI 12) * v2) + v4), .ref 151], SH, w)) rfl ?_
      obtain ⟨j4, H⟩ := H
      refine EV.iaload cl_250 rfl rfl (by decide) j4 ?_
      refine EV.steps cl_250 3 (q2 := (163, [some (.ref 110), some (.int v1), some (.int v2), some (.int (F_158 v3 (w 151 (((kI 12) * (v2 + (kI 1))) + v4).toNatClampNeg) w)), some (.int v4)], [.int v4, .ref 150, .int (w 111 (((kI 36) + ((kI 12) * v1)) + v2).toNatClampNeg), .int (((kI 12) * v2) + v4), .ref 151], SH, w)) rfl ?_
      obtain ⟨j5, H⟩ := H
      refine EV.iaload cl_250 rfl rfl (by decide) j5 ?_
      refine EV.steps cl_250 1 (q2 := (165, [some (.ref 110), some (.int v1), some (.int v2), some (.int (F_158 v3 (w 151 (((kI 12) * (v2 + (kI 1))) + v4).toNatClampNeg) w)), some (.int v4)], [.int ((w 111 (((kI 36) + ((kI 12) * v1)) + v2).toNatClampNeg) - (w 150 v4.toNatClampNeg)), .int (((kI 12) * v2) + v4), .ref 151], SH, w)) rfl ?_
      refine EV.callF (kc := 160) (av := [.int ((w 111 (((kI 36) + ((kI 12) * v1)) + v2).toNatClampNeg) - (w 150 v4.toNatClampNeg))]) (r := [.int (((kI 12) * v2) + v4), .ref 151]) (rv := some (.int (F_160 ((w 111 (((kI 36) + ((kI 12) * v1)) + v2).toNatClampNeg) - (w 150 v4.toNatClampNeg)) w))) (w2 := w) cl_250 rfl rfl rfl (m_160 w ((w 111 (((kI 36) + ((kI 12) * v1)) + v2).toNatClampNeg) - (w 150 v4.toNatClampNeg))) ?_
      refine EV.steps cl_250 2 (q2 := (170, [some (.ref 110), some (.int v1), some (.int v2), some (.int (F_158 v3 (w 151 (((kI 12) * (v2 + (kI 1))) + v4).toNatClampNeg) w)), some (.int v4)], [.int ((F_160 ((w 111 (((kI 36) + ((kI 12) * v1)) + v2).toNatClampNeg) - (w 150 v4.toNatClampNeg)) w) + (F_158 v3 (w 151 (((kI 12) * (v2 + (kI 1))) + v4).toNatClampNeg) w)), .int (((kI 12) * v2) + v4), .ref 151], SH, w)) rfl ?_
      obtain ⟨j6, H⟩ := H
      refine EV.iastore cl_250 rfl rfl (by decide) j6 ?_
      refine EV.steps cl_250 2 (q2 := (98, [some (.ref 110), some (.int v1), some (.int v2), some (.int (F_158 v3 (w 151 (((kI 12) * (v2 + (kI 1))) + v4).toNatClampNeg) w)), some (.int (v4 + (kI (-1))))], [], SH, (up2 w 151 (((kI 12) * v2) + v4).toNatClampNeg ((F_160 ((w 111 (((kI 36) + ((kI 12) * v1)) + v2).toNatClampNeg) - (w 150 v4.toNatClampNeg)) w) + (F_158 v3 (w 151 (((kI 12) * (v2 + (kI 1))) + v4).toNatClampNeg) w))))) rfl ?_
      exact H
    · skip
      rw [if_pos h2] at H
      refine EV.steps cl_250 19 (q2 := (156, [some (.ref 110), some (.int v1), some (.int v2), some (.int (kI 0)), some (.int v4)], [.int (((kI 36) + ((kI 12) * v1)) + v2), .ref 111, .int (((kI 12) * v2) + v4), .ref 151], SH, w)) rfl ?_
      obtain ⟨j7, H⟩ := H
      refine EV.iaload cl_250 rfl rfl (by decide) j7 ?_
      refine EV.steps cl_250 3 (q2 := (163, [some (.ref 110), some (.int v1), some (.int v2), some (.int (kI 0)), some (.int v4)], [.int v4, .ref 150, .int (w 111 (((kI 36) + ((kI 12) * v1)) + v2).toNatClampNeg), .int (((kI 12) * v2) + v4), .ref 151], SH, w)) rfl ?_
      obtain ⟨j8, H⟩ := H
      refine EV.iaload cl_250 rfl rfl (by decide) j8 ?_
      refine EV.steps cl_250 1 (q2 := (165, [some (.ref 110), some (.int v1), some (.int v2), some (.int (kI 0)), some (.int v4)], [.int ((w 111 (((kI 36) + ((kI 12) * v1)) + v2).toNatClampNeg) - (w 150 v4.toNatClampNeg)), .int (((kI 12) * v2) + v4), .ref 151], SH, w)) rfl ?_
      refine EV.callF (kc := 160) (av := [.int ((w 111 (((kI 36) + ((kI 12) * v1)) + v2).toNatClampNeg) - (w 150 v4.toNatClampNeg))]) (r := [.int (((kI 12) * v2) + v4), .ref 151]) (rv := some (.int (F_160 ((w 111 (((kI 36) + ((kI 12) * v1)) + v2).toNatClampNeg) - (w 150 v4.toNatClampNeg)) w))) (w2 := w) cl_250 rfl rfl rfl (m_160 w ((w 111 (((kI 36) + ((kI 12) * v1)) + v2).toNatClampNeg) - (w 150 v4.toNatClampNeg))) ?_
      refine EV.steps cl_250 2 (q2 := (170, [some (.ref 110), some (.int v1), some (.int v2), some (.int (kI 0)), some (.int v4)], [.int ((F_160 ((w 111 (((kI 36) + ((kI 12) * v1)) + v2).toNatClampNeg) - (w 150 v4.toNatClampNeg)) w) + (kI 0)), .int (((kI 12) * v2) + v4), .ref 151], SH, w)) rfl ?_
      obtain ⟨j9, H⟩ := H
      refine EV.iastore cl_250 rfl rfl (by decide) j9 ?_
      refine EV.steps cl_250 2 (q2 := (98, [some (.ref 110), some (.int v1), some (.int v2), some (.int (kI 0)), some (.int (v4 + (kI (-1))))], [], SH, (up2 w 151 (((kI 12) * v2) + v4).toNatClampNeg ((F_160 ((w 111 (((kI 36) + ((kI 12) * v1)) + v2).toNatClampNeg) - (w 150 v4.toNatClampNeg)) w) + (kI 0))))) rfl ?_
      exact H
theorem t251_110_at0 {X : Scr} {d : Nat} {Q : Int32 → Wd → Prop} (w : Wd) (v1 : Int32) (v2 : Int32)
    (H : (if (F_165_110 v1 w) = 0 then Q (kI (-1)) w else (if v2 = (kI 100) then CU X (d + 2) 250 [.ref 110, .int v1] w (fun w1 => EI X (d + 2) 251 (36, [some (.ref 110), some (.int v1), some (.int v2), some (.int (kI 0)), some (.int (kI 0)), none, none], [], SH, w1) Q) else (if (F_157 v2 (kI 0) (kI 11) w) = 0 then Q (kI (-1)) w else CU X (d + 2) 250 [.ref 110, .int v1] w (fun w2 => EI X (d + 2) 251 (36, [some (.ref 110), some (.int v1), some (.int v2), some (.int (kI 0)), some (.int (kI 0)), none, none], [], SH, w2) Q))))) : EI X (d + 2) 251 (0, [some (.ref 110), some (.int v1), some (.int v2), none, none, none, none], [], SH, w) Q := by
  unfold EI
  refine EV.steps cl_251 2 (q2 := (2, [some (.ref 110), some (.int v1), some (.int v2), none, none, none, none], [.int v1, .ref 110], SH, w)) rfl ?_
  refine EV.callF (kc := 165) (av := [.ref 110, .int v1]) (r := []) (rv := some (.int (F_165_110 v1 w))) (w2 := w) cl_251 rfl rfl rfl (m_165_110 w v1) ?_
  refine EV.z_eq cl_251 rfl (fun h1 => ?_) (fun h1 => ?_)
  · skip
    rw [if_pos h1] at H
    refine EV.steps cl_251 1 (q2 := (25, [some (.ref 110), some (.int v1), some (.int v2), none, none, none, none], [.int (kI (-1))], SH, w)) rfl ?_
    refine EV.ret cl_251 rfl rfl rfl ?_
    exact ⟨_, rfl, rfl, H⟩
  · skip
    rw [if_neg h1] at H
    refine EV.steps cl_251 2 (q2 := (11, [some (.ref 110), some (.int v1), some (.int v2), none, none, none, none], [.int (kI 100), .int v2], SH, w)) rfl ?_
    refine EV.i_eq cl_251 rfl (fun h2 => ?_) (fun h2 => ?_)
    · skip
      rw [if_pos h2] at H
      refine EV.steps cl_251 2 (q2 := (28, [some (.ref 110), some (.int v1), some (.int v2), none, none, none, none], [.int v1, .ref 110], SH, w)) rfl ?_
      refine EV.call (kc := 250) (av := [.ref 110, .int v1]) (r := []) cl_251 rfl rfl rfl H ?_
      clear H; intro y1 s1 w1 e1
      obtain ⟨rfl, rfl, H⟩ := e1
      refine EV.steps cl_251 4 (q2 := (36, [some (.ref 110), some (.int v1), some (.int v2), some (.int (kI 0)), some (.int (kI 0)), none, none], [], SH, w1)) rfl ?_
      exact H
    · skip
      rw [if_neg h2] at H
      refine EV.steps cl_251 3 (q2 := (18, [some (.ref 110), some (.int v1), some (.int v2), none, none, none, none], [.int (kI 11), .int (kI 0), .int v2], SH, w)) rfl ?_
      refine EV.callF (kc := 157) (av := [.int v2, .int (kI 0), .int (kI 11)]) (r := []) (rv := some (.int (F_157 v2 (kI 0) (kI 11) w))) (w2 := w) cl_251 rfl rfl rfl (m_157 w v2 (kI 0) (kI 11)) ?_
      refine EV.z_ne cl_251 rfl (fun h3 => ?_) (fun h3 => ?_)
      · skip
        rw [if_neg h3] at H
        refine EV.steps cl_251 2 (q2 := (28, [some (.ref 110), some (.int v1), some (.int v2), none, none, none, none], [.int v1, .ref 110], SH, w)) rfl ?_
        refine EV.call (kc := 250) (av := [.ref 110, .int v1]) (r := []) cl_251 rfl rfl rfl H ?_
        clear H; intro y2 s2 w2 e2
        obtain ⟨rfl, rfl, H⟩ := e2
        refine EV.steps cl_251 4 (q2 := (36, [some (.ref 110), some (.int v1), some (.int v2), some (.int (kI 0)), some (.int (kI 0)), none, none], [], SH, w2)) rfl ?_
        exact H
      · skip
        rw [if_pos h3] at H
        refine EV.steps cl_251 1 (q2 := (25, [some (.ref 110), some (.int v1), some (.int v2), none, none, none, none], [.int (kI (-1))], SH, w)) rfl ?_
        refine EV.ret cl_251 rfl rfl rfl ?_
        exact ⟨_, rfl, rfl, H⟩
theorem t251_110_at36 {X : Scr} {d : Nat} {Q : Int32 → Wd → Prop} (w : Wd) (v1 : Int32) (v2 : Int32) (v3 : Int32) (v4 : Int32)
    (H : (if (kI 12) ≤ v4 then Q (kI (-1)) w else EI X (d + 2) 251 (51, [some (.ref 110), some (.int v1), some (.int v2), some (.int v3), some (.int v4), some (.int v3), some (.int (v3 + (kI 1)))], [], SH, w) Q)) : EI X (d + 2) 251 (36, [some (.ref 110), some (.int v1), some (.int v2), some (.int v3), some (.int v4), none, none], [], SH, w) Q := by
  unfold EI
  refine EV.steps cl_251 2 (q2 := (40, [some (.ref 110), some (.int v1), some (.int v2), some (.int v3), some (.int v4), none, none], [.int (kI 12), .int v4], SH, w)) rfl ?_
  refine EV.i_ge cl_251 rfl (fun h1 => ?_) (fun h1 => ?_)
  · skip
    rw [if_pos h1] at H
    refine EV.steps cl_251 1 (q2 := (133, [some (.ref 110), some (.int v1), some (.int v2), some (.int v3), some (.int v4), none, none], [.int (kI (-1))], SH, w)) rfl ?_
    refine EV.ret cl_251 rfl rfl rfl ?_
    exact ⟨_, rfl, rfl, H⟩
  · skip
    rw [if_neg h1] at H
    refine EV.steps cl_251 6 (q2 := (51, [some (.ref 110), some (.int v1), some (.int v2), some (.int v3), some (.int v4), some (.int v3), some (.int (v3 + (kI 1)))], [], SH, w)) rfl ?_
    exact H
theorem t251_110_at51 {X : Scr} {d : Nat} {Q : Int32 → Wd → Prop} (w : Wd) (v1 : Int32) (v2 : Int32) (v3 : Int32) (v4 : Int32) (v5 : Int32) (v6 : Int32)
    (H : (if (kI 12) ≤ v6 then (if v2 = (kI 100) then (inB v5 144 = true ∧ Q (w 151 v5.toNatClampNeg) w) else (if v2 = v4 then (inB v5 12 = true ∧ Q (w 150 v5.toNatClampNeg) w) else EI X (d + 2) 251 (36, [some (.ref 110), some (.int v1), some (.int v2), some (.int v5), some (.int (v4 + (kI 1))), none, none], [], SH, w) Q)) else (inB (((kI 12) * v4) + v6) 144 = true ∧ (inB (((kI 12) * v4) + v5) 144 = true ∧ (if (w 151 (((kI 12) * v4) + v5).toNatClampNeg) ≤ (w 151 (((kI 12) * v4) + v6).toNatClampNeg) then EI X (d + 2) 251 (51, [some (.ref 110), some (.int v1), some (.int v2), some (.int v3), some (.int v4), some (.int v5), some (.int (v6 + (kI 1)))], [], SH, w) Q else EI X (d + 2) 251 (51, [some (.ref 110), some (.int v1), some (.int v2), some (.int v3), some (.int v4), some (.int v6), some (.int (v6 + (kI 1)))], [], SH, w) Q))))) : EI X (d + 2) 251 (51, [some (.ref 110), some (.int v1), some (.int v2), some (.int v3), some (.int v4), some (.int v5), some (.int v6)], [], SH, w) Q := by
  unfold EI
  refine EV.steps cl_251 2 (q2 := (55, [some (.ref 110), some (.int v1), some (.int v2), some (.int v3), some (.int v4), some (.int v5), some (.int v6)], [.int (kI 12), .int v6], SH, w)) rfl ?_
  refine EV.i_ge cl_251 rfl (fun h1 => ?_) (fun h1 => ?_)
  · skip
    rw [if_pos h1] at H
    refine EV.steps cl_251 4 (q2 := (103, [some (.ref 110), some (.int v1), some (.int v2), some (.int v5), some (.int v4), some (.int v5), some (.int v6)], [.int (kI 100), .int v2], SH, w)) rfl ?_
    refine EV.i_ne cl_251 rfl (fun h2 => ?_) (fun h2 => ?_)
    · skip
      rw [if_neg h2] at H
      refine EV.steps cl_251 2 (q2 := (116, [some (.ref 110), some (.int v1), some (.int v2), some (.int v5), some (.int v4), some (.int v5), some (.int v6)], [.int v4, .int v2], SH, w)) rfl ?_
      refine EV.i_ne cl_251 rfl (fun h3 => ?_) (fun h3 => ?_)
      · skip
        rw [if_neg h3] at H
        refine EV.steps cl_251 2 (q2 := (36, [some (.ref 110), some (.int v1), some (.int v2), some (.int v5), some (.int (v4 + (kI 1))), some (.int v5), some (.int v6)], [], SH, w)) rfl ?_
        exact EV.weak (l := [some (.ref 110), some (.int v1), some (.int v2), some (.int v5), some (.int (v4 + (kI 1))), none, none]) ⟨rfl, ⟨rfl, ⟨rfl, ⟨rfl, ⟨rfl, ⟨rfl, ⟨rfl, trivial⟩⟩⟩⟩⟩⟩⟩ H
      · skip
        rw [if_pos h3] at H
        refine EV.steps cl_251 3 (q2 := (124, [some (.ref 110), some (.int v1), some (.int v2), some (.int v5), some (.int v4), some (.int v5), some (.int v6)], [.int v5, .ref 150], SH, w)) rfl ?_
        obtain ⟨j4, H⟩ := H
        refine EV.iaload cl_251 rfl rfl (by decide) j4 ?_
        refine EV.ret cl_251 rfl rfl rfl ?_
        exact ⟨_, rfl, rfl, H⟩
    · skip
      rw [if_pos h2] at H
      refine EV.steps cl_251 3 (q2 := (111, [some (.ref 110), some (.int v1), some (.int v2), some (.int v5), some (.int v4), some (.int v5), some (.int v6)], [.int v5, .ref 151], SH, w)) rfl ?_
      obtain ⟨j5, H⟩ := H
      refine EV.iaload cl_251 rfl rfl (by decide) j5 ?_
      refine EV.ret cl_251 rfl rfl rfl ?_
      exact ⟨_, rfl, rfl, H⟩
  · skip
    rw [if_neg h1] at H
    refine EV.steps cl_251 7 (q2 := (70, [some (.ref 110), some (.int v1), some (.int v2), some (.int v3), some (.int v4), some (.int v5), some (.int v6)], [.int (((kI 12) * v4) + v6), .ref 151], SH, w)) rfl ?_
    obtain ⟨j6, H⟩ := H
    refine EV.iaload cl_251 rfl rfl (by decide) j6 ?_
    refine EV.steps cl_251 7 (q2 := (83, [some (.ref 110), some (.int v1), some (.int v2), some (.int v3), some (.int v4), some (.int v5), some (.int v6)], [.int (((kI 12) * v4) + v5), .ref 151, .int (w 151 (((kI 12) * v4) + v6).toNatClampNeg)], SH, w)) rfl ?_
    obtain ⟨j7, H⟩ := H
    refine EV.iaload cl_251 rfl rfl (by decide) j7 ?_
    refine EV.i_ge cl_251 rfl (fun h8 => ?_) (fun h8 => ?_)
    · skip
      rw [if_pos h8] at H
      refine EV.steps cl_251 2 (q2 := (51, [some (.ref 110), some (.int v1), some (.int v2), some (.int v3), some (.int v4), some (.int v5), some (.int (v6 + (kI 1)))], [], SH, w)) rfl ?_
      exact H
    · skip
      rw [if_neg h8] at H
      refine EV.steps cl_251 4 (q2 := (51, [some (.ref 110), some (.int v1), some (.int v2), some (.int v3), some (.int v4), some (.int v6), some (.int (v6 + (kI 1)))], [], SH, w)) rfl ?_
      exact H
theorem t252_110_at0 {X : Scr} {d : Nat} {Q : Int64 → Wd → Prop} (w : Wd) (v1 : Int32) (v2 : Int32) (v3 : Int32)
    (H : (if (F_157 v1 (kI 1) (kI 12) w) = 0 then Q (-1) w else (if (F_157 v2 (kI 1) (kI 60) w) = 0 then Q (-1) w else (if (F_157 v3 (kI 1) (kI 20) w) = 0 then Q (-1) w else (if v1 ≤ (v2 - ((v1 - (kI 1)) * (v3 - (kI 1)))) then EL X (d + 1) 252 (59, [some (.ref 110), some (.int v1), some (.int v2), some (.int v3), some (.int (v2 - ((v1 - (kI 1)) * (v3 - (kI 1))))), some (.long (Int64.ofNat 1)), none, some (.int (kI 1))], [], SH, w) Q else Q (Int64.ofNat 0) w))))) : EL X (d + 1) 252 (0, [some (.ref 110), some (.int v1), some (.int v2), some (.int v3), none, none, none, none], [], SH, w) Q := by
  unfold EL
  refine EV.steps cl_252 3 (q2 := (4, [some (.ref 110), some (.int v1), some (.int v2), some (.int v3), none, none, none, none], [.int (kI 12), .int (kI 1), .int v1], SH, w)) rfl ?_
  refine EV.callF (kc := 157) (av := [.int v1, .int (kI 1), .int (kI 12)]) (r := []) (rv := some (.int (F_157 v1 (kI 1) (kI 12) w))) (w2 := w) cl_252 rfl rfl rfl (m_157 w v1 (kI 1) (kI 12)) ?_
  refine EV.z_eq cl_252 rfl (fun h1 => ?_) (fun h1 => ?_)
  · skip
    rw [if_pos h1] at H
    refine EV.steps cl_252 1 (q2 := (33, [some (.ref 110), some (.int v1), some (.int v2), some (.int v3), none, none, none, none], [.long (-1)], SH, w)) rfl ?_
    refine EV.ret cl_252 rfl rfl rfl ?_
    exact ⟨_, rfl, rfl, H⟩
  · skip
    rw [if_neg h1] at H
    refine EV.steps cl_252 3 (q2 := (14, [some (.ref 110), some (.int v1), some (.int v2), some (.int v3), none, none, none, none], [.int (kI 60), .int (kI 1), .int v2], SH, w)) rfl ?_
    refine EV.callF (kc := 157) (av := [.int v2, .int (kI 1), .int (kI 60)]) (r := []) (rv := some (.int (F_157 v2 (kI 1) (kI 60) w))) (w2 := w) cl_252 rfl rfl rfl (m_157 w v2 (kI 1) (kI 60)) ?_
    refine EV.z_eq cl_252 rfl (fun h2 => ?_) (fun h2 => ?_)
    · skip
      rw [if_pos h2] at H
      refine EV.steps cl_252 1 (q2 := (33, [some (.ref 110), some (.int v1), some (.int v2), some (.int v3), none, none, none, none], [.long (-1)], SH, w)) rfl ?_
      refine EV.ret cl_252 rfl rfl rfl ?_
      exact ⟨_, rfl, rfl, H⟩
    · skip
      rw [if_neg h2] at H
      refine EV.steps cl_252 3 (q2 := (24, [some (.ref 110), some (.int v1), some (.int v2), some (.int v3), none, none, none, none], [.int (kI 20), .int (kI 1), .int v3], SH, w)) rfl ?_
      refine EV.callF (kc := 157) (av := [.int v3, .int (kI 1), .int (kI 20)]) (r := []) (rv := some (.int (F_157 v3 (kI 1) (kI 20) w))) (w2 := w) cl_252 rfl rfl rfl (m_157 w v3 (kI 1) (kI 20)) ?_
      refine EV.z_ne cl_252 rfl (fun h3 => ?_) (fun h3 => ?_)
      · skip
        rw [if_neg h3] at H
        refine EV.steps cl_252 12 (q2 := (48, [some (.ref 110), some (.int v1), some (.int v2), some (.int v3), some (.int (v2 - ((v1 - (kI 1)) * (v3 - (kI 1))))), none, none, none], [.int v1, .int (v2 - ((v1 - (kI 1)) * (v3 - (kI 1))))], SH, w)) rfl ?_
        refine EV.i_ge cl_252 rfl (fun h4 => ?_) (fun h4 => ?_)
        · skip
          rw [if_pos h4] at H
          refine EV.steps cl_252 4 (q2 := (59, [some (.ref 110), some (.int v1), some (.int v2), some (.int v3), some (.int (v2 - ((v1 - (kI 1)) * (v3 - (kI 1))))), some (.long (Int64.ofNat 1)), none, some (.int (kI 1))], [], SH, w)) rfl ?_
          exact H
        · skip
          rw [if_neg h4] at H
          refine EV.steps cl_252 1 (q2 := (52, [some (.ref 110), some (.int v1), some (.int v2), some (.int v3), some (.int (v2 - ((v1 - (kI 1)) * (v3 - (kI 1))))), none, none, none], [.long (Int64.ofNat 0)], SH, w)) rfl ?_
          refine EV.ret cl_252 rfl rfl rfl ?_
          exact ⟨_, rfl, rfl, H⟩
      · skip
        rw [if_pos h3] at H
        refine EV.steps cl_252 1 (q2 := (33, [some (.ref 110), some (.int v1), some (.int v2), some (.int v3), none, none, none, none], [.long (-1)], SH, w)) rfl ?_
        refine EV.ret cl_252 rfl rfl rfl ?_
        exact ⟨_, rfl, rfl, H⟩
theorem t252_110_at59 {X : Scr} {d : Nat} {Q : Int64 → Wd → Prop} (w : Wd) (v1 : Int32) (v2 : Int32) (v3 : Int32) (v4 : Int32) (l5 : Int64) (v7 : Int32)
    (H : (if v1 < v7 then Q l5 w else (¬ v7.toInt64 = 0 ∧ EL X (d + 1) 252 (59, [some (.ref 110), some (.int v1), some (.int v2), some (.int v3), some (.int v4), some (.long ((l5 * ((v4 - v1) + v7).toInt64) / v7.toInt64)), none, some (.int (v7 + (kI 1)))], [], SH, w) Q))) : EL X (d + 1) 252 (59, [some (.ref 110), some (.int v1), some (.int v2), some (.int v3), some (.int v4), some (.long l5), none, some (.int v7)], [], SH, w) Q := by
  unfold EL
  refine EV.steps cl_252 2 (q2 := (62, [some (.ref 110), some (.int v1), some (.int v2), some (.int v3), some (.int v4), some (.long l5), none, some (.int v7)], [.int v1, .int v7], SH, w)) rfl ?_
  refine EV.i_gt cl_252 rfl (fun h1 => ?_) (fun h1 => ?_)
  · skip
    rw [if_pos h1] at H
    refine EV.steps cl_252 1 (q2 := (90, [some (.ref 110), some (.int v1), some (.int v2), some (.int v3), some (.int v4), some (.long l5), none, some (.int v7)], [.long l5], SH, w)) rfl ?_
    refine EV.ret cl_252 rfl rfl rfl ?_
    exact ⟨_, rfl, rfl, H⟩
  · skip
    rw [if_neg h1] at H
    refine EV.steps cl_252 10 (q2 := (79, [some (.ref 110), some (.int v1), some (.int v2), some (.int v3), some (.int v4), some (.long l5), none, some (.int v7)], [.long v7.toInt64, .long (l5 * ((v4 - v1) + v7).toInt64)], SH, w)) rfl ?_
    obtain ⟨j2, H⟩ := H
    refine EV.ldiv cl_252 rfl j2 ?_
    refine EV.steps cl_252 3 (q2 := (59, [some (.ref 110), some (.int v1), some (.int v2), some (.int v3), some (.int v4), some (.long ((l5 * ((v4 - v1) + v7).toInt64) / v7.toInt64)), none, some (.int (v7 + (kI 1)))], [], SH, w)) rfl ?_
    exact H
theorem t254_110_at0 {X : Scr} {d : Nat} {Q : Int32 → Wd → Prop} (w : Wd) 
    (H : CU X (d + 1) 163 [.ref 111, .ref 113] (up2 w 110 64 (kI 1)) (fun w1 => Q (w1 111 (kI 158).toNatClampNeg) w1)) : EI X (d + 1) 254 (0, [some (.ref 110)], [], SH, w) Q := by
  unfold EI
  refine EV.steps cl_254 7 (q2 := (13, [some (.ref 110)], [.ref 113, .ref 111], SH, (up2 w 110 64 (kI 1)))) rfl ?_
  refine EV.call (kc := 163) (av := [.ref 111, .ref 113]) (r := []) cl_254 rfl rfl rfl H ?_
  clear H; intro y1 s1 w1 e1
  obtain ⟨rfl, rfl, H⟩ := e1
  refine EV.steps cl_254 3 (q2 := (23, [some (.ref 110)], [.int (kI 158), .ref 111], SH, w1)) rfl ?_
  refine EV.iaload cl_254 rfl rfl (by decide) rfl ?_
  refine EV.ret cl_254 rfl rfl rfl ?_
  exact ⟨_, rfl, rfl, H⟩
theorem t255_110_at0 {X : Scr} {d : Nat} {Q : Int32 → Wd → Prop} (w : Wd) 
    (H : (if (w 110 64) = 0 then Q (kI 0) w else CU X (d + 1) 163 [.ref 113, .ref 111] w (fun w1 => Q (kI 1) w1))) : EI X (d + 1) 255 (0, [some (.ref 110)], [], SH, w) Q := by
  unfold EI
  refine EV.steps cl_255 2 (q2 := (4, [some (.ref 110)], [.int (w 110 64)], SH, w)) rfl ?_
  refine EV.z_ne cl_255 rfl (fun h1 => ?_) (fun h1 => ?_)
  · skip
    rw [if_neg h1] at H
    refine EV.steps cl_255 4 (q2 := (17, [some (.ref 110)], [.ref 111, .ref 113], SH, w)) rfl ?_
    refine EV.call (kc := 163) (av := [.ref 113, .ref 111]) (r := []) cl_255 rfl rfl rfl H ?_
    clear H; intro y1 s1 w1 e1
    obtain ⟨rfl, rfl, H⟩ := e1
    refine EV.steps cl_255 1 (q2 := (21, [some (.ref 110)], [.int (kI 1)], SH, w1)) rfl ?_
    refine EV.ret cl_255 rfl rfl rfl ?_
    exact ⟨_, rfl, rfl, H⟩
  · skip
    rw [if_pos h1] at H
    refine EV.steps cl_255 1 (q2 := (8, [some (.ref 110)], [.int (kI 0)], SH, w)) rfl ?_
    refine EV.ret cl_255 rfl rfl rfl ?_
    exact ⟨_, rfl, rfl, H⟩
theorem t256_110_at0 {X : Scr} {d : Nat} {Q : Int32 → Wd → Prop} (w : Wd) (v1 : Int32) (v2 : Int32)
    (H : (if (F_165_110 v1 w) = 0 then Q (kI (-2)) w else (if (F_157 v2 (kI 0) (kI 6) w) = 0 then Q (kI (-2)) w else (if v2 ≤ (w 110 10) then EI X (d + 2) 256 (36, [some (.ref 110), some (.int v1), some (.int v2), some (.int (kI 0))], [], SH, (up2 w 110 10 (kI 0))) Q else Q (kI (-2)) w)))) : EI X (d + 2) 256 (0, [some (.ref 110), some (.int v1), some (.int v2), none], [], SH, w) Q := by
  unfold EI
  refine EV.steps cl_256 2 (q2 := (2, [some (.ref 110), some (.int v1), some (.int v2), none], [.int v1, .ref 110], SH, w)) rfl ?_
  refine EV.callF (kc := 165) (av := [.ref 110, .int v1]) (r := []) (rv := some (.int (F_165_110 v1 w))) (w2 := w) cl_256 rfl rfl rfl (m_165_110 w v1) ?_
  refine EV.z_eq cl_256 rfl (fun h1 => ?_) (fun h1 => ?_)
  · skip
    rw [if_pos h1] at H
    refine EV.steps cl_256 1 (q2 := (28, [some (.ref 110), some (.int v1), some (.int v2), none], [.int (kI (-2))], SH, w)) rfl ?_
    refine EV.ret cl_256 rfl rfl rfl ?_
    exact ⟨_, rfl, rfl, H⟩
  · skip
    rw [if_neg h1] at H
    refine EV.steps cl_256 3 (q2 := (12, [some (.ref 110), some (.int v1), some (.int v2), none], [.int (kI 6), .int (kI 0), .int v2], SH, w)) rfl ?_
    refine EV.callF (kc := 157) (av := [.int v2, .int (kI 0), .int (kI 6)]) (r := []) (rv := some (.int (F_157 v2 (kI 0) (kI 6) w))) (w2 := w) cl_256 rfl rfl rfl (m_157 w v2 (kI 0) (kI 6)) ?_
    refine EV.z_eq cl_256 rfl (fun h2 => ?_) (fun h2 => ?_)
    · skip
      rw [if_pos h2] at H
      refine EV.steps cl_256 1 (q2 := (28, [some (.ref 110), some (.int v1), some (.int v2), none], [.int (kI (-2))], SH, w)) rfl ?_
      refine EV.ret cl_256 rfl rfl rfl ?_
      exact ⟨_, rfl, rfl, H⟩
    · skip
      rw [if_neg h2] at H
      refine EV.steps cl_256 3 (q2 := (23, [some (.ref 110), some (.int v1), some (.int v2), none], [.int (w 110 10), .int v2], SH, w)) rfl ?_
      refine EV.i_le cl_256 rfl (fun h3 => ?_) (fun h3 => ?_)
      · skip
        rw [if_pos h3] at H
        refine EV.steps cl_256 5 (q2 := (36, [some (.ref 110), some (.int v1), some (.int v2), some (.int (kI 0))], [], SH, (up2 w 110 10 (kI 0)))) rfl ?_
        exact H
      · skip
        rw [if_neg h3] at H
        refine EV.steps cl_256 1 (q2 := (28, [some (.ref 110), some (.int v1), some (.int v2), none], [.int (kI (-2))], SH, w)) rfl ?_
        refine EV.ret cl_256 rfl rfl rfl ?_
        exact ⟨_, rfl, rfl, H⟩
theorem t256_110_at36 {X : Scr} {d : Nat} {Q : Int32 → Wd → Prop} (w : Wd) (v1 : Int32) (v2 : Int32) (v3 : Int32)
    (H : (if v2 ≤ v3 then Q (kI (-1)) w else (inB v3 260 = true ∧ (if (F_164_110 v3 w) = 0 then (if ((w 117 v3.toNatClampNeg) &&& (kI 255)) = (kI 0) then EI X (d + 2) 256 (36, [some (.ref 110), some (.int v1), some (.int v2), some (.int (v3 + (kI 1)))], [], SH, w) Q else Q v3 w) else (((inB (((kI 0) + ((kI 6) * v3)) + v1) 162 = true)) ∧ (if ((w 117 v3.toNatClampNeg) &&& (kI 255)) = ((F_166_110 v3 v1 w) - (F_166_110 v3 v1 w) / (kI 256) * (kI 256)) then EI X (d + 2) 256 (36, [some (.ref 110), some (.int v1), some (.int v2), some (.int (v3 + (kI 1)))], [], SH, w) Q else Q v3 w)))))) : EI X (d + 2) 256 (36, [some (.ref 110), some (.int v1), some (.int v2), some (.int v3)], [], SH, w) Q := by
  unfold EI
  refine EV.steps cl_256 2 (q2 := (38, [some (.ref 110), some (.int v1), some (.int v2), some (.int v3)], [.int v2, .int v3], SH, w)) rfl ?_
  refine EV.i_ge cl_256 rfl (fun h1 => ?_) (fun h1 => ?_)
  · skip
    rw [if_pos h1] at H
    refine EV.steps cl_256 1 (q2 := (85, [some (.ref 110), some (.int v1), some (.int v2), some (.int v3)], [.int (kI (-1))], SH, w)) rfl ?_
    refine EV.ret cl_256 rfl rfl rfl ?_
    exact ⟨_, rfl, rfl, H⟩
  · skip
    rw [if_neg h1] at H
    refine EV.steps cl_256 3 (q2 := (46, [some (.ref 110), some (.int v1), some (.int v2), some (.int v3)], [.int v3, .ref 117], SH, w)) rfl ?_
    obtain ⟨j2, H⟩ := H
    refine EV.baload cl_256 rfl rfl (by decide) j2 ?_
    refine EV.steps cl_256 4 (q2 := (53, [some (.ref 110), some (.int v1), some (.int v2), some (.int v3)], [.int v3, .ref 110, .int ((w 117 v3.toNatClampNeg) &&& (kI 255))], SH, w)) rfl ?_
    refine EV.callF (kc := 164) (av := [.ref 110, .int v3]) (r := [.int ((w 117 v3.toNatClampNeg) &&& (kI 255))]) (rv := some (.int (F_164_110 v3 w))) (w2 := w) cl_256 rfl rfl rfl (m_164_110 w v3) ?_
    refine EV.z_eq cl_256 rfl (fun h3 => ?_) (fun h3 => ?_)
    · skip
      rw [if_pos h3] at H
      refine EV.steps cl_256 1 (q2 := (73, [some (.ref 110), some (.int v1), some (.int v2), some (.int v3)], [.int (kI 0), .int ((w 117 v3.toNatClampNeg) &&& (kI 255))], SH, w)) rfl ?_
      refine EV.i_eq cl_256 rfl (fun h4 => ?_) (fun h4 => ?_)
      · skip
        rw [if_pos h4] at H
        refine EV.steps cl_256 2 (q2 := (36, [some (.ref 110), some (.int v1), some (.int v2), some (.int (v3 + (kI 1)))], [], SH, w)) rfl ?_
        exact H
      · skip
        rw [if_neg h4] at H
        refine EV.steps cl_256 1 (q2 := (77, [some (.ref 110), some (.int v1), some (.int v2), some (.int v3)], [.int v3], SH, w)) rfl ?_
        refine EV.ret cl_256 rfl rfl rfl ?_
        exact ⟨_, rfl, rfl, H⟩
    · skip
      rw [if_neg h3] at H
      refine EV.steps cl_256 3 (q2 := (62, [some (.ref 110), some (.int v1), some (.int v2), some (.int v3)], [.int v1, .int v3, .ref 110, .int ((w 117 v3.toNatClampNeg) &&& (kI 255))], SH, w)) rfl ?_
      obtain ⟨j5, H⟩ := H
      refine EV.callF (kc := 166) (av := [.ref 110, .int v3, .int v1]) (r := [.int ((w 117 v3.toNatClampNeg) &&& (kI 255))]) (rv := some (.int (F_166_110 v3 v1 w))) (w2 := w) cl_256 rfl rfl rfl (m_166_110 w v3 v1 j5) ?_
      refine EV.steps cl_256 1 (q2 := (68, [some (.ref 110), some (.int v1), some (.int v2), some (.int v3)], [.int (kI 256), .int (F_166_110 v3 v1 w), .int ((w 117 v3.toNatClampNeg) &&& (kI 255))], SH, w)) rfl ?_
      refine EV.irem cl_256 rfl (by decide) ?_
      refine EV.steps cl_256 1 (q2 := (73, [some (.ref 110), some (.int v1), some (.int v2), some (.int v3)], [.int ((F_166_110 v3 v1 w) - (F_166_110 v3 v1 w) / (kI 256) * (kI 256)), .int ((w 117 v3.toNatClampNeg) &&& (kI 255))], SH, w)) rfl ?_
      refine EV.i_eq cl_256 rfl (fun h6 => ?_) (fun h6 => ?_)
      · skip
        rw [if_pos h6] at H
        refine EV.steps cl_256 2 (q2 := (36, [some (.ref 110), some (.int v1), some (.int v2), some (.int (v3 + (kI 1)))], [], SH, w)) rfl ?_
        exact H
      · skip
        rw [if_neg h6] at H
        refine EV.steps cl_256 1 (q2 := (77, [some (.ref 110), some (.int v1), some (.int v2), some (.int v3)], [.int v3], SH, w)) rfl ?_
        refine EV.ret cl_256 rfl rfl rfl ?_
        exact ⟨_, rfl, rfl, H⟩
