theorem t46_84_65_at0 {X : Scr} {d : Nat} {Q : Int32 → Wd → Prop} (w : Wd) (v2 : Int32) (v3 : Int32)
    (H : EI X (d + 1) 46 (40, [some (.ref 84), some (.ref 65), some (.int v2), some (.int v3), some (.ref 66), some (.ref 67), some (.int (if (if (Int32.ofNat 80) < (Int32.ofNat 80) then (Int32.ofNat 80) else (Int32.ofNat 80)) < v3 then (if (Int32.ofNat 80) < (Int32.ofNat 80) then (Int32.ofNat 80) else (Int32.ofNat 80)) else v3)), some (.int (kI (-1))), some (.int (if (kI 0) < v2 then v2 else (kI 0))), some (.int (kI 0)), none, none, none], [], SH, w) Q) : EI X (d + 1) 46 (0, [some (.ref 84), some (.ref 65), some (.int v2), some (.int v3), none, none, none, none, none, none, none, none, none], [], SH, w) Q := by
  unfold EI
  refine EV.steps cl_46 22 (q2 := (40, [some (.ref 84), some (.ref 65), some (.int v2), some (.int v3), some (.ref 66), some (.ref 67), some (.int (if (if (Int32.ofNat 80) < (Int32.ofNat 80) then (Int32.ofNat 80) else (Int32.ofNat 80)) < v3 then (if (Int32.ofNat 80) < (Int32.ofNat 80) then (Int32.ofNat 80) else (Int32.ofNat 80)) else v3)), some (.int (kI (-1))), some (.int (if (kI 0) < v2 then v2 else (kI 0))), some (.int (kI 0)), none, none, none], [], SH, w)) rfl ?_
  exact H
theorem t46_84_65_at40 {X : Scr} {d : Nat} {Q : Int32 → Wd → Prop} (w : Wd) (v2 : Int32) (v3 : Int32) (v6 : Int32) (v7 : Int32) (v8 : Int32) (v9 : Int32)
    (H : (if (kI 240) ≤ v9 then (if 0 ≤ v7 then (inB v7 64 = true ∧ Q (w 86 v7.toNatClampNeg) w) else Q (kI 0) w) else (if v6 ≤ v8 then (if 0 ≤ v7 then (inB v7 64 = true ∧ Q (w 86 v7.toNatClampNeg) w) else Q (kI 0) w) else (inB v8 80 = true ∧ (inB v8 80 = true ∧ (if (w 66 v8.toNatClampNeg) = (kI 1) then (if (v7 + (kI 1)) < (kI 64) then (inB (v7 + (kI 1)) 64 = true ∧ EI X (d + 1) 46 (40, [some (.ref 84), some (.ref 65), some (.int v2), some (.int v3), some (.ref 66), some (.ref 67), some (.int v6), some (.int (v7 + (kI 1))), some (.int (v8 + (kI 1))), some (.int (v9 + (kI 1))), none, none, none], [], SH, (up2 w 86 (v7 + (kI 1)).toNatClampNeg (w 67 v8.toNatClampNeg))) Q) else Q (kI 0) w) else (if (w 66 v8.toNatClampNeg) = (kI 2) then (if (v7 + (kI 1)) < (kI 64) then ((¬ (w 67 v8.toNatClampNeg) < 0 → ¬ (kI 12) ≤ (w 67 v8.toNatClampNeg) → (inB (w 67 v8.toNatClampNeg) 12 = true)) ∧ (inB (v7 + (kI 1)) 64 = true ∧ EI X (d + 1) 46 (40, [some (.ref 84), some (.ref 65), some (.int v2), some (.int v3), some (.ref 66), some (.ref 67), some (.int v6), some (.int (v7 + (kI 1))), some (.int (v8 + (kI 1))), some (.int (v9 + (kI 1))), none, none, none], [], SH, (up2 w 86 (v7 + (kI 1)).toNatClampNeg (F_47_84 (w 67 v8.toNatClampNeg) w))) Q)) else Q (kI 0) w) else (if 0 ≤ v7 then (if (w 66 v8.toNatClampNeg) = (kI 33) then (inB v7 64 = true ∧ (inB v7 64 = true ∧ EI X (d + 1) 46 (40, [some (.ref 84), some (.ref 65), some (.int v2), some (.int v3), some (.ref 66), some (.ref 67), some (.int v6), some (.int v7), some (.int (v8 + (kI 1))), some (.int (v9 + (kI 1))), none, none, none], [], SH, (up2 w 86 v7.toNatClampNeg ((kI 1) - (w 86 v7.toNatClampNeg)))) Q)) else (if (w 66 v8.toNatClampNeg) = (kI 38) then (inB v7 64 = true ∧ (if (w 66 v8.toNatClampNeg) = (kI 124) then (if (w 86 v7.toNatClampNeg) = (kI 1) then EI X (d + 1) 46 (40, [some (.ref 84), some (.ref 65), some (.int v2), some (.int v3), some (.ref 66), some (.ref 67), some (.int v6), some (.int v7), some (.int (if (v8 + (kI 1)) < (w 67 v8.toNatClampNeg) then (w 67 v8.toNatClampNeg) else (v8 + (kI 1)))), some (.int (v9 + (kI 1))), none, none, none], [], SH, w) Q else EI X (d + 1) 46 (40, [some (.ref 84), some (.ref 65), some (.int v2), some (.int v3), some (.ref 66), some (.ref 67), some (.int v6), some (.int (v7 - (kI 1))), some (.int (v8 + (kI 1))), some (.int (v9 + (kI 1))), none, none, none], [], SH, w) Q) else (if (w 86 v7.toNatClampNeg) = (kI 0) then EI X (d + 1) 46 (40, [some (.ref 84), some (.ref 65), some (.int v2), some (.int v3), some (.ref 66), some (.ref 67), some (.int v6), some (.int v7), some (.int (if (v8 + (kI 1)) < (w 67 v8.toNatClampNeg) then (w 67 v8.toNatClampNeg) else (v8 + (kI 1)))), some (.int (v9 + (kI 1))), none, none, none], [], SH, w) Q else EI X (d + 1) 46 (40, [some (.ref 84), some (.ref 65), some (.int v2), some (.int v3), some (.ref 66), some (.ref 67), some (.int v6), some (.int (v7 - (kI 1))), some (.int (v8 + (kI 1))), some (.int (v9 + (kI 1))), none, none, none], [], SH, w) Q))) else (if (w 66 v8.toNatClampNeg) = (kI 124) then (inB v7 64 = true ∧ (if (w 86 v7.toNatClampNeg) = (kI 1) then EI X (d + 1) 46 (40, [some (.ref 84), some (.ref 65), some (.int v2), some (.int v3), some (.ref 66), some (.ref 67), some (.int v6), some (.int v7), some (.int (if (v8 + (kI 1)) < (w 67 v8.toNatClampNeg) then (w 67 v8.toNatClampNeg) else (v8 + (kI 1)))), some (.int (v9 + (kI 1))), none, none, none], [], SH, w) Q else EI X (d + 1) 46 (40, [some (.ref 84), some (.ref 65), some (.int v2), some (.int v3), some (.ref 66), some (.ref 67), some (.int v6), some (.int (v7 - (kI 1))), some (.int (v8 + (kI 1))), some (.int (v9 + (kI 1))), none, none, none], [], SH, w) Q)) else (if v7 < (kI 1) then Q (kI 0) w else (inB v7 64 = true ∧ (if (F_48 (w 66 v8.toNatClampNeg) (w 86 v7.toNatClampNeg) w) = 0 then (inB (v7 + (kI (-1))) 64 = true ∧ (inB ((v7 + (kI (-1))) + (kI 1)) 64 = true ∧ (((w 66 v8.toNatClampNeg) = (kI 37) → ¬ (w 86 ((v7 + (kI (-1))) + (kI 1)).toNatClampNeg) = 0 → (¬ (w 86 ((v7 + (kI (-1))) + (kI 1)).toNatClampNeg) = 0)) ∧ ((¬ (w 66 v8.toNatClampNeg) = (kI 37) → ¬ (w 66 v8.toNatClampNeg) = (kI 42) → ¬ (w 66 v8.toNatClampNeg) = (kI 43) → ¬ (w 66 v8.toNatClampNeg) = (kI 45) → (w 66 v8.toNatClampNeg) = (kI 47) → ¬ (w 86 ((v7 + (kI (-1))) + (kI 1)).toNatClampNeg) = 0 → (¬ (w 86 ((v7 + (kI (-1))) + (kI 1)).toNatClampNeg) = 0)) ∧ (inB (v7 + (kI (-1))) 64 = true ∧ EI X (d + 1) 46 (40, [some (.ref 84), some (.ref 65), some (.int v2), some (.int v3), some (.ref 66), some (.ref 67), some (.int v6), some (.int (v7 + (kI (-1)))), some (.int (v8 + (kI 1))), some (.int (v9 + (kI 1))), none, none, none], [], SH, (up2 w 86 (v7 + (kI (-1))).toNatClampNeg (F_49 (w 66 v8.toNatClampNeg) (w 86 (v7 + (kI (-1))).toNatClampNeg) (w 86 ((v7 + (kI (-1))) + (kI 1)).toNatClampNeg) w))) Q))))) else Q (kI 0) w)))))) else Q (kI 0) w)))))))) : EI X (d + 1) 46 (40, [some (.ref 84), some (.ref 65), some (.int v2), some (.int v3), some (.ref 66), some (.ref 67), some (.int v6), some (.int v7), some (.int v8), some (.int v9), none, none, none], [], SH, w) Q := by
  unfold EI
  refine EV.steps cl_46 2 (q2 := (45, [some (.ref 84), some (.ref 65), some (.int v2), some (.int v3), some (.ref 66), some (.ref 67), some (.int v6), some (.int v7), some (.int v8), some (.int v9), none, none, none], [.int (kI 240), .int v9], SH, w)) rfl ?_
  refine EV.i_ge cl_46 rfl (fun h1 => ?_) (fun h1 => ?_)
  · skip
    rw [if_pos h1] at H
    refine EV.steps cl_46 1 (q2 := (299, [some (.ref 84), some (.ref 65), some (.int v2), some (.int v3), some (.ref 66), some (.ref 67), some (.int v6), some (.int v7), some (.int v8), some (.int v9), none, none, none], [.int v7], SH, w)) rfl ?_
    refine EV.z_ge cl_46 rfl (fun h2 => ?_) (fun h2 => ?_)
    · skip
      rw [if_pos h2] at H
      refine EV.steps cl_46 3 (q2 := (312, [some (.ref 84), some (.ref 65), some (.int v2), some (.int v3), some (.ref 66), some (.ref 67), some (.int v6), some (.int v7), some (.int v8), some (.int v9), none, none, none], [.int v7, .ref 86], SH, w)) rfl ?_
      obtain ⟨j3, H⟩ := H
      refine EV.iaload cl_46 rfl rfl (by decide) j3 ?_
      refine EV.ret cl_46 rfl rfl rfl ?_
      exact ⟨_, rfl, rfl, H⟩
    · skip
      rw [if_neg h2] at H
      refine EV.steps cl_46 2 (q2 := (313, [some (.ref 84), some (.ref 65), some (.int v2), some (.int v3), some (.ref 66), some (.ref 67), some (.int v6), some (.int v7), some (.int v8), some (.int v9), none, none, none], [.int (kI 0)], SH, w)) rfl ?_
      refine EV.ret cl_46 rfl rfl rfl ?_
      exact ⟨_, rfl, rfl, H⟩
  · skip
    rw [if_neg h1] at H
    refine EV.steps cl_46 2 (q2 := (52, [some (.ref 84), some (.ref 65), some (.int v2), some (.int v3), some (.ref 66), some (.ref 67), some (.int v6), some (.int v7), some (.int v8), some (.int v9), none, none, none], [.int v6, .int v8], SH, w)) rfl ?_
    refine EV.i_ge cl_46 rfl (fun h4 => ?_) (fun h4 => ?_)
    · skip
      rw [if_pos h4] at H
      refine EV.steps cl_46 1 (q2 := (299, [some (.ref 84), some (.ref 65), some (.int v2), some (.int v3), some (.ref 66), some (.ref 67), some (.int v6), some (.int v7), some (.int v8), some (.int v9), none, none, none], [.int v7], SH, w)) rfl ?_
      refine EV.z_ge cl_46 rfl (fun h5 => ?_) (fun h5 => ?_)
      · skip
        rw [if_pos h5] at H
        refine EV.steps cl_46 3 (q2 := (312, [some (.ref 84), some (.ref 65), some (.int v2), some (.int v3), some (.ref 66), some (.ref 67), some (.int v6), some (.int v7), some (.int v8), some (.int v9), none, none, none], [.int v7, .ref 86], SH, w)) rfl ?_
        obtain ⟨j6, H⟩ := H
        refine EV.iaload cl_46 rfl rfl (by decide) j6 ?_
        refine EV.ret cl_46 rfl rfl rfl ?_
        exact ⟨_, rfl, rfl, H⟩
      · skip
        rw [if_neg h5] at H
        refine EV.steps cl_46 2 (q2 := (313, [some (.ref 84), some (.ref 65), some (.int v2), some (.int v3), some (.ref 66), some (.ref 67), some (.int v6), some (.int v7), some (.int v8), some (.int v9), none, none, none], [.int (kI 0)], SH, w)) rfl ?_
        refine EV.ret cl_46 rfl rfl rfl ?_
        exact ⟨_, rfl, rfl, H⟩
    · skip
      rw [if_neg h4] at H
      refine EV.steps cl_46 2 (q2 := (59, [some (.ref 84), some (.ref 65), some (.int v2), some (.int v3), some (.ref 66), some (.ref 67), some (.int v6), some (.int v7), some (.int v8), some (.int v9), none, none, none], [.int v8, .ref 66], SH, w)) rfl ?_
      obtain ⟨j7, H⟩ := H
      refine EV.iaload cl_46 rfl rfl (by decide) j7 ?_
      refine EV.steps cl_46 3 (q2 := (66, [some (.ref 84), some (.ref 65), some (.int v2), some (.int v3), some (.ref 66), some (.ref 67), some (.int v6), some (.int v7), some (.int v8), some (.int v9), some (.int (w 66 v8.toNatClampNeg)), none, none], [.int v8, .ref 67], SH, w)) rfl ?_
      obtain ⟨j8, H⟩ := H
      refine EV.iaload cl_46 rfl rfl (by decide) j8 ?_
      refine EV.steps cl_46 4 (q2 := (75, [some (.ref 84), some (.ref 65), some (.int v2), some (.int v3), some (.ref 66), some (.ref 67), some (.int v6), some (.int v7), some (.int (v8 + (kI 1))), some (.int v9), some (.int (w 66 v8.toNatClampNeg)), some (.int (w 67 v8.toNatClampNeg)), none], [.int (kI 1), .int (w 66 v8.toNatClampNeg)], SH, w)) rfl ?_
      refine EV.i_eq cl_46 rfl (fun h9 => ?_) (fun h9 => ?_)
      · skip
        rw [if_pos h9] at H
        refine EV.steps cl_46 3 (q2 := (91, [some (.ref 84), some (.ref 65), some (.int v2), some (.int v3), some (.ref 66), some (.ref 67), some (.int v6), some (.int (v7 + (kI 1))), some (.int (v8 + (kI 1))), some (.int v9), some (.int (w 66 v8.toNatClampNeg)), some (.int (w 67 v8.toNatClampNeg)), none], [.int (kI 64), .int (v7 + (kI 1))], SH, w)) rfl ?_
        refine EV.i_lt cl_46 rfl (fun h10 => ?_) (fun h10 => ?_)
        · skip
          rw [if_pos h10] at H
          refine EV.steps cl_46 5 (q2 := (105, [some (.ref 84), some (.ref 65), some (.int v2), some (.int v3), some (.ref 66), some (.ref 67), some (.int v6), some (.int (v7 + (kI 1))), some (.int (v8 + (kI 1))), some (.int v9), some (.int (w 66 v8.toNatClampNeg)), some (.int (w 67 v8.toNatClampNeg)), none], [.int (kI 1), .int (w 66 v8.toNatClampNeg), .int (v7 + (kI 1)), .ref 86], SH, w)) rfl ?_
          refine EV.i_ne cl_46 rfl (fun h11 => ?_) (fun h11 => ?_)
          · skip
            exact absurd h9 h11
          · skip
            refine EV.steps cl_46 2 (q2 := (119, [some (.ref 84), some (.ref 65), some (.int v2), some (.int v3), some (.ref 66), some (.ref 67), some (.int v6), some (.int (v7 + (kI 1))), some (.int (v8 + (kI 1))), some (.int v9), some (.int (w 66 v8.toNatClampNeg)), some (.int (w 67 v8.toNatClampNeg)), none], [.int (w 67 v8.toNatClampNeg), .int (v7 + (kI 1)), .ref 86], SH, w)) rfl ?_
            obtain ⟨j12, H⟩ := H
            refine EV.iastore cl_46 rfl rfl (by decide) j12 ?_
            refine EV.steps cl_46 3 (q2 := (40, [some (.ref 84), some (.ref 65), some (.int v2), some (.int v3), some (.ref 66), some (.ref 67), some (.int v6), some (.int (v7 + (kI 1))), some (.int (v8 + (kI 1))), some (.int (v9 + (kI 1))), some (.int (w 66 v8.toNatClampNeg)), some (.int (w 67 v8.toNatClampNeg)), none], [], SH, (up2 w 86 (v7 + (kI 1)).toNatClampNeg (w 67 v8.toNatClampNeg)))) rfl ?_
            exact EV.weak (l := [some (.ref 84), some (.ref 65), some (.int v2), some (.int v3), some (.ref 66), some (.ref 67), some (.int v6), some (.int (v7 + (kI 1))), some (.int (v8 + (kI 1))), some (.int (v9 + (kI 1))), none, none, none]) ⟨rfl, ⟨rfl, ⟨rfl, ⟨rfl, ⟨rfl, ⟨rfl, ⟨rfl, ⟨rfl, ⟨rfl, ⟨rfl, ⟨rfl, ⟨rfl, ⟨trivial, trivial⟩⟩⟩⟩⟩⟩⟩⟩⟩⟩⟩⟩⟩ H
        · skip
          rw [if_neg h10] at H
          refine EV.steps cl_46 1 (q2 := (95, [some (.ref 84), some (.ref 65), some (.int v2), some (.int v3), some (.ref 66), some (.ref 67), some (.int v6), some (.int (v7 + (kI 1))), some (.int (v8 + (kI 1))), some (.int v9), some (.int (w 66 v8.toNatClampNeg)), some (.int (w 67 v8.toNatClampNeg)), none], [.int (kI 0)], SH, w)) rfl ?_
          refine EV.ret cl_46 rfl rfl rfl ?_
          exact ⟨_, rfl, rfl, H⟩
      · skip
        rw [if_neg h9] at H
        refine EV.steps cl_46 2 (q2 := (81, [some (.ref 84), some (.ref 65), some (.int v2), some (.int v3), some (.ref 66), some (.ref 67), some (.int v6), some (.int v7), some (.int (v8 + (kI 1))), some (.int v9), some (.int (w 66 v8.toNatClampNeg)), some (.int (w 67 v8.toNatClampNeg)), none], [.int (kI 2), .int (w 66 v8.toNatClampNeg)], SH, w)) rfl ?_
        refine EV.i_ne cl_46 rfl (fun h13 => ?_) (fun h13 => ?_)
        · skip
          rw [if_neg h13] at H
          refine EV.steps cl_46 1 (q2 := (125, [some (.ref 84), some (.ref 65), some (.int v2), some (.int v3), some (.ref 66), some (.ref 67), some (.int v6), some (.int v7), some (.int (v8 + (kI 1))), some (.int v9), some (.int (w 66 v8.toNatClampNeg)), some (.int (w 67 v8.toNatClampNeg)), none], [.int v7], SH, w)) rfl ?_
          refine EV.z_ge cl_46 rfl (fun h14 => ?_) (fun h14 => ?_)
          · skip
            rw [if_pos h14] at H
            refine EV.steps cl_46 2 (q2 := (134, [some (.ref 84), some (.ref 65), some (.int v2), some (.int v3), some (.ref 66), some (.ref 67), some (.int v6), some (.int v7), some (.int (v8 + (kI 1))), some (.int v9), some (.int (w 66 v8.toNatClampNeg)), some (.int (w 67 v8.toNatClampNeg)), none], [.int (kI 33), .int (w 66 v8.toNatClampNeg)], SH, w)) rfl ?_
            refine EV.i_ne cl_46 rfl (fun h15 => ?_) (fun h15 => ?_)
            · skip
              rw [if_neg h15] at H
              refine EV.steps cl_46 2 (q2 := (160, [some (.ref 84), some (.ref 65), some (.int v2), some (.int v3), some (.ref 66), some (.ref 67), some (.int v6), some (.int v7), some (.int (v8 + (kI 1))), some (.int v9), some (.int (w 66 v8.toNatClampNeg)), some (.int (w 67 v8.toNatClampNeg)), none], [.int (kI 38), .int (w 66 v8.toNatClampNeg)], SH, w)) rfl ?_
              refine EV.i_eq cl_46 rfl (fun h16 => ?_) (fun h16 => ?_)
              · skip
                rw [if_pos h16] at H
                refine EV.steps cl_46 3 (q2 := (176, [some (.ref 84), some (.ref 65), some (.int v2), some (.int v3), some (.ref 66), some (.ref 67), some (.int v6), some (.int v7), some (.int (v8 + (kI 1))), some (.int v9), some (.int (w 66 v8.toNatClampNeg)), some (.int (w 67 v8.toNatClampNeg)), none], [.int v7, .ref 86], SH, w)) rfl ?_
                obtain ⟨j17, H⟩ := H
                refine EV.iaload cl_46 rfl rfl (by decide) j17 ?_
                refine EV.steps cl_46 2 (q2 := (181, [some (.ref 84), some (.ref 65), some (.int v2), some (.int v3), some (.ref 66), some (.ref 67), some (.int v6), some (.int v7), some (.int (v8 + (kI 1))), some (.int v9), some (.int (w 66 v8.toNatClampNeg)), some (.int (w 67 v8.toNatClampNeg)), none], [.int (kI 124), .int (w 66 v8.toNatClampNeg), .int (w 86 v7.toNatClampNeg)], SH, w)) rfl ?_
                refine EV.i_ne cl_46 rfl (fun h18 => ?_) (fun h18 => ?_)
                · skip
                  rw [if_neg h18] at H
                  refine EV.steps cl_46 1 (q2 := (189, [some (.ref 84), some (.ref 65), some (.int v2), some (.int v3), some (.ref 66), some (.ref 67), some (.int v6), some (.int v7), some (.int (v8 + (kI 1))), some (.int v9), some (.int (w 66 v8.toNatClampNeg)), some (.int (w 67 v8.toNatClampNeg)), none], [.int (kI 0), .int (w 86 v7.toNatClampNeg)], SH, w)) rfl ?_
                  refine EV.i_ne cl_46 rfl (fun h19 => ?_) (fun h19 => ?_)
                  · skip
                    rw [if_neg h19] at H
                    refine EV.steps cl_46 15 (q2 := (40, [some (.ref 84), some (.ref 65), some (.int v2), some (.int v3), some (.ref 66), some (.ref 67), some (.int v6), some (.int (v7 - (kI 1))), some (.int (v8 + (kI 1))), some (.int (v9 + (kI 1))), some (.int (w 66 v8.toNatClampNeg)), some (.int (w 67 v8.toNatClampNeg)), some (.int (kI 0))], [], SH, w)) rfl ?_
                    exact EV.weak (l := [some (.ref 84), some (.ref 65), some (.int v2), some (.int v3), some (.ref 66), some (.ref 67), some (.int v6), some (.int (v7 - (kI 1))), some (.int (v8 + (kI 1))), some (.int (v9 + (kI 1))), none, none, none]) ⟨rfl, ⟨rfl, ⟨rfl, ⟨rfl, ⟨rfl, ⟨rfl, ⟨rfl, ⟨rfl, ⟨rfl, ⟨rfl, ⟨rfl, ⟨rfl, ⟨rfl, trivial⟩⟩⟩⟩⟩⟩⟩⟩⟩⟩⟩⟩⟩ H
                  · skip
                    rw [if_pos h19] at H
                    refine EV.steps cl_46 18 (q2 := (40, [some (.ref 84), some (.ref 65), some (.int v2), some (.int v3), some (.ref 66), some (.ref 67), some (.int v6), some (.int v7), some (.int (if (v8 + (kI 1)) < (w 67 v8.toNatClampNeg) then (w 67 v8.toNatClampNeg) else (v8 + (kI 1)))), some (.int (v9 + (kI 1))), some (.int (w 66 v8.toNatClampNeg)), some (.int (w 67 v8.toNatClampNeg)), some (.int (kI 1))], [], SH, w)) rfl ?_
                    exact EV.weak (l := [some (.ref 84), some (.ref 65), some (.int v2), some (.int v3), some (.ref 66), some (.ref 67), some (.int v6), some (.int v7), some (.int (if (v8 + (kI 1)) < (w 67 v8.toNatClampNeg) then (w 67 v8.toNatClampNeg) else (v8 + (kI 1)))), some (.int (v9 + (kI 1))), none, none, none]) ⟨rfl, ⟨rfl, ⟨rfl, ⟨rfl, ⟨rfl, ⟨rfl, ⟨rfl, ⟨rfl, ⟨rfl, ⟨rfl, ⟨rfl, ⟨rfl, ⟨rfl, trivial⟩⟩⟩⟩⟩⟩⟩⟩⟩⟩⟩⟩⟩ H
                · skip
                  rw [if_pos h18] at H
                  refine EV.steps cl_46 2 (q2 := (189, [some (.ref 84), some (.ref 65), some (.int v2), some (.int v3), some (.ref 66), some (.ref 67), some (.int v6), some (.int v7), some (.int (v8 + (kI 1))), some (.int v9), some (.int (w 66 v8.toNatClampNeg)), some (.int (w 67 v8.toNatClampNeg)), none], [.int (kI 1), .int (w 86 v7.toNatClampNeg)], SH, w)) rfl ?_
                  refine EV.i_ne cl_46 rfl (fun h20 => ?_) (fun h20 => ?_)
                  · skip
                    rw [if_neg h20] at H
                    refine EV.steps cl_46 15 (q2 := (40, [some (.ref 84), some (.ref 65), some (.int v2), some (.int v3), some (.ref 66), some (.ref 67), some (.int v6), some (.int (v7 - (kI 1))), some (.int (v8 + (kI 1))), some (.int (v9 + (kI 1))), some (.int (w 66 v8.toNatClampNeg)), some (.int (w 67 v8.toNatClampNeg)), some (.int (kI 0))], [], SH, w)) rfl ?_
                    exact EV.weak (l := [some (.ref 84), some (.ref 65), some (.int v2), some (.int v3), some (.ref 66), some (.ref 67), some (.int v6), some (.int (v7 - (kI 1))), some (.int (v8 + (kI 1))), some (.int (v9 + (kI 1))), none, none, none]) ⟨rfl, ⟨rfl, ⟨rfl, ⟨rfl, ⟨rfl, ⟨rfl, ⟨rfl, ⟨rfl, ⟨rfl, ⟨rfl, ⟨rfl, ⟨rfl, ⟨rfl, trivial⟩⟩⟩⟩⟩⟩⟩⟩⟩⟩⟩⟩⟩ H
                  · skip
                    rw [if_pos h20] at H
                    refine EV.steps cl_46 18 (q2 := (40, [some (.ref 84), some (.ref 65), some (.int v2), some (.int v3), some (.ref 66), some (.ref 67), some (.int v6), some (.int v7), some (.int (if (v8 + (kI 1)) < (w 67 v8.toNatClampNeg) then (w 67 v8.toNatClampNeg) else (v8 + (kI 1)))), some (.int (v9 + (kI 1))), some (.int (w 66 v8.toNatClampNeg)), some (.int (w 67 v8.toNatClampNeg)), some (.int (kI 1))], [], SH, w)) rfl ?_
                    exact EV.weak (l := [some (.ref 84), some (.ref 65), some (.int v2), some (.int v3), some (.ref 66), some (.ref 67), some (.int v6), some (.int v7), some (.int (if (v8 + (kI 1)) < (w 67 v8.toNatClampNeg) then (w 67 v8.toNatClampNeg) else (v8 + (kI 1)))), some (.int (v9 + (kI 1))), none, none, none]) ⟨rfl, ⟨rfl, ⟨rfl, ⟨rfl, ⟨rfl, ⟨rfl, ⟨rfl, ⟨rfl, ⟨rfl, ⟨rfl, ⟨rfl, ⟨rfl, ⟨rfl, trivial⟩⟩⟩⟩⟩⟩⟩⟩⟩⟩⟩⟩⟩ H
              · skip
                rw [if_neg h16] at H
                refine EV.steps cl_46 2 (q2 := (167, [some (.ref 84), some (.ref 65), some (.int v2), some (.int v3), some (.ref 66), some (.ref 67), some (.int v6), some (.int v7), some (.int (v8 + (kI 1))), some (.int v9), some (.int (w 66 v8.toNatClampNeg)), some (.int (w 67 v8.toNatClampNeg)), none], [.int (kI 124), .int (w 66 v8.toNatClampNeg)], SH, w)) rfl ?_
                refine EV.i_ne cl_46 rfl (fun h21 => ?_) (fun h21 => ?_)
                · skip
                  rw [if_neg h21] at H
                  refine EV.steps cl_46 2 (q2 := (240, [some (.ref 84), some (.ref 65), some (.int v2), some (.int v3), some (.ref 66), some (.ref 67), some (.int v6), some (.int v7), some (.int (v8 + (kI 1))), some (.int v9), some (.int (w 66 v8.toNatClampNeg)), some (.int (w 67 v8.toNatClampNeg)), none], [.int (kI 1), .int v7], SH, w)) rfl ?_
                  refine EV.i_lt cl_46 rfl (fun h22 => ?_) (fun h22 => ?_)
                  · skip
                    rw [if_pos h22] at H
                    refine EV.steps cl_46 1 (q2 := (259, [some (.ref 84), some (.ref 65), some (.int v2), some (.int v3), some (.ref 66), some (.ref 67), some (.int v6), some (.int v7), some (.int (v8 + (kI 1))), some (.int v9), some (.int (w 66 v8.toNatClampNeg)), some (.int (w 67 v8.toNatClampNeg)), none], [.int (kI 0)], SH, w)) rfl ?_
                    refine EV.ret cl_46 rfl rfl rfl ?_
                    exact ⟨_, rfl, rfl, H⟩
                  · skip
                    rw [if_neg h22] at H
                    refine EV.steps cl_46 4 (q2 := (251, [some (.ref 84), some (.ref 65), some (.int v2), some (.int v3), some (.ref 66), some (.ref 67), some (.int v6), some (.int v7), some (.int (v8 + (kI 1))), some (.int v9), some (.int (w 66 v8.toNatClampNeg)), some (.int (w 67 v8.toNatClampNeg)), none], [.int v7, .ref 86, .int (w 66 v8.toNatClampNeg)], SH, w)) rfl ?_
                    obtain ⟨j23, H⟩ := H
                    refine EV.iaload cl_46 rfl rfl (by decide) j23 ?_
                    refine EV.callF (kc := 48) (av := [.int (w 66 v8.toNatClampNeg), .int (w 86 v7.toNatClampNeg)]) (r := []) (rv := some (.int (F_48 (w 66 v8.toNatClampNeg) (w 86 v7.toNatClampNeg) w))) (w2 := w) cl_46 rfl rfl rfl (m_48 w (w 66 v8.toNatClampNeg) (w 86 v7.toNatClampNeg)) ?_
                    refine EV.z_eq cl_46 rfl (fun h24 => ?_) (fun h24 => ?_)
                    · skip
                      rw [if_pos h24] at H
                      refine EV.steps cl_46 8 (q2 := (277, [some (.ref 84), some (.ref 65), some (.int v2), some (.int v3), some (.ref 66), some (.ref 67), some (.int v6), some (.int (v7 + (kI (-1)))), some (.int (v8 + (kI 1))), some (.int v9), some (.int (w 66 v8.toNatClampNeg)), some (.int (w 67 v8.toNatClampNeg)), none], [.int (v7 + (kI (-1))), .ref 86, .int (w 66 v8.toNatClampNeg), .int (v7 + (kI (-1))), .ref 86], SH, w)) rfl ?_
                      obtain ⟨j25, H⟩ := H
                      refine EV.iaload cl_46 rfl rfl (by decide) j25 ?_
                      refine EV.steps cl_46 5 (q2 := (286, [some (.ref 84), some (.ref 65), some (.int v2), some (.int v3), some (.ref 66), some (.ref 67), some (.int v6), some (.int (v7 + (kI (-1)))), some (.int (v8 + (kI 1))), some (.int v9), some (.int (w 66 v8.toNatClampNeg)), some (.int (w 67 v8.toNatClampNeg)), none], [.int ((v7 + (kI (-1))) + (kI 1)), .ref 86, .int (w 86 (v7 + (kI (-1))).toNatClampNeg), .int (w 66 v8.toNatClampNeg), .int (v7 + (kI (-1))), .ref 86], SH, w)) rfl ?_
                      obtain ⟨j26, H⟩ := H
                      refine EV.iaload cl_46 rfl rfl (by decide) j26 ?_
                      obtain ⟨j27, H⟩ := H
                      obtain ⟨j28, H⟩ := H
                      refine EV.callF (kc := 49) (av := [.int (w 66 v8.toNatClampNeg), .int (w 86 (v7 + (kI (-1))).toNatClampNeg), .int (w 86 ((v7 + (kI (-1))) + (kI 1)).toNatClampNeg)]) (r := [.int (v7 + (kI (-1))), .ref 86]) (rv := some (.int (F_49 (w 66 v8.toNatClampNeg) (w 86 (v7 + (kI (-1))).toNatClampNeg) (w 86 ((v7 + (kI (-1))) + (kI 1)).toNatClampNeg) w))) (w2 := w) cl_46 rfl rfl rfl (m_49 w (w 66 v8.toNatClampNeg) (w 86 (v7 + (kI (-1))).toNatClampNeg) (w 86 ((v7 + (kI (-1))) + (kI 1)).toNatClampNeg) j27 j28) ?_
                      obtain ⟨j29, H⟩ := H
                      refine EV.iastore cl_46 rfl rfl (by decide) j29 ?_
                      refine EV.steps cl_46 2 (q2 := (40, [some (.ref 84), some (.ref 65), some (.int v2), some (.int v3), some (.ref 66), some (.ref 67), some (.int v6), some (.int (v7 + (kI (-1)))), some (.int (v8 + (kI 1))), some (.int (v9 + (kI 1))), some (.int (w 66 v8.toNatClampNeg)), some (.int (w 67 v8.toNatClampNeg)), none], [], SH, (up2 w 86 (v7 + (kI (-1))).toNatClampNeg (F_49 (w 66 v8.toNatClampNeg) (w 86 (v7 + (kI (-1))).toNatClampNeg) (w 86 ((v7 + (kI (-1))) + (kI 1)).toNatClampNeg) w)))) rfl ?_
                      exact EV.weak (l := [some (.ref 84), some (.ref 65), some (.int v2), some (.int v3), some (.ref 66), some (.ref 67), some (.int v6), some (.int (v7 + (kI (-1)))), some (.int (v8 + (kI 1))), some (.int (v9 + (kI 1))), none, none, none]) ⟨rfl, ⟨rfl, ⟨rfl, ⟨rfl, ⟨rfl, ⟨rfl, ⟨rfl, ⟨rfl, ⟨rfl, ⟨rfl, ⟨rfl, ⟨rfl, ⟨trivial, trivial⟩⟩⟩⟩⟩⟩⟩⟩⟩⟩⟩⟩⟩ H
                    · skip
                      rw [if_neg h24] at H
                      refine EV.steps cl_46 1 (q2 := (259, [some (.ref 84), some (.ref 65), some (.int v2), some (.int v3), some (.ref 66), some (.ref 67), some (.int v6), some (.int v7), some (.int (v8 + (kI 1))), some (.int v9), some (.int (w 66 v8.toNatClampNeg)), some (.int (w 67 v8.toNatClampNeg)), none], [.int (kI 0)], SH, w)) rfl ?_
                      refine EV.ret cl_46 rfl rfl rfl ?_
                      exact ⟨_, rfl, rfl, H⟩
                · skip
                  rw [if_pos h21] at H
                  refine EV.steps cl_46 3 (q2 := (176, [some (.ref 84), some (.ref 65), some (.int v2), some (.int v3), some (.ref 66), some (.ref 67), some (.int v6), some (.int v7), some (.int (v8 + (kI 1))), some (.int v9), some (.int (w 66 v8.toNatClampNeg)), some (.int (w 67 v8.toNatClampNeg)), none], [.int v7, .ref 86], SH, w)) rfl ?_
                  obtain ⟨j30, H⟩ := H
                  refine EV.iaload cl_46 rfl rfl (by decide) j30 ?_
                  refine EV.steps cl_46 2 (q2 := (181, [some (.ref 84), some (.ref 65), some (.int v2), some (.int v3), some (.ref 66), some (.ref 67), some (.int v6), some (.int v7), some (.int (v8 + (kI 1))), some (.int v9), some (.int (w 66 v8.toNatClampNeg)), some (.int (w 67 v8.toNatClampNeg)), none], [.int (kI 124), .int (w 66 v8.toNatClampNeg), .int (w 86 v7.toNatClampNeg)], SH, w)) rfl ?_
                  refine EV.i_ne cl_46 rfl (fun h31 => ?_) (fun h31 => ?_)
                  · skip
                    exact absurd h21 h31
                  · skip
                    refine EV.steps cl_46 2 (q2 := (189, [some (.ref 84), some (.ref 65), some (.int v2), some (.int v3), some (.ref 66), some (.ref 67), some (.int v6), some (.int v7), some (.int (v8 + (kI 1))), some (.int v9), some (.int (w 66 v8.toNatClampNeg)), some (.int (w 67 v8.toNatClampNeg)), none], [.int (kI 1), .int (w 86 v7.toNatClampNeg)], SH, w)) rfl ?_
                    refine EV.i_ne cl_46 rfl (fun h32 => ?_) (fun h32 => ?_)
                    · skip
                      rw [if_neg h32] at H
                      refine EV.steps cl_46 15 (q2 := (40, [some (.ref 84), some (.ref 65), some (.int v2), some (.int v3), some (.ref 66), some (.ref 67), some (.int v6), some (.int (v7 - (kI 1))), some (.int (v8 + (kI 1))), some (.int (v9 + (kI 1))), some (.int (w 66 v8.toNatClampNeg)), some (.int (w 67 v8.toNatClampNeg)), some (.int (kI 0))], [], SH, w)) rfl ?_
                      exact EV.weak (l := [some (.ref 84), some (.ref 65), some (.int v2), some (.int v3), some (.ref 66), some (.ref 67), some (.int v6), some (.int (v7 - (kI 1))), some (.int (v8 + (kI 1))), some (.int (v9 + (kI 1))), none, none, none]) ⟨rfl, ⟨rfl, ⟨rfl, ⟨rfl, ⟨rfl, ⟨rfl, ⟨rfl, ⟨rfl, ⟨rfl, ⟨rfl, ⟨rfl, ⟨rfl, ⟨rfl, trivial⟩⟩⟩⟩⟩⟩⟩⟩⟩⟩⟩⟩⟩ H
                    · skip
                      rw [if_pos h32] at H
                      refine EV.steps cl_46 18 (q2 := (40, [some (.ref 84), some (.ref 65), some (.int v2), some (.int v3), some (.ref 66), some (.ref 67), some (.int v6), some (.int v7), some (.int (if (v8 + (kI 1)) < (w 67 v8.toNatClampNeg) then (w 67 v8.toNatClampNeg) else (v8 + (kI 1)))), some (.int (v9 + (kI 1))), some (.int (w 66 v8.toNatClampNeg)), some (.int (w 67 v8.toNatClampNeg)), some (.int (kI 1))], [], SH, w)) rfl ?_
                      exact EV.weak (l := [some (.ref 84), some (.ref 65), some (.int v2), some (.int v3), some (.ref 66), some (.ref 67), some (.int v6), some (.int v7), some (.int (if (v8 + (kI 1)) < (w 67 v8.toNatClampNeg) then (w 67 v8.toNatClampNeg) else (v8 + (kI 1)))), some (.int (v9 + (kI 1))), none, none, none]) ⟨rfl, ⟨rfl, ⟨rfl, ⟨rfl, ⟨rfl, ⟨rfl, ⟨rfl, ⟨rfl, ⟨rfl, ⟨rfl, ⟨rfl, ⟨rfl, ⟨rfl, trivial⟩⟩⟩⟩⟩⟩⟩⟩⟩⟩⟩⟩⟩ H
            · skip
              rw [if_pos h15] at H
              refine EV.steps cl_46 7 (q2 := (150, [some (.ref 84), some (.ref 65), some (.int v2), some (.int v3), some (.ref 66), some (.ref 67), some (.int v6), some (.int v7), some (.int (v8 + (kI 1))), some (.int v9), some (.int (w 66 v8.toNatClampNeg)), some (.int (w 67 v8.toNatClampNeg)), none], [.int v7, .ref 86, .int (kI 1), .int v7, .ref 86], SH, w)) rfl ?_
              obtain ⟨j33, H⟩ := H
              refine EV.iaload cl_46 rfl rfl (by decide) j33 ?_
              refine EV.steps cl_46 1 (q2 := (152, [some (.ref 84), some (.ref 65), some (.int v2), some (.int v3), some (.ref 66), some (.ref 67), some (.int v6), some (.int v7), some (.int (v8 + (kI 1))), some (.int v9), some (.int (w 66 v8.toNatClampNeg)), some (.int (w 67 v8.toNatClampNeg)), none], [.int ((kI 1) - (w 86 v7.toNatClampNeg)), .int v7, .ref 86], SH, w)) rfl ?_
              obtain ⟨j34, H⟩ := H
              refine EV.iastore cl_46 rfl rfl (by decide) j34 ?_
              refine EV.steps cl_46 3 (q2 := (40, [some (.ref 84), some (.ref 65), some (.int v2), some (.int v3), some (.ref 66), some (.ref 67), some (.int v6), some (.int v7), some (.int (v8 + (kI 1))), some (.int (v9 + (kI 1))), some (.int (w 66 v8.toNatClampNeg)), some (.int (w 67 v8.toNatClampNeg)), none], [], SH, (up2 w 86 v7.toNatClampNeg ((kI 1) - (w 86 v7.toNatClampNeg))))) rfl ?_
              exact EV.weak (l := [some (.ref 84), some (.ref 65), some (.int v2), some (.int v3), some (.ref 66), some (.ref 67), some (.int v6), some (.int v7), some (.int (v8 + (kI 1))), some (.int (v9 + (kI 1))), none, none, none]) ⟨rfl, ⟨rfl, ⟨rfl, ⟨rfl, ⟨rfl, ⟨rfl, ⟨rfl, ⟨rfl, ⟨rfl, ⟨rfl, ⟨rfl, ⟨rfl, ⟨trivial, trivial⟩⟩⟩⟩⟩⟩⟩⟩⟩⟩⟩⟩⟩ H
          · skip
            rw [if_neg h14] at H
            refine EV.steps cl_46 1 (q2 := (129, [some (.ref 84), some (.ref 65), some (.int v2), some (.int v3), some (.ref 66), some (.ref 67), some (.int v6), some (.int v7), some (.int (v8 + (kI 1))), some (.int v9), some (.int (w 66 v8.toNatClampNeg)), some (.int (w 67 v8.toNatClampNeg)), none], [.int (kI 0)], SH, w)) rfl ?_
            refine EV.ret cl_46 rfl rfl rfl ?_
            exact ⟨_, rfl, rfl, H⟩
        · skip
          rw [if_pos h13] at H
          refine EV.steps cl_46 3 (q2 := (91, [some (.ref 84), some (.ref 65), some (.int v2), some (.int v3), some (.ref 66), some (.ref 67), some (.int v6), some (.int (v7 + (kI 1))), some (.int (v8 + (kI 1))), some (.int v9), some (.int (w 66 v8.toNatClampNeg)), some (.int (w 67 v8.toNatClampNeg)), none], [.int (kI 64), .int (v7 + (kI 1))], SH, w)) rfl ?_
          refine EV.i_lt cl_46 rfl (fun h35 => ?_) (fun h35 => ?_)
          · skip
            rw [if_pos h35] at H
            refine EV.steps cl_46 5 (q2 := (105, [some (.ref 84), some (.ref 65), some (.int v2), some (.int v3), some (.ref 66), some (.ref 67), some (.int v6), some (.int (v7 + (kI 1))), some (.int (v8 + (kI 1))), some (.int v9), some (.int (w 66 v8.toNatClampNeg)), some (.int (w 67 v8.toNatClampNeg)), none], [.int (kI 1), .int (w 66 v8.toNatClampNeg), .int (v7 + (kI 1)), .ref 86], SH, w)) rfl ?_
            refine EV.i_ne cl_46 rfl (fun h36 => ?_) (fun h36 => ?_)
            · skip
              refine EV.steps cl_46 2 (q2 := (116, [some (.ref 84), some (.ref 65), some (.int v2), some (.int v3), some (.ref 66), some (.ref 67), some (.int v6), some (.int (v7 + (kI 1))), some (.int (v8 + (kI 1))), some (.int v9), some (.int (w 66 v8.toNatClampNeg)), some (.int (w 67 v8.toNatClampNeg)), none], [.int (w 67 v8.toNatClampNeg), .ref 84, .int (v7 + (kI 1)), .ref 86], SH, w)) rfl ?_
              obtain ⟨j37, H⟩ := H
              refine EV.callF (kc := 47) (av := [.ref 84, .int (w 67 v8.toNatClampNeg)]) (r := [.int (v7 + (kI 1)), .ref 86]) (rv := some (.int (F_47_84 (w 67 v8.toNatClampNeg) w))) (w2 := w) cl_46 rfl rfl rfl (m_47_84 w (w 67 v8.toNatClampNeg) j37) ?_
              obtain ⟨j38, H⟩ := H
              refine EV.iastore cl_46 rfl rfl (by decide) j38 ?_
              refine EV.steps cl_46 3 (q2 := (40, [some (.ref 84), some (.ref 65), some (.int v2), some (.int v3), some (.ref 66), some (.ref 67), some (.int v6), some (.int (v7 + (kI 1))), some (.int (v8 + (kI 1))), some (.int (v9 + (kI 1))), some (.int (w 66 v8.toNatClampNeg)), some (.int (w 67 v8.toNatClampNeg)), none], [], SH, (up2 w 86 (v7 + (kI 1)).toNatClampNeg (F_47_84 (w 67 v8.toNatClampNeg) w)))) rfl ?_
              exact EV.weak (l := [some (.ref 84), some (.ref 65), some (.int v2), some (.int v3), some (.ref 66), some (.ref 67), some (.int v6), some (.int (v7 + (kI 1))), some (.int (v8 + (kI 1))), some (.int (v9 + (kI 1))), none, none, none]) ⟨rfl, ⟨rfl, ⟨rfl, ⟨rfl, ⟨rfl, ⟨rfl, ⟨rfl, ⟨rfl, ⟨rfl, ⟨rfl, ⟨rfl, ⟨rfl, ⟨trivial, trivial⟩⟩⟩⟩⟩⟩⟩⟩⟩⟩⟩⟩⟩ H
            · skip
              exact absurd h36 h9
          · skip
            rw [if_neg h35] at H
            refine EV.steps cl_46 1 (q2 := (95, [some (.ref 84), some (.ref 65), some (.int v2), some (.int v3), some (.ref 66), some (.ref 67), some (.int v6), some (.int (v7 + (kI 1))), some (.int (v8 + (kI 1))), some (.int v9), some (.int (w 66 v8.toNatClampNeg)), some (.int (w 67 v8.toNatClampNeg)), none], [.int (kI 0)], SH, w)) rfl ?_
            refine EV.ret cl_46 rfl rfl rfl ?_
            exact ⟨_, rfl, rfl, H⟩
theorem t46_84_72_at0 {X : Scr} {d : Nat} {Q : Int32 → Wd → Prop} (w : Wd) (v2 : Int32) (v3 : Int32)
    (H : EI X (d + 1) 46 (40, [some (.ref 84), some (.ref 72), some (.int v2), some (.int v3), some (.ref 73), some (.ref 74), some (.int (if (if (Int32.ofNat 80) < (Int32.ofNat 80) then (Int32.ofNat 80) else (Int32.ofNat 80)) < v3 then (if (Int32.ofNat 80) < (Int32.ofNat 80) then (Int32.ofNat 80) else (Int32.ofNat 80)) else v3)), some (.int (kI (-1))), some (.int (if (kI 0) < v2 then v2 else (kI 0))), some (.int (kI 0)), none, none, none], [], SH, w) Q) : EI X (d + 1) 46 (0, [some (.ref 84), some (.ref 72), some (.int v2), some (.int v3), none, none, none, none, none, none, none, none, none], [], SH, w) Q := by
  unfold EI
  refine EV.steps cl_46 22 (q2 := (40, [some (.ref 84), some (.ref 72), some (.int v2), some (.int v3), some (.ref 73), some (.ref 74), some (.int (if (if (Int32.ofNat 80) < (Int32.ofNat 80) then (Int32.ofNat 80) else (Int32.ofNat 80)) < v3 then (if (Int32.ofNat 80) < (Int32.ofNat 80) then (Int32.ofNat 80) else (Int32.ofNat 80)) else v3)), some (.int (kI (-1))), some (.int (if (kI 0) < v2 then v2 else (kI 0))), some (.int (kI 0)), none, none, none], [], SH, w)) rfl ?_
  exact H
theorem t46_84_72_at40 {X : Scr} {d : Nat} {Q : Int32 → Wd → Prop} (w : Wd) (v2 : Int32) (v3 : Int32) (v6 : Int32) (v7 : Int32) (v8 : Int32) (v9 : Int32)
    (H : (if (kI 240) ≤ v9 then (if 0 ≤ v7 then (inB v7 64 = true ∧ Q (w 86 v7.toNatClampNeg) w) else Q (kI 0) w) else (if v6 ≤ v8 then (if 0 ≤ v7 then (inB v7 64 = true ∧ Q (w 86 v7.toNatClampNeg) w) else Q (kI 0) w) else (inB v8 80 = true ∧ (inB v8 80 = true ∧ (if (w 73 v8.toNatClampNeg) = (kI 1) then (if (v7 + (kI 1)) < (kI 64) then (inB (v7 + (kI 1)) 64 = true ∧ EI X (d + 1) 46 (40, [some (.ref 84), some (.ref 72), some (.int v2), some (.int v3), some (.ref 73), some (.ref 74), some (.int v6), some (.int (v7 + (kI 1))), some (.int (v8 + (kI 1))), some (.int (v9 + (kI 1))), none, none, none], [], SH, (up2 w 86 (v7 + (kI 1)).toNatClampNeg (w 74 v8.toNatClampNeg))) Q) else Q (kI 0) w) else (if (w 73 v8.toNatClampNeg) = (kI 2) then (if (v7 + (kI 1)) < (kI 64) then ((¬ (w 74 v8.toNatClampNeg) < 0 → ¬ (kI 12) ≤ (w 74 v8.toNatClampNeg) → (inB (w 74 v8.toNatClampNeg) 12 = true)) ∧ (inB (v7 + (kI 1)) 64 = true ∧ EI X (d + 1) 46 (40, [some (.ref 84), some (.ref 72), some (.int v2), some (.int v3), some (.ref 73), some (.ref 74), some (.int v6), some (.int (v7 + (kI 1))), some (.int (v8 + (kI 1))), some (.int (v9 + (kI 1))), none, none, none], [], SH, (up2 w 86 (v7 + (kI 1)).toNatClampNeg (F_47_84 (w 74 v8.toNatClampNeg) w))) Q)) else Q (kI 0) w) else (if 0 ≤ v7 then (if (w 73 v8.toNatClampNeg) = (kI 33) then (inB v7 64 = true ∧ (inB v7 64 = true ∧ EI X (d + 1) 46 (40, [some (.ref 84), some (.ref 72), some (.int v2), some (.int v3), some (.ref 73), some (.ref 74), some (.int v6), some (.int v7), some (.int (v8 + (kI 1))), some (.int (v9 + (kI 1))), none, none, none], [], SH, (up2 w 86 v7.toNatClampNeg ((kI 1) - (w 86 v7.toNatClampNeg)))) Q)) else (if (w 73 v8.toNatClampNeg) = (kI 38) then (inB v7 64 = true ∧ (if (w 73 v8.toNatClampNeg) = (kI 124) then (if (w 86 v7.toNatClampNeg) = (kI 1) then EI X (d + 1) 46 (40, [some (.ref 84), some (.ref 72), some (.int v2), some (.int v3), some (.ref 73), some (.ref 74), some (.int v6), some (.int v7), some (.int (if (v8 + (kI 1)) < (w 74 v8.toNatClampNeg) then (w 74 v8.toNatClampNeg) else (v8 + (kI 1)))), some (.int (v9 + (kI 1))), none, none, none], [], SH, w) Q else EI X (d + 1) 46 (40, [some (.ref 84), some (.ref 72), some (.int v2), some (.int v3), some (.ref 73), some (.ref 74), some (.int v6), some (.int (v7 - (kI 1))), some (.int (v8 + (kI 1))), some (.int (v9 + (kI 1))), none, none, none], [], SH, w) Q) else (if (w 86 v7.toNatClampNeg) = (kI 0) then EI X (d + 1) 46 (40, [some (.ref 84), some (.ref 72), some (.int v2), some (.int v3), some (.ref 73), some (.ref 74), some (.int v6), some (.int v7), some (.int (if (v8 + (kI 1)) < (w 74 v8.toNatClampNeg) then (w 74 v8.toNatClampNeg) else (v8 + (kI 1)))), some (.int (v9 + (kI 1))), none, none, none], [], SH, w) Q else EI X (d + 1) 46 (40, [some (.ref 84), some (.ref 72), some (.int v2), some (.int v3), some (.ref 73), some (.ref 74), some (.int v6), some (.int (v7 - (kI 1))), some (.int (v8 + (kI 1))), some (.int (v9 + (kI 1))), none, none, none], [], SH, w) Q))) else (if (w 73 v8.toNatClampNeg) = (kI 124) then (inB v7 64 = true ∧ (if (w 86 v7.toNatClampNeg) = (kI 1) then EI X (d + 1) 46 (40, [some (.ref 84), some (.ref 72), some (.int v2), some (.int v3), some (.ref 73), some (.ref 74), some (.int v6), some (.int v7), some (.int (if (v8 + (kI 1)) < (w 74 v8.toNatClampNeg) then (w 74 v8.toNatClampNeg) else (v8 + (kI 1)))), some (.int (v9 + (kI 1))), none, none, none], [], SH, w) Q else EI X (d + 1) 46 (40, [some (.ref 84), some (.ref 72), some (.int v2), some (.int v3), some (.ref 73), some (.ref 74), some (.int v6), some (.int (v7 - (kI 1))), some (.int (v8 + (kI 1))), some (.int (v9 + (kI 1))), none, none, none], [], SH, w) Q)) else (if v7 < (kI 1) then Q (kI 0) w else (inB v7 64 = true ∧ (if (F_48 (w 73 v8.toNatClampNeg) (w 86 v7.toNatClampNeg) w) = 0 then (inB (v7 + (kI (-1))) 64 = true ∧ (inB ((v7 + (kI (-1))) + (kI 1)) 64 = true ∧ (((w 73 v8.toNatClampNeg) = (kI 37) → ¬ (w 86 ((v7 + (kI (-1))) + (kI 1)).toNatClampNeg) = 0 → (¬ (w 86 ((v7 + (kI (-1))) + (kI 1)).toNatClampNeg) = 0)) ∧ ((¬ (w 73 v8.toNatClampNeg) = (kI 37) → ¬ (w 73 v8.toNatClampNeg) = (kI 42) → ¬ (w 73 v8.toNatClampNeg) = (kI 43) → ¬ (w 73 v8.toNatClampNeg) = (kI 45) → (w 73 v8.toNatClampNeg) = (kI 47) → ¬ (w 86 ((v7 + (kI (-1))) + (kI 1)).toNatClampNeg) = 0 → (¬ (w 86 ((v7 + (kI (-1))) + (kI 1)).toNatClampNeg) = 0)) ∧ (inB (v7 + (kI (-1))) 64 = true ∧ EI X (d + 1) 46 (40, [some (.ref 84), some (.ref 72), some (.int v2), some (.int v3), some (.ref 73), some (.ref 74), some (.int v6), some (.int (v7 + (kI (-1)))), some (.int (v8 + (kI 1))), some (.int (v9 + (kI 1))), none, none, none], [], SH, (up2 w 86 (v7 + (kI (-1))).toNatClampNeg (F_49 (w 73 v8.toNatClampNeg) (w 86 (v7 + (kI (-1))).toNatClampNeg) (w 86 ((v7 + (kI (-1))) + (kI 1)).toNatClampNeg) w))) Q))))) else Q (kI 0) w)))))) else Q (kI 0) w)))))))) : EI X (d + 1) 46 (40, [some (.ref 84), some (.ref 72), some (.int v2), some (.int v3), some (.ref 73), some (.ref 74), some (.int v6), some (.int v7), some (.int v8), some (.int v9), none, none, none], [], SH, w) Q := by
  unfold EI
  refine EV.steps cl_46 2 (q2 := (45, [some (.ref 84), some (.ref 72), some (.int v2), some (.int v3), some (.ref 73), some (.ref 74), some (.int v6), some (.int v7), some (.int v8), some (.int v9), none, none, none], [.int (kI 240), .int v9], SH, w)) rfl ?_
  refine EV.i_ge cl_46 rfl (fun h1 => ?_) (fun h1 => ?_)
  · skip
    rw [if_pos h1] at H
    refine EV.steps cl_46 1 (q2 := (299, [some (.ref 84), some (.ref 72), some (.int v2), some (.int v3), some (.ref 73), some (.ref 74), some (.int v6), some (.int v7), some (.int v8), some (.int v9), none, none, none], [.int v7], SH, w)) rfl ?_
    refine EV.z_ge cl_46 rfl (fun h2 => ?_) (fun h2 => ?_)
    · skip
      rw [if_pos h2] at H
      refine EV.steps cl_46 3 (q2 := (312, [some (.ref 84), some (.ref 72), some (.int v2), some (.int v3), some (.ref 73), some (.ref 74), some (.int v6), some (.int v7), some (.int v8), some (.int v9), none, none, none], [.int v7, .ref 86], SH, w)) rfl ?_
      obtain ⟨j3, H⟩ := H
      refine EV.iaload cl_46 rfl rfl (by decide) j3 ?_
      refine EV.ret cl_46 rfl rfl rfl ?_
      exact ⟨_, rfl, rfl, H⟩
    · skip
      rw [if_neg h2] at H
      refine EV.steps cl_46 2 (q2 := (313, [some (.ref 84), some (.ref 72), some (.int v2), some (.int v3), some (.ref 73), some (.ref 74), some (.int v6), some (.int v7), some (.int v8), some (.int v9), none, none, none], [.int (kI 0)], SH, w)) rfl ?_
      refine EV.ret cl_46 rfl rfl rfl ?_
      exact ⟨_, rfl, rfl, H⟩
  · skip
    rw [if_neg h1] at H
    refine EV.steps cl_46 2 (q2 := (52, [some (.ref 84), some (.ref 72), some (.int v2), some (.int v3), some (.ref 73), some (.ref 74), some (.int v6), some (.int v7), some (.int v8), some (.int v9), none, none, none], [.int v6, .int v8], SH, w)) rfl ?_
    refine EV.i_ge cl_46 rfl (fun h4 => ?_) (fun h4 => ?_)
    · skip
      rw [if_pos h4] at H
      refine EV.steps cl_46 1 (q2 := (299, [some (.ref 84), some (.ref 72), some (.int v2), some (.int v3), some (.ref 73), some (.ref 74), some (.int v6), some (.int v7), some (.int v8), some (.int v9), none, none, none], [.int v7], SH, w)) rfl ?_
      refine EV.z_ge cl_46 rfl (fun h5 => ?_) (fun h5 => ?_)
      · skip
        rw [if_pos h5] at H
        refine EV.steps cl_46 3 (q2 := (312, [some (.ref 84), some (.ref 72), some (.int v2), some (.int v3), some (.ref 73), some (.ref 74), some (.int v6), some (.int v7), some (.int v8), some (.int v9), none, none, none], [.int v7, .ref 86], SH, w)) rfl ?_
        obtain ⟨j6, H⟩ := H
        refine EV.iaload cl_46 rfl rfl (by decide) j6 ?_
        refine EV.ret cl_46 rfl rfl rfl ?_
        exact ⟨_, rfl, rfl, H⟩
      · skip
        rw [if_neg h5] at H
        refine EV.steps cl_46 2 (q2 := (313, [some (.ref 84), some (.ref 72), some (.int v2), some (.int v3), some (.ref 73), some (.ref 74), some (.int v6), some (.int v7), some (.int v8), some (.int v9), none, none, none], [.int (kI 0)], SH, w)) rfl ?_
        refine EV.ret cl_46 rfl rfl rfl ?_
        exact ⟨_, rfl, rfl, H⟩
    · skip
      rw [if_neg h4] at H
      refine EV.steps cl_46 2 (q2 := (59, [some (.ref 84), some (.ref 72), some (.int v2), some (.int v3), some (.ref 73), some (.ref 74), some (.int v6), some (.int v7), some (.int v8), some (.int v9), none, none, none], [.int v8, .ref 73], SH, w)) rfl ?_
      obtain ⟨j7, H⟩ := H
      refine EV.iaload cl_46 rfl rfl (by decide) j7 ?_
      refine EV.steps cl_46 3 (q2 := (66, [some (.ref 84), some (.ref 72), some (.int v2), some (.int v3), some (.ref 73), some (.ref 74), some (.int v6), some (.int v7), some (.int v8), some (.int v9), some (.int (w 73 v8.toNatClampNeg)), none, none], [.int v8, .ref 74], SH, w)) rfl ?_
      obtain ⟨j8, H⟩ := H
      refine EV.iaload cl_46 rfl rfl (by decide) j8 ?_
      refine EV.steps cl_46 4 (q2 := (75, [some (.ref 84), some (.ref 72), some (.int v2), some (.int v3), some (.ref 73), some (.ref 74), some (.int v6), some (.int v7), some (.int (v8 + (kI 1))), some (.int v9), some (.int (w 73 v8.toNatClampNeg)), some (.int (w 74 v8.toNatClampNeg)), none], [.int (kI 1), .int (w 73 v8.toNatClampNeg)], SH, w)) rfl ?_
      refine EV.i_eq cl_46 rfl (fun h9 => ?_) (fun h9 => ?_)
      · skip
        rw [if_pos h9] at H
        refine EV.steps cl_46 3 (q2 := (91, [some (.ref 84), some (.ref 72), some (.int v2), some (.int v3), some (.ref 73), some (.ref 74), some (.int v6), some (.int (v7 + (kI 1))), some (.int (v8 + (kI 1))), some (.int v9), some (.int (w 73 v8.toNatClampNeg)), some (.int (w 74 v8.toNatClampNeg)), none], [.int (kI 64), .int (v7 + (kI 1))], SH, w)) rfl ?_
        refine EV.i_lt cl_46 rfl (fun h10 => ?_) (fun h10 => ?_)
        · skip
          rw [if_pos h10] at H
          refine EV.steps cl_46 5 (q2 := (105, [some (.ref 84), some (.ref 72), some (.int v2), some (.int v3), some (.ref 73), some (.ref 74), some (.int v6), some (.int (v7 + (kI 1))), some (.int (v8 + (kI 1))), some (.int v9), some (.int (w 73 v8.toNatClampNeg)), some (.int (w 74 v8.toNatClampNeg)), none], [.int (kI 1), .int (w 73 v8.toNatClampNeg), .int (v7 + (kI 1)), .ref 86], SH, w)) rfl ?_
          refine EV.i_ne cl_46 rfl (fun h11 => ?_) (fun h11 => ?_)
          · skip
            exact absurd h9 h11
          · skip
            refine EV.steps cl_46 2 (q2 := (119, [some (.ref 84), some (.ref 72), some (.int v2), some (.int v3), some (.ref 73), some (.ref 74), some (.int v6), some (.int (v7 + (kI 1))), some (.int (v8 + (kI 1))), some (.int v9), some (.int (w 73 v8.toNatClampNeg)), some (.int (w 74 v8.toNatClampNeg)), none], [.int (w 74 v8.toNatClampNeg), .int (v7 + (kI 1)), .ref 86], SH, w)) rfl ?_
            obtain ⟨j12, H⟩ := H
            refine EV.iastore cl_46 rfl rfl (by decide) j12 ?_
            refine EV.steps cl_46 3 (q2 := (40, [some (.ref 84), some (.ref 72), some (.int v2), some (.int v3), some (.ref 73), some (.ref 74), some (.int v6), some (.int (v7 + (kI 1))), some (.int (v8 + (kI 1))), some (.int (v9 + (kI 1))), some (.int (w 73 v8.toNatClampNeg)), some (.int (w 74 v8.toNatClampNeg)), none], [], SH, (up2 w 86 (v7 + (kI 1)).toNatClampNeg (w 74 v8.toNatClampNeg)))) rfl ?_
            exact EV.weak (l := [some (.ref 84), some (.ref 72), some (.int v2), some (.int v3), some (.ref 73), some (.ref 74), some (.int v6), some (.int (v7 + (kI 1))), some (.int (v8 + (kI 1))), some (.int (v9 + (kI 1))), none, none, none]) ⟨rfl, ⟨rfl, ⟨rfl, ⟨rfl, ⟨rfl, ⟨rfl, ⟨rfl, ⟨rfl, ⟨rfl, ⟨rfl, ⟨rfl, ⟨rfl, ⟨trivial, trivial⟩⟩⟩⟩⟩⟩⟩⟩⟩⟩⟩⟩⟩ H
        · skip
          rw [if_neg h10] at H
          refine EV.steps cl_46 1 (q2 := (95, [some (.ref 84), some (.ref 72), some (.int v2), some (.int v3), some (.ref 73), some (.ref 74), some (.int v6), some (.int (v7 + (kI 1))), some (.int (v8 + (kI 1))), some (.int v9), some (.int (w 73 v8.toNatClampNeg)), some (.int (w 74 v8.toNatClampNeg)), none], [.int (kI 0)], SH, w)) rfl ?_
          refine EV.ret cl_46 rfl rfl rfl ?_
          exact ⟨_, rfl, rfl, H⟩
      · skip
        rw [if_neg h9] at H
        refine EV.steps cl_46 2 (q2 := (81, [some (.ref 84), some (.ref 72), some (.int v2), some (.int v3), some (.ref 73), some (.ref 74), some (.int v6), some (.int v7), some (.int (v8 + (kI 1))), some (.int v9), some (.int (w 73 v8.toNatClampNeg)), some (.int (w 74 v8.toNatClampNeg)), none], [.int (kI 2), .int (w 73 v8.toNatClampNeg)], SH, w)) rfl ?_
        refine EV.i_ne cl_46 rfl (fun h13 => ?_) (fun h13 => ?_)
        · skip
          rw [if_neg h13] at H
          refine EV.steps cl_46 1 (q2 := (125, [some (.ref 84), some (.ref 72), some (.int v2), some (.int v3), some (.ref 73), some (.ref 74), some (.int v6), some (.int v7), some (.int (v8 + (kI 1))), some (.int v9), some (.int (w 73 v8.toNatClampNeg)), some (.int (w 74 v8.toNatClampNeg)), none], [.int v7], SH, w)) rfl ?_
          refine EV.z_ge cl_46 rfl (fun h14 => ?_) (fun h14 => ?_)
          · skip
            rw [if_pos h14] at H
            refine EV.steps cl_46 2 (q2 := (134, [some (.ref 84), some (.ref 72), some (.int v2), some (.int v3), some (.ref 73), some (.ref 74), some (.int v6), some (.int v7), some (.int (v8 + (kI 1))), some (.int v9), some (.int (w 73 v8.toNatClampNeg)), some (.int (w 74 v8.toNatClampNeg)), none], [.int (kI 33), .int (w 73 v8.toNatClampNeg)], SH, w)) rfl ?_
            refine EV.i_ne cl_46 rfl (fun h15 => ?_) (fun h15 => ?_)
            · skip
              rw [if_neg h15] at H
              refine EV.steps cl_46 2 (q2 := (160, [some (.ref 84), some (.ref 72), some (.int v2), some (.int v3), some (.ref 73), some (.ref 74), some (.int v6), some (.int v7), some (.int (v8 + (kI 1))), some (.int v9), some (.int (w 73 v8.toNatClampNeg)), some (.int (w 74 v8.toNatClampNeg)), none], [.int (kI 38), .int (w 73 v8.toNatClampNeg)], SH, w)) rfl ?_
              refine EV.i_eq cl_46 rfl (fun h16 => ?_) (fun h16 => ?_)
              · skip
                rw [if_pos h16] at H
                refine EV.steps cl_46 3 (q2 := (176, [some (.ref 84), some (.ref 72), some (.int v2), some (.int v3), some (.ref 73), some (.ref 74), some (.int v6), some (.int v7), some (.int (v8 + (kI 1))), some (.int v9), some (.int (w 73 v8.toNatClampNeg)), some (.int (w 74 v8.toNatClampNeg)), none], [.int v7, .ref 86], SH, w)) rfl ?_
                obtain ⟨j17, H⟩ := H
                refine EV.iaload cl_46 rfl rfl (by decide) j17 ?_
                refine EV.steps cl_46 2 (q2 := (181, [some (.ref 84), some (.ref 72), some (.int v2), some (.int v3), some (.ref 73), some (.ref 74), some (.int v6), some (.int v7), some (.int (v8 + (kI 1))), some (.int v9), some (.int (w 73 v8.toNatClampNeg)), some (.int (w 74 v8.toNatClampNeg)), none], [.int (kI 124), .int (w 73 v8.toNatClampNeg), .int (w 86 v7.toNatClampNeg)], SH, w)) rfl ?_
                refine EV.i_ne cl_46 rfl (fun h18 => ?_) (fun h18 => ?_)
                · skip
                  rw [if_neg h18] at H
                  refine EV.steps cl_46 1 (q2 := (189, [some (.ref 84), some (.ref 72), some (.int v2), some (.int v3), some (.ref 73), some (.ref 74), some (.int v6), some (.int v7), some (.int (v8 + (kI 1))), some (.int v9), some (.int (w 73 v8.toNatClampNeg)), some (.int (w 74 v8.toNatClampNeg)), none], [.int (kI 0), .int (w 86 v7.toNatClampNeg)], SH, w)) rfl ?_
                  refine EV.i_ne cl_46 rfl (fun h19 => ?_) (fun h19 => ?_)
                  · skip
                    rw [if_neg h19] at H
                    refine EV.steps cl_46 15 (q2 := (40, [some (.ref 84), some (.ref 72), some (.int v2), some (.int v3), some (.ref 73), some (.ref 74), some (.int v6), some (.int (v7 - (kI 1))), some (.int (v8 + (kI 1))), some (.int (v9 + (kI 1))), some (.int (w 73 v8.toNatClampNeg)), some (.int (w 74 v8.toNatClampNeg)), some (.int (kI 0))], [], SH, w)) rfl ?_
                    exact EV.weak (l := [some (.ref 84), some (.ref 72), some (.int v2), some (.int v3), some (.ref 73), some (.ref 74), some (.int v6), some (.int (v7 - (kI 1))), some (.int (v8 + (kI 1))), some (.int (v9 + (kI 1))), none, none, none]) ⟨rfl, ⟨rfl, ⟨rfl, ⟨rfl, ⟨rfl, ⟨rfl, ⟨rfl, ⟨rfl, ⟨rfl, ⟨rfl, ⟨rfl, ⟨rfl, ⟨rfl, trivial⟩⟩⟩⟩⟩⟩⟩⟩⟩⟩⟩⟩⟩ H
                  · skip
                    rw [if_pos h19] at H
                    refine EV.steps cl_46 18 (q2 := (40, [some (.ref 84), some (.ref 72), some (.int v2), some (.int v3), some (.ref 73), some (.ref 74), some (.int v6), some (.int v7), some (.int (if (v8 + (kI 1)) < (w 74 v8.toNatClampNeg) then (w 74 v8.toNatClampNeg) else (v8 + (kI 1)))), some (.int (v9 + (kI 1))), some (.int (w 73 v8.toNatClampNeg)), some (.int (w 74 v8.toNatClampNeg)), some (.int (kI 1))], [], SH, w)) rfl ?_
                    exact EV.weak (l := [some (.ref 84), some (.ref 72), some (.int v2), some (.int v3), some (.ref 73), some (.ref 74), some (.int v6), some (.int v7), some (.int (if (v8 + (kI 1)) < (w 74 v8.toNatClampNeg) then (w 74 v8.toNatClampNeg) else (v8 + (kI 1)))), some (.int (v9 + (kI 1))), none, none, none]) ⟨rfl, ⟨rfl, ⟨rfl, ⟨rfl, ⟨rfl, ⟨rfl, ⟨rfl, ⟨rfl, ⟨rfl, ⟨rfl, ⟨rfl, ⟨rfl, ⟨rfl, trivial⟩⟩⟩⟩⟩⟩⟩⟩⟩⟩⟩⟩⟩ H
                · skip
                  rw [if_pos h18] at H
                  refine EV.steps cl_46 2 (q2 := (189, [some (.ref 84), some (.ref 72), some (.int v2), some (.int v3), some (.ref 73), some (.ref 74), some (.int v6), some (.int v7), some (.int (v8 + (kI 1))), some (.int v9), some (.int (w 73 v8.toNatClampNeg)), some (.int (w 74 v8.toNatClampNeg)), none], [.int (kI 1), .int (w 86 v7.toNatClampNeg)], SH, w)) rfl ?_
                  refine EV.i_ne cl_46 rfl (fun h20 => ?_) (fun h20 => ?_)
                  · skip
                    rw [if_neg h20] at H
                    refine EV.steps cl_46 15 (q2 := (40, [some (.ref 84), some (.ref 72), some (.int v2), some (.int v3), some (.ref 73), some (.ref 74), some (.int v6), some (.int (v7 - (kI 1))), some (.int (v8 + (kI 1))), some (.int (v9 + (kI 1))), some (.int (w 73 v8.toNatClampNeg)), some (.int (w 74 v8.toNatClampNeg)), some (.int (kI 0))], [], SH, w)) rfl ?_
                    exact EV.weak (l := [some (.ref 84), some (.ref 72), some (.int v2), some (.int v3), some (.ref 73), some (.ref 74), some (.int v6), some (.int (v7 - (kI 1))), some (.int (v8 + (kI 1))), some (.int (v9 + (kI 1))), none, none, none]) ⟨rfl, ⟨rfl, ⟨rfl, ⟨rfl, ⟨rfl, ⟨rfl, ⟨rfl, ⟨rfl, ⟨rfl, ⟨rfl, ⟨rfl, ⟨rfl, ⟨rfl, trivial⟩⟩⟩⟩⟩⟩⟩⟩⟩⟩⟩⟩⟩ H
                  · skip
                    rw [if_pos h20] at H
                    refine EV.steps cl_46 18 (q2 := (40, [some (.ref 84), some (.ref 72), some (.int v2), some (.int v3), some (.ref 73), some (.ref 74), some (.int v6), some (.int v7), some (.int (if (v8 + (kI 1)) < (w 74 v8.toNatClampNeg) then (w 74 v8.toNatClampNeg) else (v8 + (kI 1)))), some (.int (v9 + (kI 1))), some (.int (w 73 v8.toNatClampNeg)), some (.int (w 74 v8.toNatClampNeg)), some (.int (kI 1))], [], SH, w)) rfl ?_
                    exact EV.weak (l := [some (.ref 84), some (.ref 72), some (.int v2), some (.int v3), some (.ref 73), some (.ref 74), some (.int v6), some (.int v7), some (.int (if (v8 + (kI 1)) < (w 74 v8.toNatClampNeg) then (w 74 v8.toNatClampNeg) else (v8 + (kI 1)))), some (.int (v9 + (kI 1))), none, none, none]) ⟨rfl, ⟨rfl, ⟨rfl, ⟨rfl, ⟨rfl, ⟨rfl, ⟨rfl, ⟨rfl, ⟨rfl, ⟨rfl, ⟨rfl, ⟨rfl, ⟨rfl, trivial⟩⟩⟩⟩⟩⟩⟩⟩⟩⟩⟩⟩⟩ H
              · skip
                rw [if_neg h16] at H
                refine EV.steps cl_46 2 (q2 := (167, [some (.ref 84), some (.ref 72), some (.int v2), some (.int v3), some (.ref 73), some (.ref 74), some (.int v6), some (.int v7), some (.int (v8 + (kI 1))), some (.int v9), some (.int (w 73 v8.toNatClampNeg)), some (.int (w 74 v8.toNatClampNeg)), none], [.int (kI 124), .int (w 73 v8.toNatClampNeg)], SH, w)) rfl ?_
                refine EV.i_ne cl_46 rfl (fun h21 => ?_) (fun h21 => ?_)
                · skip
                  rw [if_neg h21] at H
                  refine EV.steps cl_46 2 (q2 := (240, [some (.ref 84), some (.ref 72), some (.int v2), some (.int v3), some (.ref 73), some (.ref 74), some (.int v6), some (.int v7), some (.int (v8 + (kI 1))), some (.int v9), some (.int (w 73 v8.toNatClampNeg)), some (.int (w 74 v8.toNatClampNeg)), none], [.int (kI 1), .int v7], SH, w)) rfl ?_
                  refine EV.i_lt cl_46 rfl (fun h22 => ?_) (fun h22 => ?_)
                  · skip
                    rw [if_pos h22] at H
                    refine EV.steps cl_46 1 (q2 := (259, [some (.ref 84), some (.ref 72), some (.int v2), some (.int v3), some (.ref 73), some (.ref 74), some (.int v6), some (.int v7), some (.int (v8 + (kI 1))), some (.int v9), some (.int (w 73 v8.toNatClampNeg)), some (.int (w 74 v8.toNatClampNeg)), none], [.int (kI 0)], SH, w)) rfl ?_
                    refine EV.ret cl_46 rfl rfl rfl ?_
                    exact ⟨_, rfl, rfl, H⟩
                  · skip
                    rw [if_neg h22] at H
                    refine EV.steps cl_46 4 (q2 := (251, [some (.ref 84), some (.ref 72), some (.int v2), some (.int v3), some (.ref 73), some (.ref 74), some (.int v6), some (.int v7), some (.int (v8 + (kI 1))), some (.int v9), some (.int (w 73 v8.toNatClampNeg)), some (.int (w 74 v8.toNatClampNeg)), none], [.int v7, .ref 86, .int (w 73 v8.toNatClampNeg)], SH, w)) rfl ?_
                    obtain ⟨j23, H⟩ := H
                    refine EV.iaload cl_46 rfl rfl (by decide) j23 ?_
                    refine EV.callF (kc := 48) (av := [.int (w 73 v8.toNatClampNeg), .int (w 86 v7.toNatClampNeg)]) (r := []) (rv := some (.int (F_48 (w 73 v8.toNatClampNeg) (w 86 v7.toNatClampNeg) w))) (w2 := w) cl_46 rfl rfl rfl (m_48 w (w 73 v8.toNatClampNeg) (w 86 v7.toNatClampNeg)) ?_
                    refine EV.z_eq cl_46 rfl (fun h24 => ?_) (fun h24 => ?_)
                    · skip
                      rw [if_pos h24] at H
                      refine EV.steps cl_46 8 (q2 := (277, [some (.ref 84), some (.ref 72), some (.int v2), some (.int v3), some (.ref 73), some (.ref 74), some (.int v6), some (.int (v7 + (kI (-1)))), some (.int (v8 + (kI 1))), some (.int v9), some (.int (w 73 v8.toNatClampNeg)), some (.int (w 74 v8.toNatClampNeg)), none], [.int (v7 + (kI (-1))), .ref 86, .int (w 73 v8.toNatClampNeg), .int (v7 + (kI (-1))), .ref 86], SH, w)) rfl ?_
                      obtain ⟨j25, H⟩ := H
                      refine EV.iaload cl_46 rfl rfl (by decide) j25 ?_
                      refine EV.steps cl_46 5 (q2 := (286, [some (.ref 84), some (.ref 72), some (.int v2), some (.int v3), some (.ref 73), some (.ref 74), some (.int v6), some (.int (v7 + (kI (-1)))), some (.int (v8 + (kI 1))), some (.int v9), some (.int (w 73 v8.toNatClampNeg)), some (.int (w 74 v8.toNatClampNeg)), none], [.int ((v7 + (kI (-1))) + (kI 1)), .ref 86, .int (w 86 (v7 + (kI (-1))).toNatClampNeg), .int (w 73 v8.toNatClampNeg), .int (v7 + (kI (-1))), .ref 86], SH, w)) rfl ?_
                      obtain ⟨j26, H⟩ := H
                      refine EV.iaload cl_46 rfl rfl (by decide) j26 ?_
                      obtain ⟨j27, H⟩ := H
                      obtain ⟨j28, H⟩ := H
                      refine EV.callF (kc := 49) (av := [.int (w 73 v8.toNatClampNeg), .int (w 86 (v7 + (kI (-1))).toNatClampNeg), .int (w 86 ((v7 + (kI (-1))) + (kI 1)).toNatClampNeg)]) (r := [.int (v7 + (kI (-1))), .ref 86]) (rv := some (.int (F_49 (w 73 v8.toNatClampNeg) (w 86 (v7 + (kI (-1))).toNatClampNeg) (w 86 ((v7 + (kI (-1))) + (kI 1)).toNatClampNeg) w))) (w2 := w) cl_46 rfl rfl rfl (m_49 w (w 73 v8.toNatClampNeg) (w 86 (v7 + (kI (-1))).toNatClampNeg) (w 86 ((v7 + (kI (-1))) + (kI 1)).toNatClampNeg) j27 j28) ?_
                      obtain ⟨j29, H⟩ := H
                      refine EV.iastore cl_46 rfl rfl (by decide) j29 ?_
                      refine EV.steps cl_46 2 (q2 := (40, [some (.ref 84), some (.ref 72), some (.int v2), some (.int v3), some (.ref 73), some (.ref 74), some (.int v6), some (.int (v7 + (kI (-1)))), some (.int (v8 + (kI 1))), some (.int (v9 + (kI 1))), some (.int (w 73 v8.toNatClampNeg)), some (.int (w 74 v8.toNatClampNeg)), none], [], SH, (up2 w 86 (v7 + (kI (-1))).toNatClampNeg (F_49 (w 73 v8.toNatClampNeg) (w 86 (v7 + (kI (-1))).toNatClampNeg) (w 86 ((v7 + (kI (-1))) + (kI 1)).toNatClampNeg) w)))) rfl ?_
                      exact EV.weak (l := [some (.ref 84), some (.ref 72), some (.int v2), some (.int v3), some (.ref 73), some (.ref 74), some (.int v6), some (.int (v7 + (kI (-1)))), some (.int (v8 + (kI 1))), some (.int (v9 + (kI 1))), none, none, none]) ⟨rfl, ⟨rfl, ⟨rfl, ⟨rfl, ⟨rfl, ⟨rfl, ⟨rfl, ⟨rfl, ⟨rfl, ⟨rfl, ⟨rfl, ⟨rfl, ⟨trivial, trivial⟩⟩⟩⟩⟩⟩⟩⟩⟩⟩⟩⟩⟩ H
                    · skip
                      rw [if_neg h24] at H
                      refine EV.steps cl_46 1 (q2 := (259, [some (.ref 84), some (.ref 72), some (.int v2), some (.int v3), some (.ref 73), some (.ref 74), some (.int v6), some (.int v7), some (.int (v8 + (kI 1))), some (.int v9), some (.int (w 73 v8.toNatClampNeg)), some (.int (w 74 v8.toNatClampNeg)), none], [.int (kI 0)], SH, w)) rfl ?_
                      refine EV.ret cl_46 rfl rfl rfl ?_
                      exact ⟨_, rfl, rfl, H⟩
                · skip
                  rw [if_pos h21] at H
                  refine EV.steps cl_46 3 (q2 := (176, [some (.ref 84), some (.ref 72), some (.int v2), some (.int v3), some (.ref 73), some (.ref 74), some (.int v6), some (.int v7), some (.int (v8 + (kI 1))), some (.int v9), some (.int (w 73 v8.toNatClampNeg)), some (.int (w 74 v8.toNatClampNeg)), none], [.int v7, .ref 86], SH, w)) rfl ?_
                  obtain ⟨j30, H⟩ := H
                  refine EV.iaload cl_46 rfl rfl (by decide) j30 ?_
                  refine EV.steps cl_46 2 (q2 := (181, [some (.ref 84), some (.ref 72), some (.int v2), some (.int v3), some (.ref 73), some (.ref 74), some (.int v6), some (.int v7), some (.int (v8 + (kI 1))), some (.int v9), some (.int (w 73 v8.toNatClampNeg)), some (.int (w 74 v8.toNatClampNeg)), none], [.int (kI 124), .int (w 73 v8.toNatClampNeg), .int (w 86 v7.toNatClampNeg)], SH, w)) rfl ?_
                  refine EV.i_ne cl_46 rfl (fun h31 => ?_) (fun h31 => ?_)
                  · skip
                    exact absurd h21 h31
                  · skip
                    refine EV.steps cl_46 2 (q2 := (189, [some (.ref 84), some (.ref 72), some (.int v2), some (.int v3), some (.ref 73), some (.ref 74), some (.int v6), some (.int v7), some (.int (v8 + (kI 1))), some (.int v9), some (.int (w 73 v8.toNatClampNeg)), some (.int (w 74 v8.toNatClampNeg)), none], [.int (kI 1), .int (w 86 v7.toNatClampNeg)], SH, w)) rfl ?_
                    refine EV.i_ne cl_46 rfl (fun h32 => ?_) (fun h32 => ?_)
                    · skip
                      rw [if_neg h32] at H
                      refine EV.steps cl_46 15 (q2 := (40, [some (.ref 84), some (.ref 72), some (.int v2), some (.int v3), some (.ref 73), some (.ref 74), some (.int v6), some (.int (v7 - (kI 1))), some (.int (v8 + (kI 1))), some (.int (v9 + (kI 1))), some (.int (w 73 v8.toNatClampNeg)), some (.int (w 74 v8.toNatClampNeg)), some (.int (kI 0))], [], SH, w)) rfl ?_
                      exact EV.weak (l := [some (.ref 84), some (.ref 72), some (.int v2), some (.int v3), some (.ref 73), some (.ref 74), some (.int v6), some (.int (v7 - (kI 1))), some (.int (v8 + (kI 1))), some (.int (v9 + (kI 1))), none, none, none]) ⟨rfl, ⟨rfl, ⟨rfl, ⟨rfl, ⟨rfl, ⟨rfl, ⟨rfl, ⟨rfl, ⟨rfl, ⟨rfl, ⟨rfl, ⟨rfl, ⟨rfl, trivial⟩⟩⟩⟩⟩⟩⟩⟩⟩⟩⟩⟩⟩ H
                    · skip
                      rw [if_pos h32] at H
                      refine EV.steps cl_46 18 (q2 := (40, [some (.ref 84), some (.ref 72), some (.int v2), some (.int v3), some (.ref 73), some (.ref 74), some (.int v6), some (.int v7), some (.int (if (v8 + (kI 1)) < (w 74 v8.toNatClampNeg) then (w 74 v8.toNatClampNeg) else (v8 + (kI 1)))), some (.int (v9 + (kI 1))), some (.int (w 73 v8.toNatClampNeg)), some (.int (w 74 v8.toNatClampNeg)), some (.int (kI 1))], [], SH, w)) rfl ?_
                      exact EV.weak (l := [some (.ref 84), some (.ref 72), some (.int v2), some (.int v3), some (.ref 73), some (.ref 74), some (.int v6), some (.int v7), some (.int (if (v8 + (kI 1)) < (w 74 v8.toNatClampNeg) then (w 74 v8.toNatClampNeg) else (v8 + (kI 1)))), some (.int (v9 + (kI 1))), none, none, none]) ⟨rfl, ⟨rfl, ⟨rfl, ⟨rfl, ⟨rfl, ⟨rfl, ⟨rfl, ⟨rfl, ⟨rfl, ⟨rfl, ⟨rfl, ⟨rfl, ⟨rfl, trivial⟩⟩⟩⟩⟩⟩⟩⟩⟩⟩⟩⟩⟩ H
            · skip
              rw [if_pos h15] at H
              refine EV.steps cl_46 7 (q2 := (150, [some (.ref 84), some (.ref 72), some (.int v2), some (.int v3), some (.ref 73), some (.ref 74), some (.int v6), some (.int v7), some (.int (v8 + (kI 1))), some (.int v9), some (.int (w 73 v8.toNatClampNeg)), some (.int (w 74 v8.toNatClampNeg)), none], [.int v7, .ref 86, .int (kI 1), .int v7, .ref 86], SH, w)) rfl ?_
              obtain ⟨j33, H⟩ := H
              refine EV.iaload cl_46 rfl rfl (by decide) j33 ?_
              refine EV.steps cl_46 1 (q2 := (152, [some (.ref 84), some (.ref 72), some (.int v2), some (.int v3), some (.ref 73), some (.ref 74), some (.int v6), some (.int v7), some (.int (v8 + (kI 1))), some (.int v9), some (.int (w 73 v8.toNatClampNeg)), some (.int (w 74 v8.toNatClampNeg)), none], [.int ((kI 1) - (w 86 v7.toNatClampNeg)), .int v7, .ref 86], SH, w)) rfl ?_
              obtain ⟨j34, H⟩ := H
              refine EV.iastore cl_46 rfl rfl (by decide) j34 ?_
              refine EV.steps cl_46 3 (q2 := (40, [some (.ref 84), some (.ref 72), some (.int v2), some (.int v3), some (.ref 73), some (.ref 74), some (.int v6), some (.int v7), some (.int (v8 + (kI 1))), some (.int (v9 + (kI 1))), some (.int (w 73 v8.toNatClampNeg)), some (.int (w 74 v8.toNatClampNeg)), none], [], SH, (up2 w 86 v7.toNatClampNeg ((kI 1) - (w 86 v7.toNatClampNeg))))) rfl ?_
              exact EV.weak (l := [some (.ref 84), some (.ref 72), some (.int v2), some (.int v3), some (.ref 73), some (.ref 74), some (.int v6), some (.int v7), some (.int (v8 + (kI 1))), some (.int (v9 + (kI 1))), none, none, none]) ⟨rfl, ⟨rfl, ⟨rfl, ⟨rfl, ⟨rfl, ⟨rfl, ⟨rfl, ⟨rfl, ⟨rfl, ⟨rfl, ⟨rfl, ⟨rfl, ⟨trivial, trivial⟩⟩⟩⟩⟩⟩⟩⟩⟩⟩⟩⟩⟩ H
          · skip
            rw [if_neg h14] at H
            refine EV.steps cl_46 1 (q2 := (129, [some (.ref 84), some (.ref 72), some (.int v2), some (.int v3), some (.ref 73), some (.ref 74), some (.int v6), some (.int v7), some (.int (v8 + (kI 1))), some (.int v9), some (.int (w 73 v8.toNatClampNeg)), some (.int (w 74 v8.toNatClampNeg)), none], [.int (kI 0)], SH, w)) rfl ?_
            refine EV.ret cl_46 rfl rfl rfl ?_
            exact ⟨_, rfl, rfl, H⟩
        · skip
          rw [if_pos h13] at H
          refine EV.steps cl_46 3 (q2 := (91, [some (.ref 84), some (.ref 72), some (.int v2), some (.int v3), some (.ref 73), some (.ref 74), some (.int v6), some (.int (v7 + (kI 1))), some (.int (v8 + (kI 1))), some (.int v9), some (.int (w 73 v8.toNatClampNeg)), some (.int (w 74 v8.toNatClampNeg)), none], [.int (kI 64), .int (v7 + (kI 1))], SH, w)) rfl ?_
          refine EV.i_lt cl_46 rfl (fun h35 => ?_) (fun h35 => ?_)
          · skip
            rw [if_pos h35] at H
            refine EV.steps cl_46 5 (q2 := (105, [some (.ref 84), some (.ref 72), some (.int v2), some (.int v3), some (.ref 73), some (.ref 74), some (.int v6), some (.int (v7 + (kI 1))), some (.int (v8 + (kI 1))), some (.int v9), some (.int (w 73 v8.toNatClampNeg)), some (.int (w 74 v8.toNatClampNeg)), none], [.int (kI 1), .int (w 73 v8.toNatClampNeg), .int (v7 + (kI 1)), .ref 86], SH, w)) rfl ?_
            refine EV.i_ne cl_46 rfl (fun h36 => ?_) (fun h36 => ?_)
            · skip
              refine EV.steps cl_46 2 (q2 := (116, [some (.ref 84), some (.ref 72), some (.int v2), some (.int v3), some (.ref 73), some (.ref 74), some (.int v6), some (.int (v7 + (kI 1))), some (.int (v8 + (kI 1))), some (.int v9), some (.int (w 73 v8.toNatClampNeg)), some (.int (w 74 v8.toNatClampNeg)), none], [.int (w 74 v8.toNatClampNeg), .ref 84, .int (v7 + (kI 1)), .ref 86], SH, w)) rfl ?_
              obtain ⟨j37, H⟩ := H
              refine EV.callF (kc := 47) (av := [.ref 84, .int (w 74 v8.toNatClampNeg)]) (r := [.int (v7 + (kI 1)), .ref 86]) (rv := some (.int (F_47_84 (w 74 v8.toNatClampNeg) w))) (w2 := w) cl_46 rfl rfl rfl (m_47_84 w (w 74 v8.toNatClampNeg) j37) ?_
              obtain ⟨j38, H⟩ := H
              refine EV.iastore cl_46 rfl rfl (by decide) j38 ?_
              refine EV.steps cl_46 3 (q2 := (40, [some (.ref 84), some (.ref 72), some (.int v2), some (.int v3), some (.ref 73), some (.ref 74), some (.int v6), some (.int (v7 + (kI 1))), some (.int (v8 + (kI 1))), some (.int (v9 + (kI 1))), some (.int (w 73 v8.toNatClampNeg)), some (.int (w 74 v8.toNatClampNeg)), none], [], SH, (up2 w 86 (v7 + (kI 1)).toNatClampNeg (F_47_84 (w 74 v8.toNatClampNeg) w)))) rfl ?_
              exact EV.weak (l := [some (.ref 84), some (.ref 72), some (.int v2), some (.int v3), some (.ref 73), some (.ref 74), some (.int v6), some (.int (v7 + (kI 1))), some (.int (v8 + (kI 1))), some (.int (v9 + (kI 1))), none, none, none]) ⟨rfl, ⟨rfl, ⟨rfl, ⟨rfl, ⟨rfl, ⟨rfl, ⟨rfl, ⟨rfl, ⟨rfl, ⟨rfl, ⟨rfl, ⟨rfl, ⟨trivial, trivial⟩⟩⟩⟩⟩⟩⟩⟩⟩⟩⟩⟩⟩ H
            · skip
              exact absurd h36 h9
          · skip
            rw [if_neg h35] at H
            refine EV.steps cl_46 1 (q2 := (95, [some (.ref 84), some (.ref 72), some (.int v2), some (.int v3), some (.ref 73), some (.ref 74), some (.int v6), some (.int (v7 + (kI 1))), some (.int (v8 + (kI 1))), some (.int v9), some (.int (w 73 v8.toNatClampNeg)), some (.int (w 74 v8.toNatClampNeg)), none], [.int (kI 0)], SH, w)) rfl ?_
            refine EV.ret cl_46 rfl rfl rfl ?_
            exact ⟨_, rfl, rfl, H⟩
