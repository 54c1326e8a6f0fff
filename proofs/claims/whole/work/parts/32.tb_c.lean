theorem t196_110_at95 {X : Scr} {d : Nat} {Q : Int32 → Wd → Prop} (w : Wd) (v1 : Int32) (v2 : Int32) (v3 : Int32)
    (H : (if (w 110 16) ≤ v3 then EI X (d + 2) 196 (123, [some (.ref 110), some (.int v1), some (.int v2), some (.int (kI 0))], [], SH, w) Q else (inB v3 260 = true ∧ (inB v3 260 = true ∧ EI X (d + 2) 196 (95, [some (.ref 110), some (.int v1), some (.int v2), some (.int (v3 + (kI 1)))], [], SH, (up2 w 124 v3.toNatClampNeg (w 118 v3.toNatClampNeg))) Q)))) : EI X (d + 2) 196 (95, [some (.ref 110), some (.int v1), some (.int v2), some (.int v3)], [], SH, w) Q := by
  unfold EI
  refine EV.steps cl_196 3 (q2 := (100, [some (.ref 110), some (.int v1), some (.int v2), some (.int v3)], [.int (w 110 16), .int v3], SH, w)) rfl ?_
  refine EV.i_ge cl_196 rfl (fun h1 => ?_) (fun h1 => ?_)
  · skip
    rw [if_pos h1] at H
    refine EV.steps cl_196 2 (q2 := (123, [some (.ref 110), some (.int v1), some (.int v2), some (.int (kI 0))], [], SH, w)) rfl ?_
    exact H
  · skip
    rw [if_neg h1] at H
    refine EV.steps cl_196 6 (q2 := (113, [some (.ref 110), some (.int v1), some (.int v2), some (.int v3)], [.int v3, .ref 118, .int v3, .ref 124], SH, w)) rfl ?_
    obtain ⟨j2, H⟩ := H
    refine EV.iaload cl_196 rfl rfl (by decide) j2 ?_
    obtain ⟨j3, H⟩ := H
    refine EV.iastore cl_196 rfl rfl (by decide) j3 ?_
    refine EV.steps cl_196 2 (q2 := (95, [some (.ref 110), some (.int v1), some (.int v2), some (.int (v3 + (kI 1)))], [], SH, (up2 w 124 v3.toNatClampNeg (w 118 v3.toNatClampNeg)))) rfl ?_
    exact H
theorem t196_110_at123 {X : Scr} {d : Nat} {Q : Int32 → Wd → Prop} (w : Wd) (v1 : Int32) (v2 : Int32) (v3 : Int32)
    (H : (if (w 110 18) ≤ v3 then Q (w 110 18) w else (inB v3 16 = true ∧ (inB v3 16 = true ∧ (inB v3 16 = true ∧ (inB v3 16 = true ∧ (inB v3 16 = true ∧ (inB v3 16 = true ∧ (inB v3 16 = true ∧ (inB v3 16 = true ∧ EI X (d + 2) 196 (123, [some (.ref 110), some (.int v1), some (.int v2), some (.int (v3 + (kI 1)))], [], SH, (up2 (up2 (up2 (up2 w 125 v3.toNatClampNeg (w 120 v3.toNatClampNeg)) 126 v3.toNatClampNeg (w 121 v3.toNatClampNeg)) 127 v3.toNatClampNeg (w 122 v3.toNatClampNeg)) 128 v3.toNatClampNeg (w 123 v3.toNatClampNeg))) Q)))))))))) : EI X (d + 2) 196 (123, [some (.ref 110), some (.int v1), some (.int v2), some (.int v3)], [], SH, w) Q := by
  unfold EI
  refine EV.steps cl_196 3 (q2 := (128, [some (.ref 110), some (.int v1), some (.int v2), some (.int v3)], [.int (w 110 18), .int v3], SH, w)) rfl ?_
  refine EV.i_ge cl_196 rfl (fun h1 => ?_) (fun h1 => ?_)
  · skip
    rw [if_pos h1] at H
    refine EV.steps cl_196 2 (q2 := (189, [some (.ref 110), some (.int v1), some (.int v2), some (.int v3)], [.int (w 110 18)], SH, w)) rfl ?_
    refine EV.ret cl_196 rfl rfl rfl ?_
    exact ⟨_, rfl, rfl, H⟩
  · skip
    rw [if_neg h1] at H
    refine EV.steps cl_196 6 (q2 := (141, [some (.ref 110), some (.int v1), some (.int v2), some (.int v3)], [.int v3, .ref 120, .int v3, .ref 125], SH, w)) rfl ?_
    obtain ⟨j2, H⟩ := H
    refine EV.iaload cl_196 rfl rfl (by decide) j2 ?_
    obtain ⟨j3, H⟩ := H
    refine EV.iastore cl_196 rfl rfl (by decide) j3 ?_
    refine EV.steps cl_196 6 (q2 := (153, [some (.ref 110), some (.int v1), some (.int v2), some (.int v3)], [.int v3, .ref 121, .int v3, .ref 126], SH, (up2 w 125 v3.toNatClampNeg (w 120 v3.toNatClampNeg)))) rfl ?_
    obtain ⟨j4, H⟩ := H
    refine EV.iaload cl_196 rfl rfl (by decide) j4 ?_
    obtain ⟨j5, H⟩ := H
    refine EV.iastore cl_196 rfl rfl (by decide) j5 ?_
    refine EV.steps cl_196 6 (q2 := (165, [some (.ref 110), some (.int v1), some (.int v2), some (.int v3)], [.int v3, .ref 122, .int v3, .ref 127], SH, (up2 (up2 w 125 v3.toNatClampNeg (w 120 v3.toNatClampNeg)) 126 v3.toNatClampNeg (w 121 v3.toNatClampNeg)))) rfl ?_
    obtain ⟨j6, H⟩ := H
    refine EV.iaload cl_196 rfl rfl (by decide) j6 ?_
    obtain ⟨j7, H⟩ := H
    refine EV.iastore cl_196 rfl rfl (by decide) j7 ?_
    refine EV.steps cl_196 6 (q2 := (177, [some (.ref 110), some (.int v1), some (.int v2), some (.int v3)], [.int v3, .ref 123, .int v3, .ref 128], SH, (up2 (up2 (up2 w 125 v3.toNatClampNeg (w 120 v3.toNatClampNeg)) 126 v3.toNatClampNeg (w 121 v3.toNatClampNeg)) 127 v3.toNatClampNeg (w 122 v3.toNatClampNeg)))) rfl ?_
    obtain ⟨j8, H⟩ := H
    refine EV.iaload cl_196 rfl rfl (by decide) j8 ?_
    obtain ⟨j9, H⟩ := H
    refine EV.iastore cl_196 rfl rfl (by decide) j9 ?_
    refine EV.steps cl_196 2 (q2 := (123, [some (.ref 110), some (.int v1), some (.int v2), some (.int (v3 + (kI 1)))], [], SH, (up2 (up2 (up2 (up2 w 125 v3.toNatClampNeg (w 120 v3.toNatClampNeg)) 126 v3.toNatClampNeg (w 121 v3.toNatClampNeg)) 127 v3.toNatClampNeg (w 122 v3.toNatClampNeg)) 128 v3.toNatClampNeg (w 123 v3.toNatClampNeg)))) rfl ?_
    exact H
theorem t198_110_at0 {X : Scr} {d : Nat} {Q : Int32 → Wd → Prop} (w : Wd) (v1 : Int32) (v2 : Int32)
    (H : EI X (d + 1) 198 (16, [some (.ref 110), some (.int v1), some (.int v2), some (.int (kI 0)), some (.int ((kI 260) * (v1 / (kI 260)))), some (.int v1), none, none], [], SH, w) Q) : EI X (d + 1) 198 (0, [some (.ref 110), some (.int v1), some (.int v2), none, none, none, none, none], [], SH, w) Q := by
  unfold EI
  refine EV.steps cl_198 5 (q2 := (9, [some (.ref 110), some (.int v1), some (.int v2), some (.int (kI 0)), none, none, none, none], [.int (kI 260), .int v1, .int (kI 260)], SH, w)) rfl ?_
  refine EV.idiv cl_198 rfl (by decide) ?_
  refine EV.steps cl_198 4 (q2 := (16, [some (.ref 110), some (.int v1), some (.int v2), some (.int (kI 0)), some (.int ((kI 260) * (v1 / (kI 260)))), some (.int v1), none, none], [], SH, w)) rfl ?_
  exact H
theorem t198_110_at16 {X : Scr} {d : Nat} {Q : Int32 → Wd → Prop} (w : Wd) (v1 : Int32) (v2 : Int32) (v3 : Int32) (v4 : Int32) (v5 : Int32)
    (H : (if v2 ≤ v5 then Q (w 129 (kI 0).toNatClampNeg) w else (inB v5 260 = true ∧ (inB v5 260 = true ∧ (if ((w 124 v5.toNatClampNeg) / (kI 1048576)) = 0 then (inB v3 260 = true ∧ EI X (d + 1) 198 (16, [some (.ref 110), some (.int v1), some (.int v2), some (.int (v3 + (kI 1))), some (.int v4), some (.int (v5 + (kI 1))), none, none], [], SH, (up2 w 129 v3.toNatClampNeg ((w 124 v5.toNatClampNeg) - (w 124 v5.toNatClampNeg) / (kI 1048576) * (kI 1048576)))) Q) else (if ((w 124 v5.toNatClampNeg) / (kI 1048576)) = (kI 1) then (inB ((w 124 v5.toNatClampNeg) - (w 124 v5.toNatClampNeg) / (kI 1048576) * (kI 1048576)) 12 = true ∧ (inB v3 260 = true ∧ EI X (d + 1) 198 (16, [some (.ref 110), some (.int v1), some (.int v2), some (.int (v3 + (kI 1))), some (.int v4), some (.int (v5 + (kI 1))), none, none], [], SH, (up2 w 129 v3.toNatClampNeg (w 130 ((w 124 v5.toNatClampNeg) - (w 124 v5.toNatClampNeg) / (kI 1048576) * (kI 1048576)).toNatClampNeg))) Q)) else (if ((w 124 v5.toNatClampNeg) / (kI 1048576)) = (kI 10) then (inB (v3 - (kI 1)) 260 = true ∧ (inB (v3 - (kI 1)) 260 = true ∧ EI X (d + 1) 198 (16, [some (.ref 110), some (.int v1), some (.int v2), some (.int v3), some (.int v4), some (.int (v5 + (kI 1))), none, none], [], SH, (up2 w 129 (v3 - (kI 1)).toNatClampNeg ((kI 1) - (w 129 (v3 - (kI 1)).toNatClampNeg)))) Q)) else (if ((w 124 v5.toNatClampNeg) / (kI 1048576)) = (kI 11) then (inB (v3 - (kI 1)) 260 = true ∧ (if ((w 124 v5.toNatClampNeg) / (kI 1048576)) = (kI 12) then (if (w 129 (v3 - (kI 1)).toNatClampNeg) = (kI 1) then EI X (d + 1) 198 (16, [some (.ref 110), some (.int v1), some (.int v2), some (.int v3), some (.int v4), some (.int (v4 + ((w 124 v5.toNatClampNeg) - (w 124 v5.toNatClampNeg) / (kI 1048576) * (kI 1048576)))), none, none], [], SH, w) Q else EI X (d + 1) 198 (16, [some (.ref 110), some (.int v1), some (.int v2), some (.int (v3 - (kI 1))), some (.int v4), some (.int (v5 + (kI 1))), none, none], [], SH, w) Q) else (if (w 129 (v3 - (kI 1)).toNatClampNeg) = (kI 0) then EI X (d + 1) 198 (16, [some (.ref 110), some (.int v1), some (.int v2), some (.int v3), some (.int v4), some (.int (v4 + ((w 124 v5.toNatClampNeg) - (w 124 v5.toNatClampNeg) / (kI 1048576) * (kI 1048576)))), none, none], [], SH, w) Q else EI X (d + 1) 198 (16, [some (.ref 110), some (.int v1), some (.int v2), some (.int (v3 - (kI 1))), some (.int v4), some (.int (v5 + (kI 1))), none, none], [], SH, w) Q))) else (if ((w 124 v5.toNatClampNeg) / (kI 1048576)) = (kI 12) then (inB (v3 - (kI 1)) 260 = true ∧ (if (w 129 (v3 - (kI 1)).toNatClampNeg) = (kI 1) then EI X (d + 1) 198 (16, [some (.ref 110), some (.int v1), some (.int v2), some (.int v3), some (.int v4), some (.int (v4 + ((w 124 v5.toNatClampNeg) - (w 124 v5.toNatClampNeg) / (kI 1048576) * (kI 1048576)))), none, none], [], SH, w) Q else EI X (d + 1) 198 (16, [some (.ref 110), some (.int v1), some (.int v2), some (.int (v3 - (kI 1))), some (.int v4), some (.int (v5 + (kI 1))), none, none], [], SH, w) Q)) else (if ((w 124 v5.toNatClampNeg) / (kI 1048576)) = (kI 5) then (inB (v3 - (kI 1)) 260 = true ∧ (if (w 129 (v3 - (kI 1)).toNatClampNeg) = 0 then Q (kI 0) w else (inB ((v3 - (kI 1)) - (kI 1)) 260 = true ∧ (inB (v3 - (kI 1)) 260 = true ∧ ((¬ ((w 124 v5.toNatClampNeg) / (kI 1048576)) = (kI 2) → ¬ ((w 124 v5.toNatClampNeg) / (kI 1048576)) = (kI 3) → ¬ ((w 124 v5.toNatClampNeg) / (kI 1048576)) = (kI 4) → ((w 124 v5.toNatClampNeg) / (kI 1048576)) = (kI 5) → (¬ (w 129 (v3 - (kI 1)).toNatClampNeg) = 0)) ∧ ((¬ ((w 124 v5.toNatClampNeg) / (kI 1048576)) = (kI 2) → ¬ ((w 124 v5.toNatClampNeg) / (kI 1048576)) = (kI 3) → ¬ ((w 124 v5.toNatClampNeg) / (kI 1048576)) = (kI 4) → ¬ ((w 124 v5.toNatClampNeg) / (kI 1048576)) = (kI 5) → ((w 124 v5.toNatClampNeg) / (kI 1048576)) = (kI 6) → (¬ (w 129 (v3 - (kI 1)).toNatClampNeg) = 0)) ∧ (inB ((v3 - (kI 1)) - (kI 1)) 260 = true ∧ EI X (d + 1) 198 (16, [some (.ref 110), some (.int v1), some (.int v2), some (.int (v3 - (kI 1))), some (.int v4), some (.int (v5 + (kI 1))), none, none], [], SH, (up2 w 129 ((v3 - (kI 1)) - (kI 1)).toNatClampNeg (F_197 ((w 124 v5.toNatClampNeg) / (kI 1048576)) (w 129 ((v3 - (kI 1)) - (kI 1)).toNatClampNeg) (w 129 (v3 - (kI 1)).toNatClampNeg) w))) Q))))))) else (if ((w 124 v5.toNatClampNeg) / (kI 1048576)) = (kI 6) then (inB (v3 - (kI 1)) 260 = true ∧ (if (w 129 (v3 - (kI 1)).toNatClampNeg) = 0 then Q (kI 0) w else (inB ((v3 - (kI 1)) - (kI 1)) 260 = true ∧ (inB (v3 - (kI 1)) 260 = true ∧ ((¬ ((w 124 v5.toNatClampNeg) / (kI 1048576)) = (kI 2) → ¬ ((w 124 v5.toNatClampNeg) / (kI 1048576)) = (kI 3) → ¬ ((w 124 v5.toNatClampNeg) / (kI 1048576)) = (kI 4) → ((w 124 v5.toNatClampNeg) / (kI 1048576)) = (kI 5) → (¬ (w 129 (v3 - (kI 1)).toNatClampNeg) = 0)) ∧ ((¬ ((w 124 v5.toNatClampNeg) / (kI 1048576)) = (kI 2) → ¬ ((w 124 v5.toNatClampNeg) / (kI 1048576)) = (kI 3) → ¬ ((w 124 v5.toNatClampNeg) / (kI 1048576)) = (kI 4) → ¬ ((w 124 v5.toNatClampNeg) / (kI 1048576)) = (kI 5) → ((w 124 v5.toNatClampNeg) / (kI 1048576)) = (kI 6) → (¬ (w 129 (v3 - (kI 1)).toNatClampNeg) = 0)) ∧ (inB ((v3 - (kI 1)) - (kI 1)) 260 = true ∧ EI X (d + 1) 198 (16, [some (.ref 110), some (.int v1), some (.int v2), some (.int (v3 - (kI 1))), some (.int v4), some (.int (v5 + (kI 1))), none, none], [], SH, (up2 w 129 ((v3 - (kI 1)) - (kI 1)).toNatClampNeg (F_197 ((w 124 v5.toNatClampNeg) / (kI 1048576)) (w 129 ((v3 - (kI 1)) - (kI 1)).toNatClampNeg) (w 129 (v3 - (kI 1)).toNatClampNeg) w))) Q))))))) else (inB ((v3 - (kI 1)) - (kI 1)) 260 = true ∧ (inB (v3 - (kI 1)) 260 = true ∧ ((¬ ((w 124 v5.toNatClampNeg) / (kI 1048576)) = (kI 2) → ¬ ((w 124 v5.toNatClampNeg) / (kI 1048576)) = (kI 3) → ¬ ((w 124 v5.toNatClampNeg) / (kI 1048576)) = (kI 4) → ((w 124 v5.toNatClampNeg) / (kI 1048576)) = (kI 5) → (¬ (w 129 (v3 - (kI 1)).toNatClampNeg) = 0)) ∧ ((¬ ((w 124 v5.toNatClampNeg) / (kI 1048576)) = (kI 2) → ¬ ((w 124 v5.toNatClampNeg) / (kI 1048576)) = (kI 3) → ¬ ((w 124 v5.toNatClampNeg) / (kI 1048576)) = (kI 4) → ¬ ((w 124 v5.toNatClampNeg) / (kI 1048576)) = (kI 5) → ((w 124 v5.toNatClampNeg) / (kI 1048576)) = (kI 6) → (¬ (w 129 (v3 - (kI 1)).toNatClampNeg) = 0)) ∧ (inB ((v3 - (kI 1)) - (kI 1)) 260 = true ∧ EI X (d + 1) 198 (16, [some (.ref 110), some (.int v1), some (.int v2), some (.int (v3 - (kI 1))), some (.int v4), some (.int (v5 + (kI 1))), none, none], [], SH, (up2 w 129 ((v3 - (kI 1)) - (kI 1)).toNatClampNeg (F_197 ((w 124 v5.toNatClampNeg) / (kI 1048576)) (w 129 ((v3 - (kI 1)) - (kI 1)).toNatClampNeg) (w 129 (v3 - (kI 1)).toNatClampNeg) w))) Q)))))))))))))))) : EI X (d + 1) 198 (16, [some (.ref 110), some (.int v1), some (.int v2), some (.int v3), some (.int v4), some (.int v5), none, none], [], SH, w) Q := by
  unfold EI
  refine EV.steps cl_198 2 (q2 := (19, [some (.ref 110), some (.int v1), some (.int v2), some (.int v3), some (.int v4), some (.int v5), none, none], [.int v2, .int v5], SH, w)) rfl ?_
  refine EV.i_ge cl_198 rfl (fun h1 => ?_) (fun h1 => ?_)
  · skip
    rw [if_pos h1] at H
    refine EV.steps cl_198 3 (q2 := (238, [some (.ref 110), some (.int v1), some (.int v2), some (.int v3), some (.int v4), some (.int v5), none, none], [.int (kI 0), .ref 129], SH, w)) rfl ?_
    refine EV.iaload cl_198 rfl rfl (by decide) rfl ?_
    refine EV.ret cl_198 rfl rfl rfl ?_
    exact ⟨_, rfl, rfl, H⟩
  · skip
    rw [if_neg h1] at H
    refine EV.steps cl_198 3 (q2 := (28, [some (.ref 110), some (.int v1), some (.int v2), some (.int v3), some (.int v4), some (.int v5), none, none], [.int v5, .ref 124], SH, w)) rfl ?_
    obtain ⟨j2, H⟩ := H
    refine EV.iaload cl_198 rfl rfl (by decide) j2 ?_
    refine EV.steps cl_198 1 (q2 := (31, [some (.ref 110), some (.int v1), some (.int v2), some (.int v3), some (.int v4), some (.int v5), none, none], [.int (kI 1048576), .int (w 124 v5.toNatClampNeg)], SH, w)) rfl ?_
    refine EV.idiv cl_198 rfl (by decide) ?_
    refine EV.steps cl_198 4 (q2 := (40, [some (.ref 110), some (.int v1), some (.int v2), some (.int v3), some (.int v4), some (.int v5), some (.int ((w 124 v5.toNatClampNeg) / (kI 1048576))), none], [.int v5, .ref 124], SH, w)) rfl ?_
    obtain ⟨j3, H⟩ := H
    refine EV.iaload cl_198 rfl rfl (by decide) j3 ?_
    refine EV.steps cl_198 1 (q2 := (43, [some (.ref 110), some (.int v1), some (.int v2), some (.int v3), some (.int v4), some (.int v5), some (.int ((w 124 v5.toNatClampNeg) / (kI 1048576))), none], [.int (kI 1048576), .int (w 124 v5.toNatClampNeg)], SH, w)) rfl ?_
    refine EV.irem cl_198 rfl (by decide) ?_
    refine EV.steps cl_198 6 (q2 := (54, [some (.ref 110), some (.int v1), some (.int v2), some (.int v3), some (.int v4), some (.int (v5 + (kI 1))), some (.int ((w 124 v5.toNatClampNeg) / (kI 1048576))), some (.int ((w 124 v5.toNatClampNeg) - (w 124 v5.toNatClampNeg) / (kI 1048576) * (kI 1048576)))], [.int ((w 124 v5.toNatClampNeg) / (kI 1048576))], SH, w)) rfl ?_
    refine EV.z_eq cl_198 rfl (fun h4 => ?_) (fun h4 => ?_)
    · skip
      rw [if_pos h4] at H
      refine EV.steps cl_198 4 (q2 := (70, [some (.ref 110), some (.int v1), some (.int v2), some (.int v3), some (.int v4), some (.int (v5 + (kI 1))), some (.int ((w 124 v5.toNatClampNeg) / (kI 1048576))), some (.int ((w 124 v5.toNatClampNeg) - (w 124 v5.toNatClampNeg) / (kI 1048576) * (kI 1048576)))], [.int ((w 124 v5.toNatClampNeg) / (kI 1048576)), .int v3, .ref 129], SH, w)) rfl ?_
      refine EV.z_ne cl_198 rfl (fun h5 => ?_) (fun h5 => ?_)
      · skip
        exact absurd h4 h5
      · skip
        refine EV.steps cl_198 2 (q2 := (85, [some (.ref 110), some (.int v1), some (.int v2), some (.int v3), some (.int v4), some (.int (v5 + (kI 1))), some (.int ((w 124 v5.toNatClampNeg) / (kI 1048576))), some (.int ((w 124 v5.toNatClampNeg) - (w 124 v5.toNatClampNeg) / (kI 1048576) * (kI 1048576)))], [.int ((w 124 v5.toNatClampNeg) - (w 124 v5.toNatClampNeg) / (kI 1048576) * (kI 1048576)), .int v3, .ref 129], SH, w)) rfl ?_
        obtain ⟨j6, H⟩ := H
        refine EV.iastore cl_198 rfl rfl (by decide) j6 ?_
        refine EV.steps cl_198 6 (q2 := (16, [some (.ref 110), some (.int v1), some (.int v2), some (.int (v3 + (kI 1))), some (.int v4), some (.int (v5 + (kI 1))), some (.int ((w 124 v5.toNatClampNeg) / (kI 1048576))), some (.int ((w 124 v5.toNatClampNeg) - (w 124 v5.toNatClampNeg) / (kI 1048576) * (kI 1048576)))], [], SH, (up2 w 129 v3.toNatClampNeg ((w 124 v5.toNatClampNeg) - (w 124 v5.toNatClampNeg) / (kI 1048576) * (kI 1048576))))) rfl ?_
        exact EV.weak (l := [some (.ref 110), some (.int v1), some (.int v2), some (.int (v3 + (kI 1))), some (.int v4), some (.int (v5 + (kI 1))), none, none]) ⟨rfl, ⟨rfl, ⟨rfl, ⟨rfl, ⟨rfl, ⟨rfl, ⟨rfl, ⟨rfl, trivial⟩⟩⟩⟩⟩⟩⟩⟩ H
    · skip
      rw [if_neg h4] at H
      refine EV.steps cl_198 2 (q2 := (60, [some (.ref 110), some (.int v1), some (.int v2), some (.int v3), some (.int v4), some (.int (v5 + (kI 1))), some (.int ((w 124 v5.toNatClampNeg) / (kI 1048576))), some (.int ((w 124 v5.toNatClampNeg) - (w 124 v5.toNatClampNeg) / (kI 1048576) * (kI 1048576)))], [.int (kI 1), .int ((w 124 v5.toNatClampNeg) / (kI 1048576))], SH, w)) rfl ?_
      refine EV.i_ne cl_198 rfl (fun h7 => ?_) (fun h7 => ?_)
      · skip
        rw [if_neg h7] at H
        refine EV.steps cl_198 2 (q2 := (97, [some (.ref 110), some (.int v1), some (.int v2), some (.int v3), some (.int v4), some (.int (v5 + (kI 1))), some (.int ((w 124 v5.toNatClampNeg) / (kI 1048576))), some (.int ((w 124 v5.toNatClampNeg) - (w 124 v5.toNatClampNeg) / (kI 1048576) * (kI 1048576)))], [.int (kI 10), .int ((w 124 v5.toNatClampNeg) / (kI 1048576))], SH, w)) rfl ?_
        refine EV.i_ne cl_198 rfl (fun h8 => ?_) (fun h8 => ?_)
        · skip
          rw [if_neg h8] at H
          refine EV.steps cl_198 2 (q2 := (125, [some (.ref 110), some (.int v1), some (.int v2), some (.int v3), some (.int v4), some (.int (v5 + (kI 1))), some (.int ((w 124 v5.toNatClampNeg) / (kI 1048576))), some (.int ((w 124 v5.toNatClampNeg) - (w 124 v5.toNatClampNeg) / (kI 1048576) * (kI 1048576)))], [.int (kI 11), .int ((w 124 v5.toNatClampNeg) / (kI 1048576))], SH, w)) rfl ?_
          refine EV.i_eq cl_198 rfl (fun h9 => ?_) (fun h9 => ?_)
          · skip
            rw [if_pos h9] at H
            refine EV.steps cl_198 5 (q2 := (142, [some (.ref 110), some (.int v1), some (.int v2), some (.int v3), some (.int v4), some (.int (v5 + (kI 1))), some (.int ((w 124 v5.toNatClampNeg) / (kI 1048576))), some (.int ((w 124 v5.toNatClampNeg) - (w 124 v5.toNatClampNeg) / (kI 1048576) * (kI 1048576)))], [.int (v3 - (kI 1)), .ref 129], SH, w)) rfl ?_
            obtain ⟨j10, H⟩ := H
            refine EV.iaload cl_198 rfl rfl (by decide) j10 ?_
            refine EV.steps cl_198 2 (q2 := (147, [some (.ref 110), some (.int v1), some (.int v2), some (.int v3), some (.int v4), some (.int (v5 + (kI 1))), some (.int ((w 124 v5.toNatClampNeg) / (kI 1048576))), some (.int ((w 124 v5.toNatClampNeg) - (w 124 v5.toNatClampNeg) / (kI 1048576) * (kI 1048576)))], [.int (kI 12), .int ((w 124 v5.toNatClampNeg) / (kI 1048576)), .int (w 129 (v3 - (kI 1)).toNatClampNeg)], SH, w)) rfl ?_
            refine EV.i_ne cl_198 rfl (fun h11 => ?_) (fun h11 => ?_)
            · skip
              rw [if_neg h11] at H
              refine EV.steps cl_198 1 (q2 := (155, [some (.ref 110), some (.int v1), some (.int v2), some (.int v3), some (.int v4), some (.int (v5 + (kI 1))), some (.int ((w 124 v5.toNatClampNeg) / (kI 1048576))), some (.int ((w 124 v5.toNatClampNeg) - (w 124 v5.toNatClampNeg) / (kI 1048576) * (kI 1048576)))], [.int (kI 0), .int (w 129 (v3 - (kI 1)).toNatClampNeg)], SH, w)) rfl ?_
              refine EV.i_ne cl_198 rfl (fun h12 => ?_) (fun h12 => ?_)
              · skip
                rw [if_neg h12] at H
                refine EV.steps cl_198 6 (q2 := (16, [some (.ref 110), some (.int v1), some (.int v2), some (.int (v3 - (kI 1))), some (.int v4), some (.int (v5 + (kI 1))), some (.int ((w 124 v5.toNatClampNeg) / (kI 1048576))), some (.int ((w 124 v5.toNatClampNeg) - (w 124 v5.toNatClampNeg) / (kI 1048576) * (kI 1048576)))], [], SH, w)) rfl ?_
                exact EV.weak (l := [some (.ref 110), some (.int v1), some (.int v2), some (.int (v3 - (kI 1))), some (.int v4), some (.int (v5 + (kI 1))), none, none]) ⟨rfl, ⟨rfl, ⟨rfl, ⟨rfl, ⟨rfl, ⟨rfl, ⟨rfl, ⟨rfl, trivial⟩⟩⟩⟩⟩⟩⟩⟩ H
              · skip
                rw [if_pos h12] at H
                refine EV.steps cl_198 6 (q2 := (16, [some (.ref 110), some (.int v1), some (.int v2), some (.int v3), some (.int v4), some (.int (v4 + ((w 124 v5.toNatClampNeg) - (w 124 v5.toNatClampNeg) / (kI 1048576) * (kI 1048576)))), some (.int ((w 124 v5.toNatClampNeg) / (kI 1048576))), some (.int ((w 124 v5.toNatClampNeg) - (w 124 v5.toNatClampNeg) / (kI 1048576) * (kI 1048576)))], [], SH, w)) rfl ?_
                exact EV.weak (l := [some (.ref 110), some (.int v1), some (.int v2), some (.int v3), some (.int v4), some (.int (v4 + ((w 124 v5.toNatClampNeg) - (w 124 v5.toNatClampNeg) / (kI 1048576) * (kI 1048576)))), none, none]) ⟨rfl, ⟨rfl, ⟨rfl, ⟨rfl, ⟨rfl, ⟨rfl, ⟨rfl, ⟨rfl, trivial⟩⟩⟩⟩⟩⟩⟩⟩ H
            · skip
              rw [if_pos h11] at H
              refine EV.steps cl_198 2 (q2 := (155, [some (.ref 110), some (.int v1), some (.int v2), some (.int v3), some (.int v4), some (.int (v5 + (kI 1))), some (.int ((w 124 v5.toNatClampNeg) / (kI 1048576))), some (.int ((w 124 v5.toNatClampNeg) - (w 124 v5.toNatClampNeg) / (kI 1048576) * (kI 1048576)))], [.int (kI 1), .int (w 129 (v3 - (kI 1)).toNatClampNeg)], SH, w)) rfl ?_
              refine EV.i_ne cl_198 rfl (fun h13 => ?_) (fun h13 => ?_)
              · skip
                rw [if_neg h13] at H
                refine EV.steps cl_198 6 (q2 := (16, [some (.ref 110), some (.int v1), some (.int v2), some (.int (v3 - (kI 1))), some (.int v4), some (.int (v5 + (kI 1))), some (.int ((w 124 v5.toNatClampNeg) / (kI 1048576))), some (.int ((w 124 v5.toNatClampNeg) - (w 124 v5.toNatClampNeg) / (kI 1048576) * (kI 1048576)))], [], SH, w)) rfl ?_
                exact EV.weak (l := [some (.ref 110), some (.int v1), some (.int v2), some (.int (v3 - (kI 1))), some (.int v4), some (.int (v5 + (kI 1))), none, none]) ⟨rfl, ⟨rfl, ⟨rfl, ⟨rfl, ⟨rfl, ⟨rfl, ⟨rfl, ⟨rfl, trivial⟩⟩⟩⟩⟩⟩⟩⟩ H
              · skip
                rw [if_pos h13] at H
                refine EV.steps cl_198 6 (q2 := (16, [some (.ref 110), some (.int v1), some (.int v2), some (.int v3), some (.int v4), some (.int (v4 + ((w 124 v5.toNatClampNeg) - (w 124 v5.toNatClampNeg) / (kI 1048576) * (kI 1048576)))), some (.int ((w 124 v5.toNatClampNeg) / (kI 1048576))), some (.int ((w 124 v5.toNatClampNeg) - (w 124 v5.toNatClampNeg) / (kI 1048576) * (kI 1048576)))], [], SH, w)) rfl ?_
                exact EV.weak (l := [some (.ref 110), some (.int v1), some (.int v2), some (.int v3), some (.int v4), some (.int (v4 + ((w 124 v5.toNatClampNeg) - (w 124 v5.toNatClampNeg) / (kI 1048576) * (kI 1048576)))), none, none]) ⟨rfl, ⟨rfl, ⟨rfl, ⟨rfl, ⟨rfl, ⟨rfl, ⟨rfl, ⟨rfl, trivial⟩⟩⟩⟩⟩⟩⟩⟩ H
          · skip
            rw [if_neg h9] at H
            refine EV.steps cl_198 2 (q2 := (132, [some (.ref 110), some (.int v1), some (.int v2), some (.int v3), some (.int v4), some (.int (v5 + (kI 1))), some (.int ((w 124 v5.toNatClampNeg) / (kI 1048576))), some (.int ((w 124 v5.toNatClampNeg) - (w 124 v5.toNatClampNeg) / (kI 1048576) * (kI 1048576)))], [.int (kI 12), .int ((w 124 v5.toNatClampNeg) / (kI 1048576))], SH, w)) rfl ?_
            refine EV.i_ne cl_198 rfl (fun h14 => ?_) (fun h14 => ?_)
            · skip
              rw [if_neg h14] at H
              refine EV.steps cl_198 6 (q2 := (182, [some (.ref 110), some (.int v1), some (.int v2), some (.int (v3 - (kI 1))), some (.int v4), some (.int (v5 + (kI 1))), some (.int ((w 124 v5.toNatClampNeg) / (kI 1048576))), some (.int ((w 124 v5.toNatClampNeg) - (w 124 v5.toNatClampNeg) / (kI 1048576) * (kI 1048576)))], [.int (kI 5), .int ((w 124 v5.toNatClampNeg) / (kI 1048576))], SH, w)) rfl ?_
              refine EV.i_eq cl_198 rfl (fun h15 => ?_) (fun h15 => ?_)
              · skip
                rw [if_pos h15] at H
                refine EV.steps cl_198 3 (q2 := (197, [some (.ref 110), some (.int v1), some (.int v2), some (.int (v3 - (kI 1))), some (.int v4), some (.int (v5 + (kI 1))), some (.int ((w 124 v5.toNatClampNeg) / (kI 1048576))), some (.int ((w 124 v5.toNatClampNeg) - (w 124 v5.toNatClampNeg) / (kI 1048576) * (kI 1048576)))], [.int (v3 - (kI 1)), .ref 129], SH, w)) rfl ?_
                obtain ⟨j16, H⟩ := H
                refine EV.iaload cl_198 rfl rfl (by decide) j16 ?_
                refine EV.z_ne cl_198 rfl (fun h17 => ?_) (fun h17 => ?_)
                · skip
                  rw [if_neg h17] at H
                  refine EV.steps cl_198 11 (q2 := (219, [some (.ref 110), some (.int v1), some (.int v2), some (.int (v3 - (kI 1))), some (.int v4), some (.int (v5 + (kI 1))), some (.int ((w 124 v5.toNatClampNeg) / (kI 1048576))), some (.int ((w 124 v5.toNatClampNeg) - (w 124 v5.toNatClampNeg) / (kI 1048576) * (kI 1048576)))], [.int ((v3 - (kI 1)) - (kI 1)), .ref 129, .int ((w 124 v5.toNatClampNeg) / (kI 1048576)), .int ((v3 - (kI 1)) - (kI 1)), .ref 129], SH, w)) rfl ?_
                  obtain ⟨j18, H⟩ := H
                  refine EV.iaload cl_198 rfl rfl (by decide) j18 ?_
                  refine EV.steps cl_198 3 (q2 := (225, [some (.ref 110), some (.int v1), some (.int v2), some (.int (v3 - (kI 1))), some (.int v4), some (.int (v5 + (kI 1))), some (.int ((w 124 v5.toNatClampNeg) / (kI 1048576))), some (.int ((w 124 v5.toNatClampNeg) - (w 124 v5.toNatClampNeg) / (kI 1048576) * (kI 1048576)))], [.int (v3 - (kI 1)), .ref 129, .int (w 129 ((v3 - (kI 1)) - (kI 1)).toNatClampNeg), .int ((w 124 v5.toNatClampNeg) / (kI 1048576)), .int ((v3 - (kI 1)) - (kI 1)), .ref 129], SH, w)) rfl ?_
                  obtain ⟨j19, H⟩ := H
                  refine EV.iaload cl_198 rfl rfl (by decide) j19 ?_
                  obtain ⟨j20, H⟩ := H
                  obtain ⟨j21, H⟩ := H
                  refine EV.callF (kc := 197) (av := [.int ((w 124 v5.toNatClampNeg) / (kI 1048576)), .int (w 129 ((v3 - (kI 1)) - (kI 1)).toNatClampNeg), .int (w 129 (v3 - (kI 1)).toNatClampNeg)]) (r := [.int ((v3 - (kI 1)) - (kI 1)), .ref 129]) (rv := some (.int (F_197 ((w 124 v5.toNatClampNeg) / (kI 1048576)) (w 129 ((v3 - (kI 1)) - (kI 1)).toNatClampNeg) (w 129 (v3 - (kI 1)).toNatClampNeg) w))) (w2 := w) cl_198 rfl rfl rfl (m_197 w ((w 124 v5.toNatClampNeg) / (kI 1048576)) (w 129 ((v3 - (kI 1)) - (kI 1)).toNatClampNeg) (w 129 (v3 - (kI 1)).toNatClampNeg) j20 j21) ?_
                  obtain ⟨j22, H⟩ := H
                  refine EV.iastore cl_198 rfl rfl (by decide) j22 ?_
                  refine EV.steps cl_198 1 (q2 := (16, [some (.ref 110), some (.int v1), some (.int v2), some (.int (v3 - (kI 1))), some (.int v4), some (.int (v5 + (kI 1))), some (.int ((w 124 v5.toNatClampNeg) / (kI 1048576))), some (.int ((w 124 v5.toNatClampNeg) - (w 124 v5.toNatClampNeg) / (kI 1048576) * (kI 1048576)))], [], SH, (up2 w 129 ((v3 - (kI 1)) - (kI 1)).toNatClampNeg (F_197 ((w 124 v5.toNatClampNeg) / (kI 1048576)) (w 129 ((v3 - (kI 1)) - (kI 1)).toNatClampNeg) (w 129 (v3 - (kI 1)).toNatClampNeg) w)))) rfl ?_
                  exact EV.weak (l := [some (.ref 110), some (.int v1), some (.int v2), some (.int (v3 - (kI 1))), some (.int v4), some (.int (v5 + (kI 1))), none, none]) ⟨rfl, ⟨rfl, ⟨rfl, ⟨rfl, ⟨rfl, ⟨rfl, ⟨rfl, ⟨rfl, trivial⟩⟩⟩⟩⟩⟩⟩⟩ H
                · skip
                  rw [if_pos h17] at H
                  refine EV.steps cl_198 1 (q2 := (202, [some (.ref 110), some (.int v1), some (.int v2), some (.int (v3 - (kI 1))), some (.int v4), some (.int (v5 + (kI 1))), some (.int ((w 124 v5.toNatClampNeg) / (kI 1048576))), some (.int ((w 124 v5.toNatClampNeg) - (w 124 v5.toNatClampNeg) / (kI 1048576) * (kI 1048576)))], [.int (kI 0)], SH, w)) rfl ?_
                  refine EV.ret cl_198 rfl rfl rfl ?_
                  exact ⟨_, rfl, rfl, H⟩
              · skip
                rw [if_neg h15] at H
                refine EV.steps cl_198 2 (q2 := (189, [some (.ref 110), some (.int v1), some (.int v2), some (.int (v3 - (kI 1))), some (.int v4), some (.int (v5 + (kI 1))), some (.int ((w 124 v5.toNatClampNeg) / (kI 1048576))), some (.int ((w 124 v5.toNatClampNeg) - (w 124 v5.toNatClampNeg) / (kI 1048576) * (kI 1048576)))], [.int (kI 6), .int ((w 124 v5.toNatClampNeg) / (kI 1048576))], SH, w)) rfl ?_
                refine EV.i_ne cl_198 rfl (fun h23 => ?_) (fun h23 => ?_)
                · skip
                  rw [if_neg h23] at H
                  refine EV.steps cl_198 11 (q2 := (219, [some (.ref 110), some (.int v1), some (.int v2), some (.int (v3 - (kI 1))), some (.int v4), some (.int (v5 + (kI 1))), some (.int ((w 124 v5.toNatClampNeg) / (kI 1048576))), some (.int ((w 124 v5.toNatClampNeg) - (w 124 v5.toNatClampNeg) / (kI 1048576) * (kI 1048576)))], [.int ((v3 - (kI 1)) - (kI 1)), .ref 129, .int ((w 124 v5.toNatClampNeg) / (kI 1048576)), .int ((v3 - (kI 1)) - (kI 1)), .ref 129], SH, w)) rfl ?_
                  obtain ⟨j24, H⟩ := H
                  refine EV.iaload cl_198 rfl rfl (by decide) j24 ?_
                  refine EV.steps cl_198 3 (q2 := (225, [some (.ref 110), some (.int v1), some (.int v2), some (.int (v3 - (kI 1))), some (.int v4), some (.int (v5 + (kI 1))), some (.int ((w 124 v5.toNatClampNeg) / (kI 1048576))), some (.int ((w 124 v5.toNatClampNeg) - (w 124 v5.toNatClampNeg) / (kI 1048576) * (kI 1048576)))], [.int (v3 - (kI 1)), .ref 129, .int (w 129 ((v3 - (kI 1)) - (kI 1)).toNatClampNeg), .int ((w 124 v5.toNatClampNeg) / (kI 1048576)), .int ((v3 - (kI 1)) - (kI 1)), .ref 129], SH, w)) rfl ?_
                  obtain ⟨j25, H⟩ := H
                  refine EV.iaload cl_198 rfl rfl (by decide) j25 ?_
                  obtain ⟨j26, H⟩ := H
                  obtain ⟨j27, H⟩ := H
                  refine EV.callF (kc := 197) (av := [.int ((w 124 v5.toNatClampNeg) / (kI 1048576)), .int (w 129 ((v3 - (kI 1)) - (kI 1)).toNatClampNeg), .int (w 129 (v3 - (kI 1)).toNatClampNeg)]) (r := [.int ((v3 - (kI 1)) - (kI 1)), .ref 129]) (rv := some (.int (F_197 ((w 124 v5.toNatClampNeg) / (kI 1048576)) (w 129 ((v3 - (kI 1)) - (kI 1)).toNatClampNeg) (w 129 (v3 - (kI 1)).toNatClampNeg) w))) (w2 := w) cl_198 rfl rfl rfl (m_197 w ((w 124 v5.toNatClampNeg) / (kI 1048576)) (w 129 ((v3 - (kI 1)) - (kI 1)).toNatClampNeg) (w 129 (v3 - (kI 1)).toNatClampNeg) j26 j27) ?_
                  obtain ⟨j28, H⟩ := H
                  refine EV.iastore cl_198 rfl rfl (by decide) j28 ?_
                  refine EV.steps cl_198 1 (q2 := (16, [some (.ref 110), some (.int v1), some (.int v2), some (.int (v3 - (kI 1))), some (.int v4), some (.int (v5 + (kI 1))), some (.int ((w 124 v5.toNatClampNeg) / (kI 1048576))), some (.int ((w 124 v5.toNatClampNeg) - (w 124 v5.toNatClampNeg) / (kI 1048576) * (kI 1048576)))], [], SH, (up2 w 129 ((v3 - (kI 1)) - (kI 1)).toNatClampNeg (F_197 ((w 124 v5.toNatClampNeg) / (kI 1048576)) (w 129 ((v3 - (kI 1)) - (kI 1)).toNatClampNeg) (w 129 (v3 - (kI 1)).toNatClampNeg) w)))) rfl ?_
                  exact EV.weak (l := [some (.ref 110), some (.int v1), some (.int v2), some (.int (v3 - (kI 1))), some (.int v4), some (.int (v5 + (kI 1))), none, none]) ⟨rfl, ⟨rfl, ⟨rfl, ⟨rfl, ⟨rfl, ⟨rfl, ⟨rfl, ⟨rfl, trivial⟩⟩⟩⟩⟩⟩⟩⟩ H
                · skip
                  rw [if_pos h23] at H
                  refine EV.steps cl_198 3 (q2 := (197, [some (.ref 110), some (.int v1), some (.int v2), some (.int (v3 - (kI 1))), some (.int v4), some (.int (v5 + (kI 1))), some (.int ((w 124 v5.toNatClampNeg) / (kI 1048576))), some (.int ((w 124 v5.toNatClampNeg) - (w 124 v5.toNatClampNeg) / (kI 1048576) * (kI 1048576)))], [.int (v3 - (kI 1)), .ref 129], SH, w)) rfl ?_
                  obtain ⟨j29, H⟩ := H
                  refine EV.iaload cl_198 rfl rfl (by decide) j29 ?_
                  refine EV.z_ne cl_198 rfl (fun h30 => ?_) (fun h30 => ?_)
                  · skip
                    rw [if_neg h30] at H
                    refine EV.steps cl_198 11 (q2 := (219, [some (.ref 110), some (.int v1), some (.int v2), some (.int (v3 - (kI 1))), some (.int v4), some (.int (v5 + (kI 1))), some (.int ((w 124 v5.toNatClampNeg) / (kI 1048576))), some (.int ((w 124 v5.toNatClampNeg) - (w 124 v5.toNatClampNeg) / (kI 1048576) * (kI 1048576)))], [.int ((v3 - (kI 1)) - (kI 1)), .ref 129, .int ((w 124 v5.toNatClampNeg) / (kI 1048576)), .int ((v3 - (kI 1)) - (kI 1)), .ref 129], SH, w)) rfl ?_
                    obtain ⟨j31, H⟩ := H
                    refine EV.iaload cl_198 rfl rfl (by decide) j31 ?_
                    refine EV.steps cl_198 3 (q2 := (225, [some (.ref 110), some (.int v1), some (.int v2), some (.int (v3 - (kI 1))), some (.int v4), some (.int (v5 + (kI 1))), some (.int ((w 124 v5.toNatClampNeg) / (kI 1048576))), some (.int ((w 124 v5.toNatClampNeg) - (w 124 v5.toNatClampNeg) / (kI 1048576) * (kI 1048576)))], [.int (v3 - (kI 1)), .ref 129, .int (w 129 ((v3 - (kI 1)) - (kI 1)).toNatClampNeg), .int ((w 124 v5.toNatClampNeg) / (kI 1048576)), .int ((v3 - (kI 1)) - (kI 1)), .ref 129], SH, w)) rfl ?_
                    obtain ⟨j32, H⟩ := H
                    refine EV.iaload cl_198 rfl rfl (by decide) j32 ?_
                    obtain ⟨j33, H⟩ := H
                    obtain ⟨j34, H⟩ := H
                    refine EV.callF (kc := 197) (av := [.int ((w 124 v5.toNatClampNeg) / (kI 1048576)), .int (w 129 ((v3 - (kI 1)) - (kI 1)).toNatClampNeg), .int (w 129 (v3 - (kI 1)).toNatClampNeg)]) (r := [.int ((v3 - (kI 1)) - (kI 1)), .ref 129]) (rv := some (.int (F_197 ((w 124 v5.toNatClampNeg) / (kI 1048576)) (w 129 ((v3 - (kI 1)) - (kI 1)).toNatClampNeg) (w 129 (v3 - (kI 1)).toNatClampNeg) w))) (w2 := w) cl_198 rfl rfl rfl (m_197 w ((w 124 v5.toNatClampNeg) / (kI 1048576)) (w 129 ((v3 - (kI 1)) - (kI 1)).toNatClampNeg) (w 129 (v3 - (kI 1)).toNatClampNeg) j33 j34) ?_
                    obtain ⟨j35, H⟩ := H
                    refine EV.iastore cl_198 rfl rfl (by decide) j35 ?_
                    refine EV.steps cl_198 1 (q2 := (16, [some (.ref 110), some (.int v1), some (.int v2), some (.int (v3 - (kI 1))), some (.int v4), some (.int (v5 + (kI 1))), some (.int ((w 124 v5.toNatClampNeg) / (kI 1048576))), some (.int ((w 124 v5.toNatClampNeg) - (w 124 v5.toNatClampNeg) / (kI 1048576) * (kI 1048576)))], [], SH, (up2 w 129 ((v3 - (kI 1)) - (kI 1)).toNatClampNeg (F_197 ((w 124 v5.toNatClampNeg) / (kI 1048576)) (w 129 ((v3 - (kI 1)) - (kI 1)).toNatClampNeg) (w 129 (v3 - (kI 1)).toNatClampNeg) w)))) rfl ?_
                    exact EV.weak (l := [some (.ref 110), some (.int v1), some (.int v2), some (.int (v3 - (kI 1))), some (.int v4), some (.int (v5 + (kI 1))), none, none]) ⟨rfl, ⟨rfl, ⟨rfl, ⟨rfl, ⟨rfl, ⟨rfl, ⟨rfl, ⟨rfl, trivial⟩⟩⟩⟩⟩⟩⟩⟩ H
                  · skip
                    rw [if_pos h30] at H
                    refine EV.steps cl_198 1 (q2 := (202, [some (.ref 110), some (.int v1), some (.int v2), some (.int (v3 - (kI 1))), some (.int v4), some (.int (v5 + (kI 1))), some (.int ((w 124 v5.toNatClampNeg) / (kI 1048576))), some (.int ((w 124 v5.toNatClampNeg) - (w 124 v5.toNatClampNeg) / (kI 1048576) * (kI 1048576)))], [.int (kI 0)], SH, w)) rfl ?_
                    refine EV.ret cl_198 rfl rfl rfl ?_
                    exact ⟨_, rfl, rfl, H⟩
            · skip
              rw [if_pos h14] at H
              refine EV.steps cl_198 5 (q2 := (142, [some (.ref 110), some (.int v1), some (.int v2), some (.int v3), some (.int v4), some (.int (v5 + (kI 1))), some (.int ((w 124 v5.toNatClampNeg) / (kI 1048576))), some (.int ((w 124 v5.toNatClampNeg) - (w 124 v5.toNatClampNeg) / (kI 1048576) * (kI 1048576)))], [.int (v3 - (kI 1)), .ref 129], SH, w)) rfl ?_
              obtain ⟨j36, H⟩ := H
              refine EV.iaload cl_198 rfl rfl (by decide) j36 ?_
              refine EV.steps cl_198 2 (q2 := (147, [some (.ref 110), some (.int v1), some (.int v2), some (.int v3), some (.int v4), some (.int (v5 + (kI 1))), some (.int ((w 124 v5.toNatClampNeg) / (kI 1048576))), some (.int ((w 124 v5.toNatClampNeg) - (w 124 v5.toNatClampNeg) / (kI 1048576) * (kI 1048576)))], [.int (kI 12), .int ((w 124 v5.toNatClampNeg) / (kI 1048576)), .int (w 129 (v3 - (kI 1)).toNatClampNeg)], SH, w)) rfl ?_
              refine EV.i_ne cl_198 rfl (fun h37 => ?_) (fun h37 => ?_)
              · skip
                exact absurd h14 h37
              · skip
                refine EV.steps cl_198 2 (q2 := (155, [some (.ref 110), some (.int v1), some (.int v2), some (.int v3), some (.int v4), some (.int (v5 + (kI 1))), some (.int ((w 124 v5.toNatClampNeg) / (kI 1048576))), some (.int ((w 124 v5.toNatClampNeg) - (w 124 v5.toNatClampNeg) / (kI 1048576) * (kI 1048576)))], [.int (kI 1), .int (w 129 (v3 - (kI 1)).toNatClampNeg)], SH, w)) rfl ?_
                refine EV.i_ne cl_198 rfl (fun h38 => ?_) (fun h38 => ?_)
                · skip
                  rw [if_neg h38] at H
                  refine EV.steps cl_198 6 (q2 := (16, [some (.ref 110), some (.int v1), some (.int v2), some (.int (v3 - (kI 1))), some (.int v4), some (.int (v5 + (kI 1))), some (.int ((w 124 v5.toNatClampNeg) / (kI 1048576))), some (.int ((w 124 v5.toNatClampNeg) - (w 124 v5.toNatClampNeg) / (kI 1048576) * (kI 1048576)))], [], SH, w)) rfl ?_
                  exact EV.weak (l := [some (.ref 110), some (.int v1), some (.int v2), some (.int (v3 - (kI 1))), some (.int v4), some (.int (v5 + (kI 1))), none, none]) ⟨rfl, ⟨rfl, ⟨rfl, ⟨rfl, ⟨rfl, ⟨rfl, ⟨rfl, ⟨rfl, trivial⟩⟩⟩⟩⟩⟩⟩⟩ H
                · skip
                  rw [if_pos h38] at H
                  refine EV.steps cl_198 6 (q2 := (16, [some (.ref 110), some (.int v1), some (.int v2), some (.int v3), some (.int v4), some (.int (v4 + ((w 124 v5.toNatClampNeg) - (w 124 v5.toNatClampNeg) / (kI 1048576) * (kI 1048576)))), some (.int ((w 124 v5.toNatClampNeg) / (kI 1048576))), some (.int ((w 124 v5.toNatClampNeg) - (w 124 v5.toNatClampNeg) / (kI 1048576) * (kI 1048576)))], [], SH, w)) rfl ?_
                  exact EV.weak (l := [some (.ref 110), some (.int v1), some (.int v2), some (.int v3), some (.int v4), some (.int (v4 + ((w 124 v5.toNatClampNeg) - (w 124 v5.toNatClampNeg) / (kI 1048576) * (kI 1048576)))), none, none]) ⟨rfl, ⟨rfl, ⟨rfl, ⟨rfl, ⟨rfl, ⟨rfl, ⟨rfl, ⟨rfl, trivial⟩⟩⟩⟩⟩⟩⟩⟩ H
        · skip
          rw [if_pos h8] at H
          refine EV.steps cl_198 11 (q2 := (115, [some (.ref 110), some (.int v1), some (.int v2), some (.int v3), some (.int v4), some (.int (v5 + (kI 1))), some (.int ((w 124 v5.toNatClampNeg) / (kI 1048576))), some (.int ((w 124 v5.toNatClampNeg) - (w 124 v5.toNatClampNeg) / (kI 1048576) * (kI 1048576)))], [.int (v3 - (kI 1)), .ref 129, .int (kI 1), .int (v3 - (kI 1)), .ref 129], SH, w)) rfl ?_
          obtain ⟨j39, H⟩ := H
          refine EV.iaload cl_198 rfl rfl (by decide) j39 ?_
          refine EV.steps cl_198 1 (q2 := (117, [some (.ref 110), some (.int v1), some (.int v2), some (.int v3), some (.int v4), some (.int (v5 + (kI 1))), some (.int ((w 124 v5.toNatClampNeg) / (kI 1048576))), some (.int ((w 124 v5.toNatClampNeg) - (w 124 v5.toNatClampNeg) / (kI 1048576) * (kI 1048576)))], [.int ((kI 1) - (w 129 (v3 - (kI 1)).toNatClampNeg)), .int (v3 - (kI 1)), .ref 129], SH, w)) rfl ?_
          obtain ⟨j40, H⟩ := H
          refine EV.iastore cl_198 rfl rfl (by decide) j40 ?_
          refine EV.steps cl_198 2 (q2 := (16, [some (.ref 110), some (.int v1), some (.int v2), some (.int v3), some (.int v4), some (.int (v5 + (kI 1))), some (.int ((w 124 v5.toNatClampNeg) / (kI 1048576))), some (.int ((w 124 v5.toNatClampNeg) - (w 124 v5.toNatClampNeg) / (kI 1048576) * (kI 1048576)))], [], SH, (up2 w 129 (v3 - (kI 1)).toNatClampNeg ((kI 1) - (w 129 (v3 - (kI 1)).toNatClampNeg))))) rfl ?_
          exact EV.weak (l := [some (.ref 110), some (.int v1), some (.int v2), some (.int v3), some (.int v4), some (.int (v5 + (kI 1))), none, none]) ⟨rfl, ⟨rfl, ⟨rfl, ⟨rfl, ⟨rfl, ⟨rfl, ⟨rfl, ⟨rfl, trivial⟩⟩⟩⟩⟩⟩⟩⟩ H
      · skip
        rw [if_pos h7] at H
        refine EV.steps cl_198 4 (q2 := (70, [some (.ref 110), some (.int v1), some (.int v2), some (.int v3), some (.int v4), some (.int (v5 + (kI 1))), some (.int ((w 124 v5.toNatClampNeg) / (kI 1048576))), some (.int ((w 124 v5.toNatClampNeg) - (w 124 v5.toNatClampNeg) / (kI 1048576) * (kI 1048576)))], [.int ((w 124 v5.toNatClampNeg) / (kI 1048576)), .int v3, .ref 129], SH, w)) rfl ?_
        refine EV.z_ne cl_198 rfl (fun h41 => ?_) (fun h41 => ?_)
        · skip
          refine EV.steps cl_198 3 (q2 := (84, [some (.ref 110), some (.int v1), some (.int v2), some (.int v3), some (.int v4), some (.int (v5 + (kI 1))), some (.int ((w 124 v5.toNatClampNeg) / (kI 1048576))), some (.int ((w 124 v5.toNatClampNeg) - (w 124 v5.toNatClampNeg) / (kI 1048576) * (kI 1048576)))], [.int ((w 124 v5.toNatClampNeg) - (w 124 v5.toNatClampNeg) / (kI 1048576) * (kI 1048576)), .ref 130, .int v3, .ref 129], SH, w)) rfl ?_
          obtain ⟨j42, H⟩ := H
          refine EV.iaload cl_198 rfl rfl (by decide) j42 ?_
          obtain ⟨j43, H⟩ := H
          refine EV.iastore cl_198 rfl rfl (by decide) j43 ?_
          refine EV.steps cl_198 6 (q2 := (16, [some (.ref 110), some (.int v1), some (.int v2), some (.int (v3 + (kI 1))), some (.int v4), some (.int (v5 + (kI 1))), some (.int ((w 124 v5.toNatClampNeg) / (kI 1048576))), some (.int ((w 124 v5.toNatClampNeg) - (w 124 v5.toNatClampNeg) / (kI 1048576) * (kI 1048576)))], [], SH, (up2 w 129 v3.toNatClampNeg (w 130 ((w 124 v5.toNatClampNeg) - (w 124 v5.toNatClampNeg) / (kI 1048576) * (kI 1048576)).toNatClampNeg)))) rfl ?_
          exact EV.weak (l := [some (.ref 110), some (.int v1), some (.int v2), some (.int (v3 + (kI 1))), some (.int v4), some (.int (v5 + (kI 1))), none, none]) ⟨rfl, ⟨rfl, ⟨rfl, ⟨rfl, ⟨rfl, ⟨rfl, ⟨rfl, ⟨rfl, trivial⟩⟩⟩⟩⟩⟩⟩⟩ H
        · skip
          exact absurd h41 h4
theorem t199_110_at0 {X : Scr} {d : Nat} {Q : Int32 → Wd → Prop} (w : Wd) (v1 : Int32) (v2 : Int32)
    (H : EI X (d + 1) 199 (2, [some (.ref 110), some (.int v1), some (.int v2), some (.int (kI 0)), none], [], SH, w) Q) : EI X (d + 1) 199 (0, [some (.ref 110), some (.int v1), some (.int v2), none, none], [], SH, w) Q := by
  unfold EI
  refine EV.steps cl_199 2 (q2 := (2, [some (.ref 110), some (.int v1), some (.int v2), some (.int (kI 0)), none], [], SH, w)) rfl ?_
  exact H
theorem t199_110_at2 {X : Scr} {d : Nat} {Q : Int32 → Wd → Prop} (w : Wd) (v1 : Int32) (v2 : Int32) (v3 : Int32)
    (H : (if (w 110 19) ≤ v3 then Q (kI 0) w else (inB v3 16 = true ∧ (if (w 125 v3.toNatClampNeg) = v1 then (inB v3 16 = true ∧ (inB v3 16 = true ∧ CI X (d + 1) 198 [.ref 110, .int (w 127 v3.toNatClampNeg), .int (w 128 v3.toNatClampNeg)] w (fun x1 w1 => (if x1 = (kI 1) then (inB v3 16 = true ∧ (inB v3 16 = true ∧ CI X (d + 1) 198 [.ref 110, .int (w1 126 v3.toNatClampNeg), .int (w1 127 v3.toNatClampNeg)] w1 (fun x2 w2 => (if 0 ≤ x2 then (if x2 ≤ v2 then Q x2 w2 else Q v2 w2) else Q (kI 0) w2)))) else EI X (d + 1) 199 (2, [some (.ref 110), some (.int v1), some (.int v2), some (.int (v3 + (kI 1))), none], [], SH, w1) Q)))) else EI X (d + 1) 199 (2, [some (.ref 110), some (.int v1), some (.int v2), some (.int (v3 + (kI 1))), none], [], SH, w) Q)))) : EI X (d + 1) 199 (2, [some (.ref 110), some (.int v1), some (.int v2), some (.int v3), none], [], SH, w) Q := by
  unfold EI
  refine EV.steps cl_199 3 (q2 := (7, [some (.ref 110), some (.int v1), some (.int v2), some (.int v3), none], [.int (w 110 19), .int v3], SH, w)) rfl ?_
  refine EV.i_ge cl_199 rfl (fun h1 => ?_) (fun h1 => ?_)
  · skip
    rw [if_pos h1] at H
    refine EV.steps cl_199 1 (q2 := (90, [some (.ref 110), some (.int v1), some (.int v2), some (.int v3), none], [.int (kI 0)], SH, w)) rfl ?_
    refine EV.ret cl_199 rfl rfl rfl ?_
    exact ⟨_, rfl, rfl, H⟩
  · skip
    rw [if_neg h1] at H
    refine EV.steps cl_199 3 (q2 := (15, [some (.ref 110), some (.int v1), some (.int v2), some (.int v3), none], [.int v3, .ref 125], SH, w)) rfl ?_
    obtain ⟨j2, H⟩ := H
    refine EV.iaload cl_199 rfl rfl (by decide) j2 ?_
    refine EV.steps cl_199 1 (q2 := (17, [some (.ref 110), some (.int v1), some (.int v2), some (.int v3), none], [.int v1, .int (w 125 v3.toNatClampNeg)], SH, w)) rfl ?_
    refine EV.i_ne cl_199 rfl (fun h3 => ?_) (fun h3 => ?_)
    · skip
      rw [if_neg h3] at H
      refine EV.steps cl_199 2 (q2 := (2, [some (.ref 110), some (.int v1), some (.int v2), some (.int (v3 + (kI 1))), none], [], SH, w)) rfl ?_
      exact H
    · skip
      rw [if_pos h3] at H
      refine EV.steps cl_199 4 (q2 := (26, [some (.ref 110), some (.int v1), some (.int v2), some (.int v3), none], [.int v3, .ref 127, .ref 110], SH, w)) rfl ?_
      obtain ⟨j4, H⟩ := H
      refine EV.iaload cl_199 rfl rfl (by decide) j4 ?_
      refine EV.steps cl_199 3 (q2 := (32, [some (.ref 110), some (.int v1), some (.int v2), some (.int v3), none], [.int v3, .ref 128, .int (w 127 v3.toNatClampNeg), .ref 110], SH, w)) rfl ?_
      obtain ⟨j5, H⟩ := H
      refine EV.iaload cl_199 rfl rfl (by decide) j5 ?_
      refine EV.call (kc := 198) (av := [.ref 110, .int (w 127 v3.toNatClampNeg), .int (w 128 v3.toNatClampNeg)]) (r := []) cl_199 rfl rfl rfl H ?_
      clear H; intro y1 s1 w1 e1
      obtain ⟨x1, rfl, rfl, H⟩ := e1
      refine EV.steps cl_199 1 (q2 := (37, [some (.ref 110), some (.int v1), some (.int v2), some (.int v3), none], [.int (kI 1), .int x1], SH, w1)) rfl ?_
      refine EV.i_eq cl_199 rfl (fun h6 => ?_) (fun h6 => ?_)
      · skip
        rw [if_pos h6] at H
        refine EV.steps cl_199 4 (q2 := (49, [some (.ref 110), some (.int v1), some (.int v2), some (.int v3), none], [.int v3, .ref 126, .ref 110], SH, w1)) rfl ?_
        obtain ⟨j7, H⟩ := H
        refine EV.iaload cl_199 rfl rfl (by decide) j7 ?_
        refine EV.steps cl_199 3 (q2 := (55, [some (.ref 110), some (.int v1), some (.int v2), some (.int v3), none], [.int v3, .ref 127, .int (w1 126 v3.toNatClampNeg), .ref 110], SH, w1)) rfl ?_
        obtain ⟨j8, H⟩ := H
        refine EV.iaload cl_199 rfl rfl (by decide) j8 ?_
        refine EV.call (kc := 198) (av := [.ref 110, .int (w1 126 v3.toNatClampNeg), .int (w1 127 v3.toNatClampNeg)]) (r := []) cl_199 rfl rfl rfl H ?_
        clear H; intro y2 s2 w2 e2
        obtain ⟨x2, rfl, rfl, H⟩ := e2
        refine EV.steps cl_199 2 (q2 := (63, [some (.ref 110), some (.int v1), some (.int v2), some (.int v3), some (.int x2)], [.int x2], SH, w2)) rfl ?_
        refine EV.z_ge cl_199 rfl (fun h9 => ?_) (fun h9 => ?_)
        · skip
          rw [if_pos h9] at H
          refine EV.steps cl_199 2 (q2 := (73, [some (.ref 110), some (.int v1), some (.int v2), some (.int v3), some (.int x2)], [.int v2, .int x2], SH, w2)) rfl ?_
          refine EV.i_le cl_199 rfl (fun h10 => ?_) (fun h10 => ?_)
          · skip
            rw [if_pos h10] at H
            refine EV.steps cl_199 1 (q2 := (82, [some (.ref 110), some (.int v1), some (.int v2), some (.int v3), some (.int x2)], [.int x2], SH, w2)) rfl ?_
            refine EV.ret cl_199 rfl rfl rfl ?_
            exact ⟨_, rfl, rfl, H⟩
          · skip
            rw [if_neg h10] at H
            refine EV.steps cl_199 2 (q2 := (82, [some (.ref 110), some (.int v1), some (.int v2), some (.int v3), some (.int x2)], [.int v2], SH, w2)) rfl ?_
            refine EV.ret cl_199 rfl rfl rfl ?_
            exact ⟨_, rfl, rfl, H⟩
        · skip
          rw [if_neg h9] at H
          refine EV.steps cl_199 2 (q2 := (82, [some (.ref 110), some (.int v1), some (.int v2), some (.int v3), some (.int x2)], [.int (kI 0)], SH, w2)) rfl ?_
          refine EV.ret cl_199 rfl rfl rfl ?_
          exact ⟨_, rfl, rfl, H⟩
      · skip
        rw [if_neg h6] at H
        refine EV.steps cl_199 3 (q2 := (2, [some (.ref 110), some (.int v1), some (.int v2), some (.int (v3 + (kI 1))), none], [], SH, w1)) rfl ?_
        exact H
theorem t200_110_at0 {X : Scr} {d : Nat} {Q : Int32 → Wd → Prop} (w : Wd) (v1 : Int32)
    (H : EI X (d + 1) 200 (2, [some (.ref 110), some (.int v1), some (.int (kI 0))], [], SH, w) Q) : EI X (d + 1) 200 (0, [some (.ref 110), some (.int v1), none], [], SH, w) Q := by
  unfold EI
  refine EV.steps cl_200 2 (q2 := (2, [some (.ref 110), some (.int v1), some (.int (kI 0))], [], SH, w)) rfl ?_
  exact H
theorem t200_110_at2 {X : Scr} {d : Nat} {Q : Int32 → Wd → Prop} (w : Wd) (v1 : Int32) (v2 : Int32)
    (H : (if (w 110 19) ≤ v2 then Q (kI 0) w else (inB v2 16 = true ∧ (if (w 125 v2.toNatClampNeg) = v1 then (inB v2 16 = true ∧ (inB v2 16 = true ∧ CI X (d + 1) 198 [.ref 110, .int (w 127 v2.toNatClampNeg), .int (w 128 v2.toNatClampNeg)] w (fun x1 w1 => (if x1 = (kI 1) then Q (kI 1) w1 else EI X (d + 1) 200 (2, [some (.ref 110), some (.int v1), some (.int (v2 + (kI 1)))], [], SH, w1) Q)))) else EI X (d + 1) 200 (2, [some (.ref 110), some (.int v1), some (.int (v2 + (kI 1)))], [], SH, w) Q)))) : EI X (d + 1) 200 (2, [some (.ref 110), some (.int v1), some (.int v2)], [], SH, w) Q := by
  unfold EI
  refine EV.steps cl_200 3 (q2 := (7, [some (.ref 110), some (.int v1), some (.int v2)], [.int (w 110 19), .int v2], SH, w)) rfl ?_
  refine EV.i_ge cl_200 rfl (fun h1 => ?_) (fun h1 => ?_)
  · skip
    rw [if_pos h1] at H
    refine EV.steps cl_200 1 (q2 := (49, [some (.ref 110), some (.int v1), some (.int v2)], [.int (kI 0)], SH, w)) rfl ?_
    refine EV.ret cl_200 rfl rfl rfl ?_
    exact ⟨_, rfl, rfl, H⟩
  · skip
    rw [if_neg h1] at H
    refine EV.steps cl_200 3 (q2 := (15, [some (.ref 110), some (.int v1), some (.int v2)], [.int v2, .ref 125], SH, w)) rfl ?_
    obtain ⟨j2, H⟩ := H
    refine EV.iaload cl_200 rfl rfl (by decide) j2 ?_
    refine EV.steps cl_200 1 (q2 := (17, [some (.ref 110), some (.int v1), some (.int v2)], [.int v1, .int (w 125 v2.toNatClampNeg)], SH, w)) rfl ?_
    refine EV.i_ne cl_200 rfl (fun h3 => ?_) (fun h3 => ?_)
    · skip
      rw [if_neg h3] at H
      refine EV.steps cl_200 2 (q2 := (2, [some (.ref 110), some (.int v1), some (.int (v2 + (kI 1)))], [], SH, w)) rfl ?_
      exact H
    · skip
      rw [if_pos h3] at H
      refine EV.steps cl_200 4 (q2 := (26, [some (.ref 110), some (.int v1), some (.int v2)], [.int v2, .ref 127, .ref 110], SH, w)) rfl ?_
      obtain ⟨j4, H⟩ := H
      refine EV.iaload cl_200 rfl rfl (by decide) j4 ?_
      refine EV.steps cl_200 3 (q2 := (32, [some (.ref 110), some (.int v1), some (.int v2)], [.int v2, .ref 128, .int (w 127 v2.toNatClampNeg), .ref 110], SH, w)) rfl ?_
      obtain ⟨j5, H⟩ := H
      refine EV.iaload cl_200 rfl rfl (by decide) j5 ?_
      refine EV.call (kc := 198) (av := [.ref 110, .int (w 127 v2.toNatClampNeg), .int (w 128 v2.toNatClampNeg)]) (r := []) cl_200 rfl rfl rfl H ?_
      clear H; intro y1 s1 w1 e1
      obtain ⟨x1, rfl, rfl, H⟩ := e1
      refine EV.steps cl_200 1 (q2 := (37, [some (.ref 110), some (.int v1), some (.int v2)], [.int (kI 1), .int x1], SH, w1)) rfl ?_
      refine EV.i_ne cl_200 rfl (fun h6 => ?_) (fun h6 => ?_)
      · skip
        rw [if_neg h6] at H
        refine EV.steps cl_200 2 (q2 := (2, [some (.ref 110), some (.int v1), some (.int (v2 + (kI 1)))], [], SH, w1)) rfl ?_
        exact H
      · skip
        rw [if_pos h6] at H
        refine EV.steps cl_200 1 (q2 := (41, [some (.ref 110), some (.int v1), some (.int v2)], [.int (kI 1)], SH, w1)) rfl ?_
        refine EV.ret cl_200 rfl rfl rfl ?_
        exact ⟨_, rfl, rfl, H⟩
theorem t201_110_at0 {X : Scr} {d : Nat} {Q : Wd → Prop} (w : Wd) (v1 : Int32) (v2 : Int32) (v3 : Int32)
    (H : EU X (d + 1) 201 (3, [some (.ref 110), some (.int v1), some (.int v2), some (.int v3), some (.int (kI 0))], [], SH, w) Q) : EU X (d + 1) 201 (0, [some (.ref 110), some (.int v1), some (.int v2), some (.int v3), none], [], SH, w) Q := by
  unfold EU
  refine EV.steps cl_201 2 (q2 := (3, [some (.ref 110), some (.int v1), some (.int v2), some (.int v3), some (.int (kI 0))], [], SH, w)) rfl ?_
  exact H
theorem t201_110_at3 {X : Scr} {d : Nat} {Q : Wd → Prop} (w : Wd) (v1 : Int32) (v2 : Int32) (v3 : Int32) (v4 : Int32)
    (H : (if (kI 12) ≤ v4 then (((inB (((kI 0) + ((kI 6) * v1)) + v2) 162 = true)) ∧ CI X (d + 1) 167 [.ref 110, .int v2] (up2 (up2 (up2 w 130 (kI 0).toNatClampNeg v1) 130 (kI 1).toNatClampNeg v2) 130 (kI 2).toNatClampNeg (F_166_110 v1 v2 (up2 (up2 w 130 (kI 0).toNatClampNeg v1) 130 (kI 1).toNatClampNeg v2))) (fun x1 w1 => (inB v2 6 = true ∧ (inB v1 6 = true ∧ Q (up2 (up2 (up2 (up2 (up2 w1 130 (kI 3).toNatClampNeg x1) 130 (kI 4).toNatClampNeg (w1 116 v2.toNatClampNeg)) 130 (kI 5).toNatClampNeg (w1 114 v1.toNatClampNeg)) 130 (kI 6).toNatClampNeg v3) 130 (kI 7).toNatClampNeg (w1 111 (kI 158).toNatClampNeg)))))) else (inB v4 12 = true ∧ EU X (d + 1) 201 (3, [some (.ref 110), some (.int v1), some (.int v2), some (.int v3), some (.int (v4 + (kI 1)))], [], SH, (up2 w 130 v4.toNatClampNeg (kI 0))) Q))) : EU X (d + 1) 201 (3, [some (.ref 110), some (.int v1), some (.int v2), some (.int v3), some (.int v4)], [], SH, w) Q := by
  unfold EU
  refine EV.steps cl_201 2 (q2 := (7, [some (.ref 110), some (.int v1), some (.int v2), some (.int v3), some (.int v4)], [.int (kI 12), .int v4], SH, w)) rfl ?_
  refine EV.i_ge cl_201 rfl (fun h1 => ?_) (fun h1 => ?_)
  · skip
    rw [if_pos h1] at H
    refine EV.steps cl_201 4 (q2 := (30, [some (.ref 110), some (.int v1), some (.int v2), some (.int v3), some (.int v4)], [.int v1, .int (kI 0), .ref 130], SH, w)) rfl ?_
    refine EV.iastore cl_201 rfl rfl (by decide) rfl ?_
    refine EV.steps cl_201 4 (q2 := (37, [some (.ref 110), some (.int v1), some (.int v2), some (.int v3), some (.int v4)], [.int v2, .int (kI 1), .ref 130], SH, (up2 w 130 (kI 0).toNatClampNeg v1))) rfl ?_
    refine EV.iastore cl_201 rfl rfl (by decide) rfl ?_
    refine EV.steps cl_201 6 (q2 := (46, [some (.ref 110), some (.int v1), some (.int v2), some (.int v3), some (.int v4)], [.int v2, .int v1, .ref 110, .int (kI 2), .ref 130], SH, (up2 (up2 w 130 (kI 0).toNatClampNeg v1) 130 (kI 1).toNatClampNeg v2))) rfl ?_
    obtain ⟨j2, H⟩ := H
    refine EV.callF (kc := 166) (av := [.ref 110, .int v1, .int v2]) (r := [.int (kI 2), .ref 130]) (rv := some (.int (F_166_110 v1 v2 (up2 (up2 w 130 (kI 0).toNatClampNeg v1) 130 (kI 1).toNatClampNeg v2)))) (w2 := (up2 (up2 w 130 (kI 0).toNatClampNeg v1) 130 (kI 1).toNatClampNeg v2)) cl_201 rfl rfl rfl (m_166_110 (up2 (up2 w 130 (kI 0).toNatClampNeg v1) 130 (kI 1).toNatClampNeg v2) v1 v2 j2) ?_
    refine EV.iastore cl_201 rfl rfl (by decide) rfl ?_
    refine EV.steps cl_201 5 (q2 := (57, [some (.ref 110), some (.int v1), some (.int v2), some (.int v3), some (.int v4)], [.int v2, .ref 110, .int (kI 3), .ref 130], SH, (up2 (up2 (up2 w 130 (kI 0).toNatClampNeg v1) 130 (kI 1).toNatClampNeg v2) 130 (kI 2).toNatClampNeg (F_166_110 v1 v2 (up2 (up2 w 130 (kI 0).toNatClampNeg v1) 130 (kI 1).toNatClampNeg v2))))) rfl ?_
    refine EV.call (kc := 167) (av := [.ref 110, .int v2]) (r := [.int (kI 3), .ref 130]) cl_201 rfl rfl rfl H ?_
    clear H; intro y1 s1 w1 e1
    obtain ⟨x1, rfl, rfl, H⟩ := e1
    refine EV.iastore cl_201 rfl rfl (by decide) rfl ?_
    refine EV.steps cl_201 6 (q2 := (71, [some (.ref 110), some (.int v1), some (.int v2), some (.int v3), some (.int v4)], [.int v2, .ref 116, .int (kI 4), .ref 130], SH, (up2 w1 130 (kI 3).toNatClampNeg x1))) rfl ?_
    obtain ⟨j3, H⟩ := H
    refine EV.iaload cl_201 rfl rfl (by decide) j3 ?_
    refine EV.iastore cl_201 rfl rfl (by decide) rfl ?_
    refine EV.steps cl_201 6 (q2 := (83, [some (.ref 110), some (.int v1), some (.int v2), some (.int v3), some (.int v4)], [.int v1, .ref 114, .int (kI 5), .ref 130], SH, (up2 (up2 w1 130 (kI 3).toNatClampNeg x1) 130 (kI 4).toNatClampNeg (w1 116 v2.toNatClampNeg)))) rfl ?_
    obtain ⟨j4, H⟩ := H
    refine EV.iaload cl_201 rfl rfl (by decide) j4 ?_
    refine EV.iastore cl_201 rfl rfl (by decide) rfl ?_
    refine EV.steps cl_201 4 (q2 := (92, [some (.ref 110), some (.int v1), some (.int v2), some (.int v3), some (.int v4)], [.int v3, .int (kI 6), .ref 130], SH, (up2 (up2 (up2 w1 130 (kI 3).toNatClampNeg x1) 130 (kI 4).toNatClampNeg (w1 116 v2.toNatClampNeg)) 130 (kI 5).toNatClampNeg (w1 114 v1.toNatClampNeg)))) rfl ?_
    refine EV.iastore cl_201 rfl rfl (by decide) rfl ?_
    refine EV.steps cl_201 6 (q2 := (106, [some (.ref 110), some (.int v1), some (.int v2), some (.int v3), some (.int v4)], [.int (kI 158), .ref 111, .int (kI 7), .ref 130], SH, (up2 (up2 (up2 (up2 w1 130 (kI 3).toNatClampNeg x1) 130 (kI 4).toNatClampNeg (w1 116 v2.toNatClampNeg)) 130 (kI 5).toNatClampNeg (w1 114 v1.toNatClampNeg)) 130 (kI 6).toNatClampNeg v3))) rfl ?_
    refine EV.iaload cl_201 rfl rfl (by decide) rfl ?_
    refine EV.iastore cl_201 rfl rfl (by decide) rfl ?_
    refine EV.ret cl_201 rfl rfl rfl ?_
    exact ⟨rfl, rfl, H⟩
  · skip
    rw [if_neg h1] at H
    refine EV.steps cl_201 4 (q2 := (17, [some (.ref 110), some (.int v1), some (.int v2), some (.int v3), some (.int v4)], [.int (kI 0), .int v4, .ref 130], SH, w)) rfl ?_
    obtain ⟨j5, H⟩ := H
    refine EV.iastore cl_201 rfl rfl (by decide) j5 ?_
    refine EV.steps cl_201 2 (q2 := (3, [some (.ref 110), some (.int v1), some (.int v2), some (.int v3), some (.int (v4 + (kI 1)))], [], SH, (up2 w 130 v4.toNatClampNeg (kI 0)))) rfl ?_
    exact H
theorem t202_110_at0 {X : Scr} {d : Nat} {Q : Int32 → Wd → Prop} (w : Wd) 
    (H : ((¬ (w 110 12) ≤ (w 110 11) → (inB (w 110 11) 260 = true)) ∧ (if (F_157 ((F_175_110 w) - (kI 97)) (kI 0) (kI 5) w) = 0 then Q (F_177_110 (kI 1) (w 110 11) w) (G_177_110 (kI 1) (w 110 11) w) else (if (w 110 35) = (kI 20) then Q (F_177_110 (kI 4) (w 110 11) w) (G_177_110 (kI 4) (w 110 11) w) else (if (F_164_110 ((F_175_110 w) - (kI 97)) w) = 0 then Q (F_177_110 (kI 7) (w 110 11) w) (G_177_110 (kI 7) (w 110 11) w) else ((¬ ((up2 w 110 11 ((w 110 11) + (kI 1))) 110 12) ≤ ((up2 w 110 11 ((w 110 11) + (kI 1))) 110 11) → (inB ((up2 w 110 11 ((w 110 11) + (kI 1))) 110 11) 260 = true)) ∧ (if (F_157 ((F_175_110 (up2 w 110 11 ((w 110 11) + (kI 1)))) - (kI 48)) (kI 0) (kI 5) (up2 w 110 11 ((w 110 11) + (kI 1)))) = 0 then Q (F_177_110 (kI 1) ((w 110 11) + (kI 1)) (up2 w 110 11 ((w 110 11) + (kI 1)))) (G_177_110 (kI 1) ((w 110 11) + (kI 1)) (up2 w 110 11 ((w 110 11) + (kI 1)))) else (if (F_165_110 ((F_175_110 (up2 w 110 11 ((w 110 11) + (kI 1)))) - (kI 48)) (up2 w 110 11 ((w 110 11) + (kI 1)))) = 0 then Q (F_177_110 (kI 7) ((w 110 11) + (kI 1)) (up2 w 110 11 ((w 110 11) + (kI 1)))) (G_177_110 (kI 7) ((w 110 11) + (kI 1)) (up2 w 110 11 ((w 110 11) + (kI 1)))) else ((¬ ((up2 (up2 w 110 11 ((w 110 11) + (kI 1))) 110 11 (((w 110 11) + (kI 1)) + (kI 1))) 110 12) ≤ ((up2 (up2 w 110 11 ((w 110 11) + (kI 1))) 110 11 (((w 110 11) + (kI 1)) + (kI 1))) 110 11) → (inB ((up2 (up2 w 110 11 ((w 110 11) + (kI 1))) 110 11 (((w 110 11) + (kI 1)) + (kI 1))) 110 11) 260 = true)) ∧ (if (F_175_110 (up2 (up2 w 110 11 ((w 110 11) + (kI 1))) 110 11 (((w 110 11) + (kI 1)) + (kI 1)))) = (kI 43) then (((¬ ((up2 (up2 (up2 w 110 11 ((w 110 11) + (kI 1))) 110 11 (((w 110 11) + (kI 1)) + (kI 1))) 110 11 ((((w 110 11) + (kI 1)) + (kI 1)) + (kI 1))) 110 12) ≤ ((up2 (up2 (up2 w 110 11 ((w 110 11) + (kI 1))) 110 11 (((w 110 11) + (kI 1)) + (kI 1))) 110 11 ((((w 110 11) + (kI 1)) + (kI 1)) + (kI 1))) 110 11) → (inB ((up2 (up2 (up2 w 110 11 ((w 110 11) + (kI 1))) 110 11 (((w 110 11) + (kI 1)) + (kI 1))) 110 11 ((((w 110 11) + (kI 1)) + (kI 1)) + (kI 1))) 110 11) 260 = true))) ∧ ((¬ (F_175_110 (up2 (up2 (up2 w 110 11 ((w 110 11) + (kI 1))) 110 11 (((w 110 11) + (kI 1)) + (kI 1))) 110 11 ((((w 110 11) + (kI 1)) + (kI 1)) + (kI 1)))) < (kI 48) → (¬ ((up2 (up2 (up2 w 110 11 ((w 110 11) + (kI 1))) 110 11 (((w 110 11) + (kI 1)) + (kI 1))) 110 11 ((((w 110 11) + (kI 1)) + (kI 1)) + (kI 1))) 110 12) ≤ ((up2 (up2 (up2 w 110 11 ((w 110 11) + (kI 1))) 110 11 (((w 110 11) + (kI 1)) + (kI 1))) 110 11 ((((w 110 11) + (kI 1)) + (kI 1)) + (kI 1))) 110 11) → (inB ((up2 (up2 (up2 w 110 11 ((w 110 11) + (kI 1))) 110 11 (((w 110 11) + (kI 1)) + (kI 1))) 110 11 ((((w 110 11) + (kI 1)) + (kI 1)) + (kI 1))) 110 11) 260 = true))) ∧ (if (F_176_110 (up2 (up2 (up2 w 110 11 ((w 110 11) + (kI 1))) 110 11 (((w 110 11) + (kI 1)) + (kI 1))) 110 11 ((((w 110 11) + (kI 1)) + (kI 1)) + (kI 1)))) = 0 then Q (F_177_110 (kI 1) ((((w 110 11) + (kI 1)) + (kI 1)) + (kI 1)) (up2 (up2 (up2 w 110 11 ((w 110 11) + (kI 1))) 110 11 (((w 110 11) + (kI 1)) + (kI 1))) 110 11 ((((w 110 11) + (kI 1)) + (kI 1)) + (kI 1)))) (G_177_110 (kI 1) ((((w 110 11) + (kI 1)) + (kI 1)) + (kI 1)) (up2 (up2 (up2 w 110 11 ((w 110 11) + (kI 1))) 110 11 (((w 110 11) + (kI 1)) + (kI 1))) 110 11 ((((w 110 11) + (kI 1)) + (kI 1)) + (kI 1)))) else EI X (d + 2) 202 (209, [some (.ref 110), some (.int ((F_175_110 w) - (kI 97))), some (.int ((F_175_110 (up2 w 110 11 ((w 110 11) + (kI 1)))) - (kI 48))), some (.int (kI 1)), some (.int ((((w 110 11) + (kI 1)) + (kI 1)) + (kI 1))), some (.int (kI 0))], [], SH, (up2 (up2 (up2 w 110 11 ((w 110 11) + (kI 1))) 110 11 (((w 110 11) + (kI 1)) + (kI 1))) 110 11 ((((w 110 11) + (kI 1)) + (kI 1)) + (kI 1)))) Q))) else ((¬ ((up2 (up2 w 110 11 ((w 110 11) + (kI 1))) 110 11 (((w 110 11) + (kI 1)) + (kI 1))) 110 12) ≤ ((up2 (up2 w 110 11 ((w 110 11) + (kI 1))) 110 11 (((w 110 11) + (kI 1)) + (kI 1))) 110 11) → (inB ((up2 (up2 w 110 11 ((w 110 11) + (kI 1))) 110 11 (((w 110 11) + (kI 1)) + (kI 1))) 110 11) 260 = true)) ∧ (if (F_175_110 (up2 (up2 w 110 11 ((w 110 11) + (kI 1))) 110 11 (((w 110 11) + (kI 1)) + (kI 1)))) = (kI 45) then (((¬ ((up2 (up2 (up2 w 110 11 ((w 110 11) + (kI 1))) 110 11 (((w 110 11) + (kI 1)) + (kI 1))) 110 11 ((((w 110 11) + (kI 1)) + (kI 1)) + (kI 1))) 110 12) ≤ ((up2 (up2 (up2 w 110 11 ((w 110 11) + (kI 1))) 110 11 (((w 110 11) + (kI 1)) + (kI 1))) 110 11 ((((w 110 11) + (kI 1)) + (kI 1)) + (kI 1))) 110 11) → (inB ((up2 (up2 (up2 w 110 11 ((w 110 11) + (kI 1))) 110 11 (((w 110 11) + (kI 1)) + (kI 1))) 110 11 ((((w 110 11) + (kI 1)) + (kI 1)) + (kI 1))) 110 11) 260 = true))) ∧ ((¬ (F_175_110 (up2 (up2 (up2 w 110 11 ((w 110 11) + (kI 1))) 110 11 (((w 110 11) + (kI 1)) + (kI 1))) 110 11 ((((w 110 11) + (kI 1)) + (kI 1)) + (kI 1)))) < (kI 48) → (¬ ((up2 (up2 (up2 w 110 11 ((w 110 11) + (kI 1))) 110 11 (((w 110 11) + (kI 1)) + (kI 1))) 110 11 ((((w 110 11) + (kI 1)) + (kI 1)) + (kI 1))) 110 12) ≤ ((up2 (up2 (up2 w 110 11 ((w 110 11) + (kI 1))) 110 11 (((w 110 11) + (kI 1)) + (kI 1))) 110 11 ((((w 110 11) + (kI 1)) + (kI 1)) + (kI 1))) 110 11) → (inB ((up2 (up2 (up2 w 110 11 ((w 110 11) + (kI 1))) 110 11 (((w 110 11) + (kI 1)) + (kI 1))) 110 11 ((((w 110 11) + (kI 1)) + (kI 1)) + (kI 1))) 110 11) 260 = true))) ∧ (if (F_176_110 (up2 (up2 (up2 w 110 11 ((w 110 11) + (kI 1))) 110 11 (((w 110 11) + (kI 1)) + (kI 1))) 110 11 ((((w 110 11) + (kI 1)) + (kI 1)) + (kI 1)))) = 0 then Q (F_177_110 (kI 1) ((((w 110 11) + (kI 1)) + (kI 1)) + (kI 1)) (up2 (up2 (up2 w 110 11 ((w 110 11) + (kI 1))) 110 11 (((w 110 11) + (kI 1)) + (kI 1))) 110 11 ((((w 110 11) + (kI 1)) + (kI 1)) + (kI 1)))) (G_177_110 (kI 1) ((((w 110 11) + (kI 1)) + (kI 1)) + (kI 1)) (up2 (up2 (up2 w 110 11 ((w 110 11) + (kI 1))) 110 11 (((w 110 11) + (kI 1)) + (kI 1))) 110 11 ((((w 110 11) + (kI 1)) + (kI 1)) + (kI 1)))) else EI X (d + 2) 202 (209, [some (.ref 110), some (.int ((F_175_110 w) - (kI 97))), some (.int ((F_175_110 (up2 w 110 11 ((w 110 11) + (kI 1)))) - (kI 48))), some (.int (kI (-1))), some (.int ((((w 110 11) + (kI 1)) + (kI 1)) + (kI 1))), some (.int (kI 0))], [], SH, (up2 (up2 (up2 w 110 11 ((w 110 11) + (kI 1))) 110 11 (((w 110 11) + (kI 1)) + (kI 1))) 110 11 ((((w 110 11) + (kI 1)) + (kI 1)) + (kI 1)))) Q))) else Q (F_177_110 (kI 1) (((w 110 11) + (kI 1)) + (kI 1)) (up2 (up2 w 110 11 ((w 110 11) + (kI 1))) 110 11 (((w 110 11) + (kI 1)) + (kI 1)))) (G_177_110 (kI 1) (((w 110 11) + (kI 1)) + (kI 1)) (up2 (up2 w 110 11 ((w 110 11) + (kI 1))) 110 11 (((w 110 11) + (kI 1)) + (kI 1)))))))))))))))) : EI X (d + 2) 202 (0, [some (.ref 110), none, none, none, none, none], [], SH, w) Q := by
  unfold EI
  refine EV.steps cl_202 1 (q2 := (1, [some (.ref 110), none, none, none, none, none], [.ref 110], SH, w)) rfl ?_
  obtain ⟨j1, H⟩ := H
  refine EV.callF (kc := 175) (av := [.ref 110]) (r := []) (rv := some (.int (F_175_110 w))) (w2 := w) cl_202 rfl rfl rfl (m_175_110 w  j1) ?_
  refine EV.steps cl_202 6 (q2 := (11, [some (.ref 110), some (.int ((F_175_110 w) - (kI 97))), none, none, none, none], [.int (kI 5), .int (kI 0), .int ((F_175_110 w) - (kI 97))], SH, w)) rfl ?_
  refine EV.callF (kc := 157) (av := [.int ((F_175_110 w) - (kI 97)), .int (kI 0), .int (kI 5)]) (r := []) (rv := some (.int (F_157 ((F_175_110 w) - (kI 97)) (kI 0) (kI 5) w))) (w2 := w) cl_202 rfl rfl rfl (m_157 w ((F_175_110 w) - (kI 97)) (kI 0) (kI 5)) ?_
  refine EV.z_ne cl_202 rfl (fun h2 => ?_) (fun h2 => ?_)
  · skip
    rw [if_neg h2] at H
    refine EV.steps cl_202 3 (q2 := (33, [some (.ref 110), some (.int ((F_175_110 w) - (kI 97))), none, none, none, none], [.int (kI 20), .int (w 110 35)], SH, w)) rfl ?_
    refine EV.i_ne cl_202 rfl (fun h3 => ?_) (fun h3 => ?_)
    · skip
      rw [if_neg h3] at H
      refine EV.steps cl_202 2 (q2 := (48, [some (.ref 110), some (.int ((F_175_110 w) - (kI 97))), none, none, none, none], [.int ((F_175_110 w) - (kI 97)), .ref 110], SH, w)) rfl ?_
      refine EV.callF (kc := 164) (av := [.ref 110, .int ((F_175_110 w) - (kI 97))]) (r := []) (rv := some (.int (F_164_110 ((F_175_110 w) - (kI 97)) w))) (w2 := w) cl_202 rfl rfl rfl (m_164_110 w ((F_175_110 w) - (kI 97))) ?_
      refine EV.z_ne cl_202 rfl (fun h4 => ?_) (fun h4 => ?_)
      · skip
        rw [if_neg h4] at H
        refine EV.steps cl_202 7 (q2 := (76, [some (.ref 110), some (.int ((F_175_110 w) - (kI 97))), none, none, none, none], [.ref 110], SH, (up2 w 110 11 ((w 110 11) + (kI 1))))) rfl ?_
        obtain ⟨j5, H⟩ := H
        refine EV.callF (kc := 175) (av := [.ref 110]) (r := []) (rv := some (.int (F_175_110 (up2 w 110 11 ((w 110 11) + (kI 1)))))) (w2 := (up2 w 110 11 ((w 110 11) + (kI 1)))) cl_202 rfl rfl rfl (m_175_110 (up2 w 110 11 ((w 110 11) + (kI 1)))  j5) ?_
        refine EV.steps cl_202 6 (q2 := (86, [some (.ref 110), some (.int ((F_175_110 w) - (kI 97))), some (.int ((F_175_110 (up2 w 110 11 ((w 110 11) + (kI 1)))) - (kI 48))), none, none, none], [.int (kI 5), .int (kI 0), .int ((F_175_110 (up2 w 110 11 ((w 110 11) + (kI 1)))) - (kI 48))], SH, (up2 w 110 11 ((w 110 11) + (kI 1))))) rfl ?_
        refine EV.callF (kc := 157) (av := [.int ((F_175_110 (up2 w 110 11 ((w 110 11) + (kI 1)))) - (kI 48)), .int (kI 0), .int (kI 5)]) (r := []) (rv := some (.int (F_157 ((F_175_110 (up2 w 110 11 ((w 110 11) + (kI 1)))) - (kI 48)) (kI 0) (kI 5) (up2 w 110 11 ((w 110 11) + (kI 1)))))) (w2 := (up2 w 110 11 ((w 110 11) + (kI 1)))) cl_202 rfl rfl rfl (m_157 (up2 w 110 11 ((w 110 11) + (kI 1))) ((F_175_110 (up2 w 110 11 ((w 110 11) + (kI 1)))) - (kI 48)) (kI 0) (kI 5)) ?_
        refine EV.z_ne cl_202 rfl (fun h6 => ?_) (fun h6 => ?_)
        · skip
          rw [if_neg h6] at H
          refine EV.steps cl_202 2 (q2 := (104, [some (.ref 110), some (.int ((F_175_110 w) - (kI 97))), some (.int ((F_175_110 (up2 w 110 11 ((w 110 11) + (kI 1)))) - (kI 48))), none, none, none], [.int ((F_175_110 (up2 w 110 11 ((w 110 11) + (kI 1)))) - (kI 48)), .ref 110], SH, (up2 w 110 11 ((w 110 11) + (kI 1))))) rfl ?_
          refine EV.callF (kc := 165) (av := [.ref 110, .int ((F_175_110 (up2 w 110 11 ((w 110 11) + (kI 1)))) - (kI 48))]) (r := []) (rv := some (.int (F_165_110 ((F_175_110 (up2 w 110 11 ((w 110 11) + (kI 1)))) - (kI 48)) (up2 w 110 11 ((w 110 11) + (kI 1)))))) (w2 := (up2 w 110 11 ((w 110 11) + (kI 1)))) cl_202 rfl rfl rfl (m_165_110 (up2 w 110 11 ((w 110 11) + (kI 1))) ((F_175_110 (up2 w 110 11 ((w 110 11) + (kI 1)))) - (kI 48))) ?_
          refine EV.z_ne cl_202 rfl (fun h7 => ?_) (fun h7 => ?_)
          · skip
            rw [if_neg h7] at H
            refine EV.steps cl_202 7 (q2 := (132, [some (.ref 110), some (.int ((F_175_110 w) - (kI 97))), some (.int ((F_175_110 (up2 w 110 11 ((w 110 11) + (kI 1)))) - (kI 48))), none, none, none], [.ref 110], SH, (up2 (up2 w 110 11 ((w 110 11) + (kI 1))) 110 11 (((w 110 11) + (kI 1)) + (kI 1))))) rfl ?_
            obtain ⟨j8, H⟩ := H
            refine EV.callF (kc := 175) (av := [.ref 110]) (r := []) (rv := some (.int (F_175_110 (up2 (up2 w 110 11 ((w 110 11) + (kI 1))) 110 11 (((w 110 11) + (kI 1)) + (kI 1)))))) (w2 := (up2 (up2 w 110 11 ((w 110 11) + (kI 1))) 110 11 (((w 110 11) + (kI 1)) + (kI 1)))) cl_202 rfl rfl rfl (m_175_110 (up2 (up2 w 110 11 ((w 110 11) + (kI 1))) 110 11 (((w 110 11) + (kI 1)) + (kI 1)))  j8) ?_
            refine EV.steps cl_202 1 (q2 := (137, [some (.ref 110), some (.int ((F_175_110 w) - (kI 97))), some (.int ((F_175_110 (up2 w 110 11 ((w 110 11) + (kI 1)))) - (kI 48))), none, none, none], [.int (kI 43), .int (F_175_110 (up2 (up2 w 110 11 ((w 110 11) + (kI 1))) 110 11 (((w 110 11) + (kI 1)) + (kI 1))))], SH, (up2 (up2 w 110 11 ((w 110 11) + (kI 1))) 110 11 (((w 110 11) + (kI 1)) + (kI 1))))) rfl ?_
            refine EV.i_ne cl_202 rfl (fun h9 => ?_) (fun h9 => ?_)
            · skip
              rw [if_neg h9] at H
              refine EV.steps cl_202 1 (q2 := (145, [some (.ref 110), some (.int ((F_175_110 w) - (kI 97))), some (.int ((F_175_110 (up2 w 110 11 ((w 110 11) + (kI 1)))) - (kI 48))), none, none, none], [.ref 110], SH, (up2 (up2 w 110 11 ((w 110 11) + (kI 1))) 110 11 (((w 110 11) + (kI 1)) + (kI 1))))) rfl ?_
              obtain ⟨j10, H⟩ := H
              refine EV.callF (kc := 175) (av := [.ref 110]) (r := []) (rv := some (.int (F_175_110 (up2 (up2 w 110 11 ((w 110 11) + (kI 1))) 110 11 (((w 110 11) + (kI 1)) + (kI 1)))))) (w2 := (up2 (up2 w 110 11 ((w 110 11) + (kI 1))) 110 11 (((w 110 11) + (kI 1)) + (kI 1)))) cl_202 rfl rfl rfl (m_175_110 (up2 (up2 w 110 11 ((w 110 11) + (kI 1))) 110 11 (((w 110 11) + (kI 1)) + (kI 1)))  j10) ?_
              refine EV.steps cl_202 1 (q2 := (150, [some (.ref 110), some (.int ((F_175_110 w) - (kI 97))), some (.int ((F_175_110 (up2 w 110 11 ((w 110 11) + (kI 1)))) - (kI 48))), none, none, none], [.int (kI 45), .int (F_175_110 (up2 (up2 w 110 11 ((w 110 11) + (kI 1))) 110 11 (((w 110 11) + (kI 1)) + (kI 1))))], SH, (up2 (up2 w 110 11 ((w 110 11) + (kI 1))) 110 11 (((w 110 11) + (kI 1)) + (kI 1))))) rfl ?_
              refine EV.i_ne cl_202 rfl (fun h11 => ?_) (fun h11 => ?_)
              · skip
                rw [if_neg h11] at H
                refine EV.steps cl_202 8 (q2 := (169, [some (.ref 110), some (.int ((F_175_110 w) - (kI 97))), some (.int ((F_175_110 (up2 w 110 11 ((w 110 11) + (kI 1)))) - (kI 48))), some (.int (kI 0)), none, none], [.int (((w 110 11) + (kI 1)) + (kI 1)), .int (kI 1), .ref 110], SH, (up2 (up2 w 110 11 ((w 110 11) + (kI 1))) 110 11 (((w 110 11) + (kI 1)) + (kI 1))))) rfl ?_
                refine EV.callF (kc := 177) (av := [.ref 110, .int (kI 1), .int (((w 110 11) + (kI 1)) + (kI 1))]) (r := []) (rv := some (.int (F_177_110 (kI 1) (((w 110 11) + (kI 1)) + (kI 1)) (up2 (up2 w 110 11 ((w 110 11) + (kI 1))) 110 11 (((w 110 11) + (kI 1)) + (kI 1)))))) (w2 := (G_177_110 (kI 1) (((w 110 11) + (kI 1)) + (kI 1)) (up2 (up2 w 110 11 ((w 110 11) + (kI 1))) 110 11 (((w 110 11) + (kI 1)) + (kI 1))))) cl_202 rfl rfl rfl (m_177_110 (up2 (up2 w 110 11 ((w 110 11) + (kI 1))) 110 11 (((w 110 11) + (kI 1)) + (kI 1))) (kI 1) (((w 110 11) + (kI 1)) + (kI 1))) ?_
                refine EV.retB cl_202 rfl rfl (z1_177_110 (kI 1) (((w 110 11) + (kI 1)) + (kI 1)) (up2 (up2 w 110 11 ((w 110 11) + (kI 1))) 110 11 (((w 110 11) + (kI 1)) + (kI 1)))) ?_
                exact ⟨_, rfl, rfl, H⟩
              · skip
                rw [if_pos h11] at H
                refine EV.steps cl_202 17 (q2 := (193, [some (.ref 110), some (.int ((F_175_110 w) - (kI 97))), some (.int ((F_175_110 (up2 w 110 11 ((w 110 11) + (kI 1)))) - (kI 48))), some (.int (kI (-1))), some (.int ((((w 110 11) + (kI 1)) + (kI 1)) + (kI 1))), some (.int (kI 0))], [.ref 110], SH, (up2 (up2 (up2 w 110 11 ((w 110 11) + (kI 1))) 110 11 (((w 110 11) + (kI 1)) + (kI 1))) 110 11 ((((w 110 11) + (kI 1)) + (kI 1)) + (kI 1))))) rfl ?_
                obtain ⟨j12, H⟩ := H
                obtain ⟨j13, H⟩ := H
                refine EV.callF (kc := 176) (av := [.ref 110]) (r := []) (rv := some (.int (F_176_110 (up2 (up2 (up2 w 110 11 ((w 110 11) + (kI 1))) 110 11 (((w 110 11) + (kI 1)) + (kI 1))) 110 11 ((((w 110 11) + (kI 1)) + (kI 1)) + (kI 1)))))) (w2 := (up2 (up2 (up2 w 110 11 ((w 110 11) + (kI 1))) 110 11 (((w 110 11) + (kI 1)) + (kI 1))) 110 11 ((((w 110 11) + (kI 1)) + (kI 1)) + (kI 1)))) cl_202 rfl rfl rfl (m_176_110 (up2 (up2 (up2 w 110 11 ((w 110 11) + (kI 1))) 110 11 (((w 110 11) + (kI 1)) + (kI 1))) 110 11 ((((w 110 11) + (kI 1)) + (kI 1)) + (kI 1)))  j12 j13) ?_
                refine EV.z_ne cl_202 rfl (fun h14 => ?_) (fun h14 => ?_)
                · skip
                  rw [if_neg h14] at H
                  exact H
                · skip
                  rw [if_pos h14] at H
                  refine EV.steps cl_202 4 (q2 := (205, [some (.ref 110), some (.int ((F_175_110 w) - (kI 97))), some (.int ((F_175_110 (up2 w 110 11 ((w 110 11) + (kI 1)))) - (kI 48))), some (.int (kI (-1))), some (.int ((((w 110 11) + (kI 1)) + (kI 1)) + (kI 1))), some (.int (kI 0))], [.int ((((w 110 11) + (kI 1)) + (kI 1)) + (kI 1)), .int (kI 1), .ref 110], SH, (up2 (up2 (up2 w 110 11 ((w 110 11) + (kI 1))) 110 11 (((w 110 11) + (kI 1)) + (kI 1))) 110 11 ((((w 110 11) + (kI 1)) + (kI 1)) + (kI 1))))) rfl ?_
                  refine EV.callF (kc := 177) (av := [.ref 110, .int (kI 1), .int ((((w 110 11) + (kI 1)) + (kI 1)) + (kI 1))]) (r := []) (rv := some (.int (F_177_110 (kI 1) ((((w 110 11) + (kI 1)) + (kI 1)) + (kI 1)) (up2 (up2 (up2 w 110 11 ((w 110 11) + (kI 1))) 110 11 (((w 110 11) + (kI 1)) + (kI 1))) 110 11 ((((w 110 11) + (kI 1)) + (kI 1)) + (kI 1)))))) (w2 := (G_177_110 (kI 1) ((((w 110 11) + (kI 1)) + (kI 1)) + (kI 1)) (up2 (up2 (up2 w 110 11 ((w 110 11) + (kI 1))) 110 11 (((w 110 11) + (kI 1)) + (kI 1))) 110 11 ((((w 110 11) + (kI 1)) + (kI 1)) + (kI 1))))) cl_202 rfl rfl rfl (m_177_110 (up2 (up2 (up2 w 110 11 ((w 110 11) + (kI 1))) 110 11 (((w 110 11) + (kI 1)) + (kI 1))) 110 11 ((((w 110 11) + (kI 1)) + (kI 1)) + (kI 1))) (kI 1) ((((w 110 11) + (kI 1)) + (kI 1)) + (kI 1))) ?_
                  refine EV.retB cl_202 rfl rfl (z1_177_110 (kI 1) ((((w 110 11) + (kI 1)) + (kI 1)) + (kI 1)) (up2 (up2 (up2 w 110 11 ((w 110 11) + (kI 1))) 110 11 (((w 110 11) + (kI 1)) + (kI 1))) 110 11 ((((w 110 11) + (kI 1)) + (kI 1)) + (kI 1)))) ?_
                  exact ⟨_, rfl, rfl, H⟩
            · skip
              rw [if_pos h9] at H
              refine EV.steps cl_202 17 (q2 := (193, [some (.ref 110), some (.int ((F_175_110 w) - (kI 97))), some (.int ((F_175_110 (up2 w 110 11 ((w 110 11) + (kI 1)))) - (kI 48))), some (.int (kI 1)), some (.int ((((w 110 11) + (kI 1)) + (kI 1)) + (kI 1))), some (.int (kI 0))], [.ref 110], SH, (up2 (up2 (up2 w 110 11 ((w 110 11) + (kI 1))) 110 11 (((w 110 11) + (kI 1)) + (kI 1))) 110 11 ((((w 110 11) + (kI 1)) + (kI 1)) + (kI 1))))) rfl ?_
              obtain ⟨j15, H⟩ := H
              obtain ⟨j16, H⟩ := H
              refine EV.callF (kc := 176) (av := [.ref 110]) (r := []) (rv := some (.int (F_176_110 (up2 (up2 (up2 w 110 11 ((w 110 11) + (kI 1))) 110 11 (((w 110 11) + (kI 1)) + (kI 1))) 110 11 ((((w 110 11) + (kI 1)) + (kI 1)) + (kI 1)))))) (w2 := (up2 (up2 (up2 w 110 11 ((w 110 11) + (kI 1))) 110 11 (((w 110 11) + (kI 1)) + (kI 1))) 110 11 ((((w 110 11) + (kI 1)) + (kI 1)) + (kI 1)))) cl_202 rfl rfl rfl (m_176_110 (up2 (up2 (up2 w 110 11 ((w 110 11) + (kI 1))) 110 11 (((w 110 11) + (kI 1)) + (kI 1))) 110 11 ((((w 110 11) + (kI 1)) + (kI 1)) + (kI 1)))  j15 j16) ?_
              refine EV.z_ne cl_202 rfl (fun h17 => ?_) (fun h17 => ?_)
              · skip
                rw [if_neg h17] at H
                exact H
              · skip
                rw [if_pos h17] at H
                refine EV.steps cl_202 4 (q2 := (205, [some (.ref 110), some (.int ((F_175_110 w) - (kI 97))), some (.int ((F_175_110 (up2 w 110 11 ((w 110 11) + (kI 1)))) - (kI 48))), some (.int (kI 1)), some (.int ((((w 110 11) + (kI 1)) + (kI 1)) + (kI 1))), some (.int (kI 0))], [.int ((((w 110 11) + (kI 1)) + (kI 1)) + (kI 1)), .int (kI 1), .ref 110], SH, (up2 (up2 (up2 w 110 11 ((w 110 11) + (kI 1))) 110 11 (((w 110 11) + (kI 1)) + (kI 1))) 110 11 ((((w 110 11) + (kI 1)) + (kI 1)) + (kI 1))))) rfl ?_
                refine EV.callF (kc := 177) (av := [.ref 110, .int (kI 1), .int ((((w 110 11) + (kI 1)) + (kI 1)) + (kI 1))]) (r := []) (rv := some (.int (F_177_110 (kI 1) ((((w 110 11) + (kI 1)) + (kI 1)) + (kI 1)) (up2 (up2 (up2 w 110 11 ((w 110 11) + (kI 1))) 110 11 (((w 110 11) + (kI 1)) + (kI 1))) 110 11 ((((w 110 11) + (kI 1)) + (kI 1)) + (kI 1)))))) (w2 := (G_177_110 (kI 1) ((((w 110 11) + (kI 1)) + (kI 1)) + (kI 1)) (up2 (up2 (up2 w 110 11 ((w 110 11) + (kI 1))) 110 11 (((w 110 11) + (kI 1)) + (kI 1))) 110 11 ((((w 110 11) + (kI 1)) + (kI 1)) + (kI 1))))) cl_202 rfl rfl rfl (m_177_110 (up2 (up2 (up2 w 110 11 ((w 110 11) + (kI 1))) 110 11 (((w 110 11) + (kI 1)) + (kI 1))) 110 11 ((((w 110 11) + (kI 1)) + (kI 1)) + (kI 1))) (kI 1) ((((w 110 11) + (kI 1)) + (kI 1)) + (kI 1))) ?_
                refine EV.retB cl_202 rfl rfl (z1_177_110 (kI 1) ((((w 110 11) + (kI 1)) + (kI 1)) + (kI 1)) (up2 (up2 (up2 w 110 11 ((w 110 11) + (kI 1))) 110 11 (((w 110 11) + (kI 1)) + (kI 1))) 110 11 ((((w 110 11) + (kI 1)) + (kI 1)) + (kI 1)))) ?_
                exact ⟨_, rfl, rfl, H⟩
          · skip
            rw [if_pos h7] at H
            refine EV.steps cl_202 4 (q2 := (117, [some (.ref 110), some (.int ((F_175_110 w) - (kI 97))), some (.int ((F_175_110 (up2 w 110 11 ((w 110 11) + (kI 1)))) - (kI 48))), none, none, none], [.int ((w 110 11) + (kI 1)), .int (kI 7), .ref 110], SH, (up2 w 110 11 ((w 110 11) + (kI 1))))) rfl ?_
            refine EV.callF (kc := 177) (av := [.ref 110, .int (kI 7), .int ((w 110 11) + (kI 1))]) (r := []) (rv := some (.int (F_177_110 (kI 7) ((w 110 11) + (kI 1)) (up2 w 110 11 ((w 110 11) + (kI 1)))))) (w2 := (G_177_110 (kI 7) ((w 110 11) + (kI 1)) (up2 w 110 11 ((w 110 11) + (kI 1))))) cl_202 rfl rfl rfl (m_177_110 (up2 w 110 11 ((w 110 11) + (kI 1))) (kI 7) ((w 110 11) + (kI 1))) ?_
            refine EV.retB cl_202 rfl rfl (z1_177_110 (kI 7) ((w 110 11) + (kI 1)) (up2 w 110 11 ((w 110 11) + (kI 1)))) ?_
            exact ⟨_, rfl, rfl, H⟩
        · skip
          rw [if_pos h6] at H
          refine EV.steps cl_202 4 (q2 := (98, [some (.ref 110), some (.int ((F_175_110 w) - (kI 97))), some (.int ((F_175_110 (up2 w 110 11 ((w 110 11) + (kI 1)))) - (kI 48))), none, none, none], [.int ((w 110 11) + (kI 1)), .int (kI 1), .ref 110], SH, (up2 w 110 11 ((w 110 11) + (kI 1))))) rfl ?_
          refine EV.callF (kc := 177) (av := [.ref 110, .int (kI 1), .int ((w 110 11) + (kI 1))]) (r := []) (rv := some (.int (F_177_110 (kI 1) ((w 110 11) + (kI 1)) (up2 w 110 11 ((w 110 11) + (kI 1)))))) (w2 := (G_177_110 (kI 1) ((w 110 11) + (kI 1)) (up2 w 110 11 ((w 110 11) + (kI 1))))) cl_202 rfl rfl rfl (m_177_110 (up2 w 110 11 ((w 110 11) + (kI 1))) (kI 1) ((w 110 11) + (kI 1))) ?_
          refine EV.retB cl_202 rfl rfl (z1_177_110 (kI 1) ((w 110 11) + (kI 1)) (up2 w 110 11 ((w 110 11) + (kI 1)))) ?_
          exact ⟨_, rfl, rfl, H⟩
      · skip
        rw [if_pos h4] at H
        refine EV.steps cl_202 4 (q2 := (61, [some (.ref 110), some (.int ((F_175_110 w) - (kI 97))), none, none, none, none], [.int (w 110 11), .int (kI 7), .ref 110], SH, w)) rfl ?_
        refine EV.callF (kc := 177) (av := [.ref 110, .int (kI 7), .int (w 110 11)]) (r := []) (rv := some (.int (F_177_110 (kI 7) (w 110 11) w))) (w2 := (G_177_110 (kI 7) (w 110 11) w)) cl_202 rfl rfl rfl (m_177_110 w (kI 7) (w 110 11)) ?_
        refine EV.retB cl_202 rfl rfl (z1_177_110 (kI 7) (w 110 11) w) ?_
        exact ⟨_, rfl, rfl, H⟩
    · skip
      rw [if_pos h3] at H
      refine EV.steps cl_202 4 (q2 := (42, [some (.ref 110), some (.int ((F_175_110 w) - (kI 97))), none, none, none, none], [.int (w 110 11), .int (kI 4), .ref 110], SH, w)) rfl ?_
      refine EV.callF (kc := 177) (av := [.ref 110, .int (kI 4), .int (w 110 11)]) (r := []) (rv := some (.int (F_177_110 (kI 4) (w 110 11) w))) (w2 := (G_177_110 (kI 4) (w 110 11) w)) cl_202 rfl rfl rfl (m_177_110 w (kI 4) (w 110 11)) ?_
      refine EV.retB cl_202 rfl rfl (z1_177_110 (kI 4) (w 110 11) w) ?_
      exact ⟨_, rfl, rfl, H⟩
  · skip
    rw [if_pos h2] at H
    refine EV.steps cl_202 4 (q2 := (23, [some (.ref 110), some (.int ((F_175_110 w) - (kI 97))), none, none, none, none], [.int (w 110 11), .int (kI 1), .ref 110], SH, w)) rfl ?_
    refine EV.callF (kc := 177) (av := [.ref 110, .int (kI 1), .int (w 110 11)]) (r := []) (rv := some (.int (F_177_110 (kI 1) (w 110 11) w))) (w2 := (G_177_110 (kI 1) (w 110 11) w)) cl_202 rfl rfl rfl (m_177_110 w (kI 1) (w 110 11)) ?_
    refine EV.retB cl_202 rfl rfl (z1_177_110 (kI 1) (w 110 11) w) ?_
    exact ⟨_, rfl, rfl, H⟩
