theorem t254_110_at0 {X : Scr} {d : Nat} {Q : Int32 → Wd → Prop} (w : Wd) 
    (H : CU X (d + 1) 163 [.ref 111, .ref 113] (up2 w 110 64 (kI 1)) (fun w1 => Q (w1 111 (kI 158).toNatClampNeg) w1)) : EI X (d + 1) 254 (0, [some (.ref 110)], [], SH, w) Q := by
  unfold EI
  refine EV.steps cl_254 7 (q2 := (13, [some (.ref 110)], [.ref 113, .ref 111], SH, (up2 w 110 64 (kI 1)))) rfl ?_
  refine EV.call (kc := 163) (av := [.ref 111, .ref 113]) (r := []) cl_254 rfl rfl rfl H ?_
  clear H; intro y1 s1 w1 e1
  obtain ⟨rfl, rfl, H⟩ := e1
  refine EV.steps cl_254 3 (q2 := (23, [some (.ref 110)], [.int (kI 158), .ref 111], SH, w1)) rfl ?_
  refine EV.iaload cl_254 rfl rfl (by decide) rfl ?_
  refine EV.ret cl_254 rfl rfl rfl ?_
  exact ⟨_, rfl, rfl, H⟩
theorem t255_110_at0 {X : Scr} {d : Nat} {Q : Int32 → Wd → Prop} (w : Wd) 
    (H : (if (w 110 64) = 0 then Q (kI 0) w else CU X (d + 1) 163 [.ref 113, .ref 111] w (fun w1 => Q (kI 1) w1))) : EI X (d + 1) 255 (0, [some (.ref 110)], [], SH, w) Q := by
  unfold EI
  refine EV.steps cl_255 2 (q2 := (4, [some (.ref 110)], [.int (w 110 64)], SH, w)) rfl ?_
  refine EV.z_ne cl_255 rfl (fun h1 => ?_) (fun h1 => ?_)
  · skip
    rw [if_neg h1] at H
    refine EV.steps cl_255 4 (q2 := (17, [some (.ref 110)], [.ref 111, .ref 113], SH, w)) rfl ?_
    refine EV.call (kc := 163) (av := [.ref 113, .ref 111]) (r := []) cl_255 rfl rfl rfl H ?_
    clear H; intro y1 s1 w1 e1
    obtain ⟨rfl, rfl, H⟩ := e1
    refine EV.steps cl_255 1 (q2 := (21, [some (.ref 110)], [.int (kI 1)], SH, w1)) rfl ?_
    refine EV.ret cl_255 rfl rfl rfl ?_
    exact ⟨_, rfl, rfl, H⟩
  · skip
    rw [if_pos h1] at H
    refine EV.steps cl_255 1 (q2 := (8, [some (.ref 110)], [.int (kI 0)], SH, w)) rfl ?_
    refine EV.ret cl_255 rfl rfl rfl ?_
    exact ⟨_, rfl, rfl, H⟩
theorem t256_110_at0 {X : Scr} {d : Nat} {Q : Int32 → Wd → Prop} (w : Wd) (v1 : Int32) (v2 : Int32)
    (H : (if (F_165_110 v1 w) = 0 then Q (kI (-2)) w else (if (F_157 v2 (kI 0) (kI 6) w) = 0 then Q (kI (-2)) w else (if v2 ≤ (w 110 10) then EI X (d + 2) 256 (36, [some (.ref 110), some (.int v1), some (.int v2), some (.int (kI 0))], [], SH, (up2 w 110 10 (kI 0))) Q else Q (kI (-2)) w)))) : EI X (d + 2) 256 (0, [some (.ref 110), some (.int v1), some (.int v2), none], [], SH, w) Q := by
  unfold EI
  refine EV.steps cl_256 2 (q2 := (2, [some (.ref 110), some (.int v1), some (.int v2), none], [.int v1, .ref 110], SH, w)) rfl ?_
  refine EV.callF (kc := 165) (av := [.ref 110, .int v1]) (r := []) (rv := some (.int (F_165_110 v1 w))) (w2 := w) cl_256 rfl rfl rfl (m_165_110 w v1) ?_
  refine EV.z_eq cl_256 rfl (fun h1 => ?_) (fun h1 => ?_)
  · skip
    rw [if_pos h1] at H
    refine EV.steps cl_256 1 (q2 := (28, [some (.ref 110), some (.int v1), some (.int v2), none], [.int (kI (-2))], SH, w)) rfl ?_
    refine EV.ret cl_256 rfl rfl rfl ?_
    exact ⟨_, rfl, rfl, H⟩
  · skip
    rw [if_neg h1] at H
    refine EV.steps cl_256 3 (q2 := (12, [some (.ref 110), some (.int v1), some (.int v2), none], [.int (kI 6), .int (kI 0), .int v2], SH, w)) rfl ?_
    refine EV.callF (kc := 157) (av := [.int v2, .int (kI 0), .int (kI 6)]) (r := []) (rv := some (.int (F_157 v2 (kI 0) (kI 6) w))) (w2 := w) cl_256 rfl rfl rfl (m_157 w v2 (kI 0) (kI 6)) ?_
    refine EV.z_eq cl_256 rfl (fun h2 => ?_) (fun h2 => ?_)
    · skip
      rw [if_pos h2] at H
      refine EV.steps cl_256 1 (q2 := (28, [some (.ref 110), some (.int v1), some (.int v2), none], [.int (kI (-2))], SH, w)) rfl ?_
      refine EV.ret cl_256 rfl rfl rfl ?_
      exact ⟨_, rfl, rfl, H⟩
    · skip
      rw [if_neg h2] at H
      refine EV.steps cl_256 3 (q2 := (23, [some (.ref 110), some (.int v1), some (.int v2), none], [.int (w 110 10), .int v2], SH, w)) rfl ?_
      refine EV.i_le cl_256 rfl (fun h3 => ?_) (fun h3 => ?_)
      · skip
        rw [if_pos h3] at H
        refine EV.steps cl_256 5 (q2 := (36, [some (.ref 110), some (.int v1), some (.int v2), some (.int (kI 0))], [], SH, (up2 w 110 10 (kI 0)))) rfl ?_
        exact H
      · skip
        rw [if_neg h3] at H
        refine EV.steps cl_256 1 (q2 := (28, [some (.ref 110), some (.int v1), some (.int v2), none], [.int (kI (-2))], SH, w)) rfl ?_
        refine EV.ret cl_256 rfl rfl rfl ?_
        exact ⟨_, rfl, rfl, H⟩
theorem t256_110_at36 {X : Scr} {d : Nat} {Q : Int32 → Wd → Prop} (w : Wd) (v1 : Int32) (v2 : Int32) (v3 : Int32)
    (H : (if v2 ≤ v3 then Q (kI (-1)) w else (inB v3 260 = true ∧ (if (F_164_110 v3 w) = 0 then (if ((w 117 v3.toNatClampNeg) &&& (kI 255)) = (kI 0) then EI X (d + 2) 256 (36, [some (.ref 110), some (.int v1), some (.int v2), some (.int (v3 + (kI 1)))], [], SH, w) Q else Q v3 w) else (((inB (((kI 0) + ((kI 6) * v3)) + v1) 162 = true)) ∧ (if ((w 117 v3.toNatClampNeg) &&& (kI 255)) = ((F_166_110 v3 v1 w) - (F_166_110 v3 v1 w) / (kI 256) * (kI 256)) then EI X (d + 2) 256 (36, [some (.ref 110), some (.int v1), some (.int v2), some (.int (v3 + (kI 1)))], [], SH, w) Q else Q v3 w)))))) : EI X (d + 2) 256 (36, [some (.ref 110), some (.int v1), some (.int v2), some (.int v3)], [], SH, w) Q := by
  unfold EI
  refine EV.steps cl_256 2 (q2 := (38, [some (.ref 110), some (.int v1), some (.int v2), some (.int v3)], [.int v2, .int v3], SH, w)) rfl ?_
  refine EV.i_ge cl_256 rfl (fun h1 => ?_) (fun h1 => ?_)
  · skip
    rw [if_pos h1] at H
    refine EV.steps cl_256 1 (q2 := (85, [some (.ref 110), some (.int v1), some (.int v2), some (.int v3)], [.int (kI (-1))], SH, w)) rfl ?_
    refine EV.ret cl_256 rfl rfl rfl ?_
    exact ⟨_, rfl, rfl, H⟩
  · skip
    rw [if_neg h1] at H
    refine EV.steps cl_256 3 (q2 := (46, [some (.ref 110), some (.int v1), some (.int v2), some (.int v3)], [.int v3, .ref 117], SH, w)) rfl ?_
    obtain ⟨j2, H⟩ := H
    refine EV.baload cl_256 rfl rfl (by decide) j2 ?_
    refine EV.steps cl_256 4 (q2 := (53, [some (.ref 110), some (.int v1), some (.int v2), some (.int v3)], [.int v3, .ref 110, .int ((w 117 v3.toNatClampNeg) &&& (kI 255))], SH, w)) rfl ?_
    refine EV.callF (kc := 164) (av := [.ref 110, .int v3]) (r := [.int ((w 117 v3.toNatClampNeg) &&& (kI 255))]) (rv := some (.int (F_164_110 v3 w))) (w2 := w) cl_256 rfl rfl rfl (m_164_110 w v3) ?_
    refine EV.z_eq cl_256 rfl (fun h3 => ?_) (fun h3 => ?_)
    · skip
      rw [if_pos h3] at H
      refine EV.steps cl_256 1 (q2 := (73, [some (.ref 110), some (.int v1), some (.int v2), some (.int v3)], [.int (kI 0), .int ((w 117 v3.toNatClampNeg) &&& (kI 255))], SH, w)) rfl ?_
      refine EV.i_eq cl_256 rfl (fun h4 => ?_) (fun h4 => ?_)
      · skip
        rw [if_pos h4] at H
        refine EV.steps cl_256 2 (q2 := (36, [some (.ref 110), some (.int v1), some (.int v2), some (.int (v3 + (kI 1)))], [], SH, w)) rfl ?_
        exact H
      · skip
        rw [if_neg h4] at H
        refine EV.steps cl_256 1 (q2 := (77, [some (.ref 110), some (.int v1), some (.int v2), some (.int v3)], [.int v3], SH, w)) rfl ?_
        refine EV.ret cl_256 rfl rfl rfl ?_
        exact ⟨_, rfl, rfl, H⟩
    · skip
      rw [if_neg h3] at H
      refine EV.steps cl_256 3 (q2 := (62, [some (.ref 110), some (.int v1), some (.int v2), some (.int v3)], [.int v1, .int v3, .ref 110, .int ((w 117 v3.toNatClampNeg) &&& (kI 255))], SH, w)) rfl ?_
      obtain ⟨j5, H⟩ := H
      refine EV.callF (kc := 166) (av := [.ref 110, .int v3, .int v1]) (r := [.int ((w 117 v3.toNatClampNeg) &&& (kI 255))]) (rv := some (.int (F_166_110 v3 v1 w))) (w2 := w) cl_256 rfl rfl rfl (m_166_110 w v3 v1 j5) ?_
      refine EV.steps cl_256 1 (q2 := (68, [some (.ref 110), some (.int v1), some (.int v2), some (.int v3)], [.int (kI 256), .int (F_166_110 v3 v1 w), .int ((w 117 v3.toNatClampNeg) &&& (kI 255))], SH, w)) rfl ?_
      refine EV.irem cl_256 rfl (by decide) ?_
      refine EV.steps cl_256 1 (q2 := (73, [some (.ref 110), some (.int v1), some (.int v2), some (.int v3)], [.int ((F_166_110 v3 v1 w) - (F_166_110 v3 v1 w) / (kI 256) * (kI 256)), .int ((w 117 v3.toNatClampNeg) &&& (kI 255))], SH, w)) rfl ?_
      refine EV.i_eq cl_256 rfl (fun h6 => ?_) (fun h6 => ?_)
      · skip
        rw [if_pos h6] at H
        refine EV.steps cl_256 2 (q2 := (36, [some (.ref 110), some (.int v1), some (.int v2), some (.int (v3 + (kI 1)))], [], SH, w)) rfl ?_
        exact H
      · skip
        rw [if_neg h6] at H
        refine EV.steps cl_256 1 (q2 := (77, [some (.ref 110), some (.int v1), some (.int v2), some (.int v3)], [.int v3], SH, w)) rfl ?_
        refine EV.ret cl_256 rfl rfl rfl ?_
        exact ⟨_, rfl, rfl, H⟩
