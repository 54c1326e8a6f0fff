set_option maxRecDepth 20000 in
theorem cl_163 : RCT[163]? = some rc_163 := rfl
set_option maxRecDepth 20000 in
theorem cl_174 : RCT[174]? = some rc_174 := rfl
set_option maxRecDepth 20000 in
theorem cl_186 : RCT[186]? = some rc_186 := rfl
set_option maxRecDepth 20000 in
theorem cl_188 : RCT[188]? = some rc_188 := rfl
set_option maxRecDepth 20000 in
theorem cl_192 : RCT[192]? = some rc_192 := rfl
set_option maxRecDepth 20000 in
theorem cl_193 : RCT[193]? = some rc_193 := rfl
set_option maxRecDepth 20000 in
theorem cl_194 : RCT[194]? = some rc_194 := rfl
set_option maxRecDepth 20000 in
theorem cl_196 : RCT[196]? = some rc_196 := rfl
set_option maxRecDepth 20000 in
theorem cl_199 : RCT[199]? = some rc_199 := rfl
set_option maxRecDepth 20000 in
theorem cl_200 : RCT[200]? = some rc_200 := rfl
set_option maxRecDepth 20000 in
theorem cl_201 : RCT[201]? = some rc_201 := rfl
set_option maxRecDepth 20000 in
theorem cl_203 : RCT[203]? = some rc_203 := rfl
set_option maxRecDepth 20000 in
theorem cl_204 : RCT[204]? = some rc_204 := rfl
set_option maxRecDepth 20000 in
theorem cl_205 : RCT[205]? = some rc_205 := rfl
set_option maxRecDepth 20000 in
theorem cl_207 : RCT[207]? = some rc_207 := rfl
set_option maxRecDepth 20000 in
theorem cl_208 : RCT[208]? = some rc_208 := rfl
set_option maxRecDepth 20000 in
theorem cl_209 : RCT[209]? = some rc_209 := rfl
set_option maxRecDepth 20000 in
theorem cl_210 : RCT[210]? = some rc_210 := rfl
set_option maxRecDepth 20000 in
theorem cl_211 : RCT[211]? = some rc_211 := rfl
set_option maxRecDepth 20000 in
theorem cl_212 : RCT[212]? = some rc_212 := rfl
set_option maxRecDepth 20000 in
theorem cl_213 : RCT[213]? = some rc_213 := rfl
set_option maxRecDepth 20000 in
theorem cl_216 : RCT[216]? = some rc_216 := rfl
set_option maxRecDepth 20000 in
theorem cl_217 : RCT[217]? = some rc_217 := rfl
set_option maxRecDepth 20000 in
theorem cl_222 : RCT[222]? = some rc_222 := rfl
set_option maxRecDepth 20000 in
theorem cl_223 : RCT[223]? = some rc_223 := rfl
set_option maxRecDepth 20000 in
theorem cl_224 : RCT[224]? = some rc_224 := rfl
set_option maxRecDepth 20000 in
theorem cl_225 : RCT[225]? = some rc_225 := rfl
set_option maxRecDepth 20000 in
theorem cl_227 : RCT[227]? = some rc_227 := rfl
set_option maxRecDepth 20000 in
theorem cl_231 : RCT[231]? = some rc_231 := rfl
set_option maxRecDepth 20000 in
theorem cl_233 : RCT[233]? = some rc_233 := rfl
set_option maxRecDepth 20000 in
theorem cl_234 : RCT[234]? = some rc_234 := rfl
set_option maxRecDepth 20000 in
theorem cl_236 : RCT[236]? = some rc_236 := rfl
set_option maxRecDepth 20000 in
theorem cl_237 : RCT[237]? = some rc_237 := rfl
set_option maxRecDepth 20000 in
theorem cl_238 : RCT[238]? = some rc_238 := rfl
set_option maxRecDepth 20000 in
theorem cl_239 : RCT[239]? = some rc_239 := rfl
set_option maxRecDepth 20000 in
theorem cl_240 : RCT[240]? = some rc_240 := rfl
set_option maxRecDepth 20000 in
theorem cl_242 : RCT[242]? = some rc_242 := rfl
set_option maxRecDepth 20000 in
theorem cl_243 : RCT[243]? = some rc_243 := rfl
set_option maxRecDepth 20000 in
theorem cl_247 : RCT[247]? = some rc_247 := rfl
set_option maxRecDepth 20000 in
theorem cl_249 : RCT[249]? = some rc_249 := rfl
set_option maxRecDepth 20000 in
theorem cl_251 : RCT[251]? = some rc_251 := rfl
set_option maxRecDepth 20000 in
theorem cl_252 : RCT[252]? = some rc_252 := rfl
set_option maxRecDepth 20000 in
theorem cl_254 : RCT[254]? = some rc_254 := rfl
set_option maxRecDepth 20000 in
theorem cl_255 : RCT[255]? = some rc_255 := rfl
theorem t163_111_112_at0 {X : Scr} {d : Nat} {Q : Wd → Prop} (w : Wd) 
    (H : EU X (d + 1) 163 (2, [some (.ref 111), some (.ref 112), some (.int (kI 0))], [], SH, w) Q) : EU X (d + 1) 163 (0, [some (.ref 111), some (.ref 112), none], [], SH, w) Q := by
  unfold EU
  refine EV.steps cl_163 2 (q2 := (2, [some (.ref 111), some (.ref 112), some (.int (kI 0))], [], SH, w)) rfl ?_
  exact H
theorem t163_111_112_at2 {X : Scr} {d : Nat} {Q : Wd → Prop} (w : Wd) (v2 : Int32)
    (H : (if (kI 162) ≤ v2 then Q w else (inB v2 162 = true ∧ (inB v2 162 = true ∧ EU X (d + 1) 163 (2, [some (.ref 111), some (.ref 112), some (.int (v2 + (kI 1)))], [], SH, (up2 w 112 v2.toNatClampNeg (w 111 v2.toNatClampNeg))) Q)))) : EU X (d + 1) 163 (2, [some (.ref 111), some (.ref 112), some (.int v2)], [], SH, w) Q := by
  unfold EU
  refine EV.steps cl_163 2 (q2 := (6, [some (.ref 111), some (.ref 112), some (.int v2)], [.int (kI 162), .int v2], SH, w)) rfl ?_
  refine EV.i_ge cl_163 rfl (fun h1 => ?_) (fun h1 => ?_)
  · skip
    rw [if_pos h1] at H
    refine EV.ret cl_163 rfl rfl rfl ?_
    exact ⟨rfl, rfl, H⟩
  · skip
    rw [if_neg h1] at H
    refine EV.steps cl_163 4 (q2 := (13, [some (.ref 111), some (.ref 112), some (.int v2)], [.int v2, .ref 111, .int v2, .ref 112], SH, w)) rfl ?_
    obtain ⟨j2, H⟩ := H
    refine EV.iaload cl_163 rfl rfl (by decide) j2 ?_
    obtain ⟨j3, H⟩ := H
    refine EV.iastore cl_163 rfl rfl (by decide) j3 ?_
    refine EV.steps cl_163 2 (q2 := (2, [some (.ref 111), some (.ref 112), some (.int (v2 + (kI 1)))], [], SH, (up2 w 112 v2.toNatClampNeg (w 111 v2.toNatClampNeg)))) rfl ?_
    exact H
theorem t163_112_111_at0 {X : Scr} {d : Nat} {Q : Wd → Prop} (w : Wd) 
    (H : EU X (d + 1) 163 (2, [some (.ref 112), some (.ref 111), some (.int (kI 0))], [], SH, w) Q) : EU X (d + 1) 163 (0, [some (.ref 112), some (.ref 111), none], [], SH, w) Q := by
  unfold EU
  refine EV.steps cl_163 2 (q2 := (2, [some (.ref 112), some (.ref 111), some (.int (kI 0))], [], SH, w)) rfl ?_
  exact H
theorem t163_112_111_at2 {X : Scr} {d : Nat} {Q : Wd → Prop} (w : Wd) (v2 : Int32)
    (H : (if (kI 162) ≤ v2 then Q w else (inB v2 162 = true ∧ (inB v2 162 = true ∧ EU X (d + 1) 163 (2, [some (.ref 112), some (.ref 111), some (.int (v2 + (kI 1)))], [], SH, (up2 w 111 v2.toNatClampNeg (w 112 v2.toNatClampNeg))) Q)))) : EU X (d + 1) 163 (2, [some (.ref 112), some (.ref 111), some (.int v2)], [], SH, w) Q := by
  unfold EU
  refine EV.steps cl_163 2 (q2 := (6, [some (.ref 112), some (.ref 111), some (.int v2)], [.int (kI 162), .int v2], SH, w)) rfl ?_
  refine EV.i_ge cl_163 rfl (fun h1 => ?_) (fun h1 => ?_)
  · skip
    rw [if_pos h1] at H
    refine EV.ret cl_163 rfl rfl rfl ?_
    exact ⟨rfl, rfl, H⟩
  · skip
    rw [if_neg h1] at H
    refine EV.steps cl_163 4 (q2 := (13, [some (.ref 112), some (.ref 111), some (.int v2)], [.int v2, .ref 112, .int v2, .ref 111], SH, w)) rfl ?_
    obtain ⟨j2, H⟩ := H
    refine EV.iaload cl_163 rfl rfl (by decide) j2 ?_
    obtain ⟨j3, H⟩ := H
    refine EV.iastore cl_163 rfl rfl (by decide) j3 ?_
    refine EV.steps cl_163 2 (q2 := (2, [some (.ref 112), some (.ref 111), some (.int (v2 + (kI 1)))], [], SH, (up2 w 111 v2.toNatClampNeg (w 112 v2.toNatClampNeg)))) rfl ?_
    exact H
theorem t163_111_113_at0 {X : Scr} {d : Nat} {Q : Wd → Prop} (w : Wd) 
    (H : EU X (d + 1) 163 (2, [some (.ref 111), some (.ref 113), some (.int (kI 0))], [], SH, w) Q) : EU X (d + 1) 163 (0, [some (.ref 111), some (.ref 113), none], [], SH, w) Q := by
  unfold EU
  refine EV.steps cl_163 2 (q2 := (2, [some (.ref 111), some (.ref 113), some (.int (kI 0))], [], SH, w)) rfl ?_
  exact H
theorem t163_111_113_at2 {X : Scr} {d : Nat} {Q : Wd → Prop} (w : Wd) (v2 : Int32)
    (H : (if (kI 162) ≤ v2 then Q w else (inB v2 162 = true ∧ (inB v2 162 = true ∧ EU X (d + 1) 163 (2, [some (.ref 111), some (.ref 113), some (.int (v2 + (kI 1)))], [], SH, (up2 w 113 v2.toNatClampNeg (w 111 v2.toNatClampNeg))) Q)))) : EU X (d + 1) 163 (2, [some (.ref 111), some (.ref 113), some (.int v2)], [], SH, w) Q := by
  unfold EU
  refine EV.steps cl_163 2 (q2 := (6, [some (.ref 111), some (.ref 113), some (.int v2)], [.int (kI 162), .int v2], SH, w)) rfl ?_
  refine EV.i_ge cl_163 rfl (fun h1 => ?_) (fun h1 => ?_)
  · skip
    rw [if_pos h1] at H
    refine EV.ret cl_163 rfl rfl rfl ?_
    exact ⟨rfl, rfl, H⟩
  · skip
    rw [if_neg h1] at H
    refine EV.steps cl_163 4 (q2 := (13, [some (.ref 111), some (.ref 113), some (.int v2)], [.int v2, .ref 111, .int v2, .ref 113], SH, w)) rfl ?_
    obtain ⟨j2, H⟩ := H
    refine EV.iaload cl_163 rfl rfl (by decide) j2 ?_
    obtain ⟨j3, H⟩ := H
    refine EV.iastore cl_163 rfl rfl (by decide) j3 ?_
    refine EV.steps cl_163 2 (q2 := (2, [some (.ref 111), some (.ref 113), some (.int (v2 + (kI 1)))], [], SH, (up2 w 113 v2.toNatClampNeg (w 111 v2.toNatClampNeg)))) rfl ?_
    exact H
theorem t163_113_111_at0 {X : Scr} {d : Nat} {Q : Wd → Prop} (w : Wd) 
    (H : EU X (d + 1) 163 (2, [some (.ref 113), some (.ref 111), some (.int (kI 0))], [], SH, w) Q) : EU X (d + 1) 163 (0, [some (.ref 113), some (.ref 111), none], [], SH, w) Q := by
  unfold EU
  refine EV.steps cl_163 2 (q2 := (2, [some (.ref 113), some (.ref 111), some (.int (kI 0))], [], SH, w)) rfl ?_
  exact H
theorem t163_113_111_at2 {X : Scr} {d : Nat} {Q : Wd → Prop} (w : Wd) (v2 : Int32)
    (H : (if (kI 162) ≤ v2 then Q w else (inB v2 162 = true ∧ (inB v2 162 = true ∧ EU X (d + 1) 163 (2, [some (.ref 113), some (.ref 111), some (.int (v2 + (kI 1)))], [], SH, (up2 w 111 v2.toNatClampNeg (w 113 v2.toNatClampNeg))) Q)))) : EU X (d + 1) 163 (2, [some (.ref 113), some (.ref 111), some (.int v2)], [], SH, w) Q := by
  unfold EU
  refine EV.steps cl_163 2 (q2 := (6, [some (.ref 113), some (.ref 111), some (.int v2)], [.int (kI 162), .int v2], SH, w)) rfl ?_
  refine EV.i_ge cl_163 rfl (fun h1 => ?_) (fun h1 => ?_)
  · skip
    rw [if_pos h1] at H
    refine EV.ret cl_163 rfl rfl rfl ?_
    exact ⟨rfl, rfl, H⟩
  · skip
    rw [if_neg h1] at H
    refine EV.steps cl_163 4 (q2 := (13, [some (.ref 113), some (.ref 111), some (.int v2)], [.int v2, .ref 113, .int v2, .ref 111], SH, w)) rfl ?_
    obtain ⟨j2, H⟩ := H
    refine EV.iaload cl_163 rfl rfl (by decide) j2 ?_
    obtain ⟨j3, H⟩ := H
    refine EV.iastore cl_163 rfl rfl (by decide) j3 ?_
    refine EV.steps cl_163 2 (q2 := (2, [some (.ref 113), some (.ref 111), some (.int (v2 + (kI 1)))], [], SH, (up2 w 111 v2.toNatClampNeg (w 113 v2.toNatClampNeg)))) rfl ?_
    exact H
theorem t167_110_at0 {X : Scr} {d : Nat} {Q : Int32 → Wd → Prop} (w : Wd) (v1 : Int32)
    (H : EI X (d + 2) 167 (4, [some (.ref 110), some (.int v1), some (.int (kI 0)), some (.int (kI 0))], [], SH, w) Q) : EI X (d + 2) 167 (0, [some (.ref 110), some (.int v1), none, none], [], SH, w) Q := by
  unfold EI
  refine EV.steps cl_167 4 (q2 := (4, [some (.ref 110), some (.int v1), some (.int (kI 0)), some (.int (kI 0))], [], SH, w)) rfl ?_
  exact H
theorem t167_110_at4 {X : Scr} {d : Nat} {Q : Int32 → Wd → Prop} (w : Wd) (v1 : Int32) (v2 : Int32) (v3 : Int32)
    (H : (if (kI 6) ≤ v3 then Q v2 w else (if (F_164_110 v3 w) = 0 then EI X (d + 2) 167 (4, [some (.ref 110), some (.int v1), some (.int (v2 + (kI 0))), some (.int (v3 + (kI 1)))], [], SH, w) Q else (((inB (((kI 0) + ((kI 6) * v3)) + v1) 162 = true)) ∧ EI X (d + 2) 167 (4, [some (.ref 110), some (.int v1), some (.int (v2 + (F_166_110 v3 v1 w))), some (.int (v3 + (kI 1)))], [], SH, w) Q)))) : EI X (d + 2) 167 (4, [some (.ref 110), some (.int v1), some (.int v2), some (.int v3)], [], SH, w) Q := by
  unfold EI
  refine EV.steps cl_167 2 (q2 := (7, [some (.ref 110), some (.int v1), some (.int v2), some (.int v3)], [.int (kI 6), .int v3], SH, w)) rfl ?_
  refine EV.i_ge cl_167 rfl (fun h1 => ?_) (fun h1 => ?_)
  · skip
    rw [if_pos h1] at H
    refine EV.steps cl_167 1 (q2 := (38, [some (.ref 110), some (.int v1), some (.int v2), some (.int v3)], [.int v2], SH, w)) rfl ?_
    refine EV.ret cl_167 rfl rfl rfl ?_
    exact ⟨_, rfl, rfl, H⟩
  · skip
    rw [if_neg h1] at H
    refine EV.steps cl_167 3 (q2 := (13, [some (.ref 110), some (.int v1), some (.int v2), some (.int v3)], [.int v3, .ref 110, .int v2], SH, w)) rfl ?_
    refine EV.callF (kc := 164) (av := [.ref 110, .int v3]) (r := [.int v2]) (rv := some (.int (F_164_110 v3 w))) (w2 := w) cl_167 rfl rfl rfl (m_164_110 w v3) ?_
    refine EV.z_eq cl_167 rfl (fun h2 => ?_) (fun h2 => ?_)
    · skip
      rw [if_pos h2] at H
      refine EV.steps cl_167 5 (q2 := (4, [some (.ref 110), some (.int v1), some (.int (v2 + (kI 0))), some (.int (v3 + (kI 1)))], [], SH, w)) rfl ?_
      exact H
    · skip
      rw [if_neg h2] at H
      refine EV.steps cl_167 3 (q2 := (22, [some (.ref 110), some (.int v1), some (.int v2), some (.int v3)], [.int v1, .int v3, .ref 110, .int v2], SH, w)) rfl ?_
      obtain ⟨j3, H⟩ := H
      refine EV.callF (kc := 166) (av := [.ref 110, .int v3, .int v1]) (r := [.int v2]) (rv := some (.int (F_166_110 v3 v1 w))) (w2 := w) cl_167 rfl rfl rfl (m_166_110 w v3 v1 j3) ?_
      refine EV.steps cl_167 5 (q2 := (4, [some (.ref 110), some (.int v1), some (.int (v2 + (F_166_110 v3 v1 w))), some (.int (v3 + (kI 1)))], [], SH, w)) rfl ?_
      exact H
theorem t173_110_at0 {X : Scr} {d : Nat} {Q : Wd → Prop} (w : Wd) (v1 : Int32)
    (H : EU X (d + 1) 173 (2, [some (.ref 110), some (.int v1), some (.int (kI 3))], [], SH, w) Q) : EU X (d + 1) 173 (0, [some (.ref 110), some (.int v1), none], [], SH, w) Q := by
  unfold EU
  refine EV.steps cl_173 2 (q2 := (2, [some (.ref 110), some (.int v1), some (.int (kI 3))], [], SH, w)) rfl ?_
  exact H
theorem t173_110_at2 {X : Scr} {d : Nat} {Q : Wd → Prop} (w : Wd) (v1 : Int32) (v2 : Int32)
    (H : (if v2 < 0 then Q w else (inB (w 110 10) 260 = true ∧ EU X (d + 1) 173 (2, [some (.ref 110), some (.int v1), some (.int (v2 + (kI (-1))))], [], SH, (up2 (up2 w 117 (w 110 10).toNatClampNeg (vp_nar .byte (v1 >>> (((kI 8) * v2) &&& 31)).toInt8.toInt32)) 110 10 ((w 110 10) + (kI 1)))) Q))) : EU X (d + 1) 173 (2, [some (.ref 110), some (.int v1), some (.int v2)], [], SH, w) Q := by
  unfold EU
  refine EV.steps cl_173 1 (q2 := (3, [some (.ref 110), some (.int v1), some (.int v2)], [.int v2], SH, w)) rfl ?_
  refine EV.z_lt cl_173 rfl (fun h1 => ?_) (fun h1 => ?_)
  · skip
    rw [if_pos h1] at H
    refine EV.ret cl_173 rfl rfl rfl ?_
    exact ⟨rfl, rfl, H⟩
  · skip
    rw [if_neg h1] at H
    refine EV.steps cl_173 10 (q2 := (21, [some (.ref 110), some (.int v1), some (.int v2)], [.int (v1 >>> (((kI 8) * v2) &&& 31)).toInt8.toInt32, .int (w 110 10), .ref 117], SH, w)) rfl ?_
    obtain ⟨j2, H⟩ := H
    refine EV.bastore cl_173 rfl rfl (by decide) j2 ?_
    refine EV.steps cl_173 8 (q2 := (2, [some (.ref 110), some (.int v1), some (.int (v2 + (kI (-1))))], [], SH, (up2 (up2 w 117 (w 110 10).toNatClampNeg (vp_nar .byte (v1 >>> (((kI 8) * v2) &&& 31)).toInt8.toInt32)) 110 10 ((w 110 10) + (kI 1))))) rfl ?_
    exact H
theorem t174_110_at0 {X : Scr} {d : Nat} {Q : Int32 → Wd → Prop} (w : Wd) (v1 : Int32) (v2 : Int32) (v3 : Int32) (v4 : Int32) (v5 : Int32)
    (H : (if ((w 110 10) + (kI 20)) ≤ (kI 260) then CU X (d + 1) 173 [.ref 110, .int v1] w (fun w1 => CU X (d + 1) 173 [.ref 110, .int v2] w1 (fun w2 => CU X (d + 1) 173 [.ref 110, .int v3] w2 (fun w3 => CU X (d + 1) 173 [.ref 110, .int v4] w3 (fun w4 => CU X (d + 1) 173 [.ref 110, .int v5] w4 (fun w5 => Q (w5 110 10) w5))))) else Q (kI (-1)) w)) : EI X (d + 1) 174 (0, [some (.ref 110), some (.int v1), some (.int v2), some (.int v3), some (.int v4), some (.int v5)], [], SH, w) Q := by
  unfold EI
  refine EV.steps cl_174 5 (q2 := (10, [some (.ref 110), some (.int v1), some (.int v2), some (.int v3), some (.int v4), some (.int v5)], [.int (kI 260), .int ((w 110 10) + (kI 20))], SH, w)) rfl ?_
  refine EV.i_le cl_174 rfl (fun h1 => ?_) (fun h1 => ?_)
  · skip
    rw [if_pos h1] at H
    refine EV.steps cl_174 2 (q2 := (17, [some (.ref 110), some (.int v1), some (.int v2), some (.int v3), some (.int v4), some (.int v5)], [.int v1, .ref 110], SH, w)) rfl ?_
    refine EV.call (kc := 173) (av := [.ref 110, .int v1]) (r := []) cl_174 rfl rfl rfl H ?_
    clear H; intro y1 s1 w1 e1
    obtain ⟨rfl, rfl, H⟩ := e1
    refine EV.steps cl_174 2 (q2 := (22, [some (.ref 110), some (.int v1), some (.int v2), some (.int v3), some (.int v4), some (.int v5)], [.int v2, .ref 110], SH, w1)) rfl ?_
    refine EV.call (kc := 173) (av := [.ref 110, .int v2]) (r := []) cl_174 rfl rfl rfl H ?_
    clear H; intro y2 s2 w2 e2
    obtain ⟨rfl, rfl, H⟩ := e2
    refine EV.steps cl_174 2 (q2 := (27, [some (.ref 110), some (.int v1), some (.int v2), some (.int v3), some (.int v4), some (.int v5)], [.int v3, .ref 110], SH, w2)) rfl ?_
    refine EV.call (kc := 173) (av := [.ref 110, .int v3]) (r := []) cl_174 rfl rfl rfl H ?_
    clear H; intro y3 s3 w3 e3
    obtain ⟨rfl, rfl, H⟩ := e3
    refine EV.steps cl_174 2 (q2 := (33, [some (.ref 110), some (.int v1), some (.int v2), some (.int v3), some (.int v4), some (.int v5)], [.int v4, .ref 110], SH, w3)) rfl ?_
    refine EV.call (kc := 173) (av := [.ref 110, .int v4]) (r := []) cl_174 rfl rfl rfl H ?_
    clear H; intro y4 s4 w4 e4
    obtain ⟨rfl, rfl, H⟩ := e4
    refine EV.steps cl_174 2 (q2 := (39, [some (.ref 110), some (.int v1), some (.int v2), some (.int v3), some (.int v4), some (.int v5)], [.int v5, .ref 110], SH, w4)) rfl ?_
    refine EV.call (kc := 173) (av := [.ref 110, .int v5]) (r := []) cl_174 rfl rfl rfl H ?_
    clear H; intro y5 s5 w5 e5
    obtain ⟨rfl, rfl, H⟩ := e5
    refine EV.steps cl_174 2 (q2 := (46, [some (.ref 110), some (.int v1), some (.int v2), some (.int v3), some (.int v4), some (.int v5)], [.int (w5 110 10)], SH, w5)) rfl ?_
    refine EV.ret cl_174 rfl rfl rfl ?_
    exact ⟨_, rfl, rfl, H⟩
  · skip
    rw [if_neg h1] at H
    refine EV.steps cl_174 1 (q2 := (14, [some (.ref 110), some (.int v1), some (.int v2), some (.int v3), some (.int v4), some (.int v5)], [.int (kI (-1))], SH, w)) rfl ?_
    refine EV.ret cl_174 rfl rfl rfl ?_
    exact ⟨_, rfl, rfl, H⟩
theorem t179_110_at0 {X : Scr} {d : Nat} {Q : Int32 → Wd → Prop} (w : Wd) 
    (H : EI X (d + 2) 179 (10, [some (.ref 110), some (.int (w 110 11))], [], SH, (up2 w 110 14 (kI 0))) Q) : EI X (d + 2) 179 (0, [some (.ref 110), none], [], SH, w) Q := by
  unfold EI
  refine EV.steps cl_179 6 (q2 := (10, [some (.ref 110), some (.int (w 110 11))], [], SH, (up2 w 110 14 (kI 0)))) rfl ?_
  exact H
theorem t179_110_at10 {X : Scr} {d : Nat} {Q : Int32 → Wd → Prop} (w : Wd) (v1 : Int32)
    (H : (((¬ (w 110 12) ≤ (w 110 11) → (inB (w 110 11) 260 = true))) ∧ ((¬ (F_175_110 w) < (kI 48) → (¬ (w 110 12) ≤ (w 110 11) → (inB (w 110 11) 260 = true))) ∧ (if (F_176_110 w) = 0 then Q (kI 1) w else (if (w 110 11) = (v1 + (kI 5)) then Q (F_177_110 (kI 2) (w 110 11) w) (G_177_110 (kI 2) (w 110 11) w) else ((¬ (w 110 12) ≤ (w 110 11) → (inB (w 110 11) 260 = true)) ∧ EI X (d + 2) 179 (10, [some (.ref 110), some (.int v1)], [], SH, (up2 (up2 w 110 14 ((((kI 10) * (w 110 14)) + (F_175_110 w)) - (kI 48))) 110 11 ((w 110 11) + (kI 1)))) Q)))))) : EI X (d + 2) 179 (10, [some (.ref 110), some (.int v1)], [], SH, w) Q := by
  unfold EI
  refine EV.steps cl_179 1 (q2 := (11, [some (.ref 110), some (.int v1)], [.ref 110], SH, w)) rfl ?_
  obtain ⟨j1, H⟩ := H
  obtain ⟨j2, H⟩ := H
  refine EV.callF (kc := 176) (av := [.ref 110]) (r := []) (rv := some (.int (F_176_110 w))) (w2 := w) cl_179 rfl rfl rfl (m_176_110 w  j1 j2) ?_
  refine EV.z_eq cl_179 rfl (fun h3 => ?_) (fun h3 => ?_)
  · skip
    rw [if_pos h3] at H
    refine EV.steps cl_179 1 (q2 := (70, [some (.ref 110), some (.int v1)], [.int (kI 1)], SH, w)) rfl ?_
    refine EV.ret cl_179 rfl rfl rfl ?_
    exact ⟨_, rfl, rfl, H⟩
  · skip
    rw [if_neg h3] at H
    refine EV.steps cl_179 5 (q2 := (24, [some (.ref 110), some (.int v1)], [.int (v1 + (kI 5)), .int (w 110 11)], SH, w)) rfl ?_
    refine EV.i_ne cl_179 rfl (fun h4 => ?_) (fun h4 => ?_)
    · skip
      rw [if_neg h4] at H
      refine EV.steps cl_179 6 (q2 := (46, [some (.ref 110), some (.int v1)], [.ref 110, .int ((kI 10) * (w 110 14)), .ref 110], SH, w)) rfl ?_
      obtain ⟨j5, H⟩ := H
      refine EV.callF (kc := 175) (av := [.ref 110]) (r := [.int ((kI 10) * (w 110 14)), .ref 110]) (rv := some (.int (F_175_110 w))) (w2 := w) cl_179 rfl rfl rfl (m_175_110 w  j5) ?_
      refine EV.steps cl_179 11 (q2 := (10, [some (.ref 110), some (.int v1)], [], SH, (up2 (up2 w 110 14 ((((kI 10) * (w 110 14)) + (F_175_110 w)) - (kI 48))) 110 11 ((w 110 11) + (kI 1))))) rfl ?_
      exact H
    · skip
      rw [if_pos h4] at H
      refine EV.steps cl_179 4 (q2 := (33, [some (.ref 110), some (.int v1)], [.int (w 110 11), .int (kI 2), .ref 110], SH, w)) rfl ?_
      refine EV.callF (kc := 177) (av := [.ref 110, .int (kI 2), .int (w 110 11)]) (r := []) (rv := some (.int (F_177_110 (kI 2) (w 110 11) w))) (w2 := (G_177_110 (kI 2) (w 110 11) w)) cl_179 rfl rfl rfl (m_177_110 w (kI 2) (w 110 11)) ?_
      refine EV.retB cl_179 rfl rfl (z1_177_110 (kI 2) (w 110 11) w) ?_
      exact ⟨_, rfl, rfl, H⟩
theorem t185_110_at0 {X : Scr} {d : Nat} {Q : Wd → Prop} (w : Wd) (v1 : Int32)
    (H : ((¬ (w 110 17) = 0 → (inB ((w 110 17) - (kI 1)) 260 = true)) ∧ (if (F_182_110 w) < (kI 4) then (if v1 = 0 then Q w else ((¬ (w 110 17) = 0 → (inB ((w 110 17) - (kI 1)) 260 = true)) ∧ (if (F_182_110 w) = (kI 2) then ((¬ (w 110 17) = 0 → (inB ((w 110 17) - (kI 1)) 260 = true)) ∧ (((inB (w 110 16) 260 = true)) ∧ EU X (d + 1) 185 (0, [some (.ref 110), some (.int v1)], [], SH, (up2 (G_180_110 (F_182_110 w) (kI 0) w) 110 17 (((G_180_110 (F_182_110 w) (kI 0) w) 110 17) - (kI 1)))) Q)) else ((¬ (w 110 17) = 0 → (inB ((w 110 17) - (kI 1)) 260 = true)) ∧ (if (F_182_110 w) = (kI 3) then ((¬ (w 110 17) = 0 → (inB ((w 110 17) - (kI 1)) 260 = true)) ∧ (((inB (w 110 16) 260 = true)) ∧ EU X (d + 1) 185 (0, [some (.ref 110), some (.int v1)], [], SH, (up2 (G_180_110 (F_182_110 w) (kI 0) w) 110 17 (((G_180_110 (F_182_110 w) (kI 0) w) 110 17) - (kI 1)))) Q)) else Q w))))) else ((¬ (w 110 17) = 0 → (inB ((w 110 17) - (kI 1)) 260 = true)) ∧ (if (F_182_110 w) ≤ (kI 6) then ((¬ (w 110 17) = 0 → (inB ((w 110 17) - (kI 1)) 260 = true)) ∧ (((inB (w 110 16) 260 = true)) ∧ EU X (d + 1) 185 (0, [some (.ref 110), some (.int v1)], [], SH, (up2 (G_180_110 (F_182_110 w) (kI 0) w) 110 17 (((G_180_110 (F_182_110 w) (kI 0) w) 110 17) - (kI 1)))) Q)) else (if v1 = 0 then Q w else ((¬ (w 110 17) = 0 → (inB ((w 110 17) - (kI 1)) 260 = true)) ∧ (if (F_182_110 w) = (kI 2) then ((¬ (w 110 17) = 0 → (inB ((w 110 17) - (kI 1)) 260 = true)) ∧ (((inB (w 110 16) 260 = true)) ∧ EU X (d + 1) 185 (0, [some (.ref 110), some (.int v1)], [], SH, (up2 (G_180_110 (F_182_110 w) (kI 0) w) 110 17 (((G_180_110 (F_182_110 w) (kI 0) w) 110 17) - (kI 1)))) Q)) else ((¬ (w 110 17) = 0 → (inB ((w 110 17) - (kI 1)) 260 = true)) ∧ (if (F_182_110 w) = (kI 3) then ((¬ (w 110 17) = 0 → (inB ((w 110 17) - (kI 1)) 260 = true)) ∧ (((inB (w 110 16) 260 = true)) ∧ EU X (d + 1) 185 (0, [some (.ref 110), some (.int v1)], [], SH, (up2 (G_180_110 (F_182_110 w) (kI 0) w) 110 17 (((G_180_110 (F_182_110 w) (kI 0) w) 110 17) - (kI 1)))) Q)) else Q w)))))))))) : EU X (d + 1) 185 (0, [some (.ref 110), some (.int v1)], [], SH, w) Q := by
  unfold EU
  refine EV.steps cl_185 1 (q2 := (1, [some (.ref 110), some (.int v1)], [.ref 110], SH, w)) rfl ?_
  obtain ⟨j1, H⟩ := H
  refine EV.callF (kc := 182) (av := [.ref 110]) (r := []) (rv := some (.int (F_182_110 w))) (w2 := w) cl_185 rfl rfl rfl (m_182_110 w  j1) ?_
  refine EV.steps cl_185 1 (q2 := (5, [some (.ref 110), some (.int v1)], [.int (kI 4), .int (F_182_110 w)], SH, w)) rfl ?_
  refine EV.i_lt cl_185 rfl (fun h2 => ?_) (fun h2 => ?_)
  · skip
    rw [if_pos h2] at H
    refine EV.steps cl_185 1 (q2 := (18, [some (.ref 110), some (.int v1)], [.int v1], SH, w)) rfl ?_
    refine EV.z_eq cl_185 rfl (fun h3 => ?_) (fun h3 => ?_)
    · skip
      rw [if_pos h3] at H
      refine EV.ret cl_185 rfl rfl rfl ?_
      exact ⟨rfl, rfl, H⟩
    · skip
      rw [if_neg h3] at H
      refine EV.steps cl_185 1 (q2 := (22, [some (.ref 110), some (.int v1)], [.ref 110], SH, w)) rfl ?_
      obtain ⟨j4, H⟩ := H
      refine EV.callF (kc := 182) (av := [.ref 110]) (r := []) (rv := some (.int (F_182_110 w))) (w2 := w) cl_185 rfl rfl rfl (m_182_110 w  j4) ?_
      refine EV.steps cl_185 1 (q2 := (26, [some (.ref 110), some (.int v1)], [.int (kI 2), .int (F_182_110 w)], SH, w)) rfl ?_
      refine EV.i_eq cl_185 rfl (fun h5 => ?_) (fun h5 => ?_)
      · skip
        rw [if_pos h5] at H
        refine EV.steps cl_185 2 (q2 := (39, [some (.ref 110), some (.int v1)], [.ref 110, .ref 110], SH, w)) rfl ?_
        obtain ⟨j6, H⟩ := H
        refine EV.callF (kc := 182) (av := [.ref 110]) (r := [.ref 110]) (rv := some (.int (F_182_110 w))) (w2 := w) cl_185 rfl rfl rfl (m_182_110 w  j6) ?_
        refine EV.steps cl_185 1 (q2 := (43, [some (.ref 110), some (.int v1)], [.int (kI 0), .int (F_182_110 w), .ref 110], SH, w)) rfl ?_
        obtain ⟨j7, H⟩ := H
        refine EV.callF (kc := 180) (av := [.ref 110, .int (F_182_110 w), .int (kI 0)]) (r := []) (rv := none) (w2 := (G_180_110 (F_182_110 w) (kI 0) w)) cl_185 rfl rfl rfl (m_180_110 w (F_182_110 w) (kI 0) j7) ?_
        refine EV.steps cl_185 7 (q2 := (0, [some (.ref 110), some (.int v1)], [], SH, (up2 (G_180_110 (F_182_110 w) (kI 0) w) 110 17 (((G_180_110 (F_182_110 w) (kI 0) w) 110 17) - (kI 1))))) rfl ?_
        exact H
      · skip
        rw [if_neg h5] at H
        refine EV.steps cl_185 1 (q2 := (30, [some (.ref 110), some (.int v1)], [.ref 110], SH, w)) rfl ?_
        obtain ⟨j8, H⟩ := H
        refine EV.callF (kc := 182) (av := [.ref 110]) (r := []) (rv := some (.int (F_182_110 w))) (w2 := w) cl_185 rfl rfl rfl (m_182_110 w  j8) ?_
        refine EV.steps cl_185 1 (q2 := (34, [some (.ref 110), some (.int v1)], [.int (kI 3), .int (F_182_110 w)], SH, w)) rfl ?_
        refine EV.i_ne cl_185 rfl (fun h9 => ?_) (fun h9 => ?_)
        · skip
          rw [if_neg h9] at H
          refine EV.ret cl_185 rfl rfl rfl ?_
          exact ⟨rfl, rfl, H⟩
        · skip
          rw [if_pos h9] at H
          refine EV.steps cl_185 2 (q2 := (39, [some (.ref 110), some (.int v1)], [.ref 110, .ref 110], SH, w)) rfl ?_
          obtain ⟨j10, H⟩ := H
          refine EV.callF (kc := 182) (av := [.ref 110]) (r := [.ref 110]) (rv := some (.int (F_182_110 w))) (w2 := w) cl_185 rfl rfl rfl (m_182_110 w  j10) ?_
          refine EV.steps cl_185 1 (q2 := (43, [some (.ref 110), some (.int v1)], [.int (kI 0), .int (F_182_110 w), .ref 110], SH, w)) rfl ?_
          obtain ⟨j11, H⟩ := H
          refine EV.callF (kc := 180) (av := [.ref 110, .int (F_182_110 w), .int (kI 0)]) (r := []) (rv := none) (w2 := (G_180_110 (F_182_110 w) (kI 0) w)) cl_185 rfl rfl rfl (m_180_110 w (F_182_110 w) (kI 0) j11) ?_
          refine EV.steps cl_185 7 (q2 := (0, [some (.ref 110), some (.int v1)], [], SH, (up2 (G_180_110 (F_182_110 w) (kI 0) w) 110 17 (((G_180_110 (F_182_110 w) (kI 0) w) 110 17) - (kI 1))))) rfl ?_
          exact H
  · skip
    rw [if_neg h2] at H
    refine EV.steps cl_185 1 (q2 := (9, [some (.ref 110), some (.int v1)], [.ref 110], SH, w)) rfl ?_
    obtain ⟨j12, H⟩ := H
    refine EV.callF (kc := 182) (av := [.ref 110]) (r := []) (rv := some (.int (F_182_110 w))) (w2 := w) cl_185 rfl rfl rfl (m_182_110 w  j12) ?_
    refine EV.steps cl_185 1 (q2 := (14, [some (.ref 110), some (.int v1)], [.int (kI 6), .int (F_182_110 w)], SH, w)) rfl ?_
    refine EV.i_le cl_185 rfl (fun h13 => ?_) (fun h13 => ?_)
    · skip
      rw [if_pos h13] at H
      refine EV.steps cl_185 2 (q2 := (39, [some (.ref 110), some (.int v1)], [.ref 110, .ref 110], SH, w)) rfl ?_
      obtain ⟨j14, H⟩ := H
      refine EV.callF (kc := 182) (av := [.ref 110]) (r := [.ref 110]) (rv := some (.int (F_182_110 w))) (w2 := w) cl_185 rfl rfl rfl (m_182_110 w  j14) ?_
      refine EV.steps cl_185 1 (q2 := (43, [some (.ref 110), some (.int v1)], [.int (kI 0), .int (F_182_110 w), .ref 110], SH, w)) rfl ?_
      obtain ⟨j15, H⟩ := H
      refine EV.callF (kc := 180) (av := [.ref 110, .int (F_182_110 w), .int (kI 0)]) (r := []) (rv := none) (w2 := (G_180_110 (F_182_110 w) (kI 0) w)) cl_185 rfl rfl rfl (m_180_110 w (F_182_110 w) (kI 0) j15) ?_
      refine EV.steps cl_185 7 (q2 := (0, [some (.ref 110), some (.int v1)], [], SH, (up2 (G_180_110 (F_182_110 w) (kI 0) w) 110 17 (((G_180_110 (F_182_110 w) (kI 0) w) 110 17) - (kI 1))))) rfl ?_
      exact H
    · skip
      rw [if_neg h13] at H
      refine EV.steps cl_185 1 (q2 := (18, [some (.ref 110), some (.int v1)], [.int v1], SH, w)) rfl ?_
      refine EV.z_eq cl_185 rfl (fun h16 => ?_) (fun h16 => ?_)
      · skip
        rw [if_pos h16] at H
        refine EV.ret cl_185 rfl rfl rfl ?_
        exact ⟨rfl, rfl, H⟩
      · skip
        rw [if_neg h16] at H
        refine EV.steps cl_185 1 (q2 := (22, [some (.ref 110), some (.int v1)], [.ref 110], SH, w)) rfl ?_
        obtain ⟨j17, H⟩ := H
        refine EV.callF (kc := 182) (av := [.ref 110]) (r := []) (rv := some (.int (F_182_110 w))) (w2 := w) cl_185 rfl rfl rfl (m_182_110 w  j17) ?_
        refine EV.steps cl_185 1 (q2 := (26, [some (.ref 110), some (.int v1)], [.int (kI 2), .int (F_182_110 w)], SH, w)) rfl ?_
        refine EV.i_eq cl_185 rfl (fun h18 => ?_) (fun h18 => ?_)
        · skip
          rw [if_pos h18] at H
          refine EV.steps cl_185 2 (q2 := (39, [some (.ref 110), some (.int v1)], [.ref 110, .ref 110], SH, w)) rfl ?_
          obtain ⟨j19, H⟩ := H
          refine EV.callF (kc := 182) (av := [.ref 110]) (r := [.ref 110]) (rv := some (.int (F_182_110 w))) (w2 := w) cl_185 rfl rfl rfl (m_182_110 w  j19) ?_
          refine EV.steps cl_185 1 (q2 := (43, [some (.ref 110), some (.int v1)], [.int (kI 0), .int (F_182_110 w), .ref 110], SH, w)) rfl ?_
          obtain ⟨j20, H⟩ := H
          refine EV.callF (kc := 180) (av := [.ref 110, .int (F_182_110 w), .int (kI 0)]) (r := []) (rv := none) (w2 := (G_180_110 (F_182_110 w) (kI 0) w)) cl_185 rfl rfl rfl (m_180_110 w (F_182_110 w) (kI 0) j20) ?_
          refine EV.steps cl_185 7 (q2 := (0, [some (.ref 110), some (.int v1)], [], SH, (up2 (G_180_110 (F_182_110 w) (kI 0) w) 110 17 (((G_180_110 (F_182_110 w) (kI 0) w) 110 17) - (kI 1))))) rfl ?_
          exact H
        · skip
          rw [if_neg h18] at H
          refine EV.steps cl_185 1 (q2 := (30, [some (.ref 110), some (.int v1)], [.ref 110], SH, w)) rfl ?_
          obtain ⟨j21, H⟩ := H
          refine EV.callF (kc := 182) (av := [.ref 110]) (r := []) (rv := some (.int (F_182_110 w))) (w2 := w) cl_185 rfl rfl rfl (m_182_110 w  j21) ?_
          refine EV.steps cl_185 1 (q2 := (34, [some (.ref 110), some (.int v1)], [.int (kI 3), .int (F_182_110 w)], SH, w)) rfl ?_
          refine EV.i_ne cl_185 rfl (fun h22 => ?_) (fun h22 => ?_)
          · skip
            rw [if_neg h22] at H
            refine EV.ret cl_185 rfl rfl rfl ?_
            exact ⟨rfl, rfl, H⟩
          · skip
            rw [if_pos h22] at H
            refine EV.steps cl_185 2 (q2 := (39, [some (.ref 110), some (.int v1)], [.ref 110, .ref 110], SH, w)) rfl ?_
            obtain ⟨j23, H⟩ := H
            refine EV.callF (kc := 182) (av := [.ref 110]) (r := [.ref 110]) (rv := some (.int (F_182_110 w))) (w2 := w) cl_185 rfl rfl rfl (m_182_110 w  j23) ?_
            refine EV.steps cl_185 1 (q2 := (43, [some (.ref 110), some (.int v1)], [.int (kI 0), .int (F_182_110 w), .ref 110], SH, w)) rfl ?_
            obtain ⟨j24, H⟩ := H
            refine EV.callF (kc := 180) (av := [.ref 110, .int (F_182_110 w), .int (kI 0)]) (r := []) (rv := none) (w2 := (G_180_110 (F_182_110 w) (kI 0) w)) cl_185 rfl rfl rfl (m_180_110 w (F_182_110 w) (kI 0) j24) ?_
            refine EV.steps cl_185 7 (q2 := (0, [some (.ref 110), some (.int v1)], [], SH, (up2 (G_180_110 (F_182_110 w) (kI 0) w) 110 17 (((G_180_110 (F_182_110 w) (kI 0) w) 110 17) - (kI 1))))) rfl ?_
            exact H
theorem t186_110_at0 {X : Scr} {d : Nat} {Q : Int32 → Wd → Prop} (w : Wd) 
    (H : ((¬ (w 110 12) ≤ (w 110 11) → (inB (w 110 11) 260 = true)) ∧ (if (F_175_110 w) = (kI 91) then ((¬ (w 110 15) = (kI 6) → (inB (w 110 17) 260 = true)) ∧ (if (F_181_110 (kI 14) w) = 0 then Q (kI 0) (G_181_110 (kI 14) w) else EI X (d + 2) 186 (0, [some (.ref 110), none], [], SH, (G_181_110 (kI 14) w)) Q)) else (((¬ (w 110 12) ≤ (w 110 11) → (inB (w 110 11) 260 = true))) ∧ ((¬ (F_175_110 w) < (kI 48) → (¬ (w 110 12) ≤ (w 110 11) → (inB (w 110 11) 260 = true))) ∧ (if (F_176_110 w) = 0 then ((¬ (w 110 12) ≤ (w 110 11) → (inB (w 110 11) 260 = true)) ∧ (if (F_183 (F_175_110 w) w) = (kI (-1)) then Q (F_177_110 (kI 1) (w 110 11) w) (G_177_110 (kI 1) (w 110 11) w) else (((inB (w 110 16) 260 = true)) ∧ Q (kI 1) (up2 (G_180_110 (kI 1) (F_183 (F_175_110 w) w) w) 110 11 (((G_180_110 (kI 1) (F_183 (F_175_110 w) w) w) 110 11) + (kI 1)))))) else CI X (d + 2) 179 [.ref 110] w (fun x1 w1 => (if x1 = 0 then Q (kI 0) w1 else (((inB (w1 110 16) 260 = true)) ∧ Q (kI 1) (G_180_110 (kI 0) (w1 110 14) w1)))))))))) : EI X (d + 2) 186 (0, [some (.ref 110), none], [], SH, w) Q := by
  unfold EI
  refine EV.steps cl_186 1 (q2 := (1, [some (.ref 110), none], [.ref 110], SH, w)) rfl ?_
  obtain ⟨j1, H⟩ := H
  refine EV.callF (kc := 175) (av := [.ref 110]) (r := []) (rv := some (.int (F_175_110 w))) (w2 := w) cl_186 rfl rfl rfl (m_175_110 w  j1) ?_
  refine EV.steps cl_186 1 (q2 := (6, [some (.ref 110), none], [.int (kI 91), .int (F_175_110 w)], SH, w)) rfl ?_
  refine EV.i_ne cl_186 rfl (fun h2 => ?_) (fun h2 => ?_)
  · skip
    rw [if_neg h2] at H
    refine EV.steps cl_186 1 (q2 := (21, [some (.ref 110), none], [.ref 110], SH, w)) rfl ?_
    obtain ⟨j3, H⟩ := H
    obtain ⟨j4, H⟩ := H
    refine EV.callF (kc := 176) (av := [.ref 110]) (r := []) (rv := some (.int (F_176_110 w))) (w2 := w) cl_186 rfl rfl rfl (m_176_110 w  j3 j4) ?_
    refine EV.z_eq cl_186 rfl (fun h5 => ?_) (fun h5 => ?_)
    · skip
      rw [if_pos h5] at H
      refine EV.steps cl_186 1 (q2 := (48, [some (.ref 110), none], [.ref 110], SH, w)) rfl ?_
      obtain ⟨j6, H⟩ := H
      refine EV.callF (kc := 175) (av := [.ref 110]) (r := []) (rv := some (.int (F_175_110 w))) (w2 := w) cl_186 rfl rfl rfl (m_175_110 w  j6) ?_
      refine EV.callF (kc := 183) (av := [.int (F_175_110 w)]) (r := []) (rv := some (.int (F_183 (F_175_110 w) w))) (w2 := w) cl_186 rfl rfl rfl (m_183 w (F_175_110 w)) ?_
      refine EV.steps cl_186 3 (q2 := (57, [some (.ref 110), some (.int (F_183 (F_175_110 w) w))], [.int (kI (-1)), .int (F_183 (F_175_110 w) w)], SH, w)) rfl ?_
      refine EV.i_ne cl_186 rfl (fun h7 => ?_) (fun h7 => ?_)
      · skip
        rw [if_neg h7] at H
        refine EV.steps cl_186 3 (q2 := (73, [some (.ref 110), some (.int (F_183 (F_175_110 w) w))], [.int (F_183 (F_175_110 w) w), .int (kI 1), .ref 110], SH, w)) rfl ?_
        obtain ⟨j8, H⟩ := H
        refine EV.callF (kc := 180) (av := [.ref 110, .int (kI 1), .int (F_183 (F_175_110 w) w)]) (r := []) (rv := none) (w2 := (G_180_110 (kI 1) (F_183 (F_175_110 w) w) w)) cl_186 rfl rfl rfl (m_180_110 w (kI 1) (F_183 (F_175_110 w) w) j8) ?_
        refine EV.steps cl_186 7 (q2 := (87, [some (.ref 110), some (.int (F_183 (F_175_110 w) w))], [.int (kI 1)], SH, (up2 (G_180_110 (kI 1) (F_183 (F_175_110 w) w) w) 110 11 (((G_180_110 (kI 1) (F_183 (F_175_110 w) w) w) 110 11) + (kI 1))))) rfl ?_
        refine EV.ret cl_186 rfl rfl rfl ?_
        exact ⟨_, rfl, rfl, H⟩
      · skip
        rw [if_pos h7] at H
        refine EV.steps cl_186 4 (q2 := (66, [some (.ref 110), some (.int (F_183 (F_175_110 w) w))], [.int (w 110 11), .int (kI 1), .ref 110], SH, w)) rfl ?_
        refine EV.callF (kc := 177) (av := [.ref 110, .int (kI 1), .int (w 110 11)]) (r := []) (rv := some (.int (F_177_110 (kI 1) (w 110 11) w))) (w2 := (G_177_110 (kI 1) (w 110 11) w)) cl_186 rfl rfl rfl (m_177_110 w (kI 1) (w 110 11)) ?_
        refine EV.retB cl_186 rfl rfl (z1_177_110 (kI 1) (w 110 11) w) ?_
        exact ⟨_, rfl, rfl, H⟩
    · skip
      rw [if_neg h5] at H
      refine EV.steps cl_186 1 (q2 := (28, [some (.ref 110), none], [.ref 110], SH, w)) rfl ?_
      refine EV.call (kc := 179) (av := [.ref 110]) (r := []) cl_186 rfl rfl rfl H ?_
      clear H; intro y1 s1 w1 e1
      obtain ⟨x1, rfl, rfl, H⟩ := e1
      refine EV.z_ne cl_186 rfl (fun h9 => ?_) (fun h9 => ?_)
      · skip
        rw [if_neg h9] at H
        refine EV.steps cl_186 4 (q2 := (42, [some (.ref 110), none], [.int (w1 110 14), .int (kI 0), .ref 110], SH, w1)) rfl ?_
        obtain ⟨j10, H⟩ := H
        refine EV.callF (kc := 180) (av := [.ref 110, .int (kI 0), .int (w1 110 14)]) (r := []) (rv := none) (w2 := (G_180_110 (kI 0) (w1 110 14) w1)) cl_186 rfl rfl rfl (m_180_110 w1 (kI 0) (w1 110 14) j10) ?_
        refine EV.steps cl_186 1 (q2 := (46, [some (.ref 110), none], [.int (kI 1)], SH, (G_180_110 (kI 0) (w1 110 14) w1))) rfl ?_
        refine EV.ret cl_186 rfl rfl rfl ?_
        exact ⟨_, rfl, rfl, H⟩
      · skip
        rw [if_pos h9] at H
        refine EV.steps cl_186 1 (q2 := (35, [some (.ref 110), none], [.int (kI 0)], SH, w1)) rfl ?_
        refine EV.ret cl_186 rfl rfl rfl ?_
        exact ⟨_, rfl, rfl, H⟩
  · skip
    rw [if_pos h2] at H
    refine EV.steps cl_186 2 (q2 := (12, [some (.ref 110), none], [.int (kI 14), .ref 110], SH, w)) rfl ?_
    obtain ⟨j11, H⟩ := H
    refine EV.callF (kc := 181) (av := [.ref 110, .int (kI 14)]) (r := []) (rv := some (.int (F_181_110 (kI 14) w))) (w2 := (G_181_110 (kI 14) w)) cl_186 rfl rfl rfl (m_181_110 w (kI 14) j11) ?_
    refine EV.z_ne cl_186 rfl (fun h12 => ?_) (fun h12 => ?_)
    · skip
      rw [if_neg h12] at H
      exact H
    · skip
      rw [if_pos h12] at H
      refine EV.steps cl_186 1 (q2 := (19, [some (.ref 110), none], [.int (kI 0)], SH, (G_181_110 (kI 14) w))) rfl ?_
      refine EV.ret cl_186 rfl rfl rfl ?_
      exact ⟨_, rfl, rfl, H⟩
theorem t187_110_at0 {X : Scr} {d : Nat} {Q : Int32 → Wd → Prop} (w : Wd) (v1 : Int32)
    (H : EI X (d + 1) 187 (2, [some (.ref 110), some (.int v1), some (.int v1)], [], SH, w) Q) : EI X (d + 1) 187 (0, [some (.ref 110), some (.int v1), none], [], SH, w) Q := by
  unfold EI
  refine EV.steps cl_187 2 (q2 := (2, [some (.ref 110), some (.int v1), some (.int v1)], [], SH, w)) rfl ?_
  exact H
theorem t187_110_at2 {X : Scr} {d : Nat} {Q : Int32 → Wd → Prop} (w : Wd) (v1 : Int32) (v2 : Int32)
    (H : (if (w 110 17) ≤ v2 then Q (kI 0) w else (inB v2 260 = true ∧ (if ((w 119 v2.toNatClampNeg) / (kI 1048576)) = (kI 14) then Q (kI 1) w else EI X (d + 1) 187 (2, [some (.ref 110), some (.int v1), some (.int (v2 + (kI 1)))], [], SH, w) Q)))) : EI X (d + 1) 187 (2, [some (.ref 110), some (.int v1), some (.int v2)], [], SH, w) Q := by
  unfold EI
  refine EV.steps cl_187 3 (q2 := (7, [some (.ref 110), some (.int v1), some (.int v2)], [.int (w 110 17), .int v2], SH, w)) rfl ?_
  refine EV.i_ge cl_187 rfl (fun h1 => ?_) (fun h1 => ?_)
  · skip
    rw [if_pos h1] at H
    refine EV.steps cl_187 1 (q2 := (33, [some (.ref 110), some (.int v1), some (.int v2)], [.int (kI 0)], SH, w)) rfl ?_
    refine EV.ret cl_187 rfl rfl rfl ?_
    exact ⟨_, rfl, rfl, H⟩
  · skip
    rw [if_neg h1] at H
    refine EV.steps cl_187 3 (q2 := (15, [some (.ref 110), some (.int v1), some (.int v2)], [.int v2, .ref 119], SH, w)) rfl ?_
    obtain ⟨j2, H⟩ := H
    refine EV.iaload cl_187 rfl rfl (by decide) j2 ?_
    refine EV.steps cl_187 1 (q2 := (18, [some (.ref 110), some (.int v1), some (.int v2)], [.int (kI 1048576), .int (w 119 v2.toNatClampNeg)], SH, w)) rfl ?_
    refine EV.idiv cl_187 rfl (by decide) ?_
    refine EV.steps cl_187 1 (q2 := (21, [some (.ref 110), some (.int v1), some (.int v2)], [.int (kI 14), .int ((w 119 v2.toNatClampNeg) / (kI 1048576))], SH, w)) rfl ?_
    refine EV.i_ne cl_187 rfl (fun h3 => ?_) (fun h3 => ?_)
    · skip
      rw [if_neg h3] at H
      refine EV.steps cl_187 2 (q2 := (2, [some (.ref 110), some (.int v1), some (.int (v2 + (kI 1)))], [], SH, w)) rfl ?_
      exact H
    · skip
      rw [if_pos h3] at H
      refine EV.steps cl_187 1 (q2 := (25, [some (.ref 110), some (.int v1), some (.int v2)], [.int (kI 1)], SH, w)) rfl ?_
      refine EV.ret cl_187 rfl rfl rfl ?_
      exact ⟨_, rfl, rfl, H⟩
theorem t188_110_at0 {X : Scr} {d : Nat} {Q : Int32 → Wd → Prop} (w : Wd) 
    (H : CI X (d + 1) 186 [.ref 110] w (fun x1 w1 => (if x1 = 0 then Q (kI 0) w1 else EI X (d + 1) 188 (14, [some (.ref 110), some (.int (w 110 17)), none], [], SH, w1) Q))) : EI X (d + 1) 188 (0, [some (.ref 110), none, none], [], SH, w) Q := by
  unfold EI
  refine EV.steps cl_188 4 (q2 := (6, [some (.ref 110), some (.int (w 110 17)), none], [.ref 110], SH, w)) rfl ?_
  refine EV.call (kc := 186) (av := [.ref 110]) (r := []) cl_188 rfl rfl rfl H ?_
  clear H; intro y1 s1 w1 e1
  obtain ⟨x1, rfl, rfl, H⟩ := e1
  refine EV.z_ne cl_188 rfl (fun h1 => ?_) (fun h1 => ?_)
  · skip
    rw [if_neg h1] at H
    exact H
  · skip
    rw [if_pos h1] at H
    refine EV.steps cl_188 1 (q2 := (13, [some (.ref 110), some (.int (w 110 17)), none], [.int (kI 0)], SH, w1)) rfl ?_
    refine EV.ret cl_188 rfl rfl rfl ?_
    exact ⟨_, rfl, rfl, H⟩
theorem t188_110_at14 {X : Scr} {d : Nat} {Q : Int32 → Wd → Prop} (w : Wd) (v1 : Int32)
    (H : ((¬ (w 110 12) ≤ (w 110 11) → (inB (w 110 11) 260 = true)) ∧ (if (F_184 (F_175_110 w) w) = (kI (-1)) then ((¬ (w 110 12) ≤ (w 110 11) → (inB (w 110 11) 260 = true)) ∧ (if (F_175_110 w) = (kI 93) then CI X (d + 1) 187 [.ref 110, .int v1] w (fun x3 w3 => (if x3 = 0 then CI X (d + 1) 187 [.ref 110, .int v1] w3 (fun x4 w4 => (if x4 = 0 then CU X (d + 1) 185 [.ref 110, .int (kI 1)] w4 (fun w5 => Q (kI 1) w5) else Q (F_177_110 (kI 1) (w4 110 11) w4) (G_177_110 (kI 1) (w4 110 11) w4))) else CU X (d + 1) 185 [.ref 110, .int (kI 1)] w3 (fun w6 => EI X (d + 1) 188 (14, [some (.ref 110), some (.int v1), none], [], SH, (up2 (up2 (up2 w6 110 17 ((w6 110 17) - (kI 1))) 110 15 ((w6 110 15) - (kI 1))) 110 11 ((w6 110 11) + (kI 1)))) Q))) else CI X (d + 1) 187 [.ref 110, .int v1] w (fun x1 w1 => (if x1 = 0 then CU X (d + 1) 185 [.ref 110, .int (kI 1)] w1 (fun w2 => Q (kI 1) w2) else Q (F_177_110 (kI 1) (w1 110 11) w1) (G_177_110 (kI 1) (w1 110 11) w1))))) else (if (kI 4) ≤ (F_184 (F_175_110 w) w) then CU X (d + 1) 185 [.ref 110, .int (kI 0)] w (fun w7 => (inB (w7 110 17) 260 = true ∧ CI X (d + 1) 186 [.ref 110] (up2 (up2 (up2 w7 119 (w7 110 17).toNatClampNeg ((kI 1048576) * (F_184 (F_175_110 w) w))) 110 17 ((w7 110 17) + (kI 1))) 110 11 ((w7 110 11) + (kI 1))) (fun x8 w8 => (if x8 = 0 then Q (kI 0) w8 else EI X (d + 1) 188 (14, [some (.ref 110), some (.int v1), none], [], SH, w8) Q)))) else CU X (d + 1) 185 [.ref 110, .int (kI 1)] w (fun w9 => (inB (w9 110 17) 260 = true ∧ CI X (d + 1) 186 [.ref 110] (up2 (up2 (up2 w9 119 (w9 110 17).toNatClampNeg ((kI 1048576) * (F_184 (F_175_110 w) w))) 110 17 ((w9 110 17) + (kI 1))) 110 11 ((w9 110 11) + (kI 1))) (fun x10 w10 => (if x10 = 0 then Q (kI 0) w10 else EI X (d + 1) 188 (14, [some (.ref 110), some (.int v1), none], [], SH, w10) Q)))))))) : EI X (d + 1) 188 (14, [some (.ref 110), some (.int v1), none], [], SH, w) Q := by
  unfold EI
  refine EV.steps cl_188 1 (q2 := (15, [some (.ref 110), some (.int v1), none], [.ref 110], SH, w)) rfl ?_
  obtain ⟨j1, H⟩ := H
  refine EV.callF (kc := 175) (av := [.ref 110]) (r := []) (rv := some (.int (F_175_110 w))) (w2 := w) cl_188 rfl rfl rfl (m_175_110 w  j1) ?_
  refine EV.callF (kc := 184) (av := [.int (F_175_110 w)]) (r := []) (rv := some (.int (F_184 (F_175_110 w) w))) (w2 := w) cl_188 rfl rfl rfl (m_184 w (F_175_110 w)) ?_
  refine EV.steps cl_188 3 (q2 := (24, [some (.ref 110), some (.int v1), some (.int (F_184 (F_175_110 w) w))], [.int (kI (-1)), .int (F_184 (F_175_110 w) w)], SH, w)) rfl ?_
  refine EV.i_eq cl_188 rfl (fun h2 => ?_) (fun h2 => ?_)
  · skip
    rw [if_pos h2] at H
    refine EV.steps cl_188 1 (q2 := (84, [some (.ref 110), some (.int v1), some (.int (F_184 (F_175_110 w) w))], [.ref 110], SH, w)) rfl ?_
    obtain ⟨j3, H⟩ := H
    refine EV.callF (kc := 175) (av := [.ref 110]) (r := []) (rv := some (.int (F_175_110 w))) (w2 := w) cl_188 rfl rfl rfl (m_175_110 w  j3) ?_
    refine EV.steps cl_188 1 (q2 := (89, [some (.ref 110), some (.int v1), some (.int (F_184 (F_175_110 w) w))], [.int (kI 93), .int (F_175_110 w)], SH, w)) rfl ?_
    refine EV.i_ne cl_188 rfl (fun h4 => ?_) (fun h4 => ?_)
    · skip
      rw [if_neg h4] at H
      refine EV.steps cl_188 2 (q2 := (140, [some (.ref 110), some (.int v1), some (.int (F_184 (F_175_110 w) w))], [.int v1, .ref 110], SH, w)) rfl ?_
      refine EV.call (kc := 187) (av := [.ref 110, .int v1]) (r := []) cl_188 rfl rfl rfl H ?_
      clear H; intro y1 s1 w1 e1
      obtain ⟨x1, rfl, rfl, H⟩ := e1
      refine EV.z_eq cl_188 rfl (fun h5 => ?_) (fun h5 => ?_)
      · skip
        rw [if_pos h5] at H
        refine EV.steps cl_188 2 (q2 := (158, [some (.ref 110), some (.int v1), some (.int (F_184 (F_175_110 w) w))], [.int (kI 1), .ref 110], SH, w1)) rfl ?_
        refine EV.call (kc := 185) (av := [.ref 110, .int (kI 1)]) (r := []) cl_188 rfl rfl rfl H ?_
        clear H; intro y2 s2 w2 e2
        obtain ⟨rfl, rfl, H⟩ := e2
        refine EV.steps cl_188 1 (q2 := (162, [some (.ref 110), some (.int v1), some (.int (F_184 (F_175_110 w) w))], [.int (kI 1)], SH, w2)) rfl ?_
        refine EV.ret cl_188 rfl rfl rfl ?_
        exact ⟨_, rfl, rfl, H⟩
      · skip
        rw [if_neg h5] at H
        refine EV.steps cl_188 4 (q2 := (152, [some (.ref 110), some (.int v1), some (.int (F_184 (F_175_110 w) w))], [.int (w1 110 11), .int (kI 1), .ref 110], SH, w1)) rfl ?_
        refine EV.callF (kc := 177) (av := [.ref 110, .int (kI 1), .int (w1 110 11)]) (r := []) (rv := some (.int (F_177_110 (kI 1) (w1 110 11) w1))) (w2 := (G_177_110 (kI 1) (w1 110 11) w1)) cl_188 rfl rfl rfl (m_177_110 w1 (kI 1) (w1 110 11)) ?_
        refine EV.retB cl_188 rfl rfl (z1_177_110 (kI 1) (w1 110 11) w1) ?_
        exact ⟨_, rfl, rfl, H⟩
    · skip
      rw [if_pos h4] at H
      refine EV.steps cl_188 2 (q2 := (94, [some (.ref 110), some (.int v1), some (.int (F_184 (F_175_110 w) w))], [.int v1, .ref 110], SH, w)) rfl ?_
      refine EV.call (kc := 187) (av := [.ref 110, .int v1]) (r := []) cl_188 rfl rfl rfl H ?_
      clear H; intro y3 s3 w3 e3
      obtain ⟨x3, rfl, rfl, H⟩ := e3
      refine EV.z_eq cl_188 rfl (fun h6 => ?_) (fun h6 => ?_)
      · skip
        rw [if_pos h6] at H
        refine EV.steps cl_188 2 (q2 := (140, [some (.ref 110), some (.int v1), some (.int (F_184 (F_175_110 w) w))], [.int v1, .ref 110], SH, w3)) rfl ?_
        refine EV.call (kc := 187) (av := [.ref 110, .int v1]) (r := []) cl_188 rfl rfl rfl H ?_
        clear H; intro y4 s4 w4 e4
        obtain ⟨x4, rfl, rfl, H⟩ := e4
        refine EV.z_eq cl_188 rfl (fun h7 => ?_) (fun h7 => ?_)
        · skip
          rw [if_pos h7] at H
          refine EV.steps cl_188 2 (q2 := (158, [some (.ref 110), some (.int v1), some (.int (F_184 (F_175_110 w) w))], [.int (kI 1), .ref 110], SH, w4)) rfl ?_
          refine EV.call (kc := 185) (av := [.ref 110, .int (kI 1)]) (r := []) cl_188 rfl rfl rfl H ?_
          clear H; intro y5 s5 w5 e5
          obtain ⟨rfl, rfl, H⟩ := e5
          refine EV.steps cl_188 1 (q2 := (162, [some (.ref 110), some (.int v1), some (.int (F_184 (F_175_110 w) w))], [.int (kI 1)], SH, w5)) rfl ?_
          refine EV.ret cl_188 rfl rfl rfl ?_
          exact ⟨_, rfl, rfl, H⟩
        · skip
          rw [if_neg h7] at H
          refine EV.steps cl_188 4 (q2 := (152, [some (.ref 110), some (.int v1), some (.int (F_184 (F_175_110 w) w))], [.int (w4 110 11), .int (kI 1), .ref 110], SH, w4)) rfl ?_
          refine EV.callF (kc := 177) (av := [.ref 110, .int (kI 1), .int (w4 110 11)]) (r := []) (rv := some (.int (F_177_110 (kI 1) (w4 110 11) w4))) (w2 := (G_177_110 (kI 1) (w4 110 11) w4)) cl_188 rfl rfl rfl (m_177_110 w4 (kI 1) (w4 110 11)) ?_
          refine EV.retB cl_188 rfl rfl (z1_177_110 (kI 1) (w4 110 11) w4) ?_
          exact ⟨_, rfl, rfl, H⟩
      · skip
        rw [if_neg h6] at H
        refine EV.steps cl_188 2 (q2 := (102, [some (.ref 110), some (.int v1), some (.int (F_184 (F_175_110 w) w))], [.int (kI 1), .ref 110], SH, w3)) rfl ?_
        refine EV.call (kc := 185) (av := [.ref 110, .int (kI 1)]) (r := []) cl_188 rfl rfl rfl H ?_
        clear H; intro y6 s6 w6 e6
        obtain ⟨rfl, rfl, H⟩ := e6
        refine EV.steps cl_188 20 (q2 := (14, [some (.ref 110), some (.int v1), some (.int (F_184 (F_175_110 w) w))], [], SH, (up2 (up2 (up2 w6 110 17 ((w6 110 17) - (kI 1))) 110 15 ((w6 110 15) - (kI 1))) 110 11 ((w6 110 11) + (kI 1))))) rfl ?_
        exact EV.weak (l := [some (.ref 110), some (.int v1), none]) ⟨rfl, ⟨rfl, ⟨rfl, trivial⟩⟩⟩ H
  · skip
    rw [if_neg h2] at H
    refine EV.steps cl_188 3 (q2 := (30, [some (.ref 110), some (.int v1), some (.int (F_184 (F_175_110 w) w))], [.int (kI 4), .int (F_184 (F_175_110 w) w), .ref 110], SH, w)) rfl ?_
    refine EV.i_ge cl_188 rfl (fun h8 => ?_) (fun h8 => ?_)
    · skip
      rw [if_pos h8] at H
      refine EV.steps cl_188 1 (q2 := (38, [some (.ref 110), some (.int v1), some (.int (F_184 (F_175_110 w) w))], [.int (kI 0), .ref 110], SH, w)) rfl ?_
      refine EV.call (kc := 185) (av := [.ref 110, .int (kI 0)]) (r := []) cl_188 rfl rfl rfl H ?_
      clear H; intro y7 s7 w7 e7
      obtain ⟨rfl, rfl, H⟩ := e7
      refine EV.steps cl_188 7 (q2 := (53, [some (.ref 110), some (.int v1), some (.int (F_184 (F_175_110 w) w))], [.int ((kI 1048576) * (F_184 (F_175_110 w) w)), .int (w7 110 17), .ref 119], SH, w7)) rfl ?_
      obtain ⟨j9, H⟩ := H
      refine EV.iastore cl_188 rfl rfl (by decide) j9 ?_
      refine EV.steps cl_188 13 (q2 := (75, [some (.ref 110), some (.int v1), some (.int (F_184 (F_175_110 w) w))], [.ref 110], SH, (up2 (up2 (up2 w7 119 (w7 110 17).toNatClampNeg ((kI 1048576) * (F_184 (F_175_110 w) w))) 110 17 ((w7 110 17) + (kI 1))) 110 11 ((w7 110 11) + (kI 1))))) rfl ?_
      refine EV.call (kc := 186) (av := [.ref 110]) (r := []) cl_188 rfl rfl rfl H ?_
      clear H; intro y8 s8 w8 e8
      obtain ⟨x8, rfl, rfl, H⟩ := e8
      refine EV.z_ne cl_188 rfl (fun h10 => ?_) (fun h10 => ?_)
      · skip
        rw [if_neg h10] at H
        refine EV.steps cl_188 1 (q2 := (14, [some (.ref 110), some (.int v1), some (.int (F_184 (F_175_110 w) w))], [], SH, w8)) rfl ?_
        exact EV.weak (l := [some (.ref 110), some (.int v1), none]) ⟨rfl, ⟨rfl, ⟨rfl, trivial⟩⟩⟩ H
      · skip
        rw [if_pos h10] at H
        refine EV.steps cl_188 1 (q2 := (82, [some (.ref 110), some (.int v1), some (.int (F_184 (F_175_110 w) w))], [.int (kI 0)], SH, w8)) rfl ?_
        refine EV.ret cl_188 rfl rfl rfl ?_
        exact ⟨_, rfl, rfl, H⟩
    · skip
      rw [if_neg h8] at H
      refine EV.steps cl_188 2 (q2 := (38, [some (.ref 110), some (.int v1), some (.int (F_184 (F_175_110 w) w))], [.int (kI 1), .ref 110], SH, w)) rfl ?_
      refine EV.call (kc := 185) (av := [.ref 110, .int (kI 1)]) (r := []) cl_188 rfl rfl rfl H ?_
      clear H; intro y9 s9 w9 e9
      obtain ⟨rfl, rfl, H⟩ := e9
      refine EV.steps cl_188 7 (q2 := (53, [some (.ref 110), some (.int v1), some (.int (F_184 (F_175_110 w) w))], [.int ((kI 1048576) * (F_184 (F_175_110 w) w)), .int (w9 110 17), .ref 119], SH, w9)) rfl ?_
      obtain ⟨j11, H⟩ := H
      refine EV.iastore cl_188 rfl rfl (by decide) j11 ?_
      refine EV.steps cl_188 13 (q2 := (75, [some (.ref 110), some (.int v1), some (.int (F_184 (F_175_110 w) w))], [.ref 110], SH, (up2 (up2 (up2 w9 119 (w9 110 17).toNatClampNeg ((kI 1048576) * (F_184 (F_175_110 w) w))) 110 17 ((w9 110 17) + (kI 1))) 110 11 ((w9 110 11) + (kI 1))))) rfl ?_
      refine EV.call (kc := 186) (av := [.ref 110]) (r := []) cl_188 rfl rfl rfl H ?_
      clear H; intro y10 s10 w10 e10
      obtain ⟨x10, rfl, rfl, H⟩ := e10
      refine EV.z_ne cl_188 rfl (fun h12 => ?_) (fun h12 => ?_)
      · skip
        rw [if_neg h12] at H
        refine EV.steps cl_188 1 (q2 := (14, [some (.ref 110), some (.int v1), some (.int (F_184 (F_175_110 w) w))], [], SH, w10)) rfl ?_
        exact EV.weak (l := [some (.ref 110), some (.int v1), none]) ⟨rfl, ⟨rfl, ⟨rfl, trivial⟩⟩⟩ H
      · skip
        rw [if_pos h12] at H
        refine EV.steps cl_188 1 (q2 := (82, [some (.ref 110), some (.int v1), some (.int (F_184 (F_175_110 w) w))], [.int (kI 0)], SH, w10)) rfl ?_
        refine EV.ret cl_188 rfl rfl rfl ?_
        exact ⟨_, rfl, rfl, H⟩
theorem t189_110_at0 {X : Scr} {d : Nat} {Q : Wd → Prop} (w : Wd) 
    (H : ((¬ (w 110 17) = 0 → (inB ((w 110 17) - (kI 1)) 260 = true)) ∧ (if (F_182_110 w) = (kI 10) then (((inB (w 110 16) 260 = true)) ∧ EU X (d + 1) 189 (0, [some (.ref 110)], [], SH, (up2 (up2 (G_180_110 (kI 10) (kI 0) w) 110 17 (((G_180_110 (kI 10) (kI 0) w) 110 17) - (kI 1))) 110 15 (((G_180_110 (kI 10) (kI 0) w) 110 15) - (kI 1)))) Q) else Q w))) : EU X (d + 1) 189 (0, [some (.ref 110)], [], SH, w) Q := by
  unfold EU
  refine EV.steps cl_189 1 (q2 := (1, [some (.ref 110)], [.ref 110], SH, w)) rfl ?_
  obtain ⟨j1, H⟩ := H
  refine EV.callF (kc := 182) (av := [.ref 110]) (r := []) (rv := some (.int (F_182_110 w))) (w2 := w) cl_189 rfl rfl rfl (m_182_110 w  j1) ?_
  refine EV.steps cl_189 1 (q2 := (6, [some (.ref 110)], [.int (kI 10), .int (F_182_110 w)], SH, w)) rfl ?_
  refine EV.i_ne cl_189 rfl (fun h2 => ?_) (fun h2 => ?_)
  · skip
    rw [if_neg h2] at H
    refine EV.ret cl_189 rfl rfl rfl ?_
    exact ⟨rfl, rfl, H⟩
  · skip
    rw [if_pos h2] at H
    refine EV.steps cl_189 3 (q2 := (13, [some (.ref 110)], [.int (kI 0), .int (kI 10), .ref 110], SH, w)) rfl ?_
    obtain ⟨j3, H⟩ := H
    refine EV.callF (kc := 180) (av := [.ref 110, .int (kI 10), .int (kI 0)]) (r := []) (rv := none) (w2 := (G_180_110 (kI 10) (kI 0) w)) cl_189 rfl rfl rfl (m_180_110 w (kI 10) (kI 0) j3) ?_
    refine EV.steps cl_189 13 (q2 := (0, [some (.ref 110)], [], SH, (up2 (up2 (G_180_110 (kI 10) (kI 0) w) 110 17 (((G_180_110 (kI 10) (kI 0) w) 110 17) - (kI 1))) 110 15 (((G_180_110 (kI 10) (kI 0) w) 110 15) - (kI 1))))) rfl ?_
    exact H
theorem t190_110_at0 {X : Scr} {d : Nat} {Q : Wd → Prop} (w : Wd) (v1 : Int32)
    (H : ((¬ (w 110 17) = 0 → (inB ((w 110 17) - (kI 1)) 260 = true)) ∧ (if (F_182_110 w) = (kI 11) then (inB ((w 110 17) - (kI 1)) 260 = true ∧ (inB ((w 119 ((w 110 17) - (kI 1)).toNatClampNeg) - (w 119 ((w 110 17) - (kI 1)).toNatClampNeg) / (kI 1048576) * (kI 1048576)) 260 = true ∧ (inB ((w 119 ((w 110 17) - (kI 1)).toNatClampNeg) - (w 119 ((w 110 17) - (kI 1)).toNatClampNeg) / (kI 1048576) * (kI 1048576)) 260 = true ∧ EU X (d + 1) 190 (0, [some (.ref 110), some (.int v1), none], [], SH, (up2 (up2 w 118 ((w 119 ((w 110 17) - (kI 1)).toNatClampNeg) - (w 119 ((w 110 17) - (kI 1)).toNatClampNeg) / (kI 1048576) * (kI 1048576)).toNatClampNeg (((kI 1048576) * ((w 118 ((w 119 ((w 110 17) - (kI 1)).toNatClampNeg) - (w 119 ((w 110 17) - (kI 1)).toNatClampNeg) / (kI 1048576) * (kI 1048576)).toNatClampNeg) / (kI 1048576))) + (w 110 16))) 110 17 ((w 110 17) - (kI 1)))) Q))) else (if v1 = 0 then Q w else ((¬ (w 110 17) = 0 → (inB ((w 110 17) - (kI 1)) 260 = true)) ∧ (if (F_182_110 w) = (kI 12) then (inB ((w 110 17) - (kI 1)) 260 = true ∧ (inB ((w 119 ((w 110 17) - (kI 1)).toNatClampNeg) - (w 119 ((w 110 17) - (kI 1)).toNatClampNeg) / (kI 1048576) * (kI 1048576)) 260 = true ∧ (inB ((w 119 ((w 110 17) - (kI 1)).toNatClampNeg) - (w 119 ((w 110 17) - (kI 1)).toNatClampNeg) / (kI 1048576) * (kI 1048576)) 260 = true ∧ EU X (d + 1) 190 (0, [some (.ref 110), some (.int v1), none], [], SH, (up2 (up2 w 118 ((w 119 ((w 110 17) - (kI 1)).toNatClampNeg) - (w 119 ((w 110 17) - (kI 1)).toNatClampNeg) / (kI 1048576) * (kI 1048576)).toNatClampNeg (((kI 1048576) * ((w 118 ((w 119 ((w 110 17) - (kI 1)).toNatClampNeg) - (w 119 ((w 110 17) - (kI 1)).toNatClampNeg) / (kI 1048576) * (kI 1048576)).toNatClampNeg) / (kI 1048576))) + (w 110 16))) 110 17 ((w 110 17) - (kI 1)))) Q))) else Q w)))))) : EU X (d + 1) 190 (0, [some (.ref 110), some (.int v1), none], [], SH, w) Q := by
  unfold EU
  refine EV.steps cl_190 1 (q2 := (1, [some (.ref 110), some (.int v1), none], [.ref 110], SH, w)) rfl ?_
  obtain ⟨j1, H⟩ := H
  refine EV.callF (kc := 182) (av := [.ref 110]) (r := []) (rv := some (.int (F_182_110 w))) (w2 := w) cl_190 rfl rfl rfl (m_182_110 w  j1) ?_
  refine EV.steps cl_190 1 (q2 := (6, [some (.ref 110), some (.int v1), none], [.int (kI 11), .int (F_182_110 w)], SH, w)) rfl ?_
  refine EV.i_eq cl_190 rfl (fun h2 => ?_) (fun h2 => ?_)
  · skip
    rw [if_pos h2] at H
    refine EV.steps cl_190 6 (q2 := (32, [some (.ref 110), some (.int v1), none], [.int ((w 110 17) - (kI 1)), .ref 119], SH, w)) rfl ?_
    obtain ⟨j3, H⟩ := H
    refine EV.iaload cl_190 rfl rfl (by decide) j3 ?_
    refine EV.steps cl_190 1 (q2 := (35, [some (.ref 110), some (.int v1), none], [.int (kI 1048576), .int (w 119 ((w 110 17) - (kI 1)).toNatClampNeg)], SH, w)) rfl ?_
    refine EV.irem cl_190 rfl (by decide) ?_
    refine EV.steps cl_190 8 (q2 := (49, [some (.ref 110), some (.int v1), some (.int ((w 119 ((w 110 17) - (kI 1)).toNatClampNeg) - (w 119 ((w 110 17) - (kI 1)).toNatClampNeg) / (kI 1048576) * (kI 1048576)))], [.int ((w 119 ((w 110 17) - (kI 1)).toNatClampNeg) - (w 119 ((w 110 17) - (kI 1)).toNatClampNeg) / (kI 1048576) * (kI 1048576)), .ref 118, .int (kI 1048576), .int ((w 119 ((w 110 17) - (kI 1)).toNatClampNeg) - (w 119 ((w 110 17) - (kI 1)).toNatClampNeg) / (kI 1048576) * (kI 1048576)), .ref 118], SH, w)) rfl ?_
    obtain ⟨j4, H⟩ := H
    refine EV.iaload cl_190 rfl rfl (by decide) j4 ?_
    refine EV.steps cl_190 1 (q2 := (52, [some (.ref 110), some (.int v1), some (.int ((w 119 ((w 110 17) - (kI 1)).toNatClampNeg) - (w 119 ((w 110 17) - (kI 1)).toNatClampNeg) / (kI 1048576) * (kI 1048576)))], [.int (kI 1048576), .int (w 118 ((w 119 ((w 110 17) - (kI 1)).toNatClampNeg) - (w 119 ((w 110 17) - (kI 1)).toNatClampNeg) / (kI 1048576) * (kI 1048576)).toNatClampNeg), .int (kI 1048576), .int ((w 119 ((w 110 17) - (kI 1)).toNatClampNeg) - (w 119 ((w 110 17) - (kI 1)).toNatClampNeg) / (kI 1048576) * (kI 1048576)), .ref 118], SH, w)) rfl ?_
    refine EV.idiv cl_190 rfl (by decide) ?_
    refine EV.steps cl_190 4 (q2 := (59, [some (.ref 110), some (.int v1), some (.int ((w 119 ((w 110 17) - (kI 1)).toNatClampNeg) - (w 119 ((w 110 17) - (kI 1)).toNatClampNeg) / (kI 1048576) * (kI 1048576)))], [.int (((kI 1048576) * ((w 118 ((w 119 ((w 110 17) - (kI 1)).toNatClampNeg) - (w 119 ((w 110 17) - (kI 1)).toNatClampNeg) / (kI 1048576) * (kI 1048576)).toNatClampNeg) / (kI 1048576))) + (w 110 16)), .int ((w 119 ((w 110 17) - (kI 1)).toNatClampNeg) - (w 119 ((w 110 17) - (kI 1)).toNatClampNeg) / (kI 1048576) * (kI 1048576)), .ref 118], SH, w)) rfl ?_
    obtain ⟨j5, H⟩ := H
    refine EV.iastore cl_190 rfl rfl (by decide) j5 ?_
    refine EV.steps cl_190 7 (q2 := (0, [some (.ref 110), some (.int v1), some (.int ((w 119 ((w 110 17) - (kI 1)).toNatClampNeg) - (w 119 ((w 110 17) - (kI 1)).toNatClampNeg) / (kI 1048576) * (kI 1048576)))], [], SH, (up2 (up2 w 118 ((w 119 ((w 110 17) - (kI 1)).toNatClampNeg) - (w 119 ((w 110 17) - (kI 1)).toNatClampNeg) / (kI 1048576) * (kI 1048576)).toNatClampNeg (((kI 1048576) * ((w 118 ((w 119 ((w 110 17) - (kI 1)).toNatClampNeg) - (w 119 ((w 110 17) - (kI 1)).toNatClampNeg) / (kI 1048576) * (kI 1048576)).toNatClampNeg) / (kI 1048576))) + (w 110 16))) 110 17 ((w 110 17) - (kI 1))))) rfl ?_
    exact EV.weak (l := [some (.ref 110), some (.int v1), none]) ⟨rfl, ⟨rfl, ⟨rfl, trivial⟩⟩⟩ H
  · skip
    rw [if_neg h2] at H
    refine EV.steps cl_190 1 (q2 := (10, [some (.ref 110), some (.int v1), none], [.int v1], SH, w)) rfl ?_
    refine EV.z_eq cl_190 rfl (fun h6 => ?_) (fun h6 => ?_)
    · skip
      rw [if_pos h6] at H
      refine EV.ret cl_190 rfl rfl rfl ?_
      exact ⟨rfl, rfl, H⟩
    · skip
      rw [if_neg h6] at H
      refine EV.steps cl_190 1 (q2 := (14, [some (.ref 110), some (.int v1), none], [.ref 110], SH, w)) rfl ?_
      obtain ⟨j7, H⟩ := H
      refine EV.callF (kc := 182) (av := [.ref 110]) (r := []) (rv := some (.int (F_182_110 w))) (w2 := w) cl_190 rfl rfl rfl (m_182_110 w  j7) ?_
      refine EV.steps cl_190 1 (q2 := (19, [some (.ref 110), some (.int v1), none], [.int (kI 12), .int (F_182_110 w)], SH, w)) rfl ?_
      refine EV.i_ne cl_190 rfl (fun h8 => ?_) (fun h8 => ?_)
      · skip
        rw [if_neg h8] at H
        refine EV.ret cl_190 rfl rfl rfl ?_
        exact ⟨rfl, rfl, H⟩
      · skip
        rw [if_pos h8] at H
        refine EV.steps cl_190 6 (q2 := (32, [some (.ref 110), some (.int v1), none], [.int ((w 110 17) - (kI 1)), .ref 119], SH, w)) rfl ?_
        obtain ⟨j9, H⟩ := H
        refine EV.iaload cl_190 rfl rfl (by decide) j9 ?_
        refine EV.steps cl_190 1 (q2 := (35, [some (.ref 110), some (.int v1), none], [.int (kI 1048576), .int (w 119 ((w 110 17) - (kI 1)).toNatClampNeg)], SH, w)) rfl ?_
        refine EV.irem cl_190 rfl (by decide) ?_
        refine EV.steps cl_190 8 (q2 := (49, [some (.ref 110), some (.int v1), some (.int ((w 119 ((w 110 17) - (kI 1)).toNatClampNeg) - (w 119 ((w 110 17) - (kI 1)).toNatClampNeg) / (kI 1048576) * (kI 1048576)))], [.int ((w 119 ((w 110 17) - (kI 1)).toNatClampNeg) - (w 119 ((w 110 17) - (kI 1)).toNatClampNeg) / (kI 1048576) * (kI 1048576)), .ref 118, .int (kI 1048576), .int ((w 119 ((w 110 17) - (kI 1)).toNatClampNeg) - (w 119 ((w 110 17) - (kI 1)).toNatClampNeg) / (kI 1048576) * (kI 1048576)), .ref 118], SH, w)) rfl ?_
        obtain ⟨j10, H⟩ := H
        refine EV.iaload cl_190 rfl rfl (by decide) j10 ?_
        refine EV.steps cl_190 1 (q2 := (52, [some (.ref 110), some (.int v1), some (.int ((w 119 ((w 110 17) - (kI 1)).toNatClampNeg) - (w 119 ((w 110 17) - (kI 1)).toNatClampNeg) / (kI 1048576) * (kI 1048576)))], [.int (kI 1048576), .int (w 118 ((w 119 ((w 110 17) - (kI 1)).toNatClampNeg) - (w 119 ((w 110 17) - (kI 1)).toNatClampNeg) / (kI 1048576) * (kI 1048576)).toNatClampNeg), .int (kI 1048576), .int ((w 119 ((w 110 17) - (kI 1)).toNatClampNeg) - (w 119 ((w 110 17) - (kI 1)).toNatClampNeg) / (kI 1048576) * (kI 1048576)), .ref 118], SH, w)) rfl ?_
        refine EV.idiv cl_190 rfl (by decide) ?_
        refine EV.steps cl_190 4 (q2 := (59, [some (.ref 110), some (.int v1), some (.int ((w 119 ((w 110 17) - (kI 1)).toNatClampNeg) - (w 119 ((w 110 17) - (kI 1)).toNatClampNeg) / (kI 1048576) * (kI 1048576)))], [.int (((kI 1048576) * ((w 118 ((w 119 ((w 110 17) - (kI 1)).toNatClampNeg) - (w 119 ((w 110 17) - (kI 1)).toNatClampNeg) / (kI 1048576) * (kI 1048576)).toNatClampNeg) / (kI 1048576))) + (w 110 16)), .int ((w 119 ((w 110 17) - (kI 1)).toNatClampNeg) - (w 119 ((w 110 17) - (kI 1)).toNatClampNeg) / (kI 1048576) * (kI 1048576)), .ref 118], SH, w)) rfl ?_
        obtain ⟨j11, H⟩ := H
        refine EV.iastore cl_190 rfl rfl (by decide) j11 ?_
        refine EV.steps cl_190 7 (q2 := (0, [some (.ref 110), some (.int v1), some (.int ((w 119 ((w 110 17) - (kI 1)).toNatClampNeg) - (w 119 ((w 110 17) - (kI 1)).toNatClampNeg) / (kI 1048576) * (kI 1048576)))], [], SH, (up2 (up2 w 118 ((w 119 ((w 110 17) - (kI 1)).toNatClampNeg) - (w 119 ((w 110 17) - (kI 1)).toNatClampNeg) / (kI 1048576) * (kI 1048576)).toNatClampNeg (((kI 1048576) * ((w 118 ((w 119 ((w 110 17) - (kI 1)).toNatClampNeg) - (w 119 ((w 110 17) - (kI 1)).toNatClampNeg) / (kI 1048576) * (kI 1048576)).toNatClampNeg) / (kI 1048576))) + (w 110 16))) 110 17 ((w 110 17) - (kI 1))))) rfl ?_
        exact EV.weak (l := [some (.ref 110), some (.int v1), none]) ⟨rfl, ⟨rfl, ⟨rfl, trivial⟩⟩⟩ H
