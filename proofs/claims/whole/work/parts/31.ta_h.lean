set_option maxRecDepth 20000 in
theorem cl_4 : RCT[4]? = some rc_4 := rfl
set_option maxRecDepth 20000 in
theorem cl_6 : RCT[6]? = some rc_6 := rfl
set_option maxRecDepth 20000 in
theorem cl_7 : RCT[7]? = some rc_7 := rfl
set_option maxRecDepth 20000 in
theorem cl_19 : RCT[19]? = some rc_19 := rfl
set_option maxRecDepth 20000 in
theorem cl_21 : RCT[21]? = some rc_21 := rfl
set_option maxRecDepth 20000 in
theorem cl_22 : RCT[22]? = some rc_22 := rfl
set_option maxRecDepth 20000 in
theorem cl_23 : RCT[23]? = some rc_23 := rfl
set_option maxRecDepth 20000 in
theorem cl_24 : RCT[24]? = some rc_24 := rfl
set_option maxRecDepth 20000 in
theorem cl_25 : RCT[25]? = some rc_25 := rfl
set_option maxRecDepth 20000 in
theorem cl_27 : RCT[27]? = some rc_27 := rfl
set_option maxRecDepth 20000 in
theorem cl_29 : RCT[29]? = some rc_29 := rfl
set_option maxRecDepth 20000 in
theorem cl_30 : RCT[30]? = some rc_30 := rfl
set_option maxRecDepth 20000 in
theorem cl_32 : RCT[32]? = some rc_32 := rfl
set_option maxRecDepth 20000 in
theorem cl_33 : RCT[33]? = some rc_33 := rfl
set_option maxRecDepth 20000 in
theorem cl_34 : RCT[34]? = some rc_34 := rfl
set_option maxRecDepth 20000 in
theorem cl_36 : RCT[36]? = some rc_36 := rfl
set_option maxRecDepth 20000 in
theorem cl_44 : RCT[44]? = some rc_44 := rfl
set_option maxRecDepth 20000 in
theorem cl_45 : RCT[45]? = some rc_45 := rfl
set_option maxRecDepth 20000 in
theorem cl_46 : RCT[46]? = some rc_46 := rfl
set_option maxRecDepth 20000 in
theorem cl_60 : RCT[60]? = some rc_60 := rfl
set_option maxRecDepth 20000 in
theorem cl_62 : RCT[62]? = some rc_62 := rfl
set_option maxRecDepth 20000 in
theorem cl_63 : RCT[63]? = some rc_63 := rfl
set_option maxRecDepth 20000 in
theorem cl_64 : RCT[64]? = some rc_64 := rfl
set_option maxRecDepth 20000 in
theorem cl_65 : RCT[65]? = some rc_65 := rfl
set_option maxRecDepth 20000 in
theorem cl_66 : RCT[66]? = some rc_66 := rfl
set_option maxRecDepth 20000 in
theorem cl_67 : RCT[67]? = some rc_67 := rfl
set_option maxRecDepth 20000 in
theorem cl_68 : RCT[68]? = some rc_68 := rfl
set_option maxRecDepth 20000 in
theorem cl_69 : RCT[69]? = some rc_69 := rfl
set_option maxRecDepth 20000 in
theorem cl_70 : RCT[70]? = some rc_70 := rfl
set_option maxRecDepth 20000 in
theorem cl_71 : RCT[71]? = some rc_71 := rfl
set_option maxRecDepth 20000 in
theorem cl_72 : RCT[72]? = some rc_72 := rfl
set_option maxRecDepth 20000 in
theorem cl_85 : RCT[85]? = some rc_85 := rfl
set_option maxRecDepth 20000 in
theorem cl_86 : RCT[86]? = some rc_86 := rfl
set_option maxRecDepth 20000 in
theorem cl_87 : RCT[87]? = some rc_87 := rfl
set_option maxRecDepth 20000 in
theorem cl_88 : RCT[88]? = some rc_88 := rfl
set_option maxRecDepth 20000 in
theorem cl_91 : RCT[91]? = some rc_91 := rfl
set_option maxRecDepth 20000 in
theorem cl_96 : RCT[96]? = some rc_96 := rfl
set_option maxRecDepth 20000 in
theorem cl_98 : RCT[98]? = some rc_98 := rfl
set_option maxRecDepth 20000 in
theorem cl_99 : RCT[99]? = some rc_99 := rfl
set_option maxRecDepth 20000 in
theorem cl_100 : RCT[100]? = some rc_100 := rfl
set_option maxRecDepth 20000 in
theorem cl_101 : RCT[101]? = some rc_101 := rfl
set_option maxRecDepth 20000 in
theorem cl_102 : RCT[102]? = some rc_102 := rfl
set_option maxRecDepth 20000 in
theorem cl_121 : RCT[121]? = some rc_121 := rfl
set_option maxRecDepth 20000 in
theorem cl_122 : RCT[122]? = some rc_122 := rfl
set_option maxRecDepth 20000 in
theorem cl_123 : RCT[123]? = some rc_123 := rfl
set_option maxRecDepth 20000 in
theorem cl_124 : RCT[124]? = some rc_124 := rfl
set_option maxRecDepth 20000 in
theorem cl_125 : RCT[125]? = some rc_125 := rfl
set_option maxRecDepth 20000 in
theorem cl_127 : RCT[127]? = some rc_127 := rfl
set_option maxRecDepth 20000 in
theorem cl_128 : RCT[128]? = some rc_128 := rfl
set_option maxRecDepth 20000 in
theorem cl_129 : RCT[129]? = some rc_129 := rfl
set_option maxRecDepth 20000 in
theorem cl_130 : RCT[130]? = some rc_130 := rfl
set_option maxRecDepth 20000 in
theorem cl_131 : RCT[131]? = some rc_131 := rfl
set_option maxRecDepth 20000 in
theorem cl_132 : RCT[132]? = some rc_132 := rfl
set_option maxRecDepth 20000 in
theorem cl_133 : RCT[133]? = some rc_133 := rfl
set_option maxRecDepth 20000 in
theorem cl_134 : RCT[134]? = some rc_134 := rfl
set_option maxRecDepth 20000 in
theorem cl_136 : RCT[136]? = some rc_136 := rfl
set_option maxRecDepth 20000 in
theorem cl_137 : RCT[137]? = some rc_137 := rfl
set_option maxRecDepth 20000 in
theorem cl_138 : RCT[138]? = some rc_138 := rfl
set_option maxRecDepth 20000 in
theorem cl_139 : RCT[139]? = some rc_139 := rfl
set_option maxRecDepth 20000 in
theorem cl_140 : RCT[140]? = some rc_140 := rfl
set_option maxRecDepth 20000 in
theorem cl_143 : RCT[143]? = some rc_143 := rfl
set_option maxRecDepth 20000 in
theorem cl_144 : RCT[144]? = some rc_144 := rfl
set_option maxRecDepth 20000 in
theorem cl_145 : RCT[145]? = some rc_145 := rfl
set_option maxRecDepth 20000 in
theorem cl_151 : RCT[151]? = some rc_151 := rfl
theorem t2_102_at0 {X : Scr} {d : Nat} {Q : Wd → Prop} (w : Wd) (v1 : Int32)
    (H : EU X (d + 2) 2 (15, [some (.ref 102), some (.int v1), some (.int (kI 0))], [], SH, (up2 (G_258_107 (kI 0) w) 102 7 (kI 0))) Q) : EU X (d + 2) 2 (0, [some (.ref 102), some (.int v1), none], [], SH, w) Q := by
  unfold EU
  refine EV.steps cl_2 3 (q2 := (5, [some (.ref 102), some (.int v1), none], [.int (kI 0), .ref 107], SH, w)) rfl ?_
  refine EV.callF (kc := 258) (av := [.ref 107, .int (kI 0)]) (r := []) (rv := none) (w2 := (G_258_107 (kI 0) w)) cl_2 rfl rfl rfl (m_258_107 w (kI 0)) ?_
  refine EV.steps cl_2 5 (q2 := (15, [some (.ref 102), some (.int v1), some (.int (kI 0))], [], SH, (up2 (G_258_107 (kI 0) w) 102 7 (kI 0)))) rfl ?_
  exact H
theorem t2_102_at15 {X : Scr} {d : Nat} {Q : Wd → Prop} (w : Wd) (v1 : Int32) (v2 : Int32)
    (H : (if (kI 20) ≤ v2 then Q w else (if (F_154 (w 102 6) v2 w) = 0 then EU X (d + 2) 2 (15, [some (.ref 102), some (.int v1), some (.int (v2 + (kI 1)))], [], SH, w) Q else (inB v2 20 = true ∧ (if (w 106 v2.toNatClampNeg) = v1 then (inB v2 20 = true ∧ (if (F_153 (w 104 v2.toNatClampNeg) (kI 0) (kI 99) w) = 0 then EU X (d + 2) 2 (15, [some (.ref 102), some (.int v1), some (.int (v2 + (kI 1)))], [], SH, w) Q else (inB v2 20 = true ∧ EU X (d + 2) 2 (15, [some (.ref 102), some (.int v1), some (.int (v2 + (kI 1)))], [], SH, (up2 (up2 w 107 (w 104 v2.toNatClampNeg).toNatClampNeg ((w 107 (w 104 v2.toNatClampNeg).toNatClampNeg) + (kI 1))) 102 7 ((w 102 7) + (kI 1)))) Q))) else EU X (d + 2) 2 (15, [some (.ref 102), some (.int v1), some (.int (v2 + (kI 1)))], [], SH, w) Q))))) : EU X (d + 2) 2 (15, [some (.ref 102), some (.int v1), some (.int v2)], [], SH, w) Q := by
  unfold EU
  refine EV.steps cl_2 2 (q2 := (18, [some (.ref 102), some (.int v1), some (.int v2)], [.int (kI 20), .int v2], SH, w)) rfl ?_
  refine EV.i_ge cl_2 rfl (fun h1 => ?_) (fun h1 => ?_)
  · skip
    rw [if_pos h1] at H
    refine EV.ret cl_2 rfl rfl rfl ?_
    exact ⟨rfl, rfl, H⟩
  · skip
    rw [if_neg h1] at H
    refine EV.steps cl_2 3 (q2 := (26, [some (.ref 102), some (.int v1), some (.int v2)], [.int v2, .int (w 102 6)], SH, w)) rfl ?_
    refine EV.callF (kc := 154) (av := [.int (w 102 6), .int v2]) (r := []) (rv := some (.int (F_154 (w 102 6) v2 w))) (w2 := w) cl_2 rfl rfl rfl (m_154 w (w 102 6) v2) ?_
    refine EV.z_eq cl_2 rfl (fun h2 => ?_) (fun h2 => ?_)
    · skip
      rw [if_pos h2] at H
      refine EV.steps cl_2 2 (q2 := (15, [some (.ref 102), some (.int v1), some (.int (v2 + (kI 1)))], [], SH, w)) rfl ?_
      exact H
    · skip
      rw [if_neg h2] at H
      refine EV.steps cl_2 3 (q2 := (37, [some (.ref 102), some (.int v1), some (.int v2)], [.int v2, .ref 106], SH, w)) rfl ?_
      obtain ⟨j3, H⟩ := H
      refine EV.iaload cl_2 rfl rfl (by decide) j3 ?_
      refine EV.steps cl_2 1 (q2 := (39, [some (.ref 102), some (.int v1), some (.int v2)], [.int v1, .int (w 106 v2.toNatClampNeg)], SH, w)) rfl ?_
      refine EV.i_ne cl_2 rfl (fun h4 => ?_) (fun h4 => ?_)
      · skip
        rw [if_neg h4] at H
        refine EV.steps cl_2 2 (q2 := (15, [some (.ref 102), some (.int v1), some (.int (v2 + (kI 1)))], [], SH, w)) rfl ?_
        exact H
      · skip
        rw [if_pos h4] at H
        refine EV.steps cl_2 3 (q2 := (47, [some (.ref 102), some (.int v1), some (.int v2)], [.int v2, .ref 104], SH, w)) rfl ?_
        obtain ⟨j5, H⟩ := H
        refine EV.iaload cl_2 rfl rfl (by decide) j5 ?_
        refine EV.steps cl_2 2 (q2 := (51, [some (.ref 102), some (.int v1), some (.int v2)], [.int (kI 99), .int (kI 0), .int (w 104 v2.toNatClampNeg)], SH, w)) rfl ?_
        refine EV.callF (kc := 153) (av := [.int (w 104 v2.toNatClampNeg), .int (kI 0), .int (kI 99)]) (r := []) (rv := some (.int (F_153 (w 104 v2.toNatClampNeg) (kI 0) (kI 99) w))) (w2 := w) cl_2 rfl rfl rfl (m_153 w (w 104 v2.toNatClampNeg) (kI 0) (kI 99)) ?_
        refine EV.z_eq cl_2 rfl (fun h6 => ?_) (fun h6 => ?_)
        · skip
          rw [if_pos h6] at H
          refine EV.steps cl_2 2 (q2 := (15, [some (.ref 102), some (.int v1), some (.int (v2 + (kI 1)))], [], SH, w)) rfl ?_
          exact H
        · skip
          rw [if_neg h6] at H
          refine EV.steps cl_2 5 (q2 := (66, [some (.ref 102), some (.int v1), some (.int v2)], [.int v2, .ref 104, .ref 107], SH, w)) rfl ?_
          obtain ⟨j7, H⟩ := H
          refine EV.iaload cl_2 rfl rfl (by decide) j7 ?_
          refine EV.steps cl_2 1 (q2 := (68, [some (.ref 102), some (.int v1), some (.int v2)], [.int (w 104 v2.toNatClampNeg), .ref 107, .int (w 104 v2.toNatClampNeg), .ref 107], SH, w)) rfl ?_
          refine EV.iaload cl_2 rfl rfl (by decide) (ix_153 h6 (by decide)) ?_
          refine EV.steps cl_2 2 (q2 := (71, [some (.ref 102), some (.int v1), some (.int v2)], [.int ((w 107 (w 104 v2.toNatClampNeg).toNatClampNeg) + (kI 1)), .int (w 104 v2.toNatClampNeg), .ref 107], SH, w)) rfl ?_
          refine EV.iastore cl_2 rfl rfl (by decide) (ix_153 h6 (by decide)) ?_
          refine EV.steps cl_2 8 (q2 := (15, [some (.ref 102), some (.int v1), some (.int (v2 + (kI 1)))], [], SH, (up2 (up2 w 107 (w 104 v2.toNatClampNeg).toNatClampNeg ((w 107 (w 104 v2.toNatClampNeg).toNatClampNeg) + (kI 1))) 102 7 ((w 102 7) + (kI 1))))) rfl ?_
          exact H
theorem t3_102_at0 {X : Scr} {d : Nat} {Q : Int32 → Wd → Prop} (w : Wd) 
    (H : EI X (d + 1) 3 (4, [some (.ref 102), some (.int (kI 0)), some (.int (kI 0))], [], SH, w) Q) : EI X (d + 1) 3 (0, [some (.ref 102), none, none], [], SH, w) Q := by
  unfold EI
  refine EV.steps cl_3 4 (q2 := (4, [some (.ref 102), some (.int (kI 0)), some (.int (kI 0))], [], SH, w)) rfl ?_
  exact H
theorem t3_102_at4 {X : Scr} {d : Nat} {Q : Int32 → Wd → Prop} (w : Wd) (v1 : Int32) (v2 : Int32)
    (H : (if (kI 100) ≤ v2 then Q (kI (-2)) w else (inB v2 100 = true ∧ (if (v1 + (w 107 v2.toNatClampNeg)) ≤ 0 then EI X (d + 1) 3 (4, [some (.ref 102), some (.int (v1 + (w 107 v2.toNatClampNeg))), some (.int (v2 + (kI 1)))], [], SH, w) Q else (if ((kI 2) * (v1 + (w 107 v2.toNatClampNeg))) < (w 102 7) then EI X (d + 1) 3 (4, [some (.ref 102), some (.int (v1 + (w 107 v2.toNatClampNeg))), some (.int (v2 + (kI 1)))], [], SH, w) Q else Q v2 w))))) : EI X (d + 1) 3 (4, [some (.ref 102), some (.int v1), some (.int v2)], [], SH, w) Q := by
  unfold EI
  refine EV.steps cl_3 2 (q2 := (7, [some (.ref 102), some (.int v1), some (.int v2)], [.int (kI 100), .int v2], SH, w)) rfl ?_
  refine EV.i_ge cl_3 rfl (fun h1 => ?_) (fun h1 => ?_)
  · skip
    rw [if_pos h1] at H
    refine EV.steps cl_3 1 (q2 := (43, [some (.ref 102), some (.int v1), some (.int v2)], [.int (kI (-2))], SH, w)) rfl ?_
    refine EV.ret cl_3 rfl rfl rfl ?_
    exact ⟨_, rfl, rfl, H⟩
  · skip
    rw [if_neg h1] at H
    refine EV.steps cl_3 4 (q2 := (16, [some (.ref 102), some (.int v1), some (.int v2)], [.int v2, .ref 107, .int v1], SH, w)) rfl ?_
    obtain ⟨j2, H⟩ := H
    refine EV.iaload cl_3 rfl rfl (by decide) j2 ?_
    refine EV.steps cl_3 3 (q2 := (20, [some (.ref 102), some (.int (v1 + (w 107 v2.toNatClampNeg))), some (.int v2)], [.int (v1 + (w 107 v2.toNatClampNeg))], SH, w)) rfl ?_
    refine EV.z_le cl_3 rfl (fun h3 => ?_) (fun h3 => ?_)
    · skip
      rw [if_pos h3] at H
      refine EV.steps cl_3 2 (q2 := (4, [some (.ref 102), some (.int (v1 + (w 107 v2.toNatClampNeg))), some (.int (v2 + (kI 1)))], [], SH, w)) rfl ?_
      exact H
    · skip
      rw [if_neg h3] at H
      refine EV.steps cl_3 5 (q2 := (30, [some (.ref 102), some (.int (v1 + (w 107 v2.toNatClampNeg))), some (.int v2)], [.int (w 102 7), .int ((kI 2) * (v1 + (w 107 v2.toNatClampNeg)))], SH, w)) rfl ?_
      refine EV.i_lt cl_3 rfl (fun h4 => ?_) (fun h4 => ?_)
      · skip
        rw [if_pos h4] at H
        refine EV.steps cl_3 2 (q2 := (4, [some (.ref 102), some (.int (v1 + (w 107 v2.toNatClampNeg))), some (.int (v2 + (kI 1)))], [], SH, w)) rfl ?_
        exact H
      · skip
        rw [if_neg h4] at H
        refine EV.steps cl_3 1 (q2 := (34, [some (.ref 102), some (.int (v1 + (w 107 v2.toNatClampNeg))), some (.int v2)], [.int v2], SH, w)) rfl ?_
        refine EV.ret cl_3 rfl rfl rfl ?_
        exact ⟨_, rfl, rfl, H⟩
theorem t4_102_at0 {X : Scr} {d : Nat} {Q : Int32 → Wd → Prop} (w : Wd) (v1 : Int32) (v2 : Int32)
    (H : CU X (d + 1) 2 [.ref 102, .int v1] w (fun w1 => EI X (d + 1) 4 (10, [some (.ref 102), some (.int v1), some (.int v2), some (.int (kI 0)), some (.int (kI 0)), none, none], [], SH, w1) Q)) : EI X (d + 1) 4 (0, [some (.ref 102), some (.int v1), some (.int v2), none, none, none, none], [], SH, w) Q := by
  unfold EI
  refine EV.steps cl_4 2 (q2 := (2, [some (.ref 102), some (.int v1), some (.int v2), none, none, none, none], [.int v1, .ref 102], SH, w)) rfl ?_
  refine EV.call (kc := 2) (av := [.ref 102, .int v1]) (r := []) cl_4 rfl rfl rfl H ?_
  clear H; intro y1 s1 w1 e1
  obtain ⟨rfl, rfl, H⟩ := e1
  refine EV.steps cl_4 4 (q2 := (10, [some (.ref 102), some (.int v1), some (.int v2), some (.int (kI 0)), some (.int (kI 0)), none, none], [], SH, w1)) rfl ?_
  exact H
theorem t4_102_at10 {X : Scr} {d : Nat} {Q : Int32 → Wd → Prop} (w : Wd) (v1 : Int32) (v2 : Int32) (v3 : Int32) (v4 : Int32)
    (H : (if (kI 100) ≤ v4 then ((v3 = 0 ∨ v3 = 1) ∧ Q v3 w) else EI X (d + 1) 4 (24, [some (.ref 102), some (.int v1), some (.int v2), some (.int v3), some (.int v4), some (.int (kI 0)), some (.int v4)], [], SH, w) Q)) : EI X (d + 1) 4 (10, [some (.ref 102), some (.int v1), some (.int v2), some (.int v3), some (.int v4), none, none], [], SH, w) Q := by
  unfold EI
  refine EV.steps cl_4 2 (q2 := (14, [some (.ref 102), some (.int v1), some (.int v2), some (.int v3), some (.int v4), none, none], [.int (kI 100), .int v4], SH, w)) rfl ?_
  refine EV.i_ge cl_4 rfl (fun h1 => ?_) (fun h1 => ?_)
  · skip
    rw [if_pos h1] at H
    refine EV.steps cl_4 1 (q2 := (103, [some (.ref 102), some (.int v1), some (.int v2), some (.int v3), some (.int v4), none, none], [.int v3], SH, w)) rfl ?_
    obtain ⟨j2, H⟩ := H
    refine EV.retB cl_4 rfl rfl j2 ?_
    exact ⟨_, rfl, rfl, H⟩
  · skip
    rw [if_neg h1] at H
    refine EV.steps cl_4 4 (q2 := (24, [some (.ref 102), some (.int v1), some (.int v2), some (.int v3), some (.int v4), some (.int (kI 0)), some (.int v4)], [], SH, w)) rfl ?_
    exact H
theorem t4_102_at24 {X : Scr} {d : Nat} {Q : Int32 → Wd → Prop} (w : Wd) (v1 : Int32) (v2 : Int32) (v3 : Int32) (v4 : Int32) (v5 : Int32) (v6 : Int32)
    (H : (if (kI 100) ≤ v6 then EI X (d + 1) 4 (10, [some (.ref 102), some (.int v1), some (.int v2), some (.int v3), some (.int (v4 + (kI 1))), none, none], [], SH, w) Q else (if v2 ≤ v5 then EI X (d + 1) 4 (10, [some (.ref 102), some (.int v1), some (.int v2), some (.int v3), some (.int (v4 + (kI 1))), none, none], [], SH, w) Q else (inB v6 100 = true ∧ (if (v5 + (w 107 v6.toNatClampNeg)) = v2 then (if v3 = 0 then EI X (d + 1) 4 (24, [some (.ref 102), some (.int v1), some (.int v2), some (.int (kI 1)), some (.int v4), some (.int (v5 + (w 107 v6.toNatClampNeg))), some (.int (v6 + (kI 1)))], [], SH, (up2 (up2 w 102 8 v4) 102 9 v6)) Q else (if ((w 102 9) - (w 102 8)) ≤ (v6 - v4) then EI X (d + 1) 4 (24, [some (.ref 102), some (.int v1), some (.int v2), some (.int v3), some (.int v4), some (.int (v5 + (w 107 v6.toNatClampNeg))), some (.int (v6 + (kI 1)))], [], SH, w) Q else EI X (d + 1) 4 (24, [some (.ref 102), some (.int v1), some (.int v2), some (.int (kI 1)), some (.int v4), some (.int (v5 + (w 107 v6.toNatClampNeg))), some (.int (v6 + (kI 1)))], [], SH, (up2 (up2 w 102 8 v4) 102 9 v6)) Q)) else EI X (d + 1) 4 (24, [some (.ref 102), some (.int v1), some (.int v2), some (.int v3), some (.int v4), some (.int (v5 + (w 107 v6.toNatClampNeg))), some (.int (v6 + (kI 1)))], [], SH, w) Q))))) : EI X (d + 1) 4 (24, [some (.ref 102), some (.int v1), some (.int v2), some (.int v3), some (.int v4), some (.int v5), some (.int v6)], [], SH, w) Q := by
  unfold EI
  refine EV.steps cl_4 2 (q2 := (28, [some (.ref 102), some (.int v1), some (.int v2), some (.int v3), some (.int v4), some (.int v5), some (.int v6)], [.int (kI 100), .int v6], SH, w)) rfl ?_
  refine EV.i_ge cl_4 rfl (fun h1 => ?_) (fun h1 => ?_)
  · skip
    rw [if_pos h1] at H
    refine EV.steps cl_4 2 (q2 := (10, [some (.ref 102), some (.int v1), some (.int v2), some (.int v3), some (.int (v4 + (kI 1))), some (.int v5), some (.int v6)], [], SH, w)) rfl ?_
    exact EV.weak (l := [some (.ref 102), some (.int v1), some (.int v2), some (.int v3), some (.int (v4 + (kI 1))), none, none]) ⟨rfl, ⟨rfl, ⟨rfl, ⟨rfl, ⟨rfl, ⟨rfl, ⟨rfl, trivial⟩⟩⟩⟩⟩⟩⟩ H
  · skip
    rw [if_neg h1] at H
    refine EV.steps cl_4 2 (q2 := (34, [some (.ref 102), some (.int v1), some (.int v2), some (.int v3), some (.int v4), some (.int v5), some (.int v6)], [.int v2, .int v5], SH, w)) rfl ?_
    refine EV.i_ge cl_4 rfl (fun h2 => ?_) (fun h2 => ?_)
    · skip
      rw [if_pos h2] at H
      refine EV.steps cl_4 2 (q2 := (10, [some (.ref 102), some (.int v1), some (.int v2), some (.int v3), some (.int (v4 + (kI 1))), some (.int v5), some (.int v6)], [], SH, w)) rfl ?_
      exact EV.weak (l := [some (.ref 102), some (.int v1), some (.int v2), some (.int v3), some (.int (v4 + (kI 1))), none, none]) ⟨rfl, ⟨rfl, ⟨rfl, ⟨rfl, ⟨rfl, ⟨rfl, ⟨rfl, trivial⟩⟩⟩⟩⟩⟩⟩ H
    · skip
      rw [if_neg h2] at H
      refine EV.steps cl_4 4 (q2 := (45, [some (.ref 102), some (.int v1), some (.int v2), some (.int v3), some (.int v4), some (.int v5), some (.int v6)], [.int v6, .ref 107, .int v5], SH, w)) rfl ?_
      obtain ⟨j3, H⟩ := H
      refine EV.iaload cl_4 rfl rfl (by decide) j3 ?_
      refine EV.steps cl_4 4 (q2 := (52, [some (.ref 102), some (.int v1), some (.int v2), some (.int v3), some (.int v4), some (.int (v5 + (w 107 v6.toNatClampNeg))), some (.int v6)], [.int v2, .int (v5 + (w 107 v6.toNatClampNeg))], SH, w)) rfl ?_
      refine EV.i_ne cl_4 rfl (fun h4 => ?_) (fun h4 => ?_)
      · skip
        rw [if_neg h4] at H
        refine EV.steps cl_4 2 (q2 := (24, [some (.ref 102), some (.int v1), some (.int v2), some (.int v3), some (.int v4), some (.int (v5 + (w 107 v6.toNatClampNeg))), some (.int (v6 + (kI 1)))], [], SH, w)) rfl ?_
        exact H
      · skip
        rw [if_pos h4] at H
        refine EV.steps cl_4 1 (q2 := (56, [some (.ref 102), some (.int v1), some (.int v2), some (.int v3), some (.int v4), some (.int (v5 + (w 107 v6.toNatClampNeg))), some (.int v6)], [.int v3], SH, w)) rfl ?_
        refine EV.z_eq cl_4 rfl (fun h5 => ?_) (fun h5 => ?_)
        · skip
          rw [if_pos h5] at H
          refine EV.steps cl_4 10 (q2 := (24, [some (.ref 102), some (.int v1), some (.int v2), some (.int (kI 1)), some (.int v4), some (.int (v5 + (w 107 v6.toNatClampNeg))), some (.int (v6 + (kI 1)))], [], SH, (up2 (up2 w 102 8 v4) 102 9 v6))) rfl ?_
          exact H
        · skip
          rw [if_neg h5] at H
          refine EV.steps cl_4 8 (q2 := (73, [some (.ref 102), some (.int v1), some (.int v2), some (.int v3), some (.int v4), some (.int (v5 + (w 107 v6.toNatClampNeg))), some (.int v6)], [.int ((w 102 9) - (w 102 8)), .int (v6 - v4)], SH, w)) rfl ?_
          refine EV.i_ge cl_4 rfl (fun h6 => ?_) (fun h6 => ?_)
          · skip
            rw [if_pos h6] at H
            refine EV.steps cl_4 2 (q2 := (24, [some (.ref 102), some (.int v1), some (.int v2), some (.int v3), some (.int v4), some (.int (v5 + (w 107 v6.toNatClampNeg))), some (.int (v6 + (kI 1)))], [], SH, w)) rfl ?_
            exact H
          · skip
            rw [if_neg h6] at H
            refine EV.steps cl_4 10 (q2 := (24, [some (.ref 102), some (.int v1), some (.int v2), some (.int (kI 1)), some (.int v4), some (.int (v5 + (w 107 v6.toNatClampNeg))), some (.int (v6 + (kI 1)))], [], SH, (up2 (up2 w 102 8 v4) 102 9 v6))) rfl ?_
            exact H
theorem t5_102_at0 {X : Scr} {d : Nat} {Q : Int32 → Wd → Prop} (w : Wd) 
    (H : EI X (d + 2) 5 (4, [some (.ref 102), some (.int (kI 0)), some (.int (kI 0)), none], [], SH, w) Q) : EI X (d + 2) 5 (0, [some (.ref 102), none, none, none], [], SH, w) Q := by
  unfold EI
  refine EV.steps cl_5 4 (q2 := (4, [some (.ref 102), some (.int (kI 0)), some (.int (kI 0)), none], [], SH, w)) rfl ?_
  exact H
theorem t5_102_at4 {X : Scr} {d : Nat} {Q : Int32 → Wd → Prop} (w : Wd) (v1 : Int32) (v2 : Int32)
    (H : (if (kI 20) ≤ v2 then Q v1 w else EI X (d + 2) 5 (12, [some (.ref 102), some (.int v1), some (.int v2), some (.int (kI 0))], [], SH, w) Q)) : EI X (d + 2) 5 (4, [some (.ref 102), some (.int v1), some (.int v2), none], [], SH, w) Q := by
  unfold EI
  refine EV.steps cl_5 2 (q2 := (7, [some (.ref 102), some (.int v1), some (.int v2), none], [.int (kI 20), .int v2], SH, w)) rfl ?_
  refine EV.i_ge cl_5 rfl (fun h1 => ?_) (fun h1 => ?_)
  · skip
    rw [if_pos h1] at H
    refine EV.steps cl_5 1 (q2 := (42, [some (.ref 102), some (.int v1), some (.int v2), none], [.int v1], SH, w)) rfl ?_
    refine EV.ret cl_5 rfl rfl rfl ?_
    exact ⟨_, rfl, rfl, H⟩
  · skip
    rw [if_neg h1] at H
    refine EV.steps cl_5 2 (q2 := (12, [some (.ref 102), some (.int v1), some (.int v2), some (.int (kI 0))], [], SH, w)) rfl ?_
    exact H
theorem t5_102_at12 {X : Scr} {d : Nat} {Q : Int32 → Wd → Prop} (w : Wd) (v1 : Int32) (v2 : Int32) (v3 : Int32)
    (H : (if v2 ≤ v3 then EI X (d + 2) 5 (4, [some (.ref 102), some (.int v1), some (.int (v2 + (kI 1))), none], [], SH, w) Q else (if (F_8_102 v2 v3 w) = 0 then EI X (d + 2) 5 (12, [some (.ref 102), some (.int v1), some (.int v2), some (.int (v3 + (kI 1)))], [], SH, w) Q else EI X (d + 2) 5 (12, [some (.ref 102), some (.int (v1 + (kI 1))), some (.int v2), some (.int (v3 + (kI 1)))], [], SH, w) Q))) : EI X (d + 2) 5 (12, [some (.ref 102), some (.int v1), some (.int v2), some (.int v3)], [], SH, w) Q := by
  unfold EI
  refine EV.steps cl_5 2 (q2 := (14, [some (.ref 102), some (.int v1), some (.int v2), some (.int v3)], [.int v2, .int v3], SH, w)) rfl ?_
  refine EV.i_ge cl_5 rfl (fun h1 => ?_) (fun h1 => ?_)
  · skip
    rw [if_pos h1] at H
    refine EV.steps cl_5 2 (q2 := (4, [some (.ref 102), some (.int v1), some (.int (v2 + (kI 1))), some (.int v3)], [], SH, w)) rfl ?_
    exact EV.weak (l := [some (.ref 102), some (.int v1), some (.int (v2 + (kI 1))), none]) ⟨rfl, ⟨rfl, ⟨rfl, ⟨rfl, trivial⟩⟩⟩⟩ H
  · skip
    rw [if_neg h1] at H
    refine EV.steps cl_5 3 (q2 := (20, [some (.ref 102), some (.int v1), some (.int v2), some (.int v3)], [.int v3, .int v2, .ref 102], SH, w)) rfl ?_
    refine EV.callF (kc := 8) (av := [.ref 102, .int v2, .int v3]) (r := []) (rv := some (.int (F_8_102 v2 v3 w))) (w2 := w) cl_5 rfl rfl rfl (m_8_102 w v2 v3) ?_
    refine EV.z_eq cl_5 rfl (fun h2 => ?_) (fun h2 => ?_)
    · skip
      rw [if_pos h2] at H
      refine EV.steps cl_5 2 (q2 := (12, [some (.ref 102), some (.int v1), some (.int v2), some (.int (v3 + (kI 1)))], [], SH, w)) rfl ?_
      exact H
    · skip
      rw [if_neg h2] at H
      refine EV.steps cl_5 3 (q2 := (12, [some (.ref 102), some (.int (v1 + (kI 1))), some (.int v2), some (.int (v3 + (kI 1)))], [], SH, w)) rfl ?_
      exact H
theorem t6_102_at0 {X : Scr} {d : Nat} {Q : Int32 → Wd → Prop} (w : Wd) 
    (H : EI X (d + 2) 6 (12, [some (.ref 102), some (.int (kI 0)), some (.int (kI 0))], [], SH, (G_258_108 (kI (-1)) w)) Q) : EI X (d + 2) 6 (0, [some (.ref 102), none, none], [], SH, w) Q := by
  unfold EI
  refine EV.steps cl_6 3 (q2 := (5, [some (.ref 102), none, none], [.int (kI (-1)), .ref 108], SH, w)) rfl ?_
  refine EV.callF (kc := 258) (av := [.ref 108, .int (kI (-1))]) (r := []) (rv := none) (w2 := (G_258_108 (kI (-1)) w)) cl_6 rfl rfl rfl (m_258_108 w (kI (-1))) ?_
  refine EV.steps cl_6 4 (q2 := (12, [some (.ref 102), some (.int (kI 0)), some (.int (kI 0))], [], SH, (G_258_108 (kI (-1)) w))) rfl ?_
  exact H
theorem t6_102_at12 {X : Scr} {d : Nat} {Q : Int32 → Wd → Prop} (w : Wd) (v1 : Int32) (v2 : Int32)
    (H : (if (kI 20) ≤ v2 then Q v1 w else (inB v2 20 = true ∧ (if ((w 105 v2.toNatClampNeg) - (w 105 v2.toNatClampNeg) / (kI 2) * (kI 2)) = 0 then CI X (d + 2) 7 [.ref 102, .int v2, .int (kI 0)] (up2 w 102 10 (kI 0)) (fun x1 w1 => (if x1 = 0 then EI X (d + 2) 6 (12, [some (.ref 102), some (.int v1), some (.int (v2 + (kI 1)))], [], SH, w1) Q else EI X (d + 2) 6 (12, [some (.ref 102), some (.int (v1 + (kI 1))), some (.int (v2 + (kI 1)))], [], SH, w1) Q)) else EI X (d + 2) 6 (12, [some (.ref 102), some (.int v1), some (.int (v2 + (kI 1)))], [], SH, (up2 w 102 10 (kI 0))) Q)))) : EI X (d + 2) 6 (12, [some (.ref 102), some (.int v1), some (.int v2)], [], SH, w) Q := by
  unfold EI
  refine EV.steps cl_6 2 (q2 := (15, [some (.ref 102), some (.int v1), some (.int v2)], [.int (kI 20), .int v2], SH, w)) rfl ?_
  refine EV.i_ge cl_6 rfl (fun h1 => ?_) (fun h1 => ?_)
  · skip
    rw [if_pos h1] at H
    refine EV.steps cl_6 1 (q2 := (53, [some (.ref 102), some (.int v1), some (.int v2)], [.int v1], SH, w)) rfl ?_
    refine EV.ret cl_6 rfl rfl rfl ?_
    exact ⟨_, rfl, rfl, H⟩
  · skip
    rw [if_neg h1] at H
    refine EV.steps cl_6 6 (q2 := (28, [some (.ref 102), some (.int v1), some (.int v2)], [.int v2, .ref 105], SH, (up2 w 102 10 (kI 0)))) rfl ?_
    obtain ⟨j2, H⟩ := H
    refine EV.iaload cl_6 rfl rfl (by decide) j2 ?_
    refine EV.steps cl_6 1 (q2 := (30, [some (.ref 102), some (.int v1), some (.int v2)], [.int (kI 2), .int (w 105 v2.toNatClampNeg)], SH, (up2 w 102 10 (kI 0)))) rfl ?_
    refine EV.irem cl_6 rfl (by decide) ?_
    refine EV.z_ne cl_6 rfl (fun h3 => ?_) (fun h3 => ?_)
    · skip
      rw [if_neg h3] at H
      refine EV.steps cl_6 2 (q2 := (12, [some (.ref 102), some (.int v1), some (.int (v2 + (kI 1)))], [], SH, (up2 w 102 10 (kI 0)))) rfl ?_
      exact H
    · skip
      rw [if_pos h3] at H
      refine EV.steps cl_6 3 (q2 := (37, [some (.ref 102), some (.int v1), some (.int v2)], [.int (kI 0), .int v2, .ref 102], SH, (up2 w 102 10 (kI 0)))) rfl ?_
      refine EV.call (kc := 7) (av := [.ref 102, .int v2, .int (kI 0)]) (r := []) cl_6 rfl rfl rfl H ?_
      clear H; intro y1 s1 w1 e1
      obtain ⟨x1, rfl, rfl, H⟩ := e1
      refine EV.z_eq cl_6 rfl (fun h4 => ?_) (fun h4 => ?_)
      · skip
        rw [if_pos h4] at H
        refine EV.steps cl_6 2 (q2 := (12, [some (.ref 102), some (.int v1), some (.int (v2 + (kI 1)))], [], SH, w1)) rfl ?_
        exact H
      · skip
        rw [if_neg h4] at H
        refine EV.steps cl_6 3 (q2 := (12, [some (.ref 102), some (.int (v1 + (kI 1))), some (.int (v2 + (kI 1)))], [], SH, w1)) rfl ?_
        exact H
theorem t7_102_at0 {X : Scr} {d : Nat} {Q : Int32 → Wd → Prop} (w : Wd) (v1 : Int32) (v2 : Int32)
    (H : (if v2 ≤ (kI 20) then EI X (d + 2) 7 (10, [some (.ref 102), some (.int v1), some (.int v2), some (.int (kI 0))], [], SH, w) Q else Q (kI 0) w)) : EI X (d + 2) 7 (0, [some (.ref 102), some (.int v1), some (.int v2), none], [], SH, w) Q := by
  unfold EI
  refine EV.steps cl_7 2 (q2 := (3, [some (.ref 102), some (.int v1), some (.int v2), none], [.int (kI 20), .int v2], SH, w)) rfl ?_
  refine EV.i_le cl_7 rfl (fun h1 => ?_) (fun h1 => ?_)
  · skip
    rw [if_pos h1] at H
    refine EV.steps cl_7 2 (q2 := (10, [some (.ref 102), some (.int v1), some (.int v2), some (.int (kI 0))], [], SH, w)) rfl ?_
    exact H
  · skip
    rw [if_neg h1] at H
    refine EV.steps cl_7 1 (q2 := (7, [some (.ref 102), some (.int v1), some (.int v2), none], [.int (kI 0)], SH, w)) rfl ?_
    refine EV.ret cl_7 rfl rfl rfl ?_
    exact ⟨_, rfl, rfl, H⟩
theorem t7_102_at10 {X : Scr} {d : Nat} {Q : Int32 → Wd → Prop} (w : Wd) (v1 : Int32) (v2 : Int32) (v3 : Int32)
    (H : (if (kI 20) ≤ v3 then Q (kI 0) w else (if (F_154 (w 102 10) v3 w) = 0 then (if (F_8_102 v1 v3 w) = 0 then EI X (d + 2) 7 (10, [some (.ref 102), some (.int v1), some (.int v2), some (.int (v3 + (kI 1)))], [], SH, w) Q else (inB v3 20 = true ∧ (if (w 108 v3.toNatClampNeg) = (kI (-1)) then (inB v3 20 = true ∧ Q (kI 1) (up2 (up2 w 102 10 ((w 102 10) ||| ((kI 1) <<< (v3 &&& 31)))) 108 v3.toNatClampNeg v1)) else (inB v3 20 = true ∧ CI X (d + 2) 7 [.ref 102, .int (w 108 v3.toNatClampNeg), .int (v2 + (kI 1))] (up2 w 102 10 ((w 102 10) ||| ((kI 1) <<< (v3 &&& 31)))) (fun x1 w1 => (if x1 = 0 then EI X (d + 2) 7 (10, [some (.ref 102), some (.int v1), some (.int v2), some (.int (v3 + (kI 1)))], [], SH, w1) Q else (inB v3 20 = true ∧ Q (kI 1) (up2 w1 108 v3.toNatClampNeg v1)))))))) else EI X (d + 2) 7 (10, [some (.ref 102), some (.int v1), some (.int v2), some (.int (v3 + (kI 1)))], [], SH, w) Q))) : EI X (d + 2) 7 (10, [some (.ref 102), some (.int v1), some (.int v2), some (.int v3)], [], SH, w) Q := by
  unfold EI
  refine EV.steps cl_7 2 (q2 := (13, [some (.ref 102), some (.int v1), some (.int v2), some (.int v3)], [.int (kI 20), .int v3], SH, w)) rfl ?_
  refine EV.i_ge cl_7 rfl (fun h1 => ?_) (fun h1 => ?_)
  · skip
    rw [if_pos h1] at H
    refine EV.steps cl_7 1 (q2 := (90, [some (.ref 102), some (.int v1), some (.int v2), some (.int v3)], [.int (kI 0)], SH, w)) rfl ?_
    refine EV.ret cl_7 rfl rfl rfl ?_
    exact ⟨_, rfl, rfl, H⟩
  · skip
    rw [if_neg h1] at H
    refine EV.steps cl_7 3 (q2 := (21, [some (.ref 102), some (.int v1), some (.int v2), some (.int v3)], [.int v3, .int (w 102 10)], SH, w)) rfl ?_
    refine EV.callF (kc := 154) (av := [.int (w 102 10), .int v3]) (r := []) (rv := some (.int (F_154 (w 102 10) v3 w))) (w2 := w) cl_7 rfl rfl rfl (m_154 w (w 102 10) v3) ?_
    refine EV.z_ne cl_7 rfl (fun h2 => ?_) (fun h2 => ?_)
    · skip
      rw [if_neg h2] at H
      refine EV.steps cl_7 2 (q2 := (10, [some (.ref 102), some (.int v1), some (.int v2), some (.int (v3 + (kI 1)))], [], SH, w)) rfl ?_
      exact H
    · skip
      rw [if_pos h2] at H
      refine EV.steps cl_7 3 (q2 := (30, [some (.ref 102), some (.int v1), some (.int v2), some (.int v3)], [.int v3, .int v1, .ref 102], SH, w)) rfl ?_
      refine EV.callF (kc := 8) (av := [.ref 102, .int v1, .int v3]) (r := []) (rv := some (.int (F_8_102 v1 v3 w))) (w2 := w) cl_7 rfl rfl rfl (m_8_102 w v1 v3) ?_
      refine EV.z_eq cl_7 rfl (fun h3 => ?_) (fun h3 => ?_)
      · skip
        rw [if_pos h3] at H
        refine EV.steps cl_7 2 (q2 := (10, [some (.ref 102), some (.int v1), some (.int v2), some (.int (v3 + (kI 1)))], [], SH, w)) rfl ?_
        exact H
      · skip
        rw [if_neg h3] at H
        refine EV.steps cl_7 11 (q2 := (53, [some (.ref 102), some (.int v1), some (.int v2), some (.int v3)], [.int v3, .ref 108], SH, (up2 w 102 10 ((w 102 10) ||| ((kI 1) <<< (v3 &&& 31)))))) rfl ?_
        obtain ⟨j4, H⟩ := H
        refine EV.iaload cl_7 rfl rfl (by decide) j4 ?_
        refine EV.steps cl_7 1 (q2 := (55, [some (.ref 102), some (.int v1), some (.int v2), some (.int v3)], [.int (kI (-1)), .int (w 108 v3.toNatClampNeg)], SH, (up2 w 102 10 ((w 102 10) ||| ((kI 1) <<< (v3 &&& 31)))))) rfl ?_
        refine EV.i_eq cl_7 rfl (fun h5 => ?_) (fun h5 => ?_)
        · skip
          rw [if_pos h5] at H
          refine EV.steps cl_7 4 (q2 := (80, [some (.ref 102), some (.int v1), some (.int v2), some (.int v3)], [.int v1, .int v3, .ref 108], SH, (up2 w 102 10 ((w 102 10) ||| ((kI 1) <<< (v3 &&& 31)))))) rfl ?_
          obtain ⟨j6, H⟩ := H
          refine EV.iastore cl_7 rfl rfl (by decide) j6 ?_
          refine EV.steps cl_7 1 (q2 := (82, [some (.ref 102), some (.int v1), some (.int v2), some (.int v3)], [.int (kI 1)], SH, (up2 (up2 w 102 10 ((w 102 10) ||| ((kI 1) <<< (v3 &&& 31)))) 108 v3.toNatClampNeg v1))) rfl ?_
          refine EV.ret cl_7 rfl rfl rfl ?_
          exact ⟨_, rfl, rfl, H⟩
        · skip
          rw [if_neg h5] at H
          refine EV.steps cl_7 4 (q2 := (64, [some (.ref 102), some (.int v1), some (.int v2), some (.int v3)], [.int v3, .ref 108, .ref 102], SH, (up2 w 102 10 ((w 102 10) ||| ((kI 1) <<< (v3 &&& 31)))))) rfl ?_
          obtain ⟨j7, H⟩ := H
          refine EV.iaload cl_7 rfl rfl (by decide) j7 ?_
          refine EV.steps cl_7 3 (q2 := (68, [some (.ref 102), some (.int v1), some (.int v2), some (.int v3)], [.int (v2 + (kI 1)), .int (w 108 v3.toNatClampNeg), .ref 102], SH, (up2 w 102 10 ((w 102 10) ||| ((kI 1) <<< (v3 &&& 31)))))) rfl ?_
          refine EV.call (kc := 7) (av := [.ref 102, .int (w 108 v3.toNatClampNeg), .int (v2 + (kI 1))]) (r := []) cl_7 rfl rfl rfl H ?_
          clear H; intro y1 s1 w1 e1
          obtain ⟨x1, rfl, rfl, H⟩ := e1
          refine EV.z_eq cl_7 rfl (fun h8 => ?_) (fun h8 => ?_)
          · skip
            rw [if_pos h8] at H
            refine EV.steps cl_7 2 (q2 := (10, [some (.ref 102), some (.int v1), some (.int v2), some (.int (v3 + (kI 1)))], [], SH, w1)) rfl ?_
            exact H
          · skip
            rw [if_neg h8] at H
            refine EV.steps cl_7 4 (q2 := (80, [some (.ref 102), some (.int v1), some (.int v2), some (.int v3)], [.int v1, .int v3, .ref 108], SH, w1)) rfl ?_
            obtain ⟨j9, H⟩ := H
            refine EV.iastore cl_7 rfl rfl (by decide) j9 ?_
            refine EV.steps cl_7 1 (q2 := (82, [some (.ref 102), some (.int v1), some (.int v2), some (.int v3)], [.int (kI 1)], SH, (up2 w1 108 v3.toNatClampNeg v1))) rfl ?_
            refine EV.ret cl_7 rfl rfl rfl ?_
            exact ⟨_, rfl, rfl, H⟩
theorem t15_7_at0 {X : Scr} {d : Nat} {Q : Int32 → Wd → Prop} (w : Wd) (v1 : Int32)
    (H : (if (kI 1) ≤ (w 7 4) then EI X (d + 2) 15 (15, [some (.ref 7), some (.int v1), some (.int (kI 0)), some (.int (kI 0))], [], SH, w) Q else Q (kI (-2)) w)) : EI X (d + 2) 15 (0, [some (.ref 7), some (.int v1), none, none], [], SH, w) Q := by
  unfold EI
  refine EV.steps cl_15 3 (q2 := (5, [some (.ref 7), some (.int v1), none, none], [.int (kI 1), .int (w 7 4)], SH, w)) rfl ?_
  refine EV.i_ge cl_15 rfl (fun h1 => ?_) (fun h1 => ?_)
  · skip
    rw [if_pos h1] at H
    refine EV.steps cl_15 4 (q2 := (15, [some (.ref 7), some (.int v1), some (.int (kI 0)), some (.int (kI 0))], [], SH, w)) rfl ?_
    exact H
  · skip
    rw [if_neg h1] at H
    refine EV.steps cl_15 1 (q2 := (10, [some (.ref 7), some (.int v1), none, none], [.int (kI (-2))], SH, w)) rfl ?_
    refine EV.ret cl_15 rfl rfl rfl ?_
    exact ⟨_, rfl, rfl, H⟩
theorem t15_7_at15 {X : Scr} {d : Nat} {Q : Int32 → Wd → Prop} (w : Wd) (v1 : Int32) (v2 : Int32) (v3 : Int32)
    (H : (if (w 7 4) ≤ v3 then (¬ ((kI 2) * (w 7 4)) = 0 ∧ Q ((((kI 24) * v2) + (w 7 4)) / ((kI 2) * (w 7 4))) w) else EI X (d + 2) 15 (15, [some (.ref 7), some (.int v1), some (.int (v2 + (F_12_7 v1 v3 w))), some (.int (v3 + (kI 1)))], [], SH, w) Q)) : EI X (d + 2) 15 (15, [some (.ref 7), some (.int v1), some (.int v2), some (.int v3)], [], SH, w) Q := by
  unfold EI
  refine EV.steps cl_15 3 (q2 := (20, [some (.ref 7), some (.int v1), some (.int v2), some (.int v3)], [.int (w 7 4), .int v3], SH, w)) rfl ?_
  refine EV.i_ge cl_15 rfl (fun h1 => ?_) (fun h1 => ?_)
  · skip
    rw [if_pos h1] at H
    refine EV.steps cl_15 10 (q2 := (53, [some (.ref 7), some (.int v1), some (.int v2), some (.int v3)], [.int ((kI 2) * (w 7 4)), .int (((kI 24) * v2) + (w 7 4))], SH, w)) rfl ?_
    obtain ⟨j2, H⟩ := H
    refine EV.idiv cl_15 rfl j2 ?_
    refine EV.ret cl_15 rfl rfl rfl ?_
    exact ⟨_, rfl, rfl, H⟩
  · skip
    rw [if_neg h1] at H
    refine EV.steps cl_15 4 (q2 := (27, [some (.ref 7), some (.int v1), some (.int v2), some (.int v3)], [.int v3, .int v1, .ref 7, .int v2], SH, w)) rfl ?_
    refine EV.callF (kc := 12) (av := [.ref 7, .int v1, .int v3]) (r := [.int v2]) (rv := some (.int (F_12_7 v1 v3 w))) (w2 := w) cl_15 rfl rfl rfl (m_12_7 w v1 v3) ?_
    refine EV.steps cl_15 4 (q2 := (15, [some (.ref 7), some (.int v1), some (.int (v2 + (F_12_7 v1 v3 w))), some (.int (v3 + (kI 1)))], [], SH, w)) rfl ?_
    exact H
theorem t19_7_3_at0 {X : Scr} {d : Nat} {Q : Wd → Prop} (w : Wd) 
    (H : (¬ (((Int32.ofNat 48) - (kI 6)) < 0 ∨ (kI 0) < 0 ∨ (kI 6) < 0 ∨ 48 < (kI 0).toNatClampNeg + ((Int32.ofNat 48) - (kI 6)).toNatClampNeg ∨ 48 < (kI 6).toNatClampNeg + ((Int32.ofNat 48) - (kI 6)).toNatClampNeg) ∧ EU X (d + 2) 19 (24, [some (.ref 7), some (.ref 3), some (.int (kI 0))], [], SH, (cp2 w 11 11 (kI 0).toNatClampNeg (kI 6).toNatClampNeg ((Int32.ofNat 48) - (kI 6)).toNatClampNeg)) Q)) : EU X (d + 2) 19 (0, [some (.ref 7), some (.ref 3), none], [], SH, w) Q := by
  unfold EU
  refine EV.steps cl_19 11 (q2 := (19, [some (.ref 7), some (.ref 3), none], [.int ((Int32.ofNat 48) - (kI 6)), .int (kI 6), .ref 11, .int (kI 0), .ref 11], SH, w)) rfl ?_
  obtain ⟨j1, H⟩ := H
  refine EV.acopy cl_19 rfl rfl rfl j1 (by decide) ?_
  refine EV.steps cl_19 2 (q2 := (24, [some (.ref 7), some (.ref 3), some (.int (kI 0))], [], SH, (cp2 w 11 11 (kI 0).toNatClampNeg (kI 6).toNatClampNeg ((Int32.ofNat 48) - (kI 6)).toNatClampNeg))) rfl ?_
  exact H
theorem t19_7_3_at24 {X : Scr} {d : Nat} {Q : Wd → Prop} (w : Wd) (v2 : Int32)
    (H : (if (kI 6) ≤ v2 then Q (up2 (up2 (up2 (G_258_10 (kI 0) (G_258_9 (kI 0) (G_258_8 (kI 0) w))) 7 6 ((G_258_10 (kI 0) (G_258_9 (kI 0) (G_258_8 (kI 0) w))) 3 5)) 7 4 (kI 0)) 7 5 (((G_258_10 (kI 0) (G_258_9 (kI 0) (G_258_8 (kI 0) w))) 7 5) + (kI 1))) else (if (F_52_3 v2 w) = 0 then (inB v2 48 = true ∧ (if (F_52_3 v2 (up2 w 11 v2.toNatClampNeg (kI (-2)))) = 0 then EU X (d + 2) 19 (24, [some (.ref 7), some (.ref 3), some (.int (v2 + (kI 1)))], [], SH, (up2 w 11 v2.toNatClampNeg (kI (-2)))) Q else (inB v2 48 = true ∧ (if ((up2 w 11 v2.toNatClampNeg (kI (-2))) 11 v2.toNatClampNeg) = (F_54_3 v2 (up2 w 11 v2.toNatClampNeg (kI (-2)))) then EU X (d + 2) 19 (24, [some (.ref 7), some (.ref 3), some (.int (v2 + (kI 1)))], [], SH, (up2 (up2 w 11 v2.toNatClampNeg (kI (-2))) 7 7 ((w 7 7) + (kI 1)))) Q else EU X (d + 2) 19 (24, [some (.ref 7), some (.ref 3), some (.int (v2 + (kI 1)))], [], SH, (up2 w 11 v2.toNatClampNeg (kI (-2)))) Q)))) else (inB v2 48 = true ∧ (if (F_52_3 v2 (up2 w 11 v2.toNatClampNeg (F_14_7 v2 w))) = 0 then EU X (d + 2) 19 (24, [some (.ref 7), some (.ref 3), some (.int (v2 + (kI 1)))], [], SH, (up2 w 11 v2.toNatClampNeg (F_14_7 v2 w))) Q else (inB v2 48 = true ∧ (if ((up2 w 11 v2.toNatClampNeg (F_14_7 v2 w)) 11 v2.toNatClampNeg) = (F_54_3 v2 (up2 w 11 v2.toNatClampNeg (F_14_7 v2 w))) then EU X (d + 2) 19 (24, [some (.ref 7), some (.ref 3), some (.int (v2 + (kI 1)))], [], SH, (up2 (up2 w 11 v2.toNatClampNeg (F_14_7 v2 w)) 7 7 ((w 7 7) + (kI 1)))) Q else EU X (d + 2) 19 (24, [some (.ref 7), some (.ref 3), some (.int (v2 + (kI 1)))], [], SH, (up2 w 11 v2.toNatClampNeg (F_14_7 v2 w))) Q))))))) : EU X (d + 2) 19 (24, [some (.ref 7), some (.ref 3), some (.int v2)], [], SH, w) Q := by
  unfold EU
  refine EV.steps cl_19 2 (q2 := (27, [some (.ref 7), some (.ref 3), some (.int v2)], [.int (kI 6), .int v2], SH, w)) rfl ?_
  refine EV.i_ge cl_19 rfl (fun h1 => ?_) (fun h1 => ?_)
  · skip
    rw [if_pos h1] at H
    refine EV.steps cl_19 3 (q2 := (97, [some (.ref 7), some (.ref 3), some (.int v2)], [.int (kI 0), .ref 8], SH, w)) rfl ?_
    refine EV.callF (kc := 258) (av := [.ref 8, .int (kI 0)]) (r := []) (rv := none) (w2 := (G_258_8 (kI 0) w)) cl_19 rfl rfl rfl (m_258_8 w (kI 0)) ?_
    refine EV.steps cl_19 3 (q2 := (105, [some (.ref 7), some (.ref 3), some (.int v2)], [.int (kI 0), .ref 9], SH, (G_258_8 (kI 0) w))) rfl ?_
    refine EV.callF (kc := 258) (av := [.ref 9, .int (kI 0)]) (r := []) (rv := none) (w2 := (G_258_9 (kI 0) (G_258_8 (kI 0) w))) cl_19 rfl rfl rfl (m_258_9 (G_258_8 (kI 0) w) (kI 0)) ?_
    refine EV.steps cl_19 3 (q2 := (113, [some (.ref 7), some (.ref 3), some (.int v2)], [.int (kI 0), .ref 10], SH, (G_258_9 (kI 0) (G_258_8 (kI 0) w)))) rfl ?_
    refine EV.callF (kc := 258) (av := [.ref 10, .int (kI 0)]) (r := []) (rv := none) (w2 := (G_258_10 (kI 0) (G_258_9 (kI 0) (G_258_8 (kI 0) w)))) cl_19 rfl rfl rfl (m_258_10 (G_258_9 (kI 0) (G_258_8 (kI 0) w)) (kI 0)) ?_
    refine EV.steps cl_19 13 (q2 := (139, [some (.ref 7), some (.ref 3), some (.int v2)], [], SH, (up2 (up2 (up2 (G_258_10 (kI 0) (G_258_9 (kI 0) (G_258_8 (kI 0) w))) 7 6 ((G_258_10 (kI 0) (G_258_9 (kI 0) (G_258_8 (kI 0) w))) 3 5)) 7 4 (kI 0)) 7 5 (((G_258_10 (kI 0) (G_258_9 (kI 0) (G_258_8 (kI 0) w))) 7 5) + (kI 1))))) rfl ?_
    refine EV.ret cl_19 rfl rfl rfl ?_
    exact ⟨rfl, rfl, H⟩
  · skip
    rw [if_neg h1] at H
    refine EV.steps cl_19 5 (q2 := (37, [some (.ref 7), some (.ref 3), some (.int v2)], [.int v2, .ref 3, .int v2, .ref 11], SH, w)) rfl ?_
    refine EV.callF (kc := 52) (av := [.ref 3, .int v2]) (r := [.int v2, .ref 11]) (rv := some (.int (F_52_3 v2 w))) (w2 := w) cl_19 rfl rfl rfl (m_52_3 w v2) ?_
    refine EV.z_eq cl_19 rfl (fun h2 => ?_) (fun h2 => ?_)
    · skip
      rw [if_pos h2] at H
      refine EV.steps cl_19 1 (q2 := (53, [some (.ref 7), some (.ref 3), some (.int v2)], [.int (kI (-2)), .int v2, .ref 11], SH, w)) rfl ?_
      obtain ⟨j3, H⟩ := H
      refine EV.iastore cl_19 rfl rfl (by decide) j3 ?_
      refine EV.steps cl_19 2 (q2 := (56, [some (.ref 7), some (.ref 3), some (.int v2)], [.int v2, .ref 3], SH, (up2 w 11 v2.toNatClampNeg (kI (-2))))) rfl ?_
      refine EV.callF (kc := 52) (av := [.ref 3, .int v2]) (r := []) (rv := some (.int (F_52_3 v2 (up2 w 11 v2.toNatClampNeg (kI (-2)))))) (w2 := (up2 w 11 v2.toNatClampNeg (kI (-2)))) cl_19 rfl rfl rfl (m_52_3 (up2 w 11 v2.toNatClampNeg (kI (-2))) v2) ?_
      refine EV.z_eq cl_19 rfl (fun h4 => ?_) (fun h4 => ?_)
      · skip
        rw [if_pos h4] at H
        refine EV.steps cl_19 2 (q2 := (24, [some (.ref 7), some (.ref 3), some (.int (v2 + (kI 1)))], [], SH, (up2 w 11 v2.toNatClampNeg (kI (-2))))) rfl ?_
        exact H
      · skip
        rw [if_neg h4] at H
        refine EV.steps cl_19 3 (q2 := (67, [some (.ref 7), some (.ref 3), some (.int v2)], [.int v2, .ref 11], SH, (up2 w 11 v2.toNatClampNeg (kI (-2))))) rfl ?_
        obtain ⟨j5, H⟩ := H
        refine EV.iaload cl_19 rfl rfl (by decide) j5 ?_
        refine EV.steps cl_19 2 (q2 := (70, [some (.ref 7), some (.ref 3), some (.int v2)], [.int v2, .ref 3, .int ((up2 w 11 v2.toNatClampNeg (kI (-2))) 11 v2.toNatClampNeg)], SH, (up2 w 11 v2.toNatClampNeg (kI (-2))))) rfl ?_
        refine EV.callF (kc := 54) (av := [.ref 3, .int v2]) (r := [.int ((up2 w 11 v2.toNatClampNeg (kI (-2))) 11 v2.toNatClampNeg)]) (rv := some (.int (F_54_3 v2 (up2 w 11 v2.toNatClampNeg (kI (-2)))))) (w2 := (up2 w 11 v2.toNatClampNeg (kI (-2)))) cl_19 rfl rfl rfl (m_54_3 (up2 w 11 v2.toNatClampNeg (kI (-2))) v2) ?_
        refine EV.i_ne cl_19 rfl (fun h6 => ?_) (fun h6 => ?_)
        · skip
          rw [if_neg h6] at H
          refine EV.steps cl_19 2 (q2 := (24, [some (.ref 7), some (.ref 3), some (.int (v2 + (kI 1)))], [], SH, (up2 w 11 v2.toNatClampNeg (kI (-2))))) rfl ?_
          exact H
        · skip
          rw [if_pos h6] at H
          refine EV.steps cl_19 8 (q2 := (24, [some (.ref 7), some (.ref 3), some (.int (v2 + (kI 1)))], [], SH, (up2 (up2 w 11 v2.toNatClampNeg (kI (-2))) 7 7 ((w 7 7) + (kI 1))))) rfl ?_
          exact H
    · skip
      rw [if_neg h2] at H
      refine EV.steps cl_19 2 (q2 := (45, [some (.ref 7), some (.ref 3), some (.int v2)], [.int v2, .ref 7, .int v2, .ref 11], SH, w)) rfl ?_
      refine EV.callF (kc := 14) (av := [.ref 7, .int v2]) (r := [.int v2, .ref 11]) (rv := some (.int (F_14_7 v2 w))) (w2 := w) cl_19 rfl rfl rfl (m_14_7 w v2) ?_
      refine EV.steps cl_19 1 (q2 := (53, [some (.ref 7), some (.ref 3), some (.int v2)], [.int (F_14_7 v2 w), .int v2, .ref 11], SH, w)) rfl ?_
      obtain ⟨j7, H⟩ := H
      refine EV.iastore cl_19 rfl rfl (by decide) j7 ?_
      refine EV.steps cl_19 2 (q2 := (56, [some (.ref 7), some (.ref 3), some (.int v2)], [.int v2, .ref 3], SH, (up2 w 11 v2.toNatClampNeg (F_14_7 v2 w)))) rfl ?_
      refine EV.callF (kc := 52) (av := [.ref 3, .int v2]) (r := []) (rv := some (.int (F_52_3 v2 (up2 w 11 v2.toNatClampNeg (F_14_7 v2 w))))) (w2 := (up2 w 11 v2.toNatClampNeg (F_14_7 v2 w))) cl_19 rfl rfl rfl (m_52_3 (up2 w 11 v2.toNatClampNeg (F_14_7 v2 w)) v2) ?_
      refine EV.z_eq cl_19 rfl (fun h8 => ?_) (fun h8 => ?_)
      · skip
        rw [if_pos h8] at H
        refine EV.steps cl_19 2 (q2 := (24, [some (.ref 7), some (.ref 3), some (.int (v2 + (kI 1)))], [], SH, (up2 w 11 v2.toNatClampNeg (F_14_7 v2 w)))) rfl ?_
        exact H
      · skip
        rw [if_neg h8] at H
        refine EV.steps cl_19 3 (q2 := (67, [some (.ref 7), some (.ref 3), some (.int v2)], [.int v2, .ref 11], SH, (up2 w 11 v2.toNatClampNeg (F_14_7 v2 w)))) rfl ?_
        obtain ⟨j9, H⟩ := H
        refine EV.iaload cl_19 rfl rfl (by decide) j9 ?_
        refine EV.steps cl_19 2 (q2 := (70, [some (.ref 7), some (.ref 3), some (.int v2)], [.int v2, .ref 3, .int ((up2 w 11 v2.toNatClampNeg (F_14_7 v2 w)) 11 v2.toNatClampNeg)], SH, (up2 w 11 v2.toNatClampNeg (F_14_7 v2 w)))) rfl ?_
        refine EV.callF (kc := 54) (av := [.ref 3, .int v2]) (r := [.int ((up2 w 11 v2.toNatClampNeg (F_14_7 v2 w)) 11 v2.toNatClampNeg)]) (rv := some (.int (F_54_3 v2 (up2 w 11 v2.toNatClampNeg (F_14_7 v2 w))))) (w2 := (up2 w 11 v2.toNatClampNeg (F_14_7 v2 w))) cl_19 rfl rfl rfl (m_54_3 (up2 w 11 v2.toNatClampNeg (F_14_7 v2 w)) v2) ?_
        refine EV.i_ne cl_19 rfl (fun h10 => ?_) (fun h10 => ?_)
        · skip
          rw [if_neg h10] at H
          refine EV.steps cl_19 2 (q2 := (24, [some (.ref 7), some (.ref 3), some (.int (v2 + (kI 1)))], [], SH, (up2 w 11 v2.toNatClampNeg (F_14_7 v2 w)))) rfl ?_
          exact H
        · skip
          rw [if_pos h10] at H
          refine EV.steps cl_19 8 (q2 := (24, [some (.ref 7), some (.ref 3), some (.int (v2 + (kI 1)))], [], SH, (up2 (up2 w 11 v2.toNatClampNeg (F_14_7 v2 w)) 7 7 ((w 7 7) + (kI 1))))) rfl ?_
          exact H
theorem t19_17_3_at0 {X : Scr} {d : Nat} {Q : Wd → Prop} (w : Wd) 
    (H : (¬ (((Int32.ofNat 48) - (kI 6)) < 0 ∨ (kI 0) < 0 ∨ (kI 6) < 0 ∨ 48 < (kI 0).toNatClampNeg + ((Int32.ofNat 48) - (kI 6)).toNatClampNeg ∨ 48 < (kI 6).toNatClampNeg + ((Int32.ofNat 48) - (kI 6)).toNatClampNeg) ∧ EU X (d + 2) 19 (24, [some (.ref 17), some (.ref 3), some (.int (kI 0))], [], SH, (cp2 w 21 21 (kI 0).toNatClampNeg (kI 6).toNatClampNeg ((Int32.ofNat 48) - (kI 6)).toNatClampNeg)) Q)) : EU X (d + 2) 19 (0, [some (.ref 17), some (.ref 3), none], [], SH, w) Q := by
  unfold EU
  refine EV.steps cl_19 11 (q2 := (19, [some (.ref 17), some (.ref 3), none], [.int ((Int32.ofNat 48) - (kI 6)), .int (kI 6), .ref 21, .int (kI 0), .ref 21], SH, w)) rfl ?_
  obtain ⟨j1, H⟩ := H
  refine EV.acopy cl_19 rfl rfl rfl j1 (by decide) ?_
  refine EV.steps cl_19 2 (q2 := (24, [some (.ref 17), some (.ref 3), some (.int (kI 0))], [], SH, (cp2 w 21 21 (kI 0).toNatClampNeg (kI 6).toNatClampNeg ((Int32.ofNat 48) - (kI 6)).toNatClampNeg))) rfl ?_
  exact H
theorem t19_17_3_at24 {X : Scr} {d : Nat} {Q : Wd → Prop} (w : Wd) (v2 : Int32)
    (H : (if (kI 6) ≤ v2 then Q (up2 (up2 (up2 (G_258_20 (kI 0) (G_258_19 (kI 0) (G_258_18 (kI 0) w))) 17 6 ((G_258_20 (kI 0) (G_258_19 (kI 0) (G_258_18 (kI 0) w))) 3 5)) 17 4 (kI 0)) 17 5 (((G_258_20 (kI 0) (G_258_19 (kI 0) (G_258_18 (kI 0) w))) 17 5) + (kI 1))) else (if (F_52_3 v2 w) = 0 then (inB v2 48 = true ∧ (if (F_52_3 v2 (up2 w 21 v2.toNatClampNeg (kI (-2)))) = 0 then EU X (d + 2) 19 (24, [some (.ref 17), some (.ref 3), some (.int (v2 + (kI 1)))], [], SH, (up2 w 21 v2.toNatClampNeg (kI (-2)))) Q else (inB v2 48 = true ∧ (if ((up2 w 21 v2.toNatClampNeg (kI (-2))) 21 v2.toNatClampNeg) = (F_54_3 v2 (up2 w 21 v2.toNatClampNeg (kI (-2)))) then EU X (d + 2) 19 (24, [some (.ref 17), some (.ref 3), some (.int (v2 + (kI 1)))], [], SH, (up2 (up2 w 21 v2.toNatClampNeg (kI (-2))) 17 7 ((w 17 7) + (kI 1)))) Q else EU X (d + 2) 19 (24, [some (.ref 17), some (.ref 3), some (.int (v2 + (kI 1)))], [], SH, (up2 w 21 v2.toNatClampNeg (kI (-2)))) Q)))) else (inB v2 48 = true ∧ (if (F_52_3 v2 (up2 w 21 v2.toNatClampNeg (F_14_17 v2 w))) = 0 then EU X (d + 2) 19 (24, [some (.ref 17), some (.ref 3), some (.int (v2 + (kI 1)))], [], SH, (up2 w 21 v2.toNatClampNeg (F_14_17 v2 w))) Q else (inB v2 48 = true ∧ (if ((up2 w 21 v2.toNatClampNeg (F_14_17 v2 w)) 21 v2.toNatClampNeg) = (F_54_3 v2 (up2 w 21 v2.toNatClampNeg (F_14_17 v2 w))) then EU X (d + 2) 19 (24, [some (.ref 17), some (.ref 3), some (.int (v2 + (kI 1)))], [], SH, (up2 (up2 w 21 v2.toNatClampNeg (F_14_17 v2 w)) 17 7 ((w 17 7) + (kI 1)))) Q else EU X (d + 2) 19 (24, [some (.ref 17), some (.ref 3), some (.int (v2 + (kI 1)))], [], SH, (up2 w 21 v2.toNatClampNeg (F_14_17 v2 w))) Q))))))) : EU X (d + 2) 19 (24, [some (.ref 17), some (.ref 3), some (.int v2)], [], SH, w) Q := by
  unfold EU
  refine EV.steps cl_19 2 (q2 := (27, [some (.ref 17), some (.ref 3), some (.int v2)], [.int (kI 6), .int v2], SH, w)) rfl ?_
  refine EV.i_ge cl_19 rfl (fun h1 => ?_) (fun h1 => ?_)
  · skip
    rw [if_pos h1] at H
    refine EV.steps cl_19 3 (q2 := (97, [some (.ref 17), some (.ref 3), some (.int v2)], [.int (kI 0), .ref 18], SH, w)) rfl ?_
    refine EV.callF (kc := 258) (av := [.ref 18, .int (kI 0)]) (r := []) (rv := none) (w2 := (G_258_18 (kI 0) w)) cl_19 rfl rfl rfl (m_258_18 w (kI 0)) ?_
    refine EV.steps cl_19 3 (q2 := (105, [some (.ref 17), some (.ref 3), some (.int v2)], [.int (kI 0), .ref 19], SH, (G_258_18 (kI 0) w))) rfl ?_
    refine EV.callF (kc := 258) (av := [.ref 19, .int (kI 0)]) (r := []) (rv := none) (w2 := (G_258_19 (kI 0) (G_258_18 (kI 0) w))) cl_19 rfl rfl rfl (m_258_19 (G_258_18 (kI 0) w) (kI 0)) ?_
    refine EV.steps cl_19 3 (q2 := (113, [some (.ref 17), some (.ref 3), some (.int v2)], [.int (kI 0), .ref 20], SH, (G_258_19 (kI 0) (G_258_18 (kI 0) w)))) rfl ?_
    refine EV.callF (kc := 258) (av := [.ref 20, .int (kI 0)]) (r := []) (rv := none) (w2 := (G_258_20 (kI 0) (G_258_19 (kI 0) (G_258_18 (kI 0) w)))) cl_19 rfl rfl rfl (m_258_20 (G_258_19 (kI 0) (G_258_18 (kI 0) w)) (kI 0)) ?_
    refine EV.steps cl_19 13 (q2 := (139, [some (.ref 17), some (.ref 3), some (.int v2)], [], SH, (up2 (up2 (up2 (G_258_20 (kI 0) (G_258_19 (kI 0) (G_258_18 (kI 0) w))) 17 6 ((G_258_20 (kI 0) (G_258_19 (kI 0) (G_258_18 (kI 0) w))) 3 5)) 17 4 (kI 0)) 17 5 (((G_258_20 (kI 0) (G_258_19 (kI 0) (G_258_18 (kI 0) w))) 17 5) + (kI 1))))) rfl ?_
    refine EV.ret cl_19 rfl rfl rfl ?_
    exact ⟨rfl, rfl, H⟩
  · skip
    rw [if_neg h1] at H
    refine EV.steps cl_19 5 (q2 := (37, [some (.ref 17), some (.ref 3), some (.int v2)], [.int v2, .ref 3, .int v2, .ref 21], SH, w)) rfl ?_
    refine EV.callF (kc := 52) (av := [.ref 3, .int v2]) (r := [.int v2, .ref 21]) (rv := some (.int (F_52_3 v2 w))) (w2 := w) cl_19 rfl rfl rfl (m_52_3 w v2) ?_
    refine EV.z_eq cl_19 rfl (fun h2 => ?_) (fun h2 => ?_)
    · skip
      rw [if_pos h2] at H
      refine EV.steps cl_19 1 (q2 := (53, [some (.ref 17), some (.ref 3), some (.int v2)], [.int (kI (-2)), .int v2, .ref 21], SH, w)) rfl ?_
      obtain ⟨j3, H⟩ := H
      refine EV.iastore cl_19 rfl rfl (by decide) j3 ?_
      refine EV.steps cl_19 2 (q2 := (56, [some (.ref 17), some (.ref 3), some (.int v2)], [.int v2, .ref 3], SH, (up2 w 21 v2.toNatClampNeg (kI (-2))))) rfl ?_
      refine EV.callF (kc := 52) (av := [.ref 3, .int v2]) (r := []) (rv := some (.int (F_52_3 v2 (up2 w 21 v2.toNatClampNeg (kI (-2)))))) (w2 := (up2 w 21 v2.toNatClampNeg (kI (-2)))) cl_19 rfl rfl rfl (m_52_3 (up2 w 21 v2.toNatClampNeg (kI (-2))) v2) ?_
      refine EV.z_eq cl_19 rfl (fun h4 => ?_) (fun h4 => ?_)
      · skip
        rw [if_pos h4] at H
        refine EV.steps cl_19 2 (q2 := (24, [some (.ref 17), some (.ref 3), some (.int (v2 + (kI 1)))], [], SH, (up2 w 21 v2.toNatClampNeg (kI (-2))))) rfl ?_
        exact H
      · skip
        rw [if_neg h4] at H
        refine EV.steps cl_19 3 (q2 := (67, [some (.ref 17), some (.ref 3), some (.int v2)], [.int v2, .ref 21], SH, (up2 w 21 v2.toNatClampNeg (kI (-2))))) rfl ?_
        obtain ⟨j5, H⟩ := H
        refine EV.iaload cl_19 rfl rfl (by decide) j5 ?_
        refine EV.steps cl_19 2 (q2 := (70, [some (.ref 17), some (.ref 3), some (.int v2)], [.int v2, .ref 3, .int ((up2 w 21 v2.toNatClampNeg (kI (-2))) 21 v2.toNatClampNeg)], SH, (up2 w 21 v2.toNatClampNeg (kI (-2))))) rfl ?_
        refine EV.callF (kc := 54) (av := [.ref 3, .int v2]) (r := [.int ((up2 w 21 v2.toNatClampNeg (kI (-2))) 21 v2.toNatClampNeg)]) (rv := some (.int (F_54_3 v2 (up2 w 21 v2.toNatClampNeg (kI (-2)))))) (w2 := (up2 w 21 v2.toNatClampNeg (kI (-2)))) cl_19 rfl rfl rfl (m_54_3 (up2 w 21 v2.toNatClampNeg (kI (-2))) v2) ?_
        refine EV.i_ne cl_19 rfl (fun h6 => ?_) (fun h6 => ?_)
        · skip
          rw [if_neg h6] at H
          refine EV.steps cl_19 2 (q2 := (24, [some (.ref 17), some (.ref 3), some (.int (v2 + (kI 1)))], [], SH, (up2 w 21 v2.toNatClampNeg (kI (-2))))) rfl ?_
          exact H
        · skip
          rw [if_pos h6] at H
          refine EV.steps cl_19 8 (q2 := (24, [some (.ref 17), some (.ref 3), some (.int (v2 + (kI 1)))], [], SH, (up2 (up2 w 21 v2.toNatClampNeg (kI (-2))) 17 7 ((w 17 7) + (kI 1))))) rfl ?_
          exact H
    · skip
      rw [if_neg h2] at H
      refine EV.steps cl_19 2 (q2 := (45, [some (.ref 17), some (.ref 3), some (.int v2)], [.int v2, .ref 17, .int v2, .ref 21], SH, w)) rfl ?_
      refine EV.callF (kc := 14) (av := [.ref 17, .int v2]) (r := [.int v2, .ref 21]) (rv := some (.int (F_14_17 v2 w))) (w2 := w) cl_19 rfl rfl rfl (m_14_17 w v2) ?_
      refine EV.steps cl_19 1 (q2 := (53, [some (.ref 17), some (.ref 3), some (.int v2)], [.int (F_14_17 v2 w), .int v2, .ref 21], SH, w)) rfl ?_
      obtain ⟨j7, H⟩ := H
      refine EV.iastore cl_19 rfl rfl (by decide) j7 ?_
      refine EV.steps cl_19 2 (q2 := (56, [some (.ref 17), some (.ref 3), some (.int v2)], [.int v2, .ref 3], SH, (up2 w 21 v2.toNatClampNeg (F_14_17 v2 w)))) rfl ?_
      refine EV.callF (kc := 52) (av := [.ref 3, .int v2]) (r := []) (rv := some (.int (F_52_3 v2 (up2 w 21 v2.toNatClampNeg (F_14_17 v2 w))))) (w2 := (up2 w 21 v2.toNatClampNeg (F_14_17 v2 w))) cl_19 rfl rfl rfl (m_52_3 (up2 w 21 v2.toNatClampNeg (F_14_17 v2 w)) v2) ?_
      refine EV.z_eq cl_19 rfl (fun h8 => ?_) (fun h8 => ?_)
      · skip
        rw [if_pos h8] at H
        refine EV.steps cl_19 2 (q2 := (24, [some (.ref 17), some (.ref 3), some (.int (v2 + (kI 1)))], [], SH, (up2 w 21 v2.toNatClampNeg (F_14_17 v2 w)))) rfl ?_
        exact H
      · skip
        rw [if_neg h8] at H
        refine EV.steps cl_19 3 (q2 := (67, [some (.ref 17), some (.ref 3), some (.int v2)], [.int v2, .ref 21], SH, (up2 w 21 v2.toNatClampNeg (F_14_17 v2 w)))) rfl ?_
        obtain ⟨j9, H⟩ := H
        refine EV.iaload cl_19 rfl rfl (by decide) j9 ?_
        refine EV.steps cl_19 2 (q2 := (70, [some (.ref 17), some (.ref 3), some (.int v2)], [.int v2, .ref 3, .int ((up2 w 21 v2.toNatClampNeg (F_14_17 v2 w)) 21 v2.toNatClampNeg)], SH, (up2 w 21 v2.toNatClampNeg (F_14_17 v2 w)))) rfl ?_
        refine EV.callF (kc := 54) (av := [.ref 3, .int v2]) (r := [.int ((up2 w 21 v2.toNatClampNeg (F_14_17 v2 w)) 21 v2.toNatClampNeg)]) (rv := some (.int (F_54_3 v2 (up2 w 21 v2.toNatClampNeg (F_14_17 v2 w))))) (w2 := (up2 w 21 v2.toNatClampNeg (F_14_17 v2 w))) cl_19 rfl rfl rfl (m_54_3 (up2 w 21 v2.toNatClampNeg (F_14_17 v2 w)) v2) ?_
        refine EV.i_ne cl_19 rfl (fun h10 => ?_) (fun h10 => ?_)
        · skip
          rw [if_neg h10] at H
          refine EV.steps cl_19 2 (q2 := (24, [some (.ref 17), some (.ref 3), some (.int (v2 + (kI 1)))], [], SH, (up2 w 21 v2.toNatClampNeg (F_14_17 v2 w)))) rfl ?_
          exact H
        · skip
          rw [if_pos h10] at H
          refine EV.steps cl_19 8 (q2 := (24, [some (.ref 17), some (.ref 3), some (.int (v2 + (kI 1)))], [], SH, (up2 (up2 w 21 v2.toNatClampNeg (F_14_17 v2 w)) 17 7 ((w 17 7) + (kI 1))))) rfl ?_
          exact H
theorem t21_87_7_at0 {X : Scr} {d : Nat} {Q : Wd → Prop} (w : Wd) (v2 : Int32)
    (H : EU X (d + 2) 21 (17, [some (.ref 87), some (.ref 7), some (.int v2), some (.int (kI 0)), none], [], SH, (up2 (up2 (up2 w 87 4 (kI 0)) 87 5 (kI 0)) 87 6 (kI 0))) Q) : EU X (d + 2) 21 (0, [some (.ref 87), some (.ref 7), some (.int v2), none, none], [], SH, w) Q := by
  unfold EU
  refine EV.steps cl_21 11 (q2 := (17, [some (.ref 87), some (.ref 7), some (.int v2), some (.int (kI 0)), none], [], SH, (up2 (up2 (up2 w 87 4 (kI 0)) 87 5 (kI 0)) 87 6 (kI 0)))) rfl ?_
  exact H
theorem t21_87_7_at17 {X : Scr} {d : Nat} {Q : Wd → Prop} (w : Wd) (v2 : Int32) (v3 : Int32)
    (H : (if v2 ≤ v3 then Q w else (if (kI 999) ≤ (w 7 5) then Q w else EU X (d + 2) 21 (35, [some (.ref 87), some (.ref 7), some (.int v2), some (.int v3), some (.int (kI 0))], [], SH, w) Q))) : EU X (d + 2) 21 (17, [some (.ref 87), some (.ref 7), some (.int v2), some (.int v3), none], [], SH, w) Q := by
  unfold EU
  refine EV.steps cl_21 2 (q2 := (19, [some (.ref 87), some (.ref 7), some (.int v2), some (.int v3), none], [.int v2, .int v3], SH, w)) rfl ?_
  refine EV.i_ge cl_21 rfl (fun h1 => ?_) (fun h1 => ?_)
  · skip
    rw [if_pos h1] at H
    refine EV.ret cl_21 rfl rfl rfl ?_
    exact ⟨rfl, rfl, H⟩
  · skip
    rw [if_neg h1] at H
    refine EV.steps cl_21 3 (q2 := (29, [some (.ref 87), some (.ref 7), some (.int v2), some (.int v3), none], [.int (kI 999), .int (w 7 5)], SH, w)) rfl ?_
    refine EV.i_ge cl_21 rfl (fun h2 => ?_) (fun h2 => ?_)
    · skip
      rw [if_pos h2] at H
      refine EV.ret cl_21 rfl rfl rfl ?_
      exact ⟨rfl, rfl, H⟩
    · skip
      rw [if_neg h2] at H
      refine EV.steps cl_21 2 (q2 := (35, [some (.ref 87), some (.ref 7), some (.int v2), some (.int v3), some (.int (kI 0))], [], SH, w)) rfl ?_
      exact H
theorem t21_87_7_at35 {X : Scr} {d : Nat} {Q : Wd → Prop} (w : Wd) (v2 : Int32) (v3 : Int32) (v4 : Int32)
    (H : (if (kI 6) ≤ v4 then (if (kI 11) ≤ (w 7 4) then CU X (d + 2) 23 [.ref 87, .ref 7] w (fun w1 => CU X (d + 2) 19 [.ref 7, .ref 3] w1 (fun w2 => EU X (d + 2) 21 (17, [some (.ref 87), some (.ref 7), some (.int v2), some (.int (v3 + (kI 1))), none], [], SH, w2) Q)) else EU X (d + 2) 21 (17, [some (.ref 87), some (.ref 7), some (.int v2), some (.int (v3 + (kI 1))), none], [], SH, (up2 w 7 4 ((w 7 4) + (kI 1)))) Q) else (if (F_51_3 v4 w) = 0 then EU X (d + 2) 21 (35, [some (.ref 87), some (.ref 7), some (.int v2), some (.int v3), some (.int (v4 + (kI 1)))], [], SH, w) Q else CU X (d + 2) 22 [.ref 87, .ref 7, .int v4] w (fun w3 => EU X (d + 2) 21 (35, [some (.ref 87), some (.ref 7), some (.int v2), some (.int v3), some (.int (v4 + (kI 1)))], [], SH, w3) Q)))) : EU X (d + 2) 21 (35, [some (.ref 87), some (.ref 7), some (.int v2), some (.int v3), some (.int v4)], [], SH, w) Q := by
  unfold EU
  refine EV.steps cl_21 2 (q2 := (39, [some (.ref 87), some (.ref 7), some (.int v2), some (.int v3), some (.int v4)], [.int (kI 6), .int v4], SH, w)) rfl ?_
  refine EV.i_ge cl_21 rfl (fun h1 => ?_) (fun h1 => ?_)
  · skip
    rw [if_pos h1] at H
    refine EV.steps cl_21 3 (q2 := (73, [some (.ref 87), some (.ref 7), some (.int v2), some (.int v3), some (.int v4)], [.int (kI 11), .int (w 7 4)], SH, w)) rfl ?_
    refine EV.i_ge cl_21 rfl (fun h2 => ?_) (fun h2 => ?_)
    · skip
      rw [if_pos h2] at H
      refine EV.steps cl_21 2 (q2 := (91, [some (.ref 87), some (.ref 7), some (.int v2), some (.int v3), some (.int v4)], [.ref 7, .ref 87], SH, w)) rfl ?_
      refine EV.call (kc := 23) (av := [.ref 87, .ref 7]) (r := []) cl_21 rfl rfl rfl H ?_
      clear H; intro y1 s1 w1 e1
      obtain ⟨rfl, rfl, H⟩ := e1
      refine EV.steps cl_21 3 (q2 := (99, [some (.ref 87), some (.ref 7), some (.int v2), some (.int v3), some (.int v4)], [.ref 3, .ref 7], SH, w1)) rfl ?_
      refine EV.call (kc := 19) (av := [.ref 7, .ref 3]) (r := []) cl_21 rfl rfl rfl H ?_
      clear H; intro y2 s2 w2 e2
      obtain ⟨rfl, rfl, H⟩ := e2
      refine EV.steps cl_21 2 (q2 := (17, [some (.ref 87), some (.ref 7), some (.int v2), some (.int (v3 + (kI 1))), some (.int v4)], [], SH, w2)) rfl ?_
      exact EV.weak (l := [some (.ref 87), some (.ref 7), some (.int v2), some (.int (v3 + (kI 1))), none]) ⟨rfl, ⟨rfl, ⟨rfl, ⟨rfl, ⟨rfl, trivial⟩⟩⟩⟩⟩ H
    · skip
      rw [if_neg h2] at H
      refine EV.steps cl_21 9 (q2 := (17, [some (.ref 87), some (.ref 7), some (.int v2), some (.int (v3 + (kI 1))), some (.int v4)], [], SH, (up2 w 7 4 ((w 7 4) + (kI 1))))) rfl ?_
      exact EV.weak (l := [some (.ref 87), some (.ref 7), some (.int v2), some (.int (v3 + (kI 1))), none]) ⟨rfl, ⟨rfl, ⟨rfl, ⟨rfl, ⟨rfl, trivial⟩⟩⟩⟩⟩ H
  · skip
    rw [if_neg h1] at H
    refine EV.steps cl_21 3 (q2 := (48, [some (.ref 87), some (.ref 7), some (.int v2), some (.int v3), some (.int v4)], [.int v4, .ref 3], SH, w)) rfl ?_
    refine EV.callF (kc := 51) (av := [.ref 3, .int v4]) (r := []) (rv := some (.int (F_51_3 v4 w))) (w2 := w) cl_21 rfl rfl rfl (m_51_3 w v4) ?_
    refine EV.z_eq cl_21 rfl (fun h3 => ?_) (fun h3 => ?_)
    · skip
      rw [if_pos h3] at H
      refine EV.steps cl_21 2 (q2 := (35, [some (.ref 87), some (.ref 7), some (.int v2), some (.int v3), some (.int (v4 + (kI 1)))], [], SH, w)) rfl ?_
      exact H
    · skip
      rw [if_neg h3] at H
      refine EV.steps cl_21 3 (q2 := (58, [some (.ref 87), some (.ref 7), some (.int v2), some (.int v3), some (.int v4)], [.int v4, .ref 7, .ref 87], SH, w)) rfl ?_
      refine EV.call (kc := 22) (av := [.ref 87, .ref 7, .int v4]) (r := []) cl_21 rfl rfl rfl H ?_
      clear H; intro y3 s3 w3 e3
      obtain ⟨rfl, rfl, H⟩ := e3
      refine EV.steps cl_21 2 (q2 := (35, [some (.ref 87), some (.ref 7), some (.int v2), some (.int v3), some (.int (v4 + (kI 1)))], [], SH, w3)) rfl ?_
      exact H
