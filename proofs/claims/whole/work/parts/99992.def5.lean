/-! definitions, part 5: calls that are refused (class) -/
section DEF5
theorem t136_no {X : Scr} {d : Nat} {Q : Int32 → Wd → Prop} (w : Wd) (v1 v2 : Int32) (H : Q (kI (-1)) w) (H2 : ¬ F_153 v1 (kI 0) (kI 5) w = 0 → F_105_1 v2 (kI 1) (kI 80) w = 0) : EI X (d + 2) 136 (0, [some (.ref 0), some (.int v1), some (.int v2), none], [], SH, w) Q := by
  unfold EI
  refine EV.steps cl_136 3 (q2 := (3, [some (.ref 0), some (.int v1), some (.int v2), none], [.int (kI 5), .int (kI 0), .int v1], SH, w)) rfl ?_
  refine EV.callF (kc := 153) (av := [.int v1, .int (kI 0), .int (kI 5)]) (r := []) (rv := some (.int (F_153 v1 (kI 0) (kI 5) w))) (w2 := w) cl_136 rfl rfl rfl (m_153 w v1 (kI 0) (kI 5)) ?_
  refine EV.z_eq cl_136 rfl (fun h1 => ?_) (fun h1 => ?_)
  · skip
    refine EV.steps cl_136 1 (q2 := (24, [some (.ref 0), some (.int v1), some (.int v2), none], [.int (kI (-1))], SH, w)) rfl ?_
    refine EV.ret cl_136 rfl rfl rfl ?_
    exact ⟨_, rfl, rfl, H⟩
  · skip
    refine EV.steps cl_136 5 (q2 := (17, [some (.ref 0), some (.int v1), some (.int v2), none], [.int (kI 80), .int (kI 1), .int v2, .ref 1], SH, w)) rfl ?_
    refine EV.callF (kc := 105) (av := [.ref 1, .int v2, .int (kI 1), .int (kI 80)]) (r := []) (rv := some (.int (F_105_1 v2 (kI 1) (kI 80) w))) (w2 := w) cl_136 rfl rfl rfl (m_105_1 w v2 (kI 1) (kI 80)) ?_
    refine EV.z_ne cl_136 rfl (fun h2 => ?_) (fun h2 => ?_)
    · exact absurd (H2 h1) h2
    · refine EV.steps cl_136 1 (q2 := (24, [some (.ref 0), some (.int v1), some (.int v2), none], [.int (kI (-1))], SH, w)) rfl ?_
      refine EV.ret cl_136 rfl rfl rfl ?_
      exact ⟨_, rfl, rfl, H⟩
end DEF5
