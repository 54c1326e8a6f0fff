theorem t69_79_at0 {X : Scr} {d : Nat} {Q : Int32 → Wd → Prop} (w : Wd) (v1 : Int32)
    (H : (if v1 < (kI 6) then CI X (d + 1) 68 [.ref 79, .int (v1 + (kI 1))] (G_112_1 w) (fun x1 w1 => (if x1 = 0 then Q (kI 0) w1 else (((w1 29 6) < (Int32.ofNat 240) → (inB (w1 29 6) 240 = true)) ∧ Q (kI 1) (G_78_29 (kI 33) (kI 0) w1)))) else Q (F_115_1 (kI 5) w) (G_115_1 (kI 5) w))) : EI X (d + 1) 69 (0, [some (.ref 79), some (.int v1)], [], SH, w) Q := by
  unfold EI
  refine EV.steps cl_69 2 (q2 := (3, [some (.ref 79), some (.int v1)], [.int (kI 6), .int v1], SH, w)) rfl ?_
  refine EV.i_lt cl_69 rfl (fun h1 => ?_) (fun h1 => ?_)
  · skip
    rw [if_pos h1] at H
    refine EV.steps cl_69 2 (q2 := (19, [some (.ref 79), some (.int v1)], [.ref 1], SH, w)) rfl ?_
    refine EV.callF (kc := 112) (av := [.ref 1]) (r := []) (rv := none) (w2 := (G_112_1 w)) cl_69 rfl rfl rfl (m_112_1 w ) ?_
    refine EV.steps cl_69 4 (q2 := (26, [some (.ref 79), some (.int v1)], [.int (v1 + (kI 1)), .ref 79], SH, (G_112_1 w))) rfl ?_
    refine EV.call (kc := 68) (av := [.ref 79, .int (v1 + (kI 1))]) (r := []) cl_69 rfl rfl rfl H ?_
    clear H; intro y1 s1 w1 e1
    obtain ⟨x1, rfl, rfl, H⟩ := e1
    refine EV.z_ne cl_69 rfl (fun h2 => ?_) (fun h2 => ?_)
    · skip
      rw [if_neg h2] at H
      refine EV.steps cl_69 4 (q2 := (41, [some (.ref 79), some (.int v1)], [.int (kI 0), .int (kI 33), .ref 29], SH, w1)) rfl ?_
      obtain ⟨j3, H⟩ := H
      refine EV.callF (kc := 78) (av := [.ref 29, .int (kI 33), .int (kI 0)]) (r := []) (rv := some (.int (F_78_29 (kI 33) (kI 0) w1))) (w2 := (G_78_29 (kI 33) (kI 0) w1)) cl_69 rfl rfl rfl (m_78_29 w1 (kI 33) (kI 0) j3) ?_
      refine EV.steps cl_69 2 (q2 := (46, [some (.ref 79), some (.int v1)], [.int (kI 1)], SH, (G_78_29 (kI 33) (kI 0) w1))) rfl ?_
      refine EV.ret cl_69 rfl rfl rfl ?_
      exact ⟨_, rfl, rfl, H⟩
    · skip
      rw [if_pos h2] at H
      refine EV.steps cl_69 1 (q2 := (33, [some (.ref 79), some (.int v1)], [.int (kI 0)], SH, w1)) rfl ?_
      refine EV.ret cl_69 rfl rfl rfl ?_
      exact ⟨_, rfl, rfl, H⟩
  · skip
    rw [if_neg h1] at H
    refine EV.steps cl_69 3 (q2 := (11, [some (.ref 79), some (.int v1)], [.int (kI 5), .ref 1], SH, w)) rfl ?_
    refine EV.callF (kc := 115) (av := [.ref 1, .int (kI 5)]) (r := []) (rv := some (.int (F_115_1 (kI 5) w))) (w2 := (G_115_1 (kI 5) w)) cl_69 rfl rfl rfl (m_115_1 w (kI 5)) ?_
    refine EV.retB cl_69 rfl rfl (z1_115_1 (kI 5) w) ?_
    exact ⟨_, rfl, rfl, H⟩
theorem t70_79_at0 {X : Scr} {d : Nat} {Q : Int32 → Wd → Prop} (w : Wd) (v1 : Int32)
    (H : CI X (d + 2) 71 [.ref 79, .int v1] w (fun x1 w1 => EI X (d + 2) 70 (8, [some (.ref 79), some (.int v1), some (.int x1), some (.int (kI 0)), none], [], SH, w1) Q)) : EI X (d + 2) 70 (0, [some (.ref 79), some (.int v1), none, none, none], [], SH, w) Q := by
  unfold EI
  refine EV.steps cl_70 2 (q2 := (2, [some (.ref 79), some (.int v1), none, none, none], [.int v1, .ref 79], SH, w)) rfl ?_
  refine EV.call (kc := 71) (av := [.ref 79, .int v1]) (r := []) cl_70 rfl rfl rfl H ?_
  clear H; intro y1 s1 w1 e1
  obtain ⟨x1, rfl, rfl, H⟩ := e1
  refine EV.steps cl_70 3 (q2 := (8, [some (.ref 79), some (.int v1), some (.int x1), some (.int (kI 0)), none], [], SH, w1)) rfl ?_
  exact H
theorem t70_79_at8 {X : Scr} {d : Nat} {Q : Int32 → Wd → Prop} (w : Wd) (v1 : Int32) (v2 : Int32) (v3 : Int32)
    (H : (if (kI 240) ≤ v3 then ((v2 = 0 ∨ v2 = 1) ∧ Q v2 w) else (if v2 = 0 then ((v2 = 0 ∨ v2 = 1) ∧ Q v2 w) else ((¬ (w 1 2) ≤ (w 1 3) → (¬ (w 1 1) ≤ (w 1 3) → (inB (w 1 3) 260 = true))) ∧ (if (F_73 (F_110_1 w) w) = 0 then ((v2 = 0 ∨ v2 = 1) ∧ Q v2 w) else ((¬ (w 1 2) ≤ (w 1 3) → (¬ (w 1 1) ≤ (w 1 3) → (inB (w 1 3) 260 = true))) ∧ CI X (d + 2) 71 [.ref 79, .int v1] (G_112_1 w) (fun x1 w1 => (((w1 29 6) < (Int32.ofNat 240) → (inB (w1 29 6) 240 = true)) ∧ EI X (d + 2) 70 (8, [some (.ref 79), some (.int v1), some (.int x1), some (.int (v3 + (kI 1))), none], [], SH, (G_78_29 (F_110_1 w) (kI 0) w1)) Q)))))))) : EI X (d + 2) 70 (8, [some (.ref 79), some (.int v1), some (.int v2), some (.int v3), none], [], SH, w) Q := by
  unfold EI
  refine EV.steps cl_70 2 (q2 := (12, [some (.ref 79), some (.int v1), some (.int v2), some (.int v3), none], [.int (kI 240), .int v3], SH, w)) rfl ?_
  refine EV.i_ge cl_70 rfl (fun h1 => ?_) (fun h1 => ?_)
  · skip
    rw [if_pos h1] at H
    refine EV.steps cl_70 1 (q2 := (72, [some (.ref 79), some (.int v1), some (.int v2), some (.int v3), none], [.int v2], SH, w)) rfl ?_
    obtain ⟨j2, H⟩ := H
    refine EV.retB cl_70 rfl rfl j2 ?_
    exact ⟨_, rfl, rfl, H⟩
  · skip
    rw [if_neg h1] at H
    refine EV.steps cl_70 1 (q2 := (16, [some (.ref 79), some (.int v1), some (.int v2), some (.int v3), none], [.int v2], SH, w)) rfl ?_
    refine EV.z_eq cl_70 rfl (fun h3 => ?_) (fun h3 => ?_)
    · skip
      rw [if_pos h3] at H
      refine EV.steps cl_70 1 (q2 := (72, [some (.ref 79), some (.int v1), some (.int v2), some (.int v3), none], [.int v2], SH, w)) rfl ?_
      obtain ⟨j4, H⟩ := H
      refine EV.retB cl_70 rfl rfl j4 ?_
      exact ⟨_, rfl, rfl, H⟩
    · skip
      rw [if_neg h3] at H
      refine EV.steps cl_70 2 (q2 := (23, [some (.ref 79), some (.int v1), some (.int v2), some (.int v3), none], [.ref 1], SH, w)) rfl ?_
      obtain ⟨j5, H⟩ := H
      refine EV.callF (kc := 110) (av := [.ref 1]) (r := []) (rv := some (.int (F_110_1 w))) (w2 := w) cl_70 rfl rfl rfl (m_110_1 w  j5) ?_
      refine EV.callF (kc := 73) (av := [.int (F_110_1 w)]) (r := []) (rv := some (.int (F_73 (F_110_1 w) w))) (w2 := w) cl_70 rfl rfl rfl (m_73 w (F_110_1 w)) ?_
      refine EV.z_eq cl_70 rfl (fun h6 => ?_) (fun h6 => ?_)
      · skip
        rw [if_pos h6] at H
        refine EV.steps cl_70 1 (q2 := (72, [some (.ref 79), some (.int v1), some (.int v2), some (.int v3), none], [.int v2], SH, w)) rfl ?_
        obtain ⟨j7, H⟩ := H
        refine EV.retB cl_70 rfl rfl j7 ?_
        exact ⟨_, rfl, rfl, H⟩
      · skip
        rw [if_neg h6] at H
        refine EV.steps cl_70 2 (q2 := (36, [some (.ref 79), some (.int v1), some (.int v2), some (.int v3), none], [.ref 1], SH, w)) rfl ?_
        obtain ⟨j8, H⟩ := H
        refine EV.callF (kc := 110) (av := [.ref 1]) (r := []) (rv := some (.int (F_110_1 w))) (w2 := w) cl_70 rfl rfl rfl (m_110_1 w  j8) ?_
        refine EV.steps cl_70 3 (q2 := (45, [some (.ref 79), some (.int v1), some (.int v2), some (.int v3), some (.int (F_110_1 w))], [.ref 1], SH, w)) rfl ?_
        refine EV.callF (kc := 112) (av := [.ref 1]) (r := []) (rv := none) (w2 := (G_112_1 w)) cl_70 rfl rfl rfl (m_112_1 w ) ?_
        refine EV.steps cl_70 2 (q2 := (50, [some (.ref 79), some (.int v1), some (.int v2), some (.int v3), some (.int (F_110_1 w))], [.int v1, .ref 79], SH, (G_112_1 w))) rfl ?_
        refine EV.call (kc := 71) (av := [.ref 79, .int v1]) (r := []) cl_70 rfl rfl rfl H ?_
        clear H; intro y1 s1 w1 e1
        obtain ⟨x1, rfl, rfl, H⟩ := e1
        refine EV.steps cl_70 5 (q2 := (61, [some (.ref 79), some (.int v1), some (.int x1), some (.int v3), some (.int (F_110_1 w))], [.int (kI 0), .int (F_110_1 w), .ref 29], SH, w1)) rfl ?_
        obtain ⟨j9, H⟩ := H
        refine EV.callF (kc := 78) (av := [.ref 29, .int (F_110_1 w), .int (kI 0)]) (r := []) (rv := some (.int (F_78_29 (F_110_1 w) (kI 0) w1))) (w2 := (G_78_29 (F_110_1 w) (kI 0) w1)) cl_70 rfl rfl rfl (m_78_29 w1 (F_110_1 w) (kI 0) j9) ?_
        refine EV.steps cl_70 3 (q2 := (8, [some (.ref 79), some (.int v1), some (.int x1), some (.int (v3 + (kI 1))), some (.int (F_110_1 w))], [], SH, (G_78_29 (F_110_1 w) (kI 0) w1))) rfl ?_
        exact EV.weak (l := [some (.ref 79), some (.int v1), some (.int x1), some (.int (v3 + (kI 1))), none]) ⟨rfl, ⟨rfl, ⟨rfl, ⟨rfl, ⟨rfl, trivial⟩⟩⟩⟩⟩ H
theorem t71_79_at0 {X : Scr} {d : Nat} {Q : Int32 → Wd → Prop} (w : Wd) (v1 : Int32)
    (H : CI X (d + 2) 72 [.ref 79, .int v1] w (fun x1 w1 => EI X (d + 2) 71 (8, [some (.ref 79), some (.int v1), some (.int x1), some (.int (kI 0)), none], [], SH, w1) Q)) : EI X (d + 2) 71 (0, [some (.ref 79), some (.int v1), none, none, none], [], SH, w) Q := by
  unfold EI
  refine EV.steps cl_71 2 (q2 := (2, [some (.ref 79), some (.int v1), none, none, none], [.int v1, .ref 79], SH, w)) rfl ?_
  refine EV.call (kc := 72) (av := [.ref 79, .int v1]) (r := []) cl_71 rfl rfl rfl H ?_
  clear H; intro y1 s1 w1 e1
  obtain ⟨x1, rfl, rfl, H⟩ := e1
  refine EV.steps cl_71 3 (q2 := (8, [some (.ref 79), some (.int v1), some (.int x1), some (.int (kI 0)), none], [], SH, w1)) rfl ?_
  exact H
theorem t71_79_at8 {X : Scr} {d : Nat} {Q : Int32 → Wd → Prop} (w : Wd) (v1 : Int32) (v2 : Int32) (v3 : Int32)
    (H : (if (kI 240) ≤ v3 then ((v2 = 0 ∨ v2 = 1) ∧ Q v2 w) else (if v2 = 0 then ((v2 = 0 ∨ v2 = 1) ∧ Q v2 w) else ((¬ (w 1 2) ≤ (w 1 3) → (¬ (w 1 1) ≤ (w 1 3) → (inB (w 1 3) 260 = true))) ∧ (if (F_74 (F_110_1 w) w) = 0 then ((v2 = 0 ∨ v2 = 1) ∧ Q v2 w) else ((¬ (w 1 2) ≤ (w 1 3) → (¬ (w 1 1) ≤ (w 1 3) → (inB (w 1 3) 260 = true))) ∧ CI X (d + 2) 72 [.ref 79, .int v1] (G_112_1 w) (fun x1 w1 => (((w1 29 6) < (Int32.ofNat 240) → (inB (w1 29 6) 240 = true)) ∧ EI X (d + 2) 71 (8, [some (.ref 79), some (.int v1), some (.int x1), some (.int (v3 + (kI 1))), none], [], SH, (G_78_29 (F_110_1 w) (kI 0) w1)) Q)))))))) : EI X (d + 2) 71 (8, [some (.ref 79), some (.int v1), some (.int v2), some (.int v3), none], [], SH, w) Q := by
  unfold EI
  refine EV.steps cl_71 2 (q2 := (12, [some (.ref 79), some (.int v1), some (.int v2), some (.int v3), none], [.int (kI 240), .int v3], SH, w)) rfl ?_
  refine EV.i_ge cl_71 rfl (fun h1 => ?_) (fun h1 => ?_)
  · skip
    rw [if_pos h1] at H
    refine EV.steps cl_71 1 (q2 := (72, [some (.ref 79), some (.int v1), some (.int v2), some (.int v3), none], [.int v2], SH, w)) rfl ?_
    obtain ⟨j2, H⟩ := H
    refine EV.retB cl_71 rfl rfl j2 ?_
    exact ⟨_, rfl, rfl, H⟩
  · skip
    rw [if_neg h1] at H
    refine EV.steps cl_71 1 (q2 := (16, [some (.ref 79), some (.int v1), some (.int v2), some (.int v3), none], [.int v2], SH, w)) rfl ?_
    refine EV.z_eq cl_71 rfl (fun h3 => ?_) (fun h3 => ?_)
    · skip
      rw [if_pos h3] at H
      refine EV.steps cl_71 1 (q2 := (72, [some (.ref 79), some (.int v1), some (.int v2), some (.int v3), none], [.int v2], SH, w)) rfl ?_
      obtain ⟨j4, H⟩ := H
      refine EV.retB cl_71 rfl rfl j4 ?_
      exact ⟨_, rfl, rfl, H⟩
    · skip
      rw [if_neg h3] at H
      refine EV.steps cl_71 2 (q2 := (23, [some (.ref 79), some (.int v1), some (.int v2), some (.int v3), none], [.ref 1], SH, w)) rfl ?_
      obtain ⟨j5, H⟩ := H
      refine EV.callF (kc := 110) (av := [.ref 1]) (r := []) (rv := some (.int (F_110_1 w))) (w2 := w) cl_71 rfl rfl rfl (m_110_1 w  j5) ?_
      refine EV.callF (kc := 74) (av := [.int (F_110_1 w)]) (r := []) (rv := some (.int (F_74 (F_110_1 w) w))) (w2 := w) cl_71 rfl rfl rfl (m_74 w (F_110_1 w)) ?_
      refine EV.z_eq cl_71 rfl (fun h6 => ?_) (fun h6 => ?_)
      · skip
        rw [if_pos h6] at H
        refine EV.steps cl_71 1 (q2 := (72, [some (.ref 79), some (.int v1), some (.int v2), some (.int v3), none], [.int v2], SH, w)) rfl ?_
        obtain ⟨j7, H⟩ := H
        refine EV.retB cl_71 rfl rfl j7 ?_
        exact ⟨_, rfl, rfl, H⟩
      · skip
        rw [if_neg h6] at H
        refine EV.steps cl_71 2 (q2 := (36, [some (.ref 79), some (.int v1), some (.int v2), some (.int v3), none], [.ref 1], SH, w)) rfl ?_
        obtain ⟨j8, H⟩ := H
        refine EV.callF (kc := 110) (av := [.ref 1]) (r := []) (rv := some (.int (F_110_1 w))) (w2 := w) cl_71 rfl rfl rfl (m_110_1 w  j8) ?_
        refine EV.steps cl_71 3 (q2 := (45, [some (.ref 79), some (.int v1), some (.int v2), some (.int v3), some (.int (F_110_1 w))], [.ref 1], SH, w)) rfl ?_
        refine EV.callF (kc := 112) (av := [.ref 1]) (r := []) (rv := none) (w2 := (G_112_1 w)) cl_71 rfl rfl rfl (m_112_1 w ) ?_
        refine EV.steps cl_71 2 (q2 := (50, [some (.ref 79), some (.int v1), some (.int v2), some (.int v3), some (.int (F_110_1 w))], [.int v1, .ref 79], SH, (G_112_1 w))) rfl ?_
        refine EV.call (kc := 72) (av := [.ref 79, .int v1]) (r := []) cl_71 rfl rfl rfl H ?_
        clear H; intro y1 s1 w1 e1
        obtain ⟨x1, rfl, rfl, H⟩ := e1
        refine EV.steps cl_71 5 (q2 := (61, [some (.ref 79), some (.int v1), some (.int x1), some (.int v3), some (.int (F_110_1 w))], [.int (kI 0), .int (F_110_1 w), .ref 29], SH, w1)) rfl ?_
        obtain ⟨j9, H⟩ := H
        refine EV.callF (kc := 78) (av := [.ref 29, .int (F_110_1 w), .int (kI 0)]) (r := []) (rv := some (.int (F_78_29 (F_110_1 w) (kI 0) w1))) (w2 := (G_78_29 (F_110_1 w) (kI 0) w1)) cl_71 rfl rfl rfl (m_78_29 w1 (F_110_1 w) (kI 0) j9) ?_
        refine EV.steps cl_71 3 (q2 := (8, [some (.ref 79), some (.int v1), some (.int x1), some (.int (v3 + (kI 1))), some (.int (F_110_1 w))], [], SH, (G_78_29 (F_110_1 w) (kI 0) w1))) rfl ?_
        exact EV.weak (l := [some (.ref 79), some (.int v1), some (.int x1), some (.int (v3 + (kI 1))), none]) ⟨rfl, ⟨rfl, ⟨rfl, ⟨rfl, ⟨rfl, trivial⟩⟩⟩⟩⟩ H
theorem t72_79_at0 {X : Scr} {d : Nat} {Q : Int32 → Wd → Prop} (w : Wd) (v1 : Int32)
    (H : ((¬ (w 1 2) ≤ (w 1 3) → (¬ (w 1 1) ≤ (w 1 3) → (inB (w 1 3) 260 = true))) ∧ (if (F_110_1 w) = (kI 91) then (if v1 < (kI 6) then CI X (d + 6) 70 [.ref 79, .int (v1 + (kI 1))] (G_112_1 w) (fun x2 w2 => (if x2 = 0 then Q (kI 0) w2 else (((¬ (w2 1 2) ≤ (w2 1 3) → (¬ (w2 1 1) ≤ (w2 1 3) → (inB (w2 1 3) 260 = true)))) ∧ (if (F_113_1 (kI 93) w2) = 0 then Q (kI 0) (G_113_1 (kI 93) w2) else Q (kI 1) (G_113_1 (kI 93) w2))))) else Q (F_115_1 (kI 5) w) (G_115_1 (kI 5) w)) else (((¬ (w 1 2) ≤ (w 1 3) → (¬ (w 1 1) ≤ (w 1 3) → (inB (w 1 3) 260 = true)))) ∧ (if (F_111_1 w) = 0 then (if (F_109_1 w) = 0 then ((¬ (w 1 2) ≤ (w 1 3) → (¬ (w 1 1) ≤ (w 1 3) → (inB (w 1 3) 260 = true))) ∧ (if 0 ≤ (idxOf ((F_110_1 w).toUInt32 % 65536).toInt32) then ((((G_112_1 w) 29 6) < (Int32.ofNat 240) → (inB ((G_112_1 w) 29 6) 240 = true)) ∧ Q (kI 1) (G_78_29 (kI 2) (idxOf ((F_110_1 w).toUInt32 % 65536).toInt32) (G_112_1 w))) else Q (F_115_1 (kI 1) w) (G_115_1 (kI 1) w))) else Q (F_115_1 (kI 1) w) (G_115_1 (kI 1) w)) else CI X (d + 6) 114 [.ref 1, .int (kI 5)] w (fun x1 w1 => (((w1 29 6) < (Int32.ofNat 240) → (inB (w1 29 6) 240 = true)) ∧ (if x1 = (kI (-1)) then Q (kI 0) (G_78_29 (kI 1) x1 w1) else Q (kI 1) (G_78_29 (kI 1) x1 w1))))))))) : EI X (d + 6) 72 (0, [some (.ref 79), some (.int v1), none], [], SH, w) Q := by
  unfold EI
  refine EV.steps cl_72 2 (q2 := (4, [some (.ref 79), some (.int v1), none], [.ref 1], SH, w)) rfl ?_
  obtain ⟨j1, H⟩ := H
  refine EV.callF (kc := 110) (av := [.ref 1]) (r := []) (rv := some (.int (F_110_1 w))) (w2 := w) cl_72 rfl rfl rfl (m_110_1 w  j1) ?_
  refine EV.steps cl_72 1 (q2 := (9, [some (.ref 79), some (.int v1), none], [.int (kI 91), .int (F_110_1 w)], SH, w)) rfl ?_
  refine EV.i_ne cl_72 rfl (fun h2 => ?_) (fun h2 => ?_)
  · skip
    rw [if_neg h2] at H
    refine EV.steps cl_72 2 (q2 := (66, [some (.ref 79), some (.int v1), none], [.ref 1], SH, w)) rfl ?_
    obtain ⟨j3, H⟩ := H
    refine EV.callF (kc := 111) (av := [.ref 1]) (r := []) (rv := some (.int (F_111_1 w))) (w2 := w) cl_72 rfl rfl rfl (m_111_1 w  j3) ?_
    refine EV.z_eq cl_72 rfl (fun h4 => ?_) (fun h4 => ?_)
    · skip
      rw [if_pos h4] at H
      refine EV.steps cl_72 2 (q2 := (106, [some (.ref 79), some (.int v1), none], [.ref 1], SH, w)) rfl ?_
      refine EV.callF (kc := 109) (av := [.ref 1]) (r := []) (rv := some (.int (F_109_1 w))) (w2 := w) cl_72 rfl rfl rfl (m_109_1 w ) ?_
      refine EV.z_eq cl_72 rfl (fun h5 => ?_) (fun h5 => ?_)
      · skip
        rw [if_pos h5] at H
        refine EV.steps cl_72 3 (q2 := (122, [some (.ref 79), some (.int v1), none], [.ref 1, .ref 100001], SH, w)) rfl ?_
        obtain ⟨j6, H⟩ := H
        refine EV.callF (kc := 110) (av := [.ref 1]) (r := [.ref 100001]) (rv := some (.int (F_110_1 w))) (w2 := w) cl_72 rfl rfl rfl (m_110_1 w  j6) ?_
        refine EV.steps cl_72 4 (q2 := (131, [some (.ref 79), some (.int v1), some (.int (idxOf ((F_110_1 w).toUInt32 % 65536).toInt32))], [.int (idxOf ((F_110_1 w).toUInt32 % 65536).toInt32)], SH, w)) rfl ?_
        refine EV.z_ge cl_72 rfl (fun h7 => ?_) (fun h7 => ?_)
        · skip
          rw [if_pos h7] at H
          refine EV.steps cl_72 2 (q2 := (147, [some (.ref 79), some (.int v1), some (.int (idxOf ((F_110_1 w).toUInt32 % 65536).toInt32))], [.ref 1], SH, w)) rfl ?_
          refine EV.callF (kc := 112) (av := [.ref 1]) (r := []) (rv := none) (w2 := (G_112_1 w)) cl_72 rfl rfl rfl (m_112_1 w ) ?_
          refine EV.steps cl_72 4 (q2 := (156, [some (.ref 79), some (.int v1), some (.int (idxOf ((F_110_1 w).toUInt32 % 65536).toInt32))], [.int (idxOf ((F_110_1 w).toUInt32 % 65536).toInt32), .int (kI 2), .ref 29], SH, (G_112_1 w))) rfl ?_
          obtain ⟨j8, H⟩ := H
          refine EV.callF (kc := 78) (av := [.ref 29, .int (kI 2), .int (idxOf ((F_110_1 w).toUInt32 % 65536).toInt32)]) (r := []) (rv := some (.int (F_78_29 (kI 2) (idxOf ((F_110_1 w).toUInt32 % 65536).toInt32) (G_112_1 w)))) (w2 := (G_78_29 (kI 2) (idxOf ((F_110_1 w).toUInt32 % 65536).toInt32) (G_112_1 w))) cl_72 rfl rfl rfl (m_78_29 (G_112_1 w) (kI 2) (idxOf ((F_110_1 w).toUInt32 % 65536).toInt32) j8) ?_
          refine EV.steps cl_72 2 (q2 := (161, [some (.ref 79), some (.int v1), some (.int (idxOf ((F_110_1 w).toUInt32 % 65536).toInt32))], [.int (kI 1)], SH, (G_78_29 (kI 2) (idxOf ((F_110_1 w).toUInt32 % 65536).toInt32) (G_112_1 w)))) rfl ?_
          refine EV.ret cl_72 rfl rfl rfl ?_
          exact ⟨_, rfl, rfl, H⟩
        · skip
          rw [if_neg h7] at H
          refine EV.steps cl_72 3 (q2 := (139, [some (.ref 79), some (.int v1), some (.int (idxOf ((F_110_1 w).toUInt32 % 65536).toInt32))], [.int (kI 1), .ref 1], SH, w)) rfl ?_
          refine EV.callF (kc := 115) (av := [.ref 1, .int (kI 1)]) (r := []) (rv := some (.int (F_115_1 (kI 1) w))) (w2 := (G_115_1 (kI 1) w)) cl_72 rfl rfl rfl (m_115_1 w (kI 1)) ?_
          refine EV.retB cl_72 rfl rfl (z1_115_1 (kI 1) w) ?_
          exact ⟨_, rfl, rfl, H⟩
      · skip
        rw [if_neg h5] at H
        refine EV.steps cl_72 8 (q2 := (139, [some (.ref 79), some (.int v1), some (.int (kI (-1)))], [.int (kI 1), .ref 1], SH, w)) rfl ?_
        refine EV.callF (kc := 115) (av := [.ref 1, .int (kI 1)]) (r := []) (rv := some (.int (F_115_1 (kI 1) w))) (w2 := (G_115_1 (kI 1) w)) cl_72 rfl rfl rfl (m_115_1 w (kI 1)) ?_
        refine EV.retB cl_72 rfl rfl (z1_115_1 (kI 1) w) ?_
        exact ⟨_, rfl, rfl, H⟩
    · skip
      rw [if_neg h4] at H
      refine EV.steps cl_72 3 (q2 := (77, [some (.ref 79), some (.int v1), none], [.int (kI 5), .ref 1], SH, w)) rfl ?_
      refine EV.call (kc := 114) (av := [.ref 1, .int (kI 5)]) (r := []) cl_72 rfl rfl rfl H ?_
      clear H; intro y1 s1 w1 e1
      obtain ⟨x1, rfl, rfl, H⟩ := e1
      refine EV.steps cl_72 5 (q2 := (87, [some (.ref 79), some (.int v1), some (.int x1)], [.int x1, .int (kI 1), .ref 29], SH, w1)) rfl ?_
      obtain ⟨j9, H⟩ := H
      refine EV.callF (kc := 78) (av := [.ref 29, .int (kI 1), .int x1]) (r := []) (rv := some (.int (F_78_29 (kI 1) x1 w1))) (w2 := (G_78_29 (kI 1) x1 w1)) cl_72 rfl rfl rfl (m_78_29 w1 (kI 1) x1 j9) ?_
      refine EV.steps cl_72 3 (q2 := (93, [some (.ref 79), some (.int v1), some (.int x1)], [.int (kI (-1)), .int x1], SH, (G_78_29 (kI 1) x1 w1))) rfl ?_
      refine EV.i_eq cl_72 rfl (fun h10 => ?_) (fun h10 => ?_)
      · skip
        rw [if_pos h10] at H
        refine EV.steps cl_72 1 (q2 := (101, [some (.ref 79), some (.int v1), some (.int x1)], [.int (kI 0)], SH, (G_78_29 (kI 1) x1 w1))) rfl ?_
        refine EV.ret cl_72 rfl rfl rfl ?_
        exact ⟨_, rfl, rfl, H⟩
      · skip
        rw [if_neg h10] at H
        refine EV.steps cl_72 2 (q2 := (101, [some (.ref 79), some (.int v1), some (.int x1)], [.int (kI 1)], SH, (G_78_29 (kI 1) x1 w1))) rfl ?_
        refine EV.ret cl_72 rfl rfl rfl ?_
        exact ⟨_, rfl, rfl, H⟩
  · skip
    rw [if_pos h2] at H
    refine EV.steps cl_72 2 (q2 := (15, [some (.ref 79), some (.int v1), none], [.int (kI 6), .int v1], SH, w)) rfl ?_
    refine EV.i_lt cl_72 rfl (fun h11 => ?_) (fun h11 => ?_)
    · skip
      rw [if_pos h11] at H
      refine EV.steps cl_72 2 (q2 := (31, [some (.ref 79), some (.int v1), none], [.ref 1], SH, w)) rfl ?_
      refine EV.callF (kc := 112) (av := [.ref 1]) (r := []) (rv := none) (w2 := (G_112_1 w)) cl_72 rfl rfl rfl (m_112_1 w ) ?_
      refine EV.steps cl_72 4 (q2 := (38, [some (.ref 79), some (.int v1), none], [.int (v1 + (kI 1)), .ref 79], SH, (G_112_1 w))) rfl ?_
      refine EV.call (kc := 70) (av := [.ref 79, .int (v1 + (kI 1))]) (r := []) cl_72 rfl rfl rfl H ?_
      clear H; intro y2 s2 w2 e2
      obtain ⟨x2, rfl, rfl, H⟩ := e2
      refine EV.z_eq cl_72 rfl (fun h12 => ?_) (fun h12 => ?_)
      · skip
        rw [if_pos h12] at H
        refine EV.steps cl_72 1 (q2 := (61, [some (.ref 79), some (.int v1), none], [.int (kI 0)], SH, w2)) rfl ?_
        refine EV.ret cl_72 rfl rfl rfl ?_
        exact ⟨_, rfl, rfl, H⟩
      · skip
        rw [if_neg h12] at H
        refine EV.steps cl_72 3 (q2 := (50, [some (.ref 79), some (.int v1), none], [.int (kI 93), .ref 1], SH, w2)) rfl ?_
        obtain ⟨j13, H⟩ := H
        refine EV.callF (kc := 113) (av := [.ref 1, .int (kI 93)]) (r := []) (rv := some (.int (F_113_1 (kI 93) w2))) (w2 := (G_113_1 (kI 93) w2)) cl_72 rfl rfl rfl (m_113_1 w2 (kI 93) j13) ?_
        refine EV.z_eq cl_72 rfl (fun h14 => ?_) (fun h14 => ?_)
        · skip
          rw [if_pos h14] at H
          refine EV.steps cl_72 1 (q2 := (61, [some (.ref 79), some (.int v1), none], [.int (kI 0)], SH, (G_113_1 (kI 93) w2))) rfl ?_
          refine EV.ret cl_72 rfl rfl rfl ?_
          exact ⟨_, rfl, rfl, H⟩
        · skip
          rw [if_neg h14] at H
          refine EV.steps cl_72 2 (q2 := (61, [some (.ref 79), some (.int v1), none], [.int (kI 1)], SH, (G_113_1 (kI 93) w2))) rfl ?_
          refine EV.ret cl_72 rfl rfl rfl ?_
          exact ⟨_, rfl, rfl, H⟩
    · skip
      rw [if_neg h11] at H
      refine EV.steps cl_72 3 (q2 := (23, [some (.ref 79), some (.int v1), none], [.int (kI 5), .ref 1], SH, w)) rfl ?_
      refine EV.callF (kc := 115) (av := [.ref 1, .int (kI 5)]) (r := []) (rv := some (.int (F_115_1 (kI 5) w))) (w2 := (G_115_1 (kI 5) w)) cl_72 rfl rfl rfl (m_115_1 w (kI 5)) ?_
      refine EV.retB cl_72 rfl rfl (z1_115_1 (kI 5) w) ?_
      exact ⟨_, rfl, rfl, H⟩
theorem t85_80_at0 {X : Scr} {d : Nat} {Q : Int32 → Wd → Prop} (w : Wd) (v1 : Int32)
    (H : CI X (d + 3) 87 [.ref 80] (up2 (G_107_1 v1 w) 80 5 (kI 0)) (fun x1 w1 => EI X (d + 3) 85 (20, [some (.ref 80), some (.int v1), some (.int x1), some (.int (kI 0))], [], SH, w1) Q)) : EI X (d + 3) 85 (0, [some (.ref 80), some (.int v1), none, none], [], SH, w) Q := by
  unfold EI
  refine EV.steps cl_85 3 (q2 := (5, [some (.ref 80), some (.int v1), none, none], [.int v1, .ref 1], SH, w)) rfl ?_
  refine EV.callF (kc := 107) (av := [.ref 1, .int v1]) (r := []) (rv := none) (w2 := (G_107_1 v1 w)) cl_85 rfl rfl rfl (m_107_1 w v1) ?_
  refine EV.steps cl_85 4 (q2 := (14, [some (.ref 80), some (.int v1), none, none], [.ref 80], SH, (up2 (G_107_1 v1 w) 80 5 (kI 0)))) rfl ?_
  refine EV.call (kc := 87) (av := [.ref 80]) (r := []) cl_85 rfl rfl rfl H ?_
  clear H; intro y1 s1 w1 e1
  obtain ⟨x1, rfl, rfl, H⟩ := e1
  refine EV.steps cl_85 3 (q2 := (20, [some (.ref 80), some (.int v1), some (.int x1), some (.int (kI 0))], [], SH, w1)) rfl ?_
  exact H
theorem t85_80_at20 {X : Scr} {d : Nat} {Q : Int32 → Wd → Prop} (w : Wd) (v1 : Int32) (v2 : Int32) (v3 : Int32)
    (H : (if (kI 120) ≤ v3 then Q (F_108_1 w) (G_108_1 w) else (if v2 = 0 then Q (F_108_1 w) (G_108_1 w) else (if (F_109_1 w) = 0 then (((¬ (w 1 2) ≤ (w 1 3) → (¬ (w 1 1) ≤ (w 1 3) → (inB (w 1 3) 260 = true)))) ∧ (if (F_113_1 (kI 59) w) = 0 then EI X (d + 3) 85 (20, [some (.ref 80), some (.int v1), some (.int (kI 0)), some (.int (v3 + (kI 1)))], [], SH, (G_113_1 (kI 59) w)) Q else CI X (d + 3) 87 [.ref 80] (G_113_1 (kI 59) w) (fun x1 w1 => (if x1 = 0 then EI X (d + 3) 85 (20, [some (.ref 80), some (.int v1), some (.int (kI 0)), some (.int (v3 + (kI 1)))], [], SH, w1) Q else EI X (d + 3) 85 (20, [some (.ref 80), some (.int v1), some (.int (kI 1)), some (.int (v3 + (kI 1)))], [], SH, w1) Q)))) else Q (F_108_1 w) (G_108_1 w))))) : EI X (d + 3) 85 (20, [some (.ref 80), some (.int v1), some (.int v2), some (.int v3)], [], SH, w) Q := by
  unfold EI
  refine EV.steps cl_85 2 (q2 := (23, [some (.ref 80), some (.int v1), some (.int v2), some (.int v3)], [.int (kI 120), .int v3], SH, w)) rfl ?_
  refine EV.i_ge cl_85 rfl (fun h1 => ?_) (fun h1 => ?_)
  · skip
    rw [if_pos h1] at H
    refine EV.steps cl_85 2 (q2 := (75, [some (.ref 80), some (.int v1), some (.int v2), some (.int v3)], [.ref 1], SH, w)) rfl ?_
    refine EV.callF (kc := 108) (av := [.ref 1]) (r := []) (rv := some (.int (F_108_1 w))) (w2 := (G_108_1 w)) cl_85 rfl rfl rfl (m_108_1 w ) ?_
    refine EV.ret cl_85 rfl rfl rfl ?_
    exact ⟨_, rfl, rfl, H⟩
  · skip
    rw [if_neg h1] at H
    refine EV.steps cl_85 1 (q2 := (27, [some (.ref 80), some (.int v1), some (.int v2), some (.int v3)], [.int v2], SH, w)) rfl ?_
    refine EV.z_eq cl_85 rfl (fun h2 => ?_) (fun h2 => ?_)
    · skip
      rw [if_pos h2] at H
      refine EV.steps cl_85 2 (q2 := (75, [some (.ref 80), some (.int v1), some (.int v2), some (.int v3)], [.ref 1], SH, w)) rfl ?_
      refine EV.callF (kc := 108) (av := [.ref 1]) (r := []) (rv := some (.int (F_108_1 w))) (w2 := (G_108_1 w)) cl_85 rfl rfl rfl (m_108_1 w ) ?_
      refine EV.ret cl_85 rfl rfl rfl ?_
      exact ⟨_, rfl, rfl, H⟩
    · skip
      rw [if_neg h2] at H
      refine EV.steps cl_85 2 (q2 := (34, [some (.ref 80), some (.int v1), some (.int v2), some (.int v3)], [.ref 1], SH, w)) rfl ?_
      refine EV.callF (kc := 109) (av := [.ref 1]) (r := []) (rv := some (.int (F_109_1 w))) (w2 := w) cl_85 rfl rfl rfl (m_109_1 w ) ?_
      refine EV.z_ne cl_85 rfl (fun h3 => ?_) (fun h3 => ?_)
      · skip
        rw [if_neg h3] at H
        refine EV.steps cl_85 2 (q2 := (75, [some (.ref 80), some (.int v1), some (.int v2), some (.int v3)], [.ref 1], SH, w)) rfl ?_
        refine EV.callF (kc := 108) (av := [.ref 1]) (r := []) (rv := some (.int (F_108_1 w))) (w2 := (G_108_1 w)) cl_85 rfl rfl rfl (m_108_1 w ) ?_
        refine EV.ret cl_85 rfl rfl rfl ?_
        exact ⟨_, rfl, rfl, H⟩
      · skip
        rw [if_pos h3] at H
        refine EV.steps cl_85 3 (q2 := (46, [some (.ref 80), some (.int v1), some (.int v2), some (.int v3)], [.int (kI 59), .ref 1], SH, w)) rfl ?_
        obtain ⟨j4, H⟩ := H
        refine EV.callF (kc := 113) (av := [.ref 1, .int (kI 59)]) (r := []) (rv := some (.int (F_113_1 (kI 59) w))) (w2 := (G_113_1 (kI 59) w)) cl_85 rfl rfl rfl (m_113_1 w (kI 59) j4) ?_
        refine EV.z_eq cl_85 rfl (fun h5 => ?_) (fun h5 => ?_)
        · skip
          rw [if_pos h5] at H
          refine EV.steps cl_85 4 (q2 := (20, [some (.ref 80), some (.int v1), some (.int (kI 0)), some (.int (v3 + (kI 1)))], [], SH, (G_113_1 (kI 59) w))) rfl ?_
          exact H
        · skip
          rw [if_neg h5] at H
          refine EV.steps cl_85 1 (q2 := (53, [some (.ref 80), some (.int v1), some (.int v2), some (.int v3)], [.ref 80], SH, (G_113_1 (kI 59) w))) rfl ?_
          refine EV.call (kc := 87) (av := [.ref 80]) (r := []) cl_85 rfl rfl rfl H ?_
          clear H; intro y1 s1 w1 e1
          obtain ⟨x1, rfl, rfl, H⟩ := e1
          refine EV.z_eq cl_85 rfl (fun h6 => ?_) (fun h6 => ?_)
          · skip
            rw [if_pos h6] at H
            refine EV.steps cl_85 4 (q2 := (20, [some (.ref 80), some (.int v1), some (.int (kI 0)), some (.int (v3 + (kI 1)))], [], SH, w1)) rfl ?_
            exact H
          · skip
            rw [if_neg h6] at H
            refine EV.steps cl_85 5 (q2 := (20, [some (.ref 80), some (.int v1), some (.int (kI 1)), some (.int (v3 + (kI 1)))], [], SH, w1)) rfl ?_
            exact H
theorem t86_80_7_at0 {X : Scr} {d : Nat} {Q : Wd → Prop} (w : Wd) 
    (H : EU X (d + 2) 86 (2, [some (.ref 80), some (.ref 7), some (.int (kI 0))], [], SH, w) Q) : EU X (d + 2) 86 (0, [some (.ref 80), some (.ref 7), none], [], SH, w) Q := by
  unfold EU
  refine EV.steps cl_86 2 (q2 := (2, [some (.ref 80), some (.ref 7), some (.int (kI 0))], [], SH, w)) rfl ?_
  exact H
theorem t86_80_7_at2 {X : Scr} {d : Nat} {Q : Wd → Prop} (w : Wd) (v2 : Int32)
    (H : (if (w 80 5) ≤ v2 then Q w else (if (kI 20) ≤ v2 then Q w else (inB v2 20 = true ∧ (inB v2 20 = true ∧ (inB v2 20 = true ∧ EU X (d + 2) 86 (2, [some (.ref 80), some (.ref 7), some (.int (v2 + (kI 1)))], [], SH, (G_16_7 (w 81 v2.toNatClampNeg) (w 82 v2.toNatClampNeg) (w 83 v2.toNatClampNeg) w)) Q)))))) : EU X (d + 2) 86 (2, [some (.ref 80), some (.ref 7), some (.int v2)], [], SH, w) Q := by
  unfold EU
  refine EV.steps cl_86 3 (q2 := (7, [some (.ref 80), some (.ref 7), some (.int v2)], [.int (w 80 5), .int v2], SH, w)) rfl ?_
  refine EV.i_ge cl_86 rfl (fun h1 => ?_) (fun h1 => ?_)
  · skip
    rw [if_pos h1] at H
    refine EV.ret cl_86 rfl rfl rfl ?_
    exact ⟨rfl, rfl, H⟩
  · skip
    rw [if_neg h1] at H
    refine EV.steps cl_86 2 (q2 := (13, [some (.ref 80), some (.ref 7), some (.int v2)], [.int (kI 20), .int v2], SH, w)) rfl ?_
    refine EV.i_ge cl_86 rfl (fun h2 => ?_) (fun h2 => ?_)
    · skip
      rw [if_pos h2] at H
      refine EV.ret cl_86 rfl rfl rfl ?_
      exact ⟨rfl, rfl, H⟩
    · skip
      rw [if_neg h2] at H
      refine EV.steps cl_86 4 (q2 := (22, [some (.ref 80), some (.ref 7), some (.int v2)], [.int v2, .ref 81, .ref 7], SH, w)) rfl ?_
      obtain ⟨j3, H⟩ := H
      refine EV.iaload cl_86 rfl rfl (by decide) j3 ?_
      refine EV.steps cl_86 3 (q2 := (28, [some (.ref 80), some (.ref 7), some (.int v2)], [.int v2, .ref 82, .int (w 81 v2.toNatClampNeg), .ref 7], SH, w)) rfl ?_
      obtain ⟨j4, H⟩ := H
      refine EV.iaload cl_86 rfl rfl (by decide) j4 ?_
      refine EV.steps cl_86 3 (q2 := (34, [some (.ref 80), some (.ref 7), some (.int v2)], [.int v2, .ref 83, .int (w 82 v2.toNatClampNeg), .int (w 81 v2.toNatClampNeg), .ref 7], SH, w)) rfl ?_
      obtain ⟨j5, H⟩ := H
      refine EV.iaload cl_86 rfl rfl (by decide) j5 ?_
      refine EV.callF (kc := 16) (av := [.ref 7, .int (w 81 v2.toNatClampNeg), .int (w 82 v2.toNatClampNeg), .int (w 83 v2.toNatClampNeg)]) (r := []) (rv := none) (w2 := (G_16_7 (w 81 v2.toNatClampNeg) (w 82 v2.toNatClampNeg) (w 83 v2.toNatClampNeg) w)) cl_86 rfl rfl rfl (m_16_7 w (w 81 v2.toNatClampNeg) (w 82 v2.toNatClampNeg) (w 83 v2.toNatClampNeg)) ?_
      refine EV.steps cl_86 2 (q2 := (2, [some (.ref 80), some (.ref 7), some (.int (v2 + (kI 1)))], [], SH, (G_16_7 (w 81 v2.toNatClampNeg) (w 82 v2.toNatClampNeg) (w 83 v2.toNatClampNeg) w))) rfl ?_
      exact H
theorem t87_80_at0 {X : Scr} {d : Nat} {Q : Int32 → Wd → Prop} (w : Wd) 
    (H : ((¬ (w 1 2) ≤ (w 1 3) → (¬ (w 1 1) ≤ (w 1 3) → (inB (w 1 3) 260 = true))) ∧ (if (F_153 ((F_110_1 w) - (kI 97)) (kI 0) (kI 5) w) = 0 then Q (F_115_1 (kI 1) w) (G_115_1 (kI 1) w) else (if (w 80 5) < (kI 20) then (if (F_51_3 ((F_110_1 w) - (kI 97)) w) = 0 then Q (F_115_1 (kI 7) w) (G_115_1 (kI 7) w) else ((¬ ((G_112_1 w) 1 2) ≤ ((G_112_1 w) 1 3) → (¬ ((G_112_1 w) 1 1) ≤ ((G_112_1 w) 1 3) → (inB ((G_112_1 w) 1 3) 260 = true))) ∧ (if (F_153 ((F_110_1 (G_112_1 w)) - (kI 48)) (kI 0) (kI 5) (G_112_1 w)) = 0 then Q (F_115_1 (kI 1) (G_112_1 w)) (G_115_1 (kI 1) (G_112_1 w)) else (if (F_52_3 ((F_110_1 (G_112_1 w)) - (kI 48)) (G_112_1 w)) = 0 then Q (F_115_1 (kI 7) (G_112_1 w)) (G_115_1 (kI 7) (G_112_1 w)) else (inB ((G_112_1 (G_112_1 w)) 80 5) 20 = true ∧ (inB ((G_112_1 (G_112_1 w)) 80 5) 20 = true ∧ CI X (d + 2) 88 [.ref 80] (up2 (up2 (G_112_1 (G_112_1 w)) 81 ((G_112_1 (G_112_1 w)) 80 5).toNatClampNeg ((F_110_1 w) - (kI 97))) 82 ((G_112_1 (G_112_1 w)) 80 5).toNatClampNeg ((F_110_1 (G_112_1 w)) - (kI 48))) (fun x1 w1 => ((x1 = 0 ∨ x1 = 1) ∧ Q x1 w1)))))))) else Q (F_115_1 (kI 4) w) (G_115_1 (kI 4) w))))) : EI X (d + 2) 87 (0, [some (.ref 80), none, none], [], SH, w) Q := by
  unfold EI
  refine EV.steps cl_87 2 (q2 := (4, [some (.ref 80), none, none], [.ref 1], SH, w)) rfl ?_
  obtain ⟨j1, H⟩ := H
  refine EV.callF (kc := 110) (av := [.ref 1]) (r := []) (rv := some (.int (F_110_1 w))) (w2 := w) cl_87 rfl rfl rfl (m_110_1 w  j1) ?_
  refine EV.steps cl_87 6 (q2 := (14, [some (.ref 80), some (.int ((F_110_1 w) - (kI 97))), none], [.int (kI 5), .int (kI 0), .int ((F_110_1 w) - (kI 97))], SH, w)) rfl ?_
  refine EV.callF (kc := 153) (av := [.int ((F_110_1 w) - (kI 97)), .int (kI 0), .int (kI 5)]) (r := []) (rv := some (.int (F_153 ((F_110_1 w) - (kI 97)) (kI 0) (kI 5) w))) (w2 := w) cl_87 rfl rfl rfl (m_153 w ((F_110_1 w) - (kI 97)) (kI 0) (kI 5)) ?_
  refine EV.z_ne cl_87 rfl (fun h2 => ?_) (fun h2 => ?_)
  · skip
    rw [if_neg h2] at H
    refine EV.steps cl_87 3 (q2 := (35, [some (.ref 80), some (.int ((F_110_1 w) - (kI 97))), none], [.int (kI 20), .int (w 80 5)], SH, w)) rfl ?_
    refine EV.i_lt cl_87 rfl (fun h3 => ?_) (fun h3 => ?_)
    · skip
      rw [if_pos h3] at H
      refine EV.steps cl_87 3 (q2 := (52, [some (.ref 80), some (.int ((F_110_1 w) - (kI 97))), none], [.int ((F_110_1 w) - (kI 97)), .ref 3], SH, w)) rfl ?_
      refine EV.callF (kc := 51) (av := [.ref 3, .int ((F_110_1 w) - (kI 97))]) (r := []) (rv := some (.int (F_51_3 ((F_110_1 w) - (kI 97)) w))) (w2 := w) cl_87 rfl rfl rfl (m_51_3 w ((F_110_1 w) - (kI 97))) ?_
      refine EV.z_ne cl_87 rfl (fun h4 => ?_) (fun h4 => ?_)
      · skip
        rw [if_neg h4] at H
        refine EV.steps cl_87 2 (q2 := (72, [some (.ref 80), some (.int ((F_110_1 w) - (kI 97))), none], [.ref 1], SH, w)) rfl ?_
        refine EV.callF (kc := 112) (av := [.ref 1]) (r := []) (rv := none) (w2 := (G_112_1 w)) cl_87 rfl rfl rfl (m_112_1 w ) ?_
        refine EV.steps cl_87 2 (q2 := (79, [some (.ref 80), some (.int ((F_110_1 w) - (kI 97))), none], [.ref 1], SH, (G_112_1 w))) rfl ?_
        obtain ⟨j5, H⟩ := H
        refine EV.callF (kc := 110) (av := [.ref 1]) (r := []) (rv := some (.int (F_110_1 (G_112_1 w)))) (w2 := (G_112_1 w)) cl_87 rfl rfl rfl (m_110_1 (G_112_1 w)  j5) ?_
        refine EV.steps cl_87 6 (q2 := (89, [some (.ref 80), some (.int ((F_110_1 w) - (kI 97))), some (.int ((F_110_1 (G_112_1 w)) - (kI 48)))], [.int (kI 5), .int (kI 0), .int ((F_110_1 (G_112_1 w)) - (kI 48))], SH, (G_112_1 w))) rfl ?_
        refine EV.callF (kc := 153) (av := [.int ((F_110_1 (G_112_1 w)) - (kI 48)), .int (kI 0), .int (kI 5)]) (r := []) (rv := some (.int (F_153 ((F_110_1 (G_112_1 w)) - (kI 48)) (kI 0) (kI 5) (G_112_1 w)))) (w2 := (G_112_1 w)) cl_87 rfl rfl rfl (m_153 (G_112_1 w) ((F_110_1 (G_112_1 w)) - (kI 48)) (kI 0) (kI 5)) ?_
        refine EV.z_ne cl_87 rfl (fun h6 => ?_) (fun h6 => ?_)
        · skip
          rw [if_neg h6] at H
          refine EV.steps cl_87 3 (q2 := (109, [some (.ref 80), some (.int ((F_110_1 w) - (kI 97))), some (.int ((F_110_1 (G_112_1 w)) - (kI 48)))], [.int ((F_110_1 (G_112_1 w)) - (kI 48)), .ref 3], SH, (G_112_1 w))) rfl ?_
          refine EV.callF (kc := 52) (av := [.ref 3, .int ((F_110_1 (G_112_1 w)) - (kI 48))]) (r := []) (rv := some (.int (F_52_3 ((F_110_1 (G_112_1 w)) - (kI 48)) (G_112_1 w)))) (w2 := (G_112_1 w)) cl_87 rfl rfl rfl (m_52_3 (G_112_1 w) ((F_110_1 (G_112_1 w)) - (kI 48))) ?_
          refine EV.z_ne cl_87 rfl (fun h7 => ?_) (fun h7 => ?_)
          · skip
            rw [if_neg h7] at H
            refine EV.steps cl_87 2 (q2 := (129, [some (.ref 80), some (.int ((F_110_1 w) - (kI 97))), some (.int ((F_110_1 (G_112_1 w)) - (kI 48)))], [.ref 1], SH, (G_112_1 w))) rfl ?_
            refine EV.callF (kc := 112) (av := [.ref 1]) (r := []) (rv := none) (w2 := (G_112_1 (G_112_1 w))) cl_87 rfl rfl rfl (m_112_1 (G_112_1 w) ) ?_
            refine EV.steps cl_87 5 (q2 := (141, [some (.ref 80), some (.int ((F_110_1 w) - (kI 97))), some (.int ((F_110_1 (G_112_1 w)) - (kI 48)))], [.int ((F_110_1 w) - (kI 97)), .int ((G_112_1 (G_112_1 w)) 80 5), .ref 81], SH, (G_112_1 (G_112_1 w)))) rfl ?_
            obtain ⟨j8, H⟩ := H
            refine EV.iastore cl_87 rfl rfl (by decide) j8 ?_
            refine EV.steps cl_87 5 (q2 := (151, [some (.ref 80), some (.int ((F_110_1 w) - (kI 97))), some (.int ((F_110_1 (G_112_1 w)) - (kI 48)))], [.int ((F_110_1 (G_112_1 w)) - (kI 48)), .int ((G_112_1 (G_112_1 w)) 80 5), .ref 82], SH, (up2 (G_112_1 (G_112_1 w)) 81 ((G_112_1 (G_112_1 w)) 80 5).toNatClampNeg ((F_110_1 w) - (kI 97))))) rfl ?_
            obtain ⟨j9, H⟩ := H
            refine EV.iastore cl_87 rfl rfl (by decide) j9 ?_
            refine EV.steps cl_87 1 (q2 := (153, [some (.ref 80), some (.int ((F_110_1 w) - (kI 97))), some (.int ((F_110_1 (G_112_1 w)) - (kI 48)))], [.ref 80], SH, (up2 (up2 (G_112_1 (G_112_1 w)) 81 ((G_112_1 (G_112_1 w)) 80 5).toNatClampNeg ((F_110_1 w) - (kI 97))) 82 ((G_112_1 (G_112_1 w)) 80 5).toNatClampNeg ((F_110_1 (G_112_1 w)) - (kI 48))))) rfl ?_
            refine EV.call (kc := 88) (av := [.ref 80]) (r := []) cl_87 rfl rfl rfl H ?_
            clear H; intro y1 s1 w1 e1
            obtain ⟨x1, rfl, rfl, H⟩ := e1
            obtain ⟨j10, H⟩ := H
            refine EV.retB cl_87 rfl rfl j10 ?_
            exact ⟨_, rfl, rfl, H⟩
          · skip
            rw [if_pos h7] at H
            refine EV.steps cl_87 3 (q2 := (121, [some (.ref 80), some (.int ((F_110_1 w) - (kI 97))), some (.int ((F_110_1 (G_112_1 w)) - (kI 48)))], [.int (kI 7), .ref 1], SH, (G_112_1 w))) rfl ?_
            refine EV.callF (kc := 115) (av := [.ref 1, .int (kI 7)]) (r := []) (rv := some (.int (F_115_1 (kI 7) (G_112_1 w)))) (w2 := (G_115_1 (kI 7) (G_112_1 w))) cl_87 rfl rfl rfl (m_115_1 (G_112_1 w) (kI 7)) ?_
            refine EV.retB cl_87 rfl rfl (z1_115_1 (kI 7) (G_112_1 w)) ?_
            exact ⟨_, rfl, rfl, H⟩
        · skip
          rw [if_pos h6] at H
          refine EV.steps cl_87 3 (q2 := (100, [some (.ref 80), some (.int ((F_110_1 w) - (kI 97))), some (.int ((F_110_1 (G_112_1 w)) - (kI 48)))], [.int (kI 1), .ref 1], SH, (G_112_1 w))) rfl ?_
          refine EV.callF (kc := 115) (av := [.ref 1, .int (kI 1)]) (r := []) (rv := some (.int (F_115_1 (kI 1) (G_112_1 w)))) (w2 := (G_115_1 (kI 1) (G_112_1 w))) cl_87 rfl rfl rfl (m_115_1 (G_112_1 w) (kI 1)) ?_
          refine EV.retB cl_87 rfl rfl (z1_115_1 (kI 1) (G_112_1 w)) ?_
          exact ⟨_, rfl, rfl, H⟩
      · skip
        rw [if_pos h4] at H
        refine EV.steps cl_87 3 (q2 := (64, [some (.ref 80), some (.int ((F_110_1 w) - (kI 97))), none], [.int (kI 7), .ref 1], SH, w)) rfl ?_
        refine EV.callF (kc := 115) (av := [.ref 1, .int (kI 7)]) (r := []) (rv := some (.int (F_115_1 (kI 7) w))) (w2 := (G_115_1 (kI 7) w)) cl_87 rfl rfl rfl (m_115_1 w (kI 7)) ?_
        refine EV.retB cl_87 rfl rfl (z1_115_1 (kI 7) w) ?_
        exact ⟨_, rfl, rfl, H⟩
    · skip
      rw [if_neg h3] at H
      refine EV.steps cl_87 3 (q2 := (43, [some (.ref 80), some (.int ((F_110_1 w) - (kI 97))), none], [.int (kI 4), .ref 1], SH, w)) rfl ?_
      refine EV.callF (kc := 115) (av := [.ref 1, .int (kI 4)]) (r := []) (rv := some (.int (F_115_1 (kI 4) w))) (w2 := (G_115_1 (kI 4) w)) cl_87 rfl rfl rfl (m_115_1 w (kI 4)) ?_
      refine EV.retB cl_87 rfl rfl (z1_115_1 (kI 4) w) ?_
      exact ⟨_, rfl, rfl, H⟩
  · skip
    rw [if_pos h2] at H
    refine EV.steps cl_87 3 (q2 := (25, [some (.ref 80), some (.int ((F_110_1 w) - (kI 97))), none], [.int (kI 1), .ref 1], SH, w)) rfl ?_
    refine EV.callF (kc := 115) (av := [.ref 1, .int (kI 1)]) (r := []) (rv := some (.int (F_115_1 (kI 1) w))) (w2 := (G_115_1 (kI 1) w)) cl_87 rfl rfl rfl (m_115_1 w (kI 1)) ?_
    refine EV.retB cl_87 rfl rfl (z1_115_1 (kI 1) w) ?_
    exact ⟨_, rfl, rfl, H⟩
theorem t88_80_at0 {X : Scr} {d : Nat} {Q : Int32 → Wd → Prop} (w : Wd) 
    (H : ((¬ (w 1 2) ≤ (w 1 3) → (¬ (w 1 1) ≤ (w 1 3) → (inB (w 1 3) 260 = true))) ∧ (if (F_110_1 w) = (kI 43) then CI X (d + 2) 114 [.ref 1, .int (kI 3)] (G_112_1 w) (fun x1 w1 => (if x1 = (kI (-1)) then Q (kI 0) w1 else (if (w1 80 5) < (kI 20) then (inB (w1 80 5) 20 = true ∧ Q (kI 1) (up2 (up2 w1 83 (w1 80 5).toNatClampNeg x1) 80 5 ((w1 80 5) + (kI 1)))) else Q (kI 0) w1))) else (if (F_110_1 w) = (kI 45) then CI X (d + 2) 114 [.ref 1, .int (kI 3)] (G_112_1 w) (fun x2 w2 => (if x2 = (kI (-1)) then Q (kI 0) w2 else (if (w2 80 5) < (kI 20) then (inB (w2 80 5) 20 = true ∧ Q (kI 1) (up2 (up2 w2 83 (w2 80 5).toNatClampNeg (-x2)) 80 5 ((w2 80 5) + (kI 1)))) else Q (kI 0) w2))) else Q (F_115_1 (kI 1) w) (G_115_1 (kI 1) w))))) : EI X (d + 2) 88 (0, [some (.ref 80), none, none], [], SH, w) Q := by
  unfold EI
  refine EV.steps cl_88 2 (q2 := (4, [some (.ref 80), none, none], [.ref 1], SH, w)) rfl ?_
  obtain ⟨j1, H⟩ := H
  refine EV.callF (kc := 110) (av := [.ref 1]) (r := []) (rv := some (.int (F_110_1 w))) (w2 := w) cl_88 rfl rfl rfl (m_110_1 w  j1) ?_
  refine EV.steps cl_88 3 (q2 := (11, [some (.ref 80), some (.int (F_110_1 w)), none], [.int (kI 43), .int (F_110_1 w)], SH, w)) rfl ?_
  refine EV.i_eq cl_88 rfl (fun h2 => ?_) (fun h2 => ?_)
  · skip
    rw [if_pos h2] at H
    refine EV.steps cl_88 2 (q2 := (33, [some (.ref 80), some (.int (F_110_1 w)), none], [.ref 1], SH, w)) rfl ?_
    refine EV.callF (kc := 112) (av := [.ref 1]) (r := []) (rv := none) (w2 := (G_112_1 w)) cl_88 rfl rfl rfl (m_112_1 w ) ?_
    refine EV.steps cl_88 3 (q2 := (41, [some (.ref 80), some (.int (F_110_1 w)), none], [.int (kI 3), .ref 1], SH, (G_112_1 w))) rfl ?_
    refine EV.call (kc := 114) (av := [.ref 1, .int (kI 3)]) (r := []) cl_88 rfl rfl rfl H ?_
    clear H; intro y1 s1 w1 e1
    obtain ⟨x1, rfl, rfl, H⟩ := e1
    refine EV.steps cl_88 3 (q2 := (47, [some (.ref 80), some (.int (F_110_1 w)), some (.int x1)], [.int (kI (-1)), .int x1], SH, w1)) rfl ?_
    refine EV.i_eq cl_88 rfl (fun h3 => ?_) (fun h3 => ?_)
    · skip
      rw [if_pos h3] at H
      refine EV.steps cl_88 1 (q2 := (60, [some (.ref 80), some (.int (F_110_1 w)), some (.int x1)], [.int (kI 0)], SH, w1)) rfl ?_
      refine EV.ret cl_88 rfl rfl rfl ?_
      exact ⟨_, rfl, rfl, H⟩
    · skip
      rw [if_neg h3] at H
      refine EV.steps cl_88 3 (q2 := (56, [some (.ref 80), some (.int (F_110_1 w)), some (.int x1)], [.int (kI 20), .int (w1 80 5)], SH, w1)) rfl ?_
      refine EV.i_lt cl_88 rfl (fun h4 => ?_) (fun h4 => ?_)
      · skip
        rw [if_pos h4] at H
        refine EV.steps cl_88 6 (q2 := (72, [some (.ref 80), some (.int (F_110_1 w)), some (.int x1)], [.int (kI 43), .int (F_110_1 w), .int (w1 80 5), .ref 83], SH, w1)) rfl ?_
        refine EV.i_ne cl_88 rfl (fun h5 => ?_) (fun h5 => ?_)
        · skip
          exact absurd h2 h5
        · skip
          refine EV.steps cl_88 2 (q2 := (81, [some (.ref 80), some (.int (F_110_1 w)), some (.int x1)], [.int x1, .int (w1 80 5), .ref 83], SH, w1)) rfl ?_
          obtain ⟨j6, H⟩ := H
          refine EV.iastore cl_88 rfl rfl (by decide) j6 ?_
          refine EV.steps cl_88 7 (q2 := (93, [some (.ref 80), some (.int (F_110_1 w)), some (.int x1)], [.int (kI 1)], SH, (up2 (up2 w1 83 (w1 80 5).toNatClampNeg x1) 80 5 ((w1 80 5) + (kI 1))))) rfl ?_
          refine EV.ret cl_88 rfl rfl rfl ?_
          exact ⟨_, rfl, rfl, H⟩
      · skip
        rw [if_neg h4] at H
        refine EV.steps cl_88 1 (q2 := (60, [some (.ref 80), some (.int (F_110_1 w)), some (.int x1)], [.int (kI 0)], SH, w1)) rfl ?_
        refine EV.ret cl_88 rfl rfl rfl ?_
        exact ⟨_, rfl, rfl, H⟩
  · skip
    rw [if_neg h2] at H
    refine EV.steps cl_88 2 (q2 := (17, [some (.ref 80), some (.int (F_110_1 w)), none], [.int (kI 45), .int (F_110_1 w)], SH, w)) rfl ?_
    refine EV.i_eq cl_88 rfl (fun h7 => ?_) (fun h7 => ?_)
    · skip
      rw [if_pos h7] at H
      refine EV.steps cl_88 2 (q2 := (33, [some (.ref 80), some (.int (F_110_1 w)), none], [.ref 1], SH, w)) rfl ?_
      refine EV.callF (kc := 112) (av := [.ref 1]) (r := []) (rv := none) (w2 := (G_112_1 w)) cl_88 rfl rfl rfl (m_112_1 w ) ?_
      refine EV.steps cl_88 3 (q2 := (41, [some (.ref 80), some (.int (F_110_1 w)), none], [.int (kI 3), .ref 1], SH, (G_112_1 w))) rfl ?_
      refine EV.call (kc := 114) (av := [.ref 1, .int (kI 3)]) (r := []) cl_88 rfl rfl rfl H ?_
      clear H; intro y2 s2 w2 e2
      obtain ⟨x2, rfl, rfl, H⟩ := e2
      refine EV.steps cl_88 3 (q2 := (47, [some (.ref 80), some (.int (F_110_1 w)), some (.int x2)], [.int (kI (-1)), .int x2], SH, w2)) rfl ?_
      refine EV.i_eq cl_88 rfl (fun h8 => ?_) (fun h8 => ?_)
      · skip
        rw [if_pos h8] at H
        refine EV.steps cl_88 1 (q2 := (60, [some (.ref 80), some (.int (F_110_1 w)), some (.int x2)], [.int (kI 0)], SH, w2)) rfl ?_
        refine EV.ret cl_88 rfl rfl rfl ?_
        exact ⟨_, rfl, rfl, H⟩
      · skip
        rw [if_neg h8] at H
        refine EV.steps cl_88 3 (q2 := (56, [some (.ref 80), some (.int (F_110_1 w)), some (.int x2)], [.int (kI 20), .int (w2 80 5)], SH, w2)) rfl ?_
        refine EV.i_lt cl_88 rfl (fun h9 => ?_) (fun h9 => ?_)
        · skip
          rw [if_pos h9] at H
          refine EV.steps cl_88 6 (q2 := (72, [some (.ref 80), some (.int (F_110_1 w)), some (.int x2)], [.int (kI 43), .int (F_110_1 w), .int (w2 80 5), .ref 83], SH, w2)) rfl ?_
          refine EV.i_ne cl_88 rfl (fun h10 => ?_) (fun h10 => ?_)
          · skip
            refine EV.steps cl_88 2 (q2 := (81, [some (.ref 80), some (.int (F_110_1 w)), some (.int x2)], [.int (-x2), .int (w2 80 5), .ref 83], SH, w2)) rfl ?_
            obtain ⟨j11, H⟩ := H
            refine EV.iastore cl_88 rfl rfl (by decide) j11 ?_
            refine EV.steps cl_88 7 (q2 := (93, [some (.ref 80), some (.int (F_110_1 w)), some (.int x2)], [.int (kI 1)], SH, (up2 (up2 w2 83 (w2 80 5).toNatClampNeg (-x2)) 80 5 ((w2 80 5) + (kI 1))))) rfl ?_
            refine EV.ret cl_88 rfl rfl rfl ?_
            exact ⟨_, rfl, rfl, H⟩
          · skip
            exact absurd h10 h2
        · skip
          rw [if_neg h9] at H
          refine EV.steps cl_88 1 (q2 := (60, [some (.ref 80), some (.int (F_110_1 w)), some (.int x2)], [.int (kI 0)], SH, w2)) rfl ?_
          refine EV.ret cl_88 rfl rfl rfl ?_
          exact ⟨_, rfl, rfl, H⟩
    · skip
      rw [if_neg h7] at H
      refine EV.steps cl_88 3 (q2 := (25, [some (.ref 80), some (.int (F_110_1 w)), none], [.int (kI 1), .ref 1], SH, w)) rfl ?_
      refine EV.callF (kc := 115) (av := [.ref 1, .int (kI 1)]) (r := []) (rv := some (.int (F_115_1 (kI 1) w))) (w2 := (G_115_1 (kI 1) w)) cl_88 rfl rfl rfl (m_115_1 w (kI 1)) ?_
      refine EV.retB cl_88 rfl rfl (z1_115_1 (kI 1) w) ?_
      exact ⟨_, rfl, rfl, H⟩
theorem t91_89_at0 {X : Scr} {d : Nat} {Q : Wd → Prop} (w : Wd) (v1 : Int32) (v2 : Int32)
    (H : (if 0 < (F_57_3 (G_258_90 (kI 0) w)) then (if v2 = 0 then CU X (d + 2) 92 [.ref 89, .int v1, .int (F_57_3 (G_258_90 (kI 0) w))] (G_258_90 (kI 0) w) (fun w2 => Q w2) else CU X (d + 2) 93 [.ref 89, .int v1, .int v2] (G_258_90 (kI 0) w) (fun w1 => Q w1)) else Q (G_258_90 (kI 0) w))) : EU X (d + 2) 91 (0, [some (.ref 89), some (.int v1), some (.int v2), none], [], SH, w) Q := by
  unfold EU
  refine EV.steps cl_91 3 (q2 := (5, [some (.ref 89), some (.int v1), some (.int v2), none], [.int (kI 0), .ref 90], SH, w)) rfl ?_
  refine EV.callF (kc := 258) (av := [.ref 90, .int (kI 0)]) (r := []) (rv := none) (w2 := (G_258_90 (kI 0) w)) cl_91 rfl rfl rfl (m_258_90 w (kI 0)) ?_
  refine EV.steps cl_91 2 (q2 := (12, [some (.ref 89), some (.int v1), some (.int v2), none], [.ref 3], SH, (G_258_90 (kI 0) w))) rfl ?_
  refine EV.callF (kc := 57) (av := [.ref 3]) (r := []) (rv := some (.int (F_57_3 (G_258_90 (kI 0) w)))) (w2 := (G_258_90 (kI 0) w)) cl_91 rfl rfl rfl (m_57_3 (G_258_90 (kI 0) w) ) ?_
  refine EV.steps cl_91 2 (q2 := (17, [some (.ref 89), some (.int v1), some (.int v2), some (.int (F_57_3 (G_258_90 (kI 0) w)))], [.int (F_57_3 (G_258_90 (kI 0) w))], SH, (G_258_90 (kI 0) w))) rfl ?_
  refine EV.z_gt cl_91 rfl (fun h1 => ?_) (fun h1 => ?_)
  · skip
    rw [if_pos h1] at H
    refine EV.steps cl_91 1 (q2 := (22, [some (.ref 89), some (.int v1), some (.int v2), some (.int (F_57_3 (G_258_90 (kI 0) w)))], [.int v2], SH, (G_258_90 (kI 0) w))) rfl ?_
    refine EV.z_ne cl_91 rfl (fun h2 => ?_) (fun h2 => ?_)
    · skip
      rw [if_neg h2] at H
      refine EV.steps cl_91 3 (q2 := (37, [some (.ref 89), some (.int v1), some (.int v2), some (.int (F_57_3 (G_258_90 (kI 0) w)))], [.int v2, .int v1, .ref 89], SH, (G_258_90 (kI 0) w))) rfl ?_
      refine EV.call (kc := 93) (av := [.ref 89, .int v1, .int v2]) (r := []) cl_91 rfl rfl rfl H ?_
      clear H; intro y1 s1 w1 e1
      obtain ⟨rfl, rfl, H⟩ := e1
      refine EV.ret cl_91 rfl rfl rfl ?_
      exact ⟨rfl, rfl, H⟩
    · skip
      rw [if_pos h2] at H
      refine EV.steps cl_91 3 (q2 := (28, [some (.ref 89), some (.int v1), some (.int v2), some (.int (F_57_3 (G_258_90 (kI 0) w)))], [.int (F_57_3 (G_258_90 (kI 0) w)), .int v1, .ref 89], SH, (G_258_90 (kI 0) w))) rfl ?_
      refine EV.call (kc := 92) (av := [.ref 89, .int v1, .int (F_57_3 (G_258_90 (kI 0) w))]) (r := []) cl_91 rfl rfl rfl H ?_
      clear H; intro y2 s2 w2 e2
      obtain ⟨rfl, rfl, H⟩ := e2
      refine EV.steps cl_91 1 (q2 := (40, [some (.ref 89), some (.int v1), some (.int v2), some (.int (F_57_3 (G_258_90 (kI 0) w)))], [], SH, w2)) rfl ?_
      refine EV.ret cl_91 rfl rfl rfl ?_
      exact ⟨rfl, rfl, H⟩
  · skip
    rw [if_neg h1] at H
    refine EV.ret cl_91 rfl rfl rfl ?_
    exact ⟨rfl, rfl, H⟩
theorem t92_89_at0 {X : Scr} {d : Nat} {Q : Wd → Prop} (w : Wd) (v1 : Int32) (v2 : Int32)
    (H : EU X (d + 2) 92 (5, [some (.ref 89), some (.int v1), some (.int v2), some (.int v1), some (.int (kI 0)), none, none], [], SH, w) Q) : EU X (d + 2) 92 (0, [some (.ref 89), some (.int v1), some (.int v2), none, none, none, none], [], SH, w) Q := by
  unfold EU
  refine EV.steps cl_92 4 (q2 := (5, [some (.ref 89), some (.int v1), some (.int v2), some (.int v1), some (.int (kI 0)), none, none], [], SH, w)) rfl ?_
  exact H
theorem t92_89_at5 {X : Scr} {d : Nat} {Q : Wd → Prop} (w : Wd) (v1 : Int32) (v2 : Int32) (v3 : Int32) (v4 : Int32)
    (H : (if (kI 6) ≤ v4 then EU X (d + 2) 92 (70, [some (.ref 89), some (.int v1), some (.int v2), some (.int v3), some (.int (kI 0)), none, none], [], SH, w) Q else (if v2 ≤ 0 then EU X (d + 2) 92 (70, [some (.ref 89), some (.int v1), some (.int v2), some (.int v3), some (.int (kI 0)), none, none], [], SH, w) Q else (¬ v2 = 0 ∧ (inB v4 6 = true ∧ (¬ v2 = 0 ∧ (inB v4 6 = true ∧ (inB v4 6 = true ∧ EU X (d + 2) 92 (5, [some (.ref 89), some (.int v1), some (.int v2), some (.int (v3 - ((up2 w 90 v4.toNatClampNeg (((F_53_3 v4 w) * v1) / v2)) 90 v4.toNatClampNeg))), some (.int (v4 + (kI 1))), none, none], [], SH, (up2 (up2 w 90 v4.toNatClampNeg (((F_53_3 v4 w) * v1) / v2)) 92 v4.toNatClampNeg (((F_53_3 v4 w) * v1) - ((F_53_3 v4 w) * v1) / v2 * v2))) Q)))))))) : EU X (d + 2) 92 (5, [some (.ref 89), some (.int v1), some (.int v2), some (.int v3), some (.int v4), none, none], [], SH, w) Q := by
  unfold EU
  refine EV.steps cl_92 2 (q2 := (9, [some (.ref 89), some (.int v1), some (.int v2), some (.int v3), some (.int v4), none, none], [.int (kI 6), .int v4], SH, w)) rfl ?_
  refine EV.i_ge cl_92 rfl (fun h1 => ?_) (fun h1 => ?_)
  · skip
    rw [if_pos h1] at H
    refine EV.steps cl_92 2 (q2 := (70, [some (.ref 89), some (.int v1), some (.int v2), some (.int v3), some (.int (kI 0)), none, none], [], SH, w)) rfl ?_
    exact H
  · skip
    rw [if_neg h1] at H
    refine EV.steps cl_92 1 (q2 := (13, [some (.ref 89), some (.int v1), some (.int v2), some (.int v3), some (.int v4), none, none], [.int v2], SH, w)) rfl ?_
    refine EV.z_le cl_92 rfl (fun h2 => ?_) (fun h2 => ?_)
    · skip
      rw [if_pos h2] at H
      refine EV.steps cl_92 2 (q2 := (70, [some (.ref 89), some (.int v1), some (.int v2), some (.int v3), some (.int (kI 0)), none, none], [], SH, w)) rfl ?_
      exact H
    · skip
      rw [if_neg h2] at H
      refine EV.steps cl_92 3 (q2 := (22, [some (.ref 89), some (.int v1), some (.int v2), some (.int v3), some (.int v4), none, none], [.int v4, .ref 3], SH, w)) rfl ?_
      refine EV.callF (kc := 53) (av := [.ref 3, .int v4]) (r := []) (rv := some (.int (F_53_3 v4 w))) (w2 := w) cl_92 rfl rfl rfl (m_53_3 w v4) ?_
      refine EV.steps cl_92 8 (q2 := (38, [some (.ref 89), some (.int v1), some (.int v2), some (.int v3), some (.int v4), some (.int ((F_53_3 v4 w) * v1)), none], [.int v2, .int ((F_53_3 v4 w) * v1), .int v4, .ref 90], SH, w)) rfl ?_
      obtain ⟨j3, H⟩ := H
      refine EV.idiv cl_92 rfl j3 ?_
      obtain ⟨j4, H⟩ := H
      refine EV.iastore cl_92 rfl rfl (by decide) j4 ?_
      refine EV.steps cl_92 5 (q2 := (49, [some (.ref 89), some (.int v1), some (.int v2), some (.int v3), some (.int v4), some (.int ((F_53_3 v4 w) * v1)), none], [.int v2, .int ((F_53_3 v4 w) * v1), .int v4, .ref 92], SH, (up2 w 90 v4.toNatClampNeg (((F_53_3 v4 w) * v1) / v2)))) rfl ?_
      obtain ⟨j5, H⟩ := H
      refine EV.irem cl_92 rfl j5 ?_
      obtain ⟨j6, H⟩ := H
      refine EV.iastore cl_92 rfl rfl (by decide) j6 ?_
      refine EV.steps cl_92 4 (q2 := (58, [some (.ref 89), some (.int v1), some (.int v2), some (.int v3), some (.int v4), some (.int ((F_53_3 v4 w) * v1)), none], [.int v4, .ref 90, .int v3], SH, (up2 (up2 w 90 v4.toNatClampNeg (((F_53_3 v4 w) * v1) / v2)) 92 v4.toNatClampNeg (((F_53_3 v4 w) * v1) - ((F_53_3 v4 w) * v1) / v2 * v2)))) rfl ?_
      obtain ⟨j7, H⟩ := H
      refine EV.iaload cl_92 rfl rfl (by decide) j7 ?_
      refine EV.steps cl_92 4 (q2 := (5, [some (.ref 89), some (.int v1), some (.int v2), some (.int (v3 - ((up2 w 90 v4.toNatClampNeg (((F_53_3 v4 w) * v1) / v2)) 90 v4.toNatClampNeg))), some (.int (v4 + (kI 1))), some (.int ((F_53_3 v4 w) * v1)), none], [], SH, (up2 (up2 w 90 v4.toNatClampNeg (((F_53_3 v4 w) * v1) / v2)) 92 v4.toNatClampNeg (((F_53_3 v4 w) * v1) - ((F_53_3 v4 w) * v1) / v2 * v2)))) rfl ?_
      exact EV.weak (l := [some (.ref 89), some (.int v1), some (.int v2), some (.int (v3 - ((up2 w 90 v4.toNatClampNeg (((F_53_3 v4 w) * v1) / v2)) 90 v4.toNatClampNeg))), some (.int (v4 + (kI 1))), none, none]) ⟨rfl, ⟨rfl, ⟨rfl, ⟨rfl, ⟨rfl, ⟨rfl, ⟨trivial, trivial⟩⟩⟩⟩⟩⟩⟩ H
theorem t92_89_at70 {X : Scr} {d : Nat} {Q : Wd → Prop} (w : Wd) (v1 : Int32) (v2 : Int32) (v3 : Int32) (v4 : Int32)
    (H : (if (kI 6) ≤ v4 then Q w else (if v3 ≤ 0 then Q w else EU X (d + 2) 92 (87, [some (.ref 89), some (.int v1), some (.int v2), some (.int v3), some (.int v4), some (.int (kI 0)), some (.int (kI 1))], [], SH, w) Q))) : EU X (d + 2) 92 (70, [some (.ref 89), some (.int v1), some (.int v2), some (.int v3), some (.int v4), none, none], [], SH, w) Q := by
  unfold EU
  refine EV.steps cl_92 2 (q2 := (74, [some (.ref 89), some (.int v1), some (.int v2), some (.int v3), some (.int v4), none, none], [.int (kI 6), .int v4], SH, w)) rfl ?_
  refine EV.i_ge cl_92 rfl (fun h1 => ?_) (fun h1 => ?_)
  · skip
    rw [if_pos h1] at H
    refine EV.ret cl_92 rfl rfl rfl ?_
    exact ⟨rfl, rfl, H⟩
  · skip
    rw [if_neg h1] at H
    refine EV.steps cl_92 1 (q2 := (78, [some (.ref 89), some (.int v1), some (.int v2), some (.int v3), some (.int v4), none, none], [.int v3], SH, w)) rfl ?_
    refine EV.z_le cl_92 rfl (fun h2 => ?_) (fun h2 => ?_)
    · skip
      rw [if_pos h2] at H
      refine EV.ret cl_92 rfl rfl rfl ?_
      exact ⟨rfl, rfl, H⟩
    · skip
      rw [if_neg h2] at H
      refine EV.steps cl_92 4 (q2 := (87, [some (.ref 89), some (.int v1), some (.int v2), some (.int v3), some (.int v4), some (.int (kI 0)), some (.int (kI 1))], [], SH, w)) rfl ?_
      exact H
theorem t92_89_at87 {X : Scr} {d : Nat} {Q : Wd → Prop} (w : Wd) (v1 : Int32) (v2 : Int32) (v3 : Int32) (v4 : Int32) (v5 : Int32) (v6 : Int32)
    (H : (if (kI 6) ≤ v6 then (inB v5 6 = true ∧ (inB v5 6 = true ∧ (inB v5 6 = true ∧ EU X (d + 2) 92 (70, [some (.ref 89), some (.int v1), some (.int v2), some (.int (v3 + (kI (-1)))), some (.int (v4 + (kI 1))), none, none], [], SH, (up2 (up2 w 90 v5.toNatClampNeg ((w 90 v5.toNatClampNeg) + (kI 1))) 92 v5.toNatClampNeg (kI (-1)))) Q))) else (inB v6 6 = true ∧ (inB v5 6 = true ∧ (if (w 92 v6.toNatClampNeg) ≤ (w 92 v5.toNatClampNeg) then EU X (d + 2) 92 (87, [some (.ref 89), some (.int v1), some (.int v2), some (.int v3), some (.int v4), some (.int v5), some (.int (v6 + (kI 1)))], [], SH, w) Q else EU X (d + 2) 92 (87, [some (.ref 89), some (.int v1), some (.int v2), some (.int v3), some (.int v4), some (.int v6), some (.int (v6 + (kI 1)))], [], SH, w) Q))))) : EU X (d + 2) 92 (87, [some (.ref 89), some (.int v1), some (.int v2), some (.int v3), some (.int v4), some (.int v5), some (.int v6)], [], SH, w) Q := by
  unfold EU
  refine EV.steps cl_92 2 (q2 := (91, [some (.ref 89), some (.int v1), some (.int v2), some (.int v3), some (.int v4), some (.int v5), some (.int v6)], [.int (kI 6), .int v6], SH, w)) rfl ?_
  refine EV.i_ge cl_92 rfl (fun h1 => ?_) (fun h1 => ?_)
  · skip
    rw [if_pos h1] at H
    refine EV.steps cl_92 4 (q2 := (128, [some (.ref 89), some (.int v1), some (.int v2), some (.int v3), some (.int v4), some (.int v5), some (.int v6)], [.int v5, .ref 90, .int v5, .ref 90], SH, w)) rfl ?_
    obtain ⟨j2, H⟩ := H
    refine EV.iaload cl_92 rfl rfl (by decide) j2 ?_
    refine EV.steps cl_92 2 (q2 := (131, [some (.ref 89), some (.int v1), some (.int v2), some (.int v3), some (.int v4), some (.int v5), some (.int v6)], [.int ((w 90 v5.toNatClampNeg) + (kI 1)), .int v5, .ref 90], SH, w)) rfl ?_
    obtain ⟨j3, H⟩ := H
    refine EV.iastore cl_92 rfl rfl (by decide) j3 ?_
    refine EV.steps cl_92 4 (q2 := (139, [some (.ref 89), some (.int v1), some (.int v2), some (.int v3), some (.int v4), some (.int v5), some (.int v6)], [.int (kI (-1)), .int v5, .ref 92], SH, (up2 w 90 v5.toNatClampNeg ((w 90 v5.toNatClampNeg) + (kI 1))))) rfl ?_
    obtain ⟨j4, H⟩ := H
    refine EV.iastore cl_92 rfl rfl (by decide) j4 ?_
    refine EV.steps cl_92 3 (q2 := (70, [some (.ref 89), some (.int v1), some (.int v2), some (.int (v3 + (kI (-1)))), some (.int (v4 + (kI 1))), some (.int v5), some (.int v6)], [], SH, (up2 (up2 w 90 v5.toNatClampNeg ((w 90 v5.toNatClampNeg) + (kI 1))) 92 v5.toNatClampNeg (kI (-1))))) rfl ?_
    exact EV.weak (l := [some (.ref 89), some (.int v1), some (.int v2), some (.int (v3 + (kI (-1)))), some (.int (v4 + (kI 1))), none, none]) ⟨rfl, ⟨rfl, ⟨rfl, ⟨rfl, ⟨rfl, ⟨rfl, ⟨rfl, trivial⟩⟩⟩⟩⟩⟩⟩ H
  · skip
    rw [if_neg h1] at H
    refine EV.steps cl_92 3 (q2 := (100, [some (.ref 89), some (.int v1), some (.int v2), some (.int v3), some (.int v4), some (.int v5), some (.int v6)], [.int v6, .ref 92], SH, w)) rfl ?_
    obtain ⟨j5, H⟩ := H
    refine EV.iaload cl_92 rfl rfl (by decide) j5 ?_
    refine EV.steps cl_92 3 (q2 := (107, [some (.ref 89), some (.int v1), some (.int v2), some (.int v3), some (.int v4), some (.int v5), some (.int v6)], [.int v5, .ref 92, .int (w 92 v6.toNatClampNeg)], SH, w)) rfl ?_
    obtain ⟨j6, H⟩ := H
    refine EV.iaload cl_92 rfl rfl (by decide) j6 ?_
    refine EV.i_le cl_92 rfl (fun h7 => ?_) (fun h7 => ?_)
    · skip
      rw [if_pos h7] at H
      refine EV.steps cl_92 2 (q2 := (87, [some (.ref 89), some (.int v1), some (.int v2), some (.int v3), some (.int v4), some (.int v5), some (.int (v6 + (kI 1)))], [], SH, w)) rfl ?_
      exact H
    · skip
      rw [if_neg h7] at H
      refine EV.steps cl_92 4 (q2 := (87, [some (.ref 89), some (.int v1), some (.int v2), some (.int v3), some (.int v4), some (.int v6), some (.int (v6 + (kI 1)))], [], SH, w)) rfl ?_
      exact H
theorem t93_89_at0 {X : Scr} {d : Nat} {Q : Wd → Prop} (w : Wd) (v1 : Int32) (v2 : Int32)
    (H : EU X (d + 3) 93 (2, [some (.ref 89), some (.int v1), some (.int v2), some (.int (kI 0)), none, none], [], SH, w) Q) : EU X (d + 3) 93 (0, [some (.ref 89), some (.int v1), some (.int v2), none, none, none], [], SH, w) Q := by
  unfold EU
  refine EV.steps cl_93 2 (q2 := (2, [some (.ref 89), some (.int v1), some (.int v2), some (.int (kI 0)), none, none], [], SH, w)) rfl ?_
  exact H
