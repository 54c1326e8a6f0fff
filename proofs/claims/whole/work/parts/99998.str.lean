/-! String.indexOf over the letters: its contract, out of the JDK's own methods -/
section STR
theorem ds_ln_0 : decode prog_18_method_54_code 0 = .ok (.aload_n 0, 1) := by decide +kernel
theorem ds_ln_1 : decode prog_18_method_54_code 1 = .ok (.getfield 9, 3) := by decide +kernel
theorem ds_ln_4 : decode prog_18_method_54_code 4 = .ok (.arraylength, 1) := by decide +kernel
theorem ds_ln_5 : decode prog_18_method_54_code 5 = .ok (.aload_n 0, 1) := by decide +kernel
theorem ds_ln_6 : decode prog_18_method_54_code 6 = .ok (.invokevirtual 335, 3) := by decide +kernel
theorem ds_ln_9 : decode prog_18_method_54_code 9 = .ok (.ishr, 1) := by decide +kernel
theorem ds_ln_10 : decode prog_18_method_54_code 10 = .ok (.ireturn, 1) := by decide +kernel
theorem ds_x1_0 : decode prog_18_method_79_code 0 = .ok (.aload_n 0, 1) := by decide +kernel
theorem ds_x1_1 : decode prog_18_method_79_code 1 = .ok (.iload_n 1, 1) := by decide +kernel
theorem ds_x1_2 : decode prog_18_method_79_code 2 = .ok (.iconst 0, 1) := by decide +kernel
theorem ds_x1_3 : decode prog_18_method_79_code 3 = .ok (.invokevirtual 633, 3) := by decide +kernel
theorem ds_x1_6 : decode prog_18_method_79_code 6 = .ok (.ireturn, 1) := by decide +kernel
theorem ds_x2_0 : decode prog_18_method_80_code 0 = .ok (.aload_n 0, 1) := by decide +kernel
theorem ds_x2_1 : decode prog_18_method_80_code 1 = .ok (.invokevirtual 492, 3) := by decide +kernel
theorem ds_x2_4 : decode prog_18_method_80_code 4 = .ok (.ifCond .eq 19, 3) := by decide +kernel
theorem ds_x2_7 : decode prog_18_method_80_code 7 = .ok (.aload_n 0, 1) := by decide +kernel
theorem ds_x2_8 : decode prog_18_method_80_code 8 = .ok (.getfield 9, 3) := by decide +kernel
theorem ds_x2_11 : decode prog_18_method_80_code 11 = .ok (.iload_n 1, 1) := by decide +kernel
theorem ds_x2_12 : decode prog_18_method_80_code 12 = .ok (.iload_n 2, 1) := by decide +kernel
theorem ds_x2_13 : decode prog_18_method_80_code 13 = .ok (.aload_n 0, 1) := by decide +kernel
theorem ds_x2_14 : decode prog_18_method_80_code 14 = .ok (.invokevirtual 505, 3) := by decide +kernel
theorem ds_x2_17 : decode prog_18_method_80_code 17 = .ok (.invokestatic 637, 3) := by decide +kernel
theorem ds_x2_20 : decode prog_18_method_80_code 20 = .ok (.goto 16, 3) := by decide +kernel
theorem ds_x2_23 : decode prog_18_method_80_code 23 = .ok (.aload_n 0, 1) := by decide +kernel
theorem ds_x2_24 : decode prog_18_method_80_code 24 = .ok (.getfield 9, 3) := by decide +kernel
theorem ds_x2_27 : decode prog_18_method_80_code 27 = .ok (.iload_n 1, 1) := by decide +kernel
theorem ds_x2_28 : decode prog_18_method_80_code 28 = .ok (.iload_n 2, 1) := by decide +kernel
theorem ds_x2_29 : decode prog_18_method_80_code 29 = .ok (.aload_n 0, 1) := by decide +kernel
theorem ds_x2_30 : decode prog_18_method_80_code 30 = .ok (.invokevirtual 505, 3) := by decide +kernel
theorem ds_x2_33 : decode prog_18_method_80_code 33 = .ok (.invokestatic 640, 3) := by decide +kernel
theorem ds_x2_36 : decode prog_18_method_80_code 36 = .ok (.ireturn, 1) := by decide +kernel
theorem ds_cd_0 : decode prog_18_method_152_code 0 = .ok (.getstatic 38, 3) := by decide +kernel
theorem ds_cd_3 : decode prog_18_method_152_code 3 = .ok (.ifCond .eq 10, 3) := by decide +kernel
theorem ds_cd_6 : decode prog_18_method_152_code 6 = .ok (.aload_n 0, 1) := by decide +kernel
theorem ds_cd_7 : decode prog_18_method_152_code 7 = .ok (.getfield 15, 3) := by decide +kernel
theorem ds_cd_10 : decode prog_18_method_152_code 10 = .ok (.goto 4, 3) := by decide +kernel
theorem ds_cd_13 : decode prog_18_method_152_code 13 = .ok (.iconst 1, 1) := by decide +kernel
theorem ds_cd_14 : decode prog_18_method_152_code 14 = .ok (.ireturn, 1) := by decide +kernel
theorem ds_la_0 : decode prog_18_method_154_code 0 = .ok (.getstatic 38, 3) := by decide +kernel
theorem ds_la_3 : decode prog_18_method_154_code 3 = .ok (.ifCond .eq 14, 3) := by decide +kernel
theorem ds_la_6 : decode prog_18_method_154_code 6 = .ok (.aload_n 0, 1) := by decide +kernel
theorem ds_la_7 : decode prog_18_method_154_code 7 = .ok (.getfield 15, 3) := by decide +kernel
theorem ds_la_10 : decode prog_18_method_154_code 10 = .ok (.ifCond .ne 7, 3) := by decide +kernel
theorem ds_la_13 : decode prog_18_method_154_code 13 = .ok (.iconst 1, 1) := by decide +kernel
theorem ds_la_14 : decode prog_18_method_154_code 14 = .ok (.goto 4, 3) := by decide +kernel
theorem ds_la_17 : decode prog_18_method_154_code 17 = .ok (.iconst 0, 1) := by decide +kernel
theorem ds_la_18 : decode prog_18_method_154_code 18 = .ok (.ireturn, 1) := by decide +kernel
theorem ds_ce_0 : decode prog_19_method_4_code 0 = .ok (.iload_n 0, 1) := by decide +kernel
theorem ds_ce_1 : decode prog_19_method_4_code 1 = .ok (.ifCond .lt 14, 3) := by decide +kernel
theorem ds_ce_4 : decode prog_19_method_4_code 4 = .ok (.iload_n 0, 1) := by decide +kernel
theorem ds_ce_5 : decode prog_19_method_4_code 5 = .ok (.sipush 255, 3) := by decide +kernel
theorem ds_ce_8 : decode prog_19_method_4_code 8 = .ok (.if_icmp .gt 7, 3) := by decide +kernel
theorem ds_ce_11 : decode prog_19_method_4_code 11 = .ok (.iconst 1, 1) := by decide +kernel
theorem ds_ce_12 : decode prog_19_method_4_code 12 = .ok (.goto 4, 3) := by decide +kernel
theorem ds_ce_15 : decode prog_19_method_4_code 15 = .ok (.iconst 0, 1) := by decide +kernel
theorem ds_ce_16 : decode prog_19_method_4_code 16 = .ok (.ireturn, 1) := by decide +kernel
theorem ds_ix_0 : decode prog_19_method_22_code 0 = .ok (.iload_n 1, 1) := by decide +kernel
theorem ds_ix_1 : decode prog_19_method_22_code 1 = .ok (.invokestatic 88, 3) := by decide +kernel
theorem ds_ix_4 : decode prog_19_method_22_code 4 = .ok (.ifCond .ne 5, 3) := by decide +kernel
theorem ds_ix_7 : decode prog_19_method_22_code 7 = .ok (.iconst (-1), 1) := by decide +kernel
theorem ds_ix_8 : decode prog_19_method_22_code 8 = .ok (.ireturn, 1) := by decide +kernel
theorem ds_ix_9 : decode prog_19_method_22_code 9 = .ok (.iload_n 2, 1) := by decide +kernel
theorem ds_ix_10 : decode prog_19_method_22_code 10 = .ok (.iconst 0, 1) := by decide +kernel
theorem ds_ix_11 : decode prog_19_method_22_code 11 = .ok (.invokestatic 92, 3) := by decide +kernel
theorem ds_ix_14 : decode prog_19_method_22_code 14 = .ok (.istore_n 2, 1) := by decide +kernel
theorem ds_ix_15 : decode prog_19_method_22_code 15 = .ok (.iload_n 3, 1) := by decide +kernel
theorem ds_ix_16 : decode prog_19_method_22_code 16 = .ok (.aload_n 0, 1) := by decide +kernel
theorem ds_ix_17 : decode prog_19_method_22_code 17 = .ok (.arraylength, 1) := by decide +kernel
theorem ds_ix_18 : decode prog_19_method_22_code 18 = .ok (.invokestatic 38, 3) := by decide +kernel
theorem ds_ix_21 : decode prog_19_method_22_code 21 = .ok (.istore_n 3, 1) := by decide +kernel
theorem ds_ix_22 : decode prog_19_method_22_code 22 = .ok (.iload_n 2, 1) := by decide +kernel
theorem ds_ix_23 : decode prog_19_method_22_code 23 = .ok (.iload_n 3, 1) := by decide +kernel
theorem ds_ix_24 : decode prog_19_method_22_code 24 = .ok (.if_icmp .lt 5, 3) := by decide +kernel
theorem ds_ix_27 : decode prog_19_method_22_code 27 = .ok (.iconst (-1), 1) := by decide +kernel
theorem ds_ix_28 : decode prog_19_method_22_code 28 = .ok (.ireturn, 1) := by decide +kernel
theorem ds_ix_29 : decode prog_19_method_22_code 29 = .ok (.aload_n 0, 1) := by decide +kernel
theorem ds_ix_30 : decode prog_19_method_22_code 30 = .ok (.iload_n 1, 1) := by decide +kernel
theorem ds_ix_31 : decode prog_19_method_22_code 31 = .ok (.iload_n 2, 1) := by decide +kernel
theorem ds_ix_32 : decode prog_19_method_22_code 32 = .ok (.iload_n 3, 1) := by decide +kernel
theorem ds_ix_33 : decode prog_19_method_22_code 33 = .ok (.invokestatic 95, 3) := by decide +kernel
theorem ds_ix_36 : decode prog_19_method_22_code 36 = .ok (.ireturn, 1) := by decide +kernel
theorem ds_ic_0 : decode prog_19_method_23_code 0 = .ok (.iload_n 1, 1) := by decide +kernel
theorem ds_ic_1 : decode prog_19_method_23_code 1 = .ok (.i2b, 1) := by decide +kernel
theorem ds_ic_2 : decode prog_19_method_23_code 2 = .ok (.istore 4, 2) := by decide +kernel
theorem ds_ic_4 : decode prog_19_method_23_code 4 = .ok (.iload_n 2, 1) := by decide +kernel
theorem ds_ic_5 : decode prog_19_method_23_code 5 = .ok (.istore 5, 2) := by decide +kernel
theorem ds_ic_7 : decode prog_19_method_23_code 7 = .ok (.iload 5, 2) := by decide +kernel
theorem ds_ic_9 : decode prog_19_method_23_code 9 = .ok (.iload_n 3, 1) := by decide +kernel
theorem ds_ic_10 : decode prog_19_method_23_code 10 = .ok (.if_icmp .ge 21, 3) := by decide +kernel
theorem ds_ic_13 : decode prog_19_method_23_code 13 = .ok (.aload_n 0, 1) := by decide +kernel
theorem ds_ic_14 : decode prog_19_method_23_code 14 = .ok (.iload 5, 2) := by decide +kernel
theorem ds_ic_16 : decode prog_19_method_23_code 16 = .ok (.baload, 1) := by decide +kernel
theorem ds_ic_17 : decode prog_19_method_23_code 17 = .ok (.iload 4, 2) := by decide +kernel
theorem ds_ic_19 : decode prog_19_method_23_code 19 = .ok (.if_icmp .ne 6, 3) := by decide +kernel
theorem ds_ic_22 : decode prog_19_method_23_code 22 = .ok (.iload 5, 2) := by decide +kernel
theorem ds_ic_24 : decode prog_19_method_23_code 24 = .ok (.ireturn, 1) := by decide +kernel
theorem ds_ic_25 : decode prog_19_method_23_code 25 = .ok (.iinc 5 1, 3) := by decide +kernel
theorem ds_ic_28 : decode prog_19_method_23_code 28 = .ok (.goto (-21), 3) := by decide +kernel
theorem ds_ic_31 : decode prog_19_method_23_code 31 = .ok (.iconst (-1), 1) := by decide +kernel
theorem ds_ic_32 : decode prog_19_method_23_code 32 = .ok (.ireturn, 1) := by decide +kernel
abbrev ys_la : MethodName := ⟨"java/lang/String", "isLatin1", "()Z"⟩
abbrev wz_la : Cond := .code ys_la prog_18_method_154_code 1 (some .boolean)
abbrev ys_cd : MethodName := ⟨"java/lang/String", "coder", "()B"⟩
abbrev wz_cd : Cond := .code ys_cd prog_18_method_152_code 1 (some .byte)
abbrev ys_ln : MethodName := ⟨"java/lang/String", "length", "()I"⟩
abbrev wz_ln : Cond := .code ys_ln prog_18_method_54_code 1 (some .int)
abbrev ys_x1 : MethodName := ⟨"java/lang/String", "indexOf", "(I)I"⟩
abbrev wz_x1 : Cond := .code ys_x1 prog_18_method_79_code 2 (some .int)
abbrev ys_x2 : MethodName := ⟨"java/lang/String", "indexOf", "(II)I"⟩
abbrev wz_x2 : Cond := .code ys_x2 prog_18_method_80_code 3 (some .int)
abbrev ys_ce : MethodName := ⟨"java/lang/StringLatin1", "canEncode", "(I)Z"⟩
abbrev wz_ce : Cond := .code ys_ce prog_19_method_4_code 1 (some .boolean)
abbrev ys_ix : MethodName := ⟨"java/lang/StringLatin1", "indexOf", "([BIII)I"⟩
abbrev wz_ix : Cond := .code ys_ix prog_19_method_22_code 4 (some .int)
abbrev ys_ic : MethodName := ⟨"java/lang/StringLatin1", "indexOfChar", "([BIII)I"⟩
abbrev wz_ic : Cond := .code ys_ic prog_19_method_23_code 6 (some .int)
abbrev RM (f n : Nat) : Room := { frames := f, cells := 0, slots := 0, locals := n }
def SEV (k : Nat) (adV : Nat → Nat) (base : Nat) (U : State) : Prop := vk_S 1 [12] STB (fun _ => k) adV (fun q => base ≤ q) U U.heap ∧ va_Z "java/lang/String" "COMPACT_STRINGS" "Z" (.int 1) (fun q => base ≤ q) U U.heap
theorem SEV.call {k base : Nat} {adV : Nat → Nat} {U : State} (h : SEV k adV base U) (g : JFrame) (mk : MethodId) (a : Array Value) : SEV k adV base (U.calling g mk a) := ⟨vk_S.moved (u := U) (U := U.calling g mk a) (Vm.Alike.refl U.vm) h.1, va_Z.moved (u := U) (U := U.calling g mk a) (Vm.Alike.refl U.vm) h.2⟩
theorem SEV.to {k base : Nat} {adV : Nat → Nat} {s U : State} (h : SEV k adV base s) (hh : U.heap = s.heap) (hW : s.WarmedH U.vm) : SEV k adV base U := by
  obtain ⟨h1, h2⟩ := h
  refine ⟨?_, ?_⟩
  · have := vk_S.moved (U := U) hW.alike h1
    rw [← hh] at this
    exact this
  · have := va_Z.moved (U := U) hW.alike h2
    rw [← hh] at this
    exact this
theorem tw_cd : ∀ w ∈ ([.methodLink "java/lang/String" 335 ys_cd, .instanceMethod ys_cd, .selects "java/lang/String" ys_cd ys_cd, .initialized "java/lang/String", wz_cd] : List Cond), w ∈ TB := by
  simp only [List.forall_mem_cons]
  refine ⟨by decide +kernel, by decide +kernel, by decide +kernel, by decide +kernel, by decide +kernel, fun _ h => by cases h⟩
theorem tw_la : ∀ w ∈ ([.methodLink "java/lang/String" 492 ys_la, .instanceMethod ys_la, .selects "java/lang/String" ys_la ys_la, .initialized "java/lang/String", wz_la] : List Cond), w ∈ TB := by
  simp only [List.forall_mem_cons]
  refine ⟨by decide +kernel, by decide +kernel, by decide +kernel, by decide +kernel, by decide +kernel, fun _ h => by cases h⟩
theorem tw_ln : ∀ w ∈ ([.methodLink "java/lang/String" 505 ys_ln, .instanceMethod ys_ln, .selects "java/lang/String" ys_ln ys_ln, .initialized "java/lang/String", wz_ln] : List Cond), w ∈ TB := by
  simp only [List.forall_mem_cons]
  refine ⟨by decide +kernel, by decide +kernel, by decide +kernel, by decide +kernel, by decide +kernel, fun _ h => by cases h⟩
theorem tw_x2 : ∀ w ∈ ([.methodLink "java/lang/String" 633 ys_x2, .instanceMethod ys_x2, .selects "java/lang/String" ys_x2 ys_x2, .initialized "java/lang/String", wz_x2] : List Cond), w ∈ TB := by
  simp only [List.forall_mem_cons]
  refine ⟨by decide +kernel, by decide +kernel, by decide +kernel, by decide +kernel, by decide +kernel, fun _ h => by cases h⟩
theorem tw_ix : ∀ w ∈ ([.methodLink "java/lang/String" 637 ys_ix, .static ys_ix, .initialized "java/lang/StringLatin1", wz_ix] : List Cond), w ∈ TB := by
  simp only [List.forall_mem_cons]
  refine ⟨by decide +kernel, by decide +kernel, by decide +kernel, by decide +kernel, fun _ h => by cases h⟩
theorem tw_ce : ∀ w ∈ ([.methodLink "java/lang/StringLatin1" 88 ys_ce, .static ys_ce, .initialized "java/lang/StringLatin1", wz_ce] : List Cond), w ∈ TB := by
  simp only [List.forall_mem_cons]
  refine ⟨by decide +kernel, by decide +kernel, by decide +kernel, by decide +kernel, fun _ h => by cases h⟩
theorem tw_ic : ∀ w ∈ ([.methodLink "java/lang/StringLatin1" 95 ys_ic, .static ys_ic, .initialized "java/lang/StringLatin1", wz_ic] : List Cond), w ∈ TB := by
  simp only [List.forall_mem_cons]
  refine ⟨by decide +kernel, by decide +kernel, by decide +kernel, by decide +kernel, fun _ h => by cases h⟩
theorem tw_mm : ∀ w ∈ ([.methodLink "java/lang/StringLatin1" 92 Lib.Math.max.name, .static Lib.Math.max.name, .initialized "java/lang/Math", .code Lib.Math.max.name Lib.Math.max.code 2 (some .int), .methodLink "java/lang/StringLatin1" 38 Lib.Math.min.name, .static Lib.Math.min.name, .code Lib.Math.min.name Lib.Math.min.code 2 (some .int)] : List Cond), w ∈ TB := by
  simp only [List.forall_mem_cons]
  refine ⟨by decide +kernel, by decide +kernel, by decide +kernel, by decide +kernel, by decide +kernel, by decide +kernel, by decide +kernel, fun _ h => by cases h⟩
theorem tw_f : ∀ w ∈ ([.fieldLink "java/lang/String" 38 "java/lang/String" "COMPACT_STRINGS" "Z", .fieldLink "java/lang/String" 15 "java/lang/String" "coder" "B", .fieldLink "java/lang/String" 9 "java/lang/String" "value" "[B"] : List Cond), w ∈ TB := by
  simp only [List.forall_mem_cons]
  refine ⟨by decide +kernel, by decide +kernel, by decide +kernel, fun _ h => by cases h⟩
theorem gd_cd : GoodIn TB (wsV "java/lang/String" 335 "java/lang/String" ys_cd (wz_cd :: TB)) := good_TB fun w hw => by
  unfold wsV at hw
  rcases List.mem_append.mp hw with h | h
  · exact tw_cd w (List.mem_append_left [wz_cd] h)
  · rcases List.mem_cons.mp h with h | h
    · exact tw_cd w (List.mem_append_right ([.methodLink "java/lang/String" 335 ys_cd, .instanceMethod ys_cd, .selects "java/lang/String" ys_cd ys_cd, .initialized "java/lang/String"] : List Cond) (List.mem_singleton.mpr h))
    · exact h
theorem gd_la : GoodIn TB (wsV "java/lang/String" 492 "java/lang/String" ys_la (wz_la :: TB)) := good_TB fun w hw => by
  unfold wsV at hw
  rcases List.mem_append.mp hw with h | h
  · exact tw_la w (List.mem_append_left [wz_la] h)
  · rcases List.mem_cons.mp h with h | h
    · exact tw_la w (List.mem_append_right ([.methodLink "java/lang/String" 492 ys_la, .instanceMethod ys_la, .selects "java/lang/String" ys_la ys_la, .initialized "java/lang/String"] : List Cond) (List.mem_singleton.mpr h))
    · exact h
theorem gd_ln : GoodIn TB (wsV "java/lang/String" 505 "java/lang/String" ys_ln (wz_ln :: TB)) := good_TB fun w hw => by
  unfold wsV at hw
  rcases List.mem_append.mp hw with h | h
  · exact tw_ln w (List.mem_append_left [wz_ln] h)
  · rcases List.mem_cons.mp h with h | h
    · exact tw_ln w (List.mem_append_right ([.methodLink "java/lang/String" 505 ys_ln, .instanceMethod ys_ln, .selects "java/lang/String" ys_ln ys_ln, .initialized "java/lang/String"] : List Cond) (List.mem_singleton.mpr h))
    · exact h
theorem gd_x2 : GoodIn TB (wsV "java/lang/String" 633 "java/lang/String" ys_x2 (wz_x2 :: TB)) := good_TB fun w hw => by
  unfold wsV at hw
  rcases List.mem_append.mp hw with h | h
  · exact tw_x2 w (List.mem_append_left [wz_x2] h)
  · rcases List.mem_cons.mp h with h | h
    · exact tw_x2 w (List.mem_append_right ([.methodLink "java/lang/String" 633 ys_x2, .instanceMethod ys_x2, .selects "java/lang/String" ys_x2 ys_x2, .initialized "java/lang/String"] : List Cond) (List.mem_singleton.mpr h))
    · exact h
theorem gd_ix : GoodIn TB (va_wsS "java/lang/String" 637 ys_ix (wz_ix :: TB)) := good_TB fun w hw => by
  unfold va_wsS at hw
  rcases List.mem_append.mp hw with h | h
  · exact tw_ix w (List.mem_append_left [wz_ix] h)
  · rcases List.mem_cons.mp h with h | h
    · exact tw_ix w (List.mem_append_right ([.methodLink "java/lang/String" 637 ys_ix, .static ys_ix, .initialized "java/lang/StringLatin1"] : List Cond) (List.mem_singleton.mpr h))
    · exact h
theorem gd_ce : GoodIn TB (va_wsS "java/lang/StringLatin1" 88 ys_ce (wz_ce :: TB)) := good_TB fun w hw => by
  unfold va_wsS at hw
  rcases List.mem_append.mp hw with h | h
  · exact tw_ce w (List.mem_append_left [wz_ce] h)
  · rcases List.mem_cons.mp h with h | h
    · exact tw_ce w (List.mem_append_right ([.methodLink "java/lang/StringLatin1" 88 ys_ce, .static ys_ce, .initialized "java/lang/StringLatin1"] : List Cond) (List.mem_singleton.mpr h))
    · exact h
theorem gd_ic : GoodIn TB (va_wsS "java/lang/StringLatin1" 95 ys_ic (wz_ic :: TB)) := good_TB fun w hw => by
  unfold va_wsS at hw
  rcases List.mem_append.mp hw with h | h
  · exact tw_ic w (List.mem_append_left [wz_ic] h)
  · rcases List.mem_cons.mp h with h | h
    · exact tw_ic w (List.mem_append_right ([.methodLink "java/lang/StringLatin1" 95 ys_ic, .static ys_ic, .initialized "java/lang/StringLatin1"] : List Cond) (List.mem_singleton.mpr h))
    · exact h
set_option maxHeartbeats 4000000 in
set_option maxRecDepth 100000 in
theorem c_sla (l : Launch) (k : Nat) (adV : Nat → Nat) (base : Nat) : Met l ys_la (wz_la :: TB) (RM 0 0) (va_Pc [.ref k] (SEV k adV base)) (vp_Si fun r => r = 1) 0 0 (fun _ => False) := by
  refine Met.ofW (cc := prog_18_method_154_code) (maxL := 1) (ret := some .boolean) (by decide) rfl ?_
  intro p e s m args below meth c s₁ B hml hv
  obtain ⟨rfl, hE, hZ⟩ := hv
  have hx := B.exec
  have hb := B.bytes
  have hr := B.returns
  have hts0 := atoms_spec (ws := wz_la :: TB) B.pre
  have hts : ∀ w ∈ TB, w.before ([.ref k] : List Value).toArray s = true := fun w hw => hts0 w (List.mem_cons_of_mem _ hw)
  have hown : s.vm.findClass "java/lang/String" = some m.cls := findClass_of_methodNamed B.named
  have hlocks := B.notSynchronized
  have hl := lv_entry ([.ref k]) (n := 1) (Nat.le_of_ble_eq_true rfl)
  rw [lg_entry_eq]
  generalize (lg_sl ([.ref k]) ++ List.replicate (1 - (lg_sl ([.ref k])).length) Slot.unset).toArray = ls at hl ⊢
  have hl : lv_has ls 1 [(0, .ref k)] := hl
  have hS : va_S (fun q => base ≤ q) s.heap s.heap [] := va_S.rf
  refine va_gets hx hb hZ hS hown (hts _ (tw_f (.fieldLink "java/lang/String" 38 "java/lang/String" "COMPACT_STRINGS" "Z") (by simp))) (fun _ h => h) ds_la_0 ?_
  refine lv_if_eq hx hb (tgt := 17) ds_la_3 rfl (fun h => absurd h (by decide)) (fun _ => ?_)
  refine lv_aload_n hx hb ds_la_6 rfl (lv_at hl 0 rfl) ?_
  refine vk_getf hx hb (hE.1 0 (by decide)).2.1 hS hown (hts _ (tw_f (.fieldLink "java/lang/String" 15 "java/lang/String" "coder" "B") (by simp))) (fun _ h => h) ds_la_7 ?_
  refine lv_if_ne hx hb (tgt := 17) ds_la_10 rfl (fun h => absurd rfl h) (fun _ => ?_)
  refine lv_iconst hx hb ds_la_13 rfl ?_
  refine lv_goto hx hb (tgt := 18) ds_la_14 rfl ?_
  exact W.zret (ty := .boolean) hx hb hr rfl (fun t ht _ => ⟨_, rfl, rfl, ht⟩) (fun q h => by cases h) ds_la_18
set_option maxHeartbeats 4000000 in
set_option maxRecDepth 100000 in
theorem c_scd (l : Launch) (k : Nat) (adV : Nat → Nat) (base : Nat) : Met l ys_cd (wz_cd :: TB) (RM 0 0) (va_Pc [.ref k] (SEV k adV base)) (vp_Si fun r => r = 0) 0 0 (fun _ => False) := by
  refine Met.ofW (cc := prog_18_method_152_code) (maxL := 1) (ret := some .byte) (by decide) rfl ?_
  intro p e s m args below meth c s₁ B hml hv
  obtain ⟨rfl, hE, hZ⟩ := hv
  have hx := B.exec
  have hb := B.bytes
  have hr := B.returns
  have hts0 := atoms_spec (ws := wz_cd :: TB) B.pre
  have hts : ∀ w ∈ TB, w.before ([.ref k] : List Value).toArray s = true := fun w hw => hts0 w (List.mem_cons_of_mem _ hw)
  have hown : s.vm.findClass "java/lang/String" = some m.cls := findClass_of_methodNamed B.named
  have hlocks := B.notSynchronized
  have hl := lv_entry ([.ref k]) (n := 1) (Nat.le_of_ble_eq_true rfl)
  rw [lg_entry_eq]
  generalize (lg_sl ([.ref k]) ++ List.replicate (1 - (lg_sl ([.ref k])).length) Slot.unset).toArray = ls at hl ⊢
  have hl : lv_has ls 1 [(0, .ref k)] := hl
  have hS : va_S (fun q => base ≤ q) s.heap s.heap [] := va_S.rf
  refine va_gets hx hb hZ hS hown (hts _ (tw_f (.fieldLink "java/lang/String" 38 "java/lang/String" "COMPACT_STRINGS" "Z") (by simp))) (fun _ h => h) ds_cd_0 ?_
  refine lv_if_eq hx hb (tgt := 13) ds_cd_3 rfl (fun h => absurd h (by decide)) (fun _ => ?_)
  refine lv_aload_n hx hb ds_cd_6 rfl (lv_at hl 0 rfl) ?_
  refine vk_getf hx hb (hE.1 0 (by decide)).2.1 hS hown (hts _ (tw_f (.fieldLink "java/lang/String" 15 "java/lang/String" "coder" "B") (by simp))) (fun _ h => h) ds_cd_7 ?_
  refine lv_goto hx hb (tgt := 14) ds_cd_10 rfl ?_
  exact W.zret (ty := .byte) hx hb hr rfl (fun t ht _ => ⟨_, rfl, rfl, ht⟩) (fun q h => by cases h) ds_cd_14
set_option maxHeartbeats 4000000 in
set_option maxRecDepth 100000 in
theorem c_sln (l : Launch) (k : Nat) (adV : Nat → Nat) (base : Nat) : Met l ys_ln (wz_ln :: TB) (RM 1 40) (va_Pc [.ref k] (SEV k adV base)) (vp_Si fun r => r = nI 12) 0 0 (fun _ => False) := by
  refine Met.ofW (cc := prog_18_method_54_code) (maxL := 1) (ret := some .int) (by decide) rfl ?_
  intro p e s m args below meth c s₁ B hml hv
  obtain ⟨rfl, hE, hZ⟩ := hv
  have hx := B.exec
  have hb := B.bytes
  have hr := B.returns
  have hts0 := atoms_spec (ws := wz_ln :: TB) B.pre
  have hts : ∀ w ∈ TB, w.before ([.ref k] : List Value).toArray s = true := fun w hw => hts0 w (List.mem_cons_of_mem _ hw)
  have hown : s.vm.findClass "java/lang/String" = some m.cls := findClass_of_methodNamed B.named
  have hlocks := B.notSynchronized
  have hl := lv_entry ([.ref k]) (n := 1) (Nat.le_of_ble_eq_true rfl)
  rw [lg_entry_eq]
  generalize (lg_sl ([.ref k]) ++ List.replicate (1 - (lg_sl ([.ref k])).length) Slot.unset).toArray = ls at hl ⊢
  have hl : lv_has ls 1 [(0, .ref k)] := hl
  have hS : va_S (fun q => base ≤ q) s.heap s.heap [] := va_S.rf
  refine lv_aload_n hx hb ds_ln_0 rfl (lv_at hl 0 rfl) ?_
  refine vk_getf hx hb (hE.1 0 (by decide)).2.2.1 hS hown (hts _ (tw_f (.fieldLink "java/lang/String" 9 "java/lang/String" "value" "[B") (by simp))) (fun _ h => h) ds_ln_1 ?_
  refine va_tlen hx hb (v := nI 12) (hE.1 0 (by decide)).2.2.2 hS rfl ds_ln_4 ?_
  refine lv_aload_n hx hb ds_ln_5 rfl (lv_at hl 0 rfl) ?_
  refine vp_callSi (W.runV (As := []) (rest := [.int (nI 12)]) ⟨hx, hb, hml, hown, hts⟩ (c_scd l k adV base) (cwV 0 hts gd_cd rfl rfl rfl (by decide +kernel) ⟨Nat.le_of_ble_eq_true rfl, Nat.le_of_ble_eq_true rfl⟩) ⟨fun a U g mk q => ⟨q.1, q.2.call g mk a⟩, vk_recv (i := 0) hE (Nat.zero_lt_succ 0) hS, fun U hU hW => ⟨rfl, SEV.to ⟨hE, hZ⟩ hU hW⟩⟩ rfl rfl hl.1 rfl (lv_room (Nat.le_of_ble_eq_true rfl)) ds_ln_6 ⟨Nat.zero_le _, Nat.zero_le _⟩) (fun r er => ?_)
  subst er
  refine lv_ishr hx hb ds_ln_9 ?_
  exact W.iret hx hb hr (fun t ht _ => ⟨_, rfl, (by decide), ht⟩) (fun q h => by cases h) ds_ln_10
def canE (x : Int32) : Int32 := if x < 0 then 0 else if 255 < x then 0 else 1
set_option maxHeartbeats 4000000 in
set_option maxRecDepth 100000 in
theorem c_sce (l : Launch) (k : Nat) (adV : Nat → Nat) (base : Nat) (x : Int32) : Met l ys_ce (wz_ce :: TB) (RM 0 0) (va_Pc [.int x] (fun _ => True)) (vp_Si fun r => r = canE x) 0 0 (fun _ => False) := by
  refine Met.ofW (cc := prog_19_method_4_code) (maxL := 1) (ret := some .boolean) (by decide) rfl ?_
  intro p e s m args below meth c s₁ B hml hv
  obtain ⟨rfl, -⟩ := hv
  have hx := B.exec
  have hb := B.bytes
  have hr := B.returns
  have hts0 := atoms_spec (ws := wz_ce :: TB) B.pre
  have hts : ∀ w ∈ TB, w.before ([.int x] : List Value).toArray s = true := fun w hw => hts0 w (List.mem_cons_of_mem _ hw)
  have hown : s.vm.findClass "java/lang/StringLatin1" = some m.cls := findClass_of_methodNamed B.named
  have hlocks := B.notSynchronized
  have hl := lv_entry ([.int x]) (n := 1) (Nat.le_of_ble_eq_true rfl)
  rw [lg_entry_eq]
  generalize (lg_sl ([.int x]) ++ List.replicate (1 - (lg_sl ([.int x])).length) Slot.unset).toArray = ls at hl ⊢
  have hl : lv_has ls 1 [(0, .int x)] := hl
  have hS : va_S (fun q => base ≤ q) s.heap s.heap [] := va_S.rf
  refine lv_iload_n hx hb ds_ce_0 rfl (lv_at hl 0 rfl) ?_
  refine lv_if_lt hx hb (tgt := 15) ds_ce_1 rfl (fun h => ?_) (fun h => ?_)
  · refine lv_iconst hx hb ds_ce_15 rfl ?_
    exact W.zret (ty := .boolean) hx hb hr rfl (fun t ht _ => ⟨_, rfl, (if_pos h).symm, ht⟩) (fun q h => by cases h) ds_ce_16
  refine lv_iload_n hx hb ds_ce_4 rfl (lv_at hl 0 rfl) ?_
  refine lv_sipush hx hb (v := 255) ds_ce_5 (by decide) ?_
  refine lv_icmp_gt hx hb (tgt := 15) ds_ce_8 rfl (fun h2 => ?_) (fun h2 => ?_)
  · refine lv_iconst hx hb ds_ce_15 rfl ?_
    exact W.zret (ty := .boolean) hx hb hr rfl (fun t ht _ => ⟨_, rfl, (by unfold canE; rw [if_neg h, if_pos h2]; rfl), ht⟩) (fun q h => by cases h) ds_ce_16
  · refine lv_iconst hx hb ds_ce_11 rfl ?_
    refine lv_goto hx hb (tgt := 16) ds_ce_12 rfl ?_
    exact W.zret (ty := .boolean) hx hb hr rfl (fun t ht _ => ⟨_, rfl, (by unfold canE; rw [if_neg h, if_neg h2]; rfl), ht⟩) (fun q h => by cases h) ds_ce_16
theorem ix_len : idxL.length = 12 := rfl
theorem ix_drop : ∀ j, j < 12 → idxL.drop j = idxL.getD j 0 :: idxL.drop (j + 1) := by decide
theorem stb_0 (j : Nat) : (STB.getD 0 []).getD j 0 = idxL.getD j 0 := rfl
section IXL
variable {p : Program} {l : Launch} {e : Env} {R : Room} {s : State} {m : MethodId} {args : Array Value} {below : List Frame} {meth : Method} {c : Code} {H : Heap} {locs : List Loc} {cells slots : Nat} {Q : State → Prop}
theorem ix_loop {adV : Nat → Nat} {base : Nat} {b x0 z0 : Int32} (hx : p.tables.exec = Jvm.exec) (hb : c.code = prog_19_method_23_code) (hT : va_T .byte (adV 0) 12 (fun j => .int ((STB.getD 0 []).getD j 0)) (fun q => base ≤ q) s s.heap) (hS : va_S (fun q => base ≤ q) s.heap H locs) (kr : ∀ (ls : Array Slot) (r : Int32) (pc : Nat), (pc = 24 ∨ pc = 32) → r = idxGo b idxL 0 → W p l e R s m args below meth c H locs cells slots Q (F0 m pc ls [.int r])) :
    ∀ (n j : Nat) (ls : Array Slot), j + n = 12 → idxGo b (idxL.drop j) (nI j) = idxGo b idxL 0 → lv_has ls 6 [(5, .int (nI j)), (4, .int b), (0, .ref (adV 0)), (1, .int x0), (2, .int z0), (3, .int (nI 12))] → W p l e R s m args below meth c H locs cells slots Q (F0 m 7 ls []) := by
  intro n
  induction n with
  | zero =>
    intro j ls hj he hl
    have hj : j = 12 := by omega
    subst hj
    refine lv_iload hx hb ds_ic_7 (lv_at hl 0 rfl) ?_
    refine lv_iload_n hx hb ds_ic_9 rfl (lv_at hl 5 rfl) ?_
    refine lv_icmp_ge hx hb (tgt := 31) ds_ic_10 rfl (fun _ => ?_) (fun h => absurd (Int32.le_refl _) h)
    refine lv_iconst hx hb (v := -1) ds_ic_31 (by decide) ?_
    exact kr ls (-1) 32 (Or.inr rfl) (show (-1 : Int32) = idxGo b idxL 0 from he)
  | succ n ih =>
    intro j ls hj he hl
    refine lv_iload hx hb ds_ic_7 (lv_at hl 0 rfl) ?_
    refine lv_iload_n hx hb ds_ic_9 rfl (lv_at hl 5 rfl) ?_
    refine lv_icmp_ge hx hb (tgt := 31) ds_ic_10 rfl (fun h => absurd h (nI_ge (a := j) (b := 12) (by omega) (by decide))) (fun _ => ?_)
    refine lv_aload_n hx hb ds_ic_13 rfl (lv_at hl 2 rfl) ?_
    refine lv_iload hx hb ds_ic_14 (lv_at hl 0 rfl) ?_
    refine va_tb hx hb hT hS (nI_in (c := j) (N := 12) (by omega) (by decide)) (v := .int (idxL.getD j 0)) (by rw [nI_clamp (by omega)]; rfl) ds_ic_16 ?_
    refine lv_iload hx hb ds_ic_17 (lv_at hl 1 rfl) ?_
    have e2 : idxGo b (idxL.getD j 0 :: idxL.drop (j + 1)) (nI j) = if b = idxL.getD j 0 then nI j else idxGo b (idxL.drop (j + 1)) (nI j + 1) := rfl
    rw [ix_drop j (by omega), e2] at he
    refine lv_icmp_ne hx hb (tgt := 25) ds_ic_19 rfl (fun h => ?_) (fun h => ?_)
    · rw [if_neg (fun h2 => h h2.symm)] at he
      refine lv_iinc hx hb (k := 0) (v := nI (j + 1)) (lv' := [(5, .int (nI (j + 1))), (4, .int b), (0, .ref (adV 0)), (1, .int x0), (2, .int z0), (3, .int (nI 12))]) ds_ic_25 hl rfl (k1 j) (by decide) rfl (fun ls2 hl2 => ?_)
      refine lv_goto hx hb (tgt := 7) ds_ic_28 rfl ?_
      refine ih (j + 1) ls2 (by omega) ?_ hl2
      rw [← nI_1]
      exact he
    · rw [if_pos h.symm] at he
      refine lv_iload hx hb ds_ic_22 (lv_at hl 0 rfl) ?_
      exact kr ls (nI j) 24 (Or.inl rfl) he
end IXL
set_option maxHeartbeats 4000000 in
set_option maxRecDepth 100000 in
theorem c_sic (l : Launch) (k : Nat) (adV : Nat → Nat) (base : Nat) (x : Int32) : Met l ys_ic (wz_ic :: TB) (RM 0 0) (va_Pc [.ref (adV 0), .int x, .int 0, .int (nI 12)] (SEV k adV base)) (vp_Si fun r => r = idxGo x.toInt8.toInt32 idxL 0) 0 0 (fun _ => False) := by
  refine Met.ofW (cc := prog_19_method_23_code) (maxL := 6) (ret := some .int) (by decide) rfl ?_
  intro p e s m args below meth c s₁ B hml hv
  obtain ⟨rfl, hE, hZ⟩ := hv
  have hx := B.exec
  have hb := B.bytes
  have hr := B.returns
  have hts0 := atoms_spec (ws := wz_ic :: TB) B.pre
  have hts : ∀ w ∈ TB, w.before ([.ref (adV 0), .int x, .int 0, .int (nI 12)] : List Value).toArray s = true := fun w hw => hts0 w (List.mem_cons_of_mem _ hw)
  have hown : s.vm.findClass "java/lang/StringLatin1" = some m.cls := findClass_of_methodNamed B.named
  have hlocks := B.notSynchronized
  have hl := lv_entry ([.ref (adV 0), .int x, .int 0, .int (nI 12)]) (n := 6) (Nat.le_of_ble_eq_true rfl)
  rw [lg_entry_eq]
  generalize (lg_sl ([.ref (adV 0), .int x, .int 0, .int (nI 12)]) ++ List.replicate (6 - (lg_sl ([.ref (adV 0), .int x, .int 0, .int (nI 12)])).length) Slot.unset).toArray = ls at hl ⊢
  have hl : lv_has ls 6 [(0, .ref (adV 0)), (1, .int x), (2, .int 0), (3, .int (nI 12))] := hl
  have hS : va_S (fun q => base ≤ q) s.heap s.heap [] := va_S.rf
  refine lv_iload_n hx hb ds_ic_0 rfl (lv_at hl 1 rfl) ?_
  refine lv_i2b hx hb ds_ic_1 rfl ?_
  refine lv_istore hx hb (lv' := [(4, .int x.toInt8.toInt32), (0, .ref (adV 0)), (1, .int x), (2, .int 0), (3, .int (nI 12))]) ds_ic_2 hl (by decide) rfl (fun ls2 hl2 => ?_)
  refine lv_iload_n hx hb ds_ic_4 rfl (lv_at hl2 3 rfl) ?_
  refine lv_istore hx hb (lv' := [(5, .int 0), (4, .int x.toInt8.toInt32), (0, .ref (adV 0)), (1, .int x), (2, .int 0), (3, .int (nI 12))]) ds_ic_5 hl2 (by decide) rfl (fun ls3 hl3 => ?_)
  refine ix_loop (adV := adV) (base := base) (b := x.toInt8.toInt32) hx hb (hE.1 0 (by decide)).2.2.2 hS (fun ls4 r pc hp er => ?_) 12 0 ls3 rfl rfl hl3
  rcases hp with rfl | rfl
  · exact W.iret hx hb hr (fun t ht _ => ⟨_, rfl, er, ht⟩) (fun q h => by cases h) ds_ic_24
  · exact W.iret hx hb hr (fun t ht _ => ⟨_, rfl, er, ht⟩) (fun q h => by cases h) ds_ic_32
theorem ix_none {x : Int32} : ∀ (l : List Int32) (n : Int32), (∀ a ∈ l, ¬ x = a) → idxGo x l n = -1
  | [], _, _ => rfl
  | a :: l, n, h => by
    show (if x = a then n else idxGo x l (n + 1)) = -1
    rw [if_neg (h a List.mem_cons_self)]
    exact ix_none l (n + 1) (fun b hb => h b (List.mem_cons_of_mem _ hb))
theorem ix_rng : ∀ a ∈ idxL, ¬ a < 0 ∧ ¬ 127 < a := by decide
theorem ix_byte : ∀ n, n < 256 → idxGo (nI n).toInt8.toInt32 idxL 0 = idxOf (nI n) := by decide +kernel
theorem ix_can {x : Int32} (h : ¬ canE x = 0) : idxGo x.toInt8.toInt32 idxL 0 = idxOf x := by
  unfold canE at h
  split at h
  · exact absurd rfl h
  · rename_i h0
    split at h
    · exact absurd rfl h
    · rename_i h1
      obtain ⟨n, hn, rfl⟩ := nI_of h0
      refine ix_byte n ?_
      rcases Nat.lt_or_ge n 256 with q | q
      · exact q
      · exact absurd (nI_lt (a := 255) (b := n) (by omega) hn) h1
theorem ix_cannot {x : Int32} (h : canE x = 0) : idxOf x = -1 := by
  refine ix_none idxL 0 (fun a ha e => ?_)
  subst e
  obtain ⟨h1, h2⟩ := ix_rng x ha
  unfold canE at h
  rw [if_neg h1] at h
  split at h
  · rename_i h3
    refine h2 (Int32.lt_trans (by decide) h3)
  · exact absurd h (by decide)
set_option maxHeartbeats 4000000 in
set_option maxRecDepth 100000 in
theorem c_six (l : Launch) (k : Nat) (adV : Nat → Nat) (base : Nat) (x : Int32) : Met l ys_ix (wz_ix :: TB) (RM 1 100) (va_Pc [.ref (adV 0), .int x, .int 0, .int (nI 12)] (SEV k adV base)) (vp_Si fun r => r = idxOf x) 0 0 (fun _ => False) := by
  refine Met.ofW (cc := prog_19_method_22_code) (maxL := 4) (ret := some .int) (by decide) rfl ?_
  intro p e s m args below meth c s₁ B hml hv
  obtain ⟨rfl, hE, hZ⟩ := hv
  have hx := B.exec
  have hb := B.bytes
  have hr := B.returns
  have hts0 := atoms_spec (ws := wz_ix :: TB) B.pre
  have hts : ∀ w ∈ TB, w.before ([.ref (adV 0), .int x, .int 0, .int (nI 12)] : List Value).toArray s = true := fun w hw => hts0 w (List.mem_cons_of_mem _ hw)
  have hown : s.vm.findClass "java/lang/StringLatin1" = some m.cls := findClass_of_methodNamed B.named
  have hlocks := B.notSynchronized
  have hl := lv_entry ([.ref (adV 0), .int x, .int 0, .int (nI 12)]) (n := 4) (Nat.le_of_ble_eq_true rfl)
  rw [lg_entry_eq]
  generalize (lg_sl ([.ref (adV 0), .int x, .int 0, .int (nI 12)]) ++ List.replicate (4 - (lg_sl ([.ref (adV 0), .int x, .int 0, .int (nI 12)])).length) Slot.unset).toArray = ls at hl ⊢
  have hl : lv_has ls 4 [(0, .ref (adV 0)), (1, .int x), (2, .int 0), (3, .int (nI 12))] := hl
  have hS : va_S (fun q => base ≤ q) s.heap s.heap [] := va_S.rf
  refine lv_iload_n hx hb ds_ix_0 rfl (lv_at hl 1 rfl) ?_
  refine vp_callSi (W.runS (As := [.int x]) (rest := []) ⟨hx, hb, hml, hown, hts⟩ (c_sce l k adV base x) (va_cwS 1 hts gd_ce rfl rfl rfl (by decide +kernel) ⟨Nat.le_of_ble_eq_true rfl, Nat.le_of_ble_eq_true rfl⟩) ⟨fun a U g mk q => ⟨q.1, trivial⟩, fun U hU hW => ⟨rfl, trivial⟩⟩ rfl rfl hl.1 rfl (lv_room (Nat.le_of_ble_eq_true rfl)) ds_ix_1 ⟨Nat.zero_le _, Nat.zero_le _⟩) (fun r er => ?_)
  subst er
  refine lv_if_ne hx hb (tgt := 9) ds_ix_4 rfl (fun h => ?_) (fun h => ?_)
  · refine lv_iload_n hx hb ds_ix_9 rfl (lv_at hl 2 rfl) ?_
    refine lv_iconst hx hb (v := 0) ds_ix_10 rfl ?_
    refine va_mmax hx hb (hml.trans hl.1.symm) hown (hts _ (tw_mm _ (by simp))) (hts _ (tw_mm _ (by simp))) (hts _ (tw_mm _ (by simp))) (hts _ (tw_mm _ (by simp))) (Nat.le_of_ble_eq_true rfl) (Nat.le_of_ble_eq_true rfl) (Nat.zero_le _) (Nat.zero_le _) ds_ix_11 ?_
    have e0 : (if (0 : Int32) < 0 then (0 : Int32) else 0) = 0 := by decide
    rw [e0]
    refine lv_istore_n hx hb (lv' := [(2, .int 0), (0, .ref (adV 0)), (1, .int x), (3, .int (nI 12))]) ds_ix_14 rfl hl (by decide) rfl (fun ls2 hl2 => ?_)
    refine lv_iload_n hx hb ds_ix_15 rfl (lv_at hl2 3 rfl) ?_
    refine lv_aload_n hx hb ds_ix_16 rfl (lv_at hl2 1 rfl) ?_
    refine va_tlen hx hb (v := nI 12) (hE.1 0 (by decide)).2.2.2 hS rfl ds_ix_17 ?_
    refine va_mmin hx hb (hml.trans hl2.1.symm) hown (hts _ (tw_mm _ (by simp))) (hts _ (tw_mm _ (by simp))) (hts _ (tw_mm _ (by simp))) (hts _ (tw_mm _ (by simp))) (Nat.le_of_ble_eq_true rfl) (Nat.le_of_ble_eq_true rfl) (Nat.zero_le _) (Nat.zero_le _) ds_ix_18 ?_
    have e1 : (if nI 12 < nI 12 then nI 12 else nI 12) = nI 12 := ite_self _
    rw [e1]
    refine lv_istore_n hx hb (lv' := [(3, .int (nI 12)), (2, .int 0), (0, .ref (adV 0)), (1, .int x)]) ds_ix_21 rfl hl2 (by decide) rfl (fun ls3 hl3 => ?_)
    have hl := hl3
    refine lv_iload_n hx hb ds_ix_22 rfl (lv_at hl 1 rfl) ?_
    refine lv_iload_n hx hb ds_ix_23 rfl (lv_at hl 0 rfl) ?_
    refine lv_icmp_lt hx hb (tgt := 29) ds_ix_24 rfl (fun _ => ?_) (fun h9 => absurd (by decide) h9)
    refine lv_aload_n hx hb ds_ix_29 rfl (lv_at hl 2 rfl) ?_
    refine lv_iload_n hx hb ds_ix_30 rfl (lv_at hl 3 rfl) ?_
    refine lv_iload_n hx hb ds_ix_31 rfl (lv_at hl 1 rfl) ?_
    refine lv_iload_n hx hb ds_ix_32 rfl (lv_at hl 0 rfl) ?_
    refine vp_callSi (W.runS (As := [.ref (adV 0), .int x, .int 0, .int (nI 12)]) (rest := []) ⟨hx, hb, hml, hown, hts⟩ (c_sic l k adV base x) (va_cwS 4 hts gd_ic rfl rfl rfl (by decide +kernel) ⟨Nat.le_of_ble_eq_true rfl, Nat.le_of_ble_eq_true rfl⟩) ⟨fun a U g mk q => ⟨q.1, q.2.call g mk a⟩, fun U hU hW => ⟨rfl, SEV.to ⟨hE, hZ⟩ hU hW⟩⟩ rfl rfl hl.1 rfl (lv_room (Nat.le_of_ble_eq_true rfl)) ds_ix_33 ⟨Nat.zero_le _, Nat.zero_le _⟩) (fun r er => ?_)
    subst er
    exact W.iret hx hb hr (fun t ht _ => ⟨_, rfl, (ix_can h), ht⟩) (fun q h => by cases h) ds_ix_36
  · refine lv_iconst hx hb (v := -1) ds_ix_7 (by decide) ?_
    exact W.iret hx hb hr (fun t ht _ => ⟨_, rfl, (ix_cannot h).symm, ht⟩) (fun q h => by cases h) ds_ix_8
set_option maxHeartbeats 4000000 in
set_option maxRecDepth 100000 in
theorem c_sx2 (l : Launch) (k : Nat) (adV : Nat → Nat) (base : Nat) (x : Int32) : Met l ys_x2 (wz_x2 :: TB) (RM 2 300) (va_Pc [.ref k, .int x, .int 0] (SEV k adV base)) (vp_Si fun r => r = idxOf x) 0 0 (fun _ => False) := by
  refine Met.ofW (cc := prog_18_method_80_code) (maxL := 3) (ret := some .int) (by decide) rfl ?_
  intro p e s m args below meth c s₁ B hml hv
  obtain ⟨rfl, hE, hZ⟩ := hv
  have hx := B.exec
  have hb := B.bytes
  have hr := B.returns
  have hts0 := atoms_spec (ws := wz_x2 :: TB) B.pre
  have hts : ∀ w ∈ TB, w.before ([.ref k, .int x, .int 0] : List Value).toArray s = true := fun w hw => hts0 w (List.mem_cons_of_mem _ hw)
  have hown : s.vm.findClass "java/lang/String" = some m.cls := findClass_of_methodNamed B.named
  have hlocks := B.notSynchronized
  have hl := lv_entry ([.ref k, .int x, .int 0]) (n := 3) (Nat.le_of_ble_eq_true rfl)
  rw [lg_entry_eq]
  generalize (lg_sl ([.ref k, .int x, .int 0]) ++ List.replicate (3 - (lg_sl ([.ref k, .int x, .int 0])).length) Slot.unset).toArray = ls at hl ⊢
  have hl : lv_has ls 3 [(0, .ref k), (1, .int x), (2, .int 0)] := hl
  have hS : va_S (fun q => base ≤ q) s.heap s.heap [] := va_S.rf
  refine lv_aload_n hx hb ds_x2_0 rfl (lv_at hl 0 rfl) ?_
  refine vp_callSi (W.runV (As := []) (rest := []) ⟨hx, hb, hml, hown, hts⟩ (c_sla l k adV base) (cwV 0 hts gd_la rfl rfl rfl (by decide +kernel) ⟨Nat.le_of_ble_eq_true rfl, Nat.le_of_ble_eq_true rfl⟩) ⟨fun a U g mk q => ⟨q.1, q.2.call g mk a⟩, vk_recv (i := 0) hE (Nat.zero_lt_succ 0) hS, fun U hU hW => ⟨rfl, SEV.to ⟨hE, hZ⟩ hU hW⟩⟩ rfl rfl hl.1 rfl (lv_room (Nat.le_of_ble_eq_true rfl)) ds_x2_1 ⟨Nat.zero_le _, Nat.zero_le _⟩) (fun r er => ?_)
  subst er
  refine lv_if_eq hx hb (tgt := 23) ds_x2_4 rfl (fun h => absurd h (by decide)) (fun _ => ?_)
  refine lv_aload_n hx hb ds_x2_7 rfl (lv_at hl 0 rfl) ?_
  refine vk_getf hx hb (hE.1 0 (by decide)).2.2.1 hS hown (hts _ (tw_f (.fieldLink "java/lang/String" 9 "java/lang/String" "value" "[B") (by simp))) (fun _ h => h) ds_x2_8 ?_
  refine lv_iload_n hx hb ds_x2_11 rfl (lv_at hl 1 rfl) ?_
  refine lv_iload_n hx hb ds_x2_12 rfl (lv_at hl 2 rfl) ?_
  refine lv_aload_n hx hb ds_x2_13 rfl (lv_at hl 0 rfl) ?_
  refine vp_callSi (W.runV (As := []) (rest := [.int 0, .int x, .ref (adV 0)]) ⟨hx, hb, hml, hown, hts⟩ (c_sln l k adV base) (cwV 0 hts gd_ln rfl rfl rfl (by decide +kernel) ⟨Nat.le_of_ble_eq_true rfl, Nat.le_of_ble_eq_true rfl⟩) ⟨fun a U g mk q => ⟨q.1, q.2.call g mk a⟩, vk_recv (i := 0) hE (Nat.zero_lt_succ 0) hS, fun U hU hW => ⟨rfl, SEV.to ⟨hE, hZ⟩ hU hW⟩⟩ rfl rfl hl.1 rfl (lv_room (Nat.le_of_ble_eq_true rfl)) ds_x2_14 ⟨Nat.zero_le _, Nat.zero_le _⟩) (fun r er => ?_)
  subst er
  refine vp_callSi (W.runS (As := [.ref (adV 0), .int x, .int 0, .int (nI 12)]) (rest := []) ⟨hx, hb, hml, hown, hts⟩ (c_six l k adV base x) (va_cwS 4 hts gd_ix rfl rfl rfl (by decide +kernel) ⟨Nat.le_of_ble_eq_true rfl, Nat.le_of_ble_eq_true rfl⟩) ⟨fun a U g mk q => ⟨q.1, q.2.call g mk a⟩, fun U hU hW => ⟨rfl, SEV.to ⟨hE, hZ⟩ hU hW⟩⟩ rfl rfl hl.1 rfl (lv_room (Nat.le_of_ble_eq_true rfl)) ds_x2_17 ⟨Nat.zero_le _, Nat.zero_le _⟩) (fun r er => ?_)
  subst er
  refine lv_goto hx hb (tgt := 36) ds_x2_20 rfl ?_
  exact W.iret hx hb hr (fun t ht _ => ⟨_, rfl, rfl, ht⟩) (fun q h => by cases h) ds_x2_36
set_option maxHeartbeats 4000000 in
set_option maxRecDepth 100000 in
theorem str_met (l : Launch) (D : va_G) (cI cB cQ : ClassId) (ad adV : Nat → Nat) (X : Scr) (base : Nat) : StrMet l (ENV D cI cB cQ ad adV X base) (ad 100001) := by
  intro x
  obtain ⟨k, hk⟩ : ∃ k, k = ad 100001 := ⟨_, rfl⟩
  rw [← hk]
  refine Met.ofW (cc := prog_18_method_79_code) (maxL := 2) (ret := some .int) (by decide) rfl ?_
  intro p e s m args below meth c s₁ B hml hv
  obtain ⟨rfl, -, -, -, -, -, hE, hZ⟩ := hv
  have hx := B.exec
  have hb := B.bytes
  have hr := B.returns
  have hts0 := atoms_spec (ws := wz_x1 :: TB) B.pre
  have hts : ∀ w ∈ TB, w.before ([.ref k, .int x] : List Value).toArray s = true := fun w hw => hts0 w (List.mem_cons_of_mem _ hw)
  have hown : s.vm.findClass "java/lang/String" = some m.cls := findClass_of_methodNamed B.named
  have hlocks := B.notSynchronized
  have hl := lv_entry ([.ref k, .int x]) (n := 2) (Nat.le_of_ble_eq_true rfl)
  rw [lg_entry_eq]
  generalize (lg_sl ([.ref k, .int x]) ++ List.replicate (2 - (lg_sl ([.ref k, .int x])).length) Slot.unset).toArray = ls at hl ⊢
  have hl : lv_has ls 2 [(0, .ref k), (1, .int x)] := hl
  have hS : va_S (fun q => base ≤ q) s.heap s.heap [] := va_S.rf
  rw [← hk] at hE
  refine lv_aload_n hx hb ds_x1_0 rfl (lv_at hl 0 rfl) ?_
  refine lv_iload_n hx hb ds_x1_1 rfl (lv_at hl 1 rfl) ?_
  refine lv_iconst hx hb (v := 0) ds_x1_2 rfl ?_
  refine vp_callSi (W.runV (As := [.int x, .int 0]) (rest := []) ⟨hx, hb, hml, hown, hts⟩ (c_sx2 l k adV base x) (cwV 2 hts gd_x2 rfl rfl rfl (by decide +kernel) ⟨Nat.le_of_ble_eq_true rfl, Nat.le_of_ble_eq_true rfl⟩) ⟨fun a U g mk q => ⟨q.1, q.2.call g mk a⟩, vk_recv (i := 0) hE (Nat.zero_lt_succ 0) hS, fun U hU hW => ⟨rfl, SEV.to ⟨hE, hZ⟩ hU hW⟩⟩ rfl rfl hl.1 rfl (lv_room (Nat.le_of_ble_eq_true rfl)) ds_x1_3 ⟨Nat.zero_le _, Nat.zero_le _⟩) (fun r er => ?_)
  subst er
  exact W.iret hx hb hr (fun t ht _ => ⟨_, rfl, rfl, ht⟩) (fun q h => by cases h) ds_x1_6
end STR
