def b2i (p : Prop) [Decidable p] : Int32 := if p then 1 else 0
theorem cl_153 : RCT[153]? = some rc_153 := rfl
theorem cl_154 : RCT[154]? = some rc_154 := rfl
set_option maxRecDepth 10000 in
theorem t1 {X : Scr} {d : Nat} {sh : Sh} {w : Wd} (a lo hi : Int32) (e1 : pcmp .lt a lo = true) : stpN X d rc_153 4 (0, [some (.int a), some (.int lo), some (.int hi)], [], sh, w) = some (15, [some (.int a), some (.int lo), some (.int hi)], [.int 0], sh, w) := by
  simp [stpN, stp, cdI, rc_153, pstep, pkind, plocal, pjump, pstack, e1]
set_option maxRecDepth 10000 in
theorem t2 {X : Scr} {d : Nat} {sh : Sh} {w : Wd} (a lo hi : Int32)  : stpN X d rc_153 2 (0, [some (.int a), some (.int lo), some (.int hi)], [], sh, w) = some (2, [some (.int a), some (.int lo), some (.int hi)], [.int lo, .int a], sh, w) := rfl
set_option maxRecDepth 10000 in
theorem t3 {X : Scr} {d : Nat} {sh : Sh} {w : Wd} (a lo hi : Int32)  : stpN X d rc_153 3 (0, [some (.int a), some (.int lo), some (.int hi)], [], sh, w) = if pcmp .lt a lo = true then some (14, [some (.int a), some (.int lo), some (.int hi)], [], sh, w) else some (5, [some (.int a), some (.int lo), some (.int hi)], [], sh, w) := rfl
