set_option maxRecDepth 20000 in
theorem cl_202 : RCT[202]? = some rc_202 := rfl
theorem s_202_110_at0 {X : Scr} {d : Nat} {Q : Option Value → Sh → Wd → Prop} (w : Wd)  (i1 : (¬ (w 110 12) ≤ (w 110 11) → (inB (w 110 11) 260 = true))) (i2 : ¬ (F_157 ((F_175_110 w) - (kI 97)) (kI 0) (kI 5) w) = 0 → ¬ (w 110 35) = (kI 20) → ¬ (F_164_110 ((F_175_110 w) - (kI 97)) w) = 0 → (¬ ((up2 w 110 11 ((w 110 11) + (kI 1))) 110 12) ≤ ((up2 w 110 11 ((w 110 11) + (kI 1))) 110 11) → (inB ((up2 w 110 11 ((w 110 11) + (kI 1))) 110 11) 260 = true))) (i3 : ¬ (F_157 ((F_175_110 w) - (kI 97)) (kI 0) (kI 5) w) = 0 → ¬ (w 110 35) = (kI 20) → ¬ (F_164_110 ((F_175_110 w) - (kI 97)) w) = 0 → ¬ (F_157 ((F_175_110 (up2 w 110 11 ((w 110 11) + (kI 1)))) - (kI 48)) (kI 0) (kI 5) (up2 w 110 11 ((w 110 11) + (kI 1)))) = 0 → ¬ (F_165_110 ((F_175_110 (up2 w 110 11 ((w 110 11) + (kI 1)))) - (kI 48)) (up2 w 110 11 ((w 110 11) + (kI 1)))) = 0 → (¬ ((up2 (up2 w 110 11 ((w 110 11) + (kI 1))) 110 11 (((w 110 11) + (kI 1)) + (kI 1))) 110 12) ≤ ((up2 (up2 w 110 11 ((w 110 11) + (kI 1))) 110 11 (((w 110 11) + (kI 1)) + (kI 1))) 110 11) → (inB ((up2 (up2 w 110 11 ((w 110 11) + (kI 1))) 110 11 (((w 110 11) + (kI 1)) + (kI 1))) 110 11) 260 = true))) (i4 : ¬ (F_157 ((F_175_110 w) - (kI 97)) (kI 0) (kI 5) w) = 0 → ¬ (w 110 35) = (kI 20) → ¬ (F_164_110 ((F_175_110 w) - (kI 97)) w) = 0 → ¬ (F_157 ((F_175_110 (up2 w 110 11 ((w 110 11) + (kI 1)))) - (kI 48)) (kI 0) (kI 5) (up2 w 110 11 ((w 110 11) + (kI 1)))) = 0 → ¬ (F_165_110 ((F_175_110 (up2 w 110 11 ((w 110 11) + (kI 1)))) - (kI 48)) (up2 w 110 11 ((w 110 11) + (kI 1)))) = 0 → ¬ (F_175_110 (up2 (up2 w 110 11 ((w 110 11) + (kI 1))) 110 11 (((w 110 11) + (kI 1)) + (kI 1)))) = (kI 43) → (¬ ((up2 (up2 w 110 11 ((w 110 11) + (kI 1))) 110 11 (((w 110 11) + (kI 1)) + (kI 1))) 110 12) ≤ ((up2 (up2 w 110 11 ((w 110 11) + (kI 1))) 110 11 (((w 110 11) + (kI 1)) + (kI 1))) 110 11) → (inB ((up2 (up2 w 110 11 ((w 110 11) + (kI 1))) 110 11 (((w 110 11) + (kI 1)) + (kI 1))) 110 11) 260 = true))) (i5 : ¬ (F_157 ((F_175_110 w) - (kI 97)) (kI 0) (kI 5) w) = 0 → ¬ (w 110 35) = (kI 20) → ¬ (F_164_110 ((F_175_110 w) - (kI 97)) w) = 0 → ¬ (F_157 ((F_175_110 (up2 w 110 11 ((w 110 11) + (kI 1)))) - (kI 48)) (kI 0) (kI 5) (up2 w 110 11 ((w 110 11) + (kI 1)))) = 0 → ¬ (F_165_110 ((F_175_110 (up2 w 110 11 ((w 110 11) + (kI 1)))) - (kI 48)) (up2 w 110 11 ((w 110 11) + (kI 1)))) = 0 → ¬ (F_175_110 (up2 (up2 w 110 11 ((w 110 11) + (kI 1))) 110 11 (((w 110 11) + (kI 1)) + (kI 1)))) = (kI 43) → ¬ (F_175_110 (up2 (up2 w 110 11 ((w 110 11) + (kI 1))) 110 11 (((w 110 11) + (kI 1)) + (kI 1)))) = (kI 45) → (Q (some (.int (F_177_110 (kI 1) (((w 110 11) + (kI 1)) + (kI 1)) (up2 (up2 w 110 11 ((w 110 11) + (kI 1))) 110 11 (((w 110 11) + (kI 1)) + (kI 1)))))) SH (G_177_110 (kI 1) (((w 110 11) + (kI 1)) + (kI 1)) (up2 (up2 w 110 11 ((w 110 11) + (kI 1))) 110 11 (((w 110 11) + (kI 1)) + (kI 1)))))) (i6 : ¬ (F_157 ((F_175_110 w) - (kI 97)) (kI 0) (kI 5) w) = 0 → ¬ (w 110 35) = (kI 20) → ¬ (F_164_110 ((F_175_110 w) - (kI 97)) w) = 0 → ¬ (F_157 ((F_175_110 (up2 w 110 11 ((w 110 11) + (kI 1)))) - (kI 48)) (kI 0) (kI 5) (up2 w 110 11 ((w 110 11) + (kI 1)))) = 0 → ¬ (F_165_110 ((F_175_110 (up2 w 110 11 ((w 110 11) + (kI 1)))) - (kI 48)) (up2 w 110 11 ((w 110 11) + (kI 1)))) = 0 → ¬ (F_175_110 (up2 (up2 w 110 11 ((w 110 11) + (kI 1))) 110 11 (((w 110 11) + (kI 1)) + (kI 1)))) = (kI 43) → (F_175_110 (up2 (up2 w 110 11 ((w 110 11) + (kI 1))) 110 11 (((w 110 11) + (kI 1)) + (kI 1)))) = (kI 45) → ((¬ ((up2 (up2 (up2 w 110 11 ((w 110 11) + (kI 1))) 110 11 (((w 110 11) + (kI 1)) + (kI 1))) 110 11 ((((w 110 11) + (kI 1)) + (kI 1)) + (kI 1))) 110 12) ≤ ((up2 (up2 (up2 w 110 11 ((w 110 11) + (kI 1))) 110 11 (((w 110 11) + (kI 1)) + (kI 1))) 110 11 ((((w 110 11) + (kI 1)) + (kI 1)) + (kI 1))) 110 11) → (inB ((up2 (up2 (up2 w 110 11 ((w 110 11) + (kI 1))) 110 11 (((w 110 11) + (kI 1)) + (kI 1))) 110 11 ((((w 110 11) + (kI 1)) + (kI 1)) + (kI 1))) 110 11) 260 = true)))) (i7 : ¬ (F_157 ((F_175_110 w) - (kI 97)) (kI 0) (kI 5) w) = 0 → ¬ (w 110 35) = (kI 20) → ¬ (F_164_110 ((F_175_110 w) - (kI 97)) w) = 0 → ¬ (F_157 ((F_175_110 (up2 w 110 11 ((w 110 11) + (kI 1)))) - (kI 48)) (kI 0) (kI 5) (up2 w 110 11 ((w 110 11) + (kI 1)))) = 0 → ¬ (F_165_110 ((F_175_110 (up2 w 110 11 ((w 110 11) + (kI 1)))) - (kI 48)) (up2 w 110 11 ((w 110 11) + (kI 1)))) = 0 → ¬ (F_175_110 (up2 (up2 w 110 11 ((w 110 11) + (kI 1))) 110 11 (((w 110 11) + (kI 1)) + (kI 1)))) = (kI 43) → (F_175_110 (up2 (up2 w 110 11 ((w 110 11) + (kI 1))) 110 11 (((w 110 11) + (kI 1)) + (kI 1)))) = (kI 45) → (¬ (F_175_110 (up2 (up2 (up2 w 110 11 ((w 110 11) + (kI 1))) 110 11 (((w 110 11) + (kI 1)) + (kI 1))) 110 11 ((((w 110 11) + (kI 1)) + (kI 1)) + (kI 1)))) < (kI 48) → (¬ ((up2 (up2 (up2 w 110 11 ((w 110 11) + (kI 1))) 110 11 (((w 110 11) + (kI 1)) + (kI 1))) 110 11 ((((w 110 11) + (kI 1)) + (kI 1)) + (kI 1))) 110 12) ≤ ((up2 (up2 (up2 w 110 11 ((w 110 11) + (kI 1))) 110 11 (((w 110 11) + (kI 1)) + (kI 1))) 110 11 ((((w 110 11) + (kI 1)) + (kI 1)) + (kI 1))) 110 11) → (inB ((up2 (up2 (up2 w 110 11 ((w 110 11) + (kI 1))) 110 11 (((w 110 11) + (kI 1)) + (kI 1))) 110 11 ((((w 110 11) + (kI 1)) + (kI 1)) + (kI 1))) 110 11) 260 = true)))) (i8 : ¬ (F_157 ((F_175_110 w) - (kI 97)) (kI 0) (kI 5) w) = 0 → ¬ (w 110 35) = (kI 20) → ¬ (F_164_110 ((F_175_110 w) - (kI 97)) w) = 0 → ¬ (F_157 ((F_175_110 (up2 w 110 11 ((w 110 11) + (kI 1)))) - (kI 48)) (kI 0) (kI 5) (up2 w 110 11 ((w 110 11) + (kI 1)))) = 0 → ¬ (F_165_110 ((F_175_110 (up2 w 110 11 ((w 110 11) + (kI 1)))) - (kI 48)) (up2 w 110 11 ((w 110 11) + (kI 1)))) = 0 → ¬ (F_175_110 (up2 (up2 w 110 11 ((w 110 11) + (kI 1))) 110 11 (((w 110 11) + (kI 1)) + (kI 1)))) = (kI 43) → (F_175_110 (up2 (up2 w 110 11 ((w 110 11) + (kI 1))) 110 11 (((w 110 11) + (kI 1)) + (kI 1)))) = (kI 45) → ¬ (F_176_110 (up2 (up2 (up2 w 110 11 ((w 110 11) + (kI 1))) 110 11 (((w 110 11) + (kI 1)) + (kI 1))) 110 11 ((((w 110 11) + (kI 1)) + (kI 1)) + (kI 1)))) = 0 → (EV X (d + 2) 202 (209, [some (.ref 110), some (.int ((F_175_110 w) - (kI 97))), some (.int ((F_175_110 (up2 w 110 11 ((w 110 11) + (kI 1)))) - (kI 48))), some (.int (kI (-1))), some (.int ((((w 110 11) + (kI 1)) + (kI 1)) + (kI 1))), some (.int (kI 0))], [], SH, (up2 (up2 (up2 w 110 11 ((w 110 11) + (kI 1))) 110 11 (((w 110 11) + (kI 1)) + (kI 1))) 110 11 ((((w 110 11) + (kI 1)) + (kI 1)) + (kI 1)))) Q)) (i9 : ¬ (F_157 ((F_175_110 w) - (kI 97)) (kI 0) (kI 5) w) = 0 → ¬ (w 110 35) = (kI 20) → ¬ (F_164_110 ((F_175_110 w) - (kI 97)) w) = 0 → ¬ (F_157 ((F_175_110 (up2 w 110 11 ((w 110 11) + (kI 1)))) - (kI 48)) (kI 0) (kI 5) (up2 w 110 11 ((w 110 11) + (kI 1)))) = 0 → ¬ (F_165_110 ((F_175_110 (up2 w 110 11 ((w 110 11) + (kI 1)))) - (kI 48)) (up2 w 110 11 ((w 110 11) + (kI 1)))) = 0 → ¬ (F_175_110 (up2 (up2 w 110 11 ((w 110 11) + (kI 1))) 110 11 (((w 110 11) + (kI 1)) + (kI 1)))) = (kI 43) → (F_175_110 (up2 (up2 w 110 11 ((w 110 11) + (kI 1))) 110 11 (((w 110 11) + (kI 1)) + (kI 1)))) = (kI 45) → (F_176_110 (up2 (up2 (up2 w 110 11 ((w 110 11) + (kI 1))) 110 11 (((w 110 11) + (kI 1)) + (kI 1))) 110 11 ((((w 110 11) + (kI 1)) + (kI 1)) + (kI 1)))) = 0 → (Q (some (.int (F_177_110 (kI 1) ((((w 110 11) + (kI 1)) + (kI 1)) + (kI 1)) (up2 (up2 (up2 w 110 11 ((w 110 11) + (kI 1))) 110 11 (((w 110 11) + (kI 1)) + (kI 1))) 110 11 ((((w 110 11) + (kI 1)) + (kI 1)) + (kI 1)))))) SH (G_177_110 (kI 1) ((((w 110 11) + (kI 1)) + (kI 1)) + (kI 1)) (up2 (up2 (up2 w 110 11 ((w 110 11) + (kI 1))) 110 11 (((w 110 11) + (kI 1)) + (kI 1))) 110 11 ((((w 110 11) + (kI 1)) + (kI 1)) + (kI 1)))))) (i10 : ¬ (F_157 ((F_175_110 w) - (kI 97)) (kI 0) (kI 5) w) = 0 → ¬ (w 110 35) = (kI 20) → ¬ (F_164_110 ((F_175_110 w) - (kI 97)) w) = 0 → ¬ (F_157 ((F_175_110 (up2 w 110 11 ((w 110 11) + (kI 1)))) - (kI 48)) (kI 0) (kI 5) (up2 w 110 11 ((w 110 11) + (kI 1)))) = 0 → ¬ (F_165_110 ((F_175_110 (up2 w 110 11 ((w 110 11) + (kI 1)))) - (kI 48)) (up2 w 110 11 ((w 110 11) + (kI 1)))) = 0 → (F_175_110 (up2 (up2 w 110 11 ((w 110 11) + (kI 1))) 110 11 (((w 110 11) + (kI 1)) + (kI 1)))) = (kI 43) → ((¬ ((up2 (up2 (up2 w 110 11 ((w 110 11) + (kI 1))) 110 11 (((w 110 11) + (kI 1)) + (kI 1))) 110 11 ((((w 110 11) + (kI 1)) + (kI 1)) + (kI 1))) 110 12) ≤ ((up2 (up2 (up2 w 110 11 ((w 110 11) + (kI 1))) 110 11 (((w 110 11) + (kI 1)) + (kI 1))) 110 11 ((((w 110 11) + (kI 1)) + (kI 1)) + (kI 1))) 110 11) → (inB ((up2 (up2 (up2 w 110 11 ((w 110 11) + (kI 1))) 110 11 (((w 110 11) + (kI 1)) + (kI 1))) 110 11 ((((w 110 11) + (kI 1)) + (kI 1)) + (kI 1))) 110 11) 260 = true)))) (i11 : ¬ (F_157 ((F_175_110 w) - (kI 97)) (kI 0) (kI 5) w) = 0 → ¬ (w 110 35) = (kI 20) → ¬ (F_164_110 ((F_175_110 w) - (kI 97)) w) = 0 → ¬ (F_157 ((F_175_110 (up2 w 110 11 ((w 110 11) + (kI 1)))) - (kI 48)) (kI 0) (kI 5) (up2 w 110 11 ((w 110 11) + (kI 1)))) = 0 → ¬ (F_165_110 ((F_175_110 (up2 w 110 11 ((w 110 11) + (kI 1)))) - (kI 48)) (up2 w 110 11 ((w 110 11) + (kI 1)))) = 0 → (F_175_110 (up2 (up2 w 110 11 ((w 110 11) + (kI 1))) 110 11 (((w 110 11) + (kI 1)) + (kI 1)))) = (kI 43) → (¬ (F_175_110 (up2 (up2 (up2 w 110 11 ((w 110 11) + (kI 1))) 110 11 (((w 110 11) + (kI 1)) + (kI 1))) 110 11 ((((w 110 11) + (kI 1)) + (kI 1)) + (kI 1)))) < (kI 48) → (¬ ((up2 (up2 (up2 w 110 11 ((w 110 11) + (kI 1))) 110 11 (((w 110 11) + (kI 1)) + (kI 1))) 110 11 ((((w 110 11) + (kI 1)) + (kI 1)) + (kI 1))) 110 12) ≤ ((up2 (up2 (up2 w 110 11 ((w 110 11) + (kI 1))) 110 11 (((w 110 11) + (kI 1)) + (kI 1))) 110 11 ((((w 110 11) + (kI 1)) + (kI 1)) + (kI 1))) 110 11) → (inB ((up2 (up2 (up2 w 110 11 ((w 110 11) + (kI 1))) 110 11 (((w 110 11) + (kI 1)) + (kI 1))) 110 11 ((((w 110 11) + (kI 1)) + (kI 1)) + (kI 1))) 110 11) 260 = true)))) (i12 : ¬ (F_157 ((F_175_110 w) - (kI 97)) (kI 0) (kI 5) w) = 0 → ¬ (w 110 35) = (kI 20) → ¬ (F_164_110 ((F_175_110 w) - (kI 97)) w) = 0 → ¬ (F_157 ((F_175_110 (up2 w 110 11 ((w 110 11) + (kI 1)))) - (kI 48)) (kI 0) (kI 5) (up2 w 110 11 ((w 110 11) + (kI 1)))) = 0 → ¬ (F_165_110 ((F_175_110 (up2 w 110 11 ((w 110 11) + (kI 1)))) - (kI 48)) (up2 w 110 11 ((w 110 11) + (kI 1)))) = 0 → (F_175_110 (up2 (up2 w 110 11 ((w 110 11) + (kI 1))) 110 11 (((w 110 11) + (kI 1)) + (kI 1)))) = (kI 43) → ¬ (F_176_110 (up2 (up2 (up2 w 110 11 ((w 110 11) + (kI 1))) 110 11 (((w 110 11) + (kI 1)) + (kI 1))) 110 11 ((((w 110 11) + (kI 1)) + (kI 1)) + (kI 1)))) = 0 → (EV X (d + 2) 202 (209, [some (.ref 110), some (.int ((F_175_110 w) - (kI 97))), some (.int ((F_175_110 (up2 w 110 11 ((w 110 11) + (kI 1)))) - (kI 48))), some (.int (kI 1)), some (.int ((((w 110 11) + (kI 1)) + (kI 1)) + (kI 1))), some (.int (kI 0))], [], SH, (up2 (up2 (up2 w 110 11 ((w 110 11) + (kI 1))) 110 11 (((w 110 11) + (kI 1)) + (kI 1))) 110 11 ((((w 110 11) + (kI 1)) + (kI 1)) + (kI 1)))) Q)) (i13 : ¬ (F_157 ((F_175_110 w) - (kI 97)) (kI 0) (kI 5) w) = 0 → ¬ (w 110 35) = (kI 20) → ¬ (F_164_110 ((F_175_110 w) - (kI 97)) w) = 0 → ¬ (F_157 ((F_175_110 (up2 w 110 11 ((w 110 11) + (kI 1)))) - (kI 48)) (kI 0) (kI 5) (up2 w 110 11 ((w 110 11) + (kI 1)))) = 0 → ¬ (F_165_110 ((F_175_110 (up2 w 110 11 ((w 110 11) + (kI 1)))) - (kI 48)) (up2 w 110 11 ((w 110 11) + (kI 1)))) = 0 → (F_175_110 (up2 (up2 w 110 11 ((w 110 11) + (kI 1))) 110 11 (((w 110 11) + (kI 1)) + (kI 1)))) = (kI 43) → (F_176_110 (up2 (up2 (up2 w 110 11 ((w 110 11) + (kI 1))) 110 11 (((w 110 11) + (kI 1)) + (kI 1))) 110 11 ((((w 110 11) + (kI 1)) + (kI 1)) + (kI 1)))) = 0 → (Q (some (.int (F_177_110 (kI 1) ((((w 110 11) + (kI 1)) + (kI 1)) + (kI 1)) (up2 (up2 (up2 w 110 11 ((w 110 11) + (kI 1))) 110 11 (((w 110 11) + (kI 1)) + (kI 1))) 110 11 ((((w 110 11) + (kI 1)) + (kI 1)) + (kI 1)))))) SH (G_177_110 (kI 1) ((((w 110 11) + (kI 1)) + (kI 1)) + (kI 1)) (up2 (up2 (up2 w 110 11 ((w 110 11) + (kI 1))) 110 11 (((w 110 11) + (kI 1)) + (kI 1))) 110 11 ((((w 110 11) + (kI 1)) + (kI 1)) + (kI 1)))))) (i14 : ¬ (F_157 ((F_175_110 w) - (kI 97)) (kI 0) (kI 5) w) = 0 → ¬ (w 110 35) = (kI 20) → ¬ (F_164_110 ((F_175_110 w) - (kI 97)) w) = 0 → ¬ (F_157 ((F_175_110 (up2 w 110 11 ((w 110 11) + (kI 1)))) - (kI 48)) (kI 0) (kI 5) (up2 w 110 11 ((w 110 11) + (kI 1)))) = 0 → (F_165_110 ((F_175_110 (up2 w 110 11 ((w 110 11) + (kI 1)))) - (kI 48)) (up2 w 110 11 ((w 110 11) + (kI 1)))) = 0 → (Q (some (.int (F_177_110 (kI 7) ((w 110 11) + (kI 1)) (up2 w 110 11 ((w 110 11) + (kI 1)))))) SH (G_177_110 (kI 7) ((w 110 11) + (kI 1)) (up2 w 110 11 ((w 110 11) + (kI 1)))))) (i15 : ¬ (F_157 ((F_175_110 w) - (kI 97)) (kI 0) (kI 5) w) = 0 → ¬ (w 110 35) = (kI 20) → ¬ (F_164_110 ((F_175_110 w) - (kI 97)) w) = 0 → (F_157 ((F_175_110 (up2 w 110 11 ((w 110 11) + (kI 1)))) - (kI 48)) (kI 0) (kI 5) (up2 w 110 11 ((w 110 11) + (kI 1)))) = 0 → (Q (some (.int (F_177_110 (kI 1) ((w 110 11) + (kI 1)) (up2 w 110 11 ((w 110 11) + (kI 1)))))) SH (G_177_110 (kI 1) ((w 110 11) + (kI 1)) (up2 w 110 11 ((w 110 11) + (kI 1)))))) (i16 : ¬ (F_157 ((F_175_110 w) - (kI 97)) (kI 0) (kI 5) w) = 0 → ¬ (w 110 35) = (kI 20) → (F_164_110 ((F_175_110 w) - (kI 97)) w) = 0 → (Q (some (.int (F_177_110 (kI 7) (w 110 11) w))) SH (G_177_110 (kI 7) (w 110 11) w))) (i17 : ¬ (F_157 ((F_175_110 w) - (kI 97)) (kI 0) (kI 5) w) = 0 → (w 110 35) = (kI 20) → (Q (some (.int (F_177_110 (kI 4) (w 110 11) w))) SH (G_177_110 (kI 4) (w 110 11) w))) (i18 : (F_157 ((F_175_110 w) - (kI 97)) (kI 0) (kI 5) w) = 0 → (Q (some (.int (F_177_110 (kI 1) (w 110 11) w))) SH (G_177_110 (kI 1) (w 110 11) w))) : EV X (d + 2) 202 (0, [some (.ref 110), none, none, none, none, none], [], SH, w) Q := by
  refine EV.steps cl_202 1 (q2 := (1, [some (.ref 110), none, none, none, none, none], [.ref 110], SH, w)) rfl ?_
  refine EV.callF (kc := 175) (av := [.ref 110]) (r := []) (rv := some (.int (F_175_110 w))) (w2 := w) cl_202 rfl rfl rfl (m_175_110 w  (i1)) ?_
  refine EV.steps cl_202 6 (q2 := (11, [some (.ref 110), some (.int ((F_175_110 w) - (kI 97))), none, none, none, none], [.int (kI 5), .int (kI 0), .int ((F_175_110 w) - (kI 97))], SH, w)) rfl ?_
  refine EV.callF (kc := 157) (av := [.int ((F_175_110 w) - (kI 97)), .int (kI 0), .int (kI 5)]) (r := []) (rv := some (.int (F_157 ((F_175_110 w) - (kI 97)) (kI 0) (kI 5) w))) (w2 := w) cl_202 rfl rfl rfl (m_157 w ((F_175_110 w) - (kI 97)) (kI 0) (kI 5)) ?_
  refine EV.z_ne cl_202 rfl (fun h1 => ?_) (fun h1 => ?_)
  · skip
    refine EV.steps cl_202 3 (q2 := (33, [some (.ref 110), some (.int ((F_175_110 w) - (kI 97))), none, none, none, none], [.int (kI 20), .int (w 110 35)], SH, w)) rfl ?_
    refine EV.i_ne cl_202 rfl (fun h2 => ?_) (fun h2 => ?_)
    · skip
      refine EV.steps cl_202 2 (q2 := (48, [some (.ref 110), some (.int ((F_175_110 w) - (kI 97))), none, none, none, none], [.int ((F_175_110 w) - (kI 97)), .ref 110], SH, w)) rfl ?_
      refine EV.callF (kc := 164) (av := [.ref 110, .int ((F_175_110 w) - (kI 97))]) (r := []) (rv := some (.int (F_164_110 ((F_175_110 w) - (kI 97)) w))) (w2 := w) cl_202 rfl rfl rfl (m_164_110 w ((F_175_110 w) - (kI 97))) ?_
      refine EV.z_ne cl_202 rfl (fun h3 => ?_) (fun h3 => ?_)
      · skip
        refine EV.steps cl_202 7 (q2 := (76, [some (.ref 110), some (.int ((F_175_110 w) - (kI 97))), none, none, none, none], [.ref 110], SH, (up2 w 110 11 ((w 110 11) + (kI 1))))) rfl ?_
        refine EV.callF (kc := 175) (av := [.ref 110]) (r := []) (rv := some (.int (F_175_110 (up2 w 110 11 ((w 110 11) + (kI 1)))))) (w2 := (up2 w 110 11 ((w 110 11) + (kI 1)))) cl_202 rfl rfl rfl (m_175_110 (up2 w 110 11 ((w 110 11) + (kI 1)))  (i2 h1 h2 h3)) ?_
        refine EV.steps cl_202 6 (q2 := (86, [some (.ref 110), some (.int ((F_175_110 w) - (kI 97))), some (.int ((F_175_110 (up2 w 110 11 ((w 110 11) + (kI 1)))) - (kI 48))), none, none, none], [.int (kI 5), .int (kI 0), .int ((F_175_110 (up2 w 110 11 ((w 110 11) + (kI 1)))) - (kI 48))], SH, (up2 w 110 11 ((w 110 11) + (kI 1))))) rfl ?_
        refine EV.callF (kc := 157) (av := [.int ((F_175_110 (up2 w 110 11 ((w 110 11) + (kI 1)))) - (kI 48)), .int (kI 0), .int (kI 5)]) (r := []) (rv := some (.int (F_157 ((F_175_110 (up2 w 110 11 ((w 110 11) + (kI 1)))) - (kI 48)) (kI 0) (kI 5) (up2 w 110 11 ((w 110 11) + (kI 1)))))) (w2 := (up2 w 110 11 ((w 110 11) + (kI 1)))) cl_202 rfl rfl rfl (m_157 (up2 w 110 11 ((w 110 11) + (kI 1))) ((F_175_110 (up2 w 110 11 ((w 110 11) + (kI 1)))) - (kI 48)) (kI 0) (kI 5)) ?_
        refine EV.z_ne cl_202 rfl (fun h4 => ?_) (fun h4 => ?_)
        · skip
          refine EV.steps cl_202 2 (q2 := (104, [some (.ref 110), some (.int ((F_175_110 w) - (kI 97))), some (.int ((F_175_110 (up2 w 110 11 ((w 110 11) + (kI 1)))) - (kI 48))), none, none, none], [.int ((F_175_110 (up2 w 110 11 ((w 110 11) + (kI 1)))) - (kI 48)), .ref 110], SH, (up2 w 110 11 ((w 110 11) + (kI 1))))) rfl ?_
          refine EV.callF (kc := 165) (av := [.ref 110, .int ((F_175_110 (up2 w 110 11 ((w 110 11) + (kI 1)))) - (kI 48))]) (r := []) (rv := some (.int (F_165_110 ((F_175_110 (up2 w 110 11 ((w 110 11) + (kI 1)))) - (kI 48)) (up2 w 110 11 ((w 110 11) + (kI 1)))))) (w2 := (up2 w 110 11 ((w 110 11) + (kI 1)))) cl_202 rfl rfl rfl (m_165_110 (up2 w 110 11 ((w 110 11) + (kI 1))) ((F_175_110 (up2 w 110 11 ((w 110 11) + (kI 1)))) - (kI 48))) ?_
          refine EV.z_ne cl_202 rfl (fun h5 => ?_) (fun h5 => ?_)
          · skip
            refine EV.steps cl_202 7 (q2 := (132, [some (.ref 110), some (.int ((F_175_110 w) - (kI 97))), some (.int ((F_175_110 (up2 w 110 11 ((w 110 11) + (kI 1)))) - (kI 48))), none, none, none], [.ref 110], SH, (up2 (up2 w 110 11 ((w 110 11) + (kI 1))) 110 11 (((w 110 11) + (kI 1)) + (kI 1))))) rfl ?_
            refine EV.callF (kc := 175) (av := [.ref 110]) (r := []) (rv := some (.int (F_175_110 (up2 (up2 w 110 11 ((w 110 11) + (kI 1))) 110 11 (((w 110 11) + (kI 1)) + (kI 1)))))) (w2 := (up2 (up2 w 110 11 ((w 110 11) + (kI 1))) 110 11 (((w 110 11) + (kI 1)) + (kI 1)))) cl_202 rfl rfl rfl (m_175_110 (up2 (up2 w 110 11 ((w 110 11) + (kI 1))) 110 11 (((w 110 11) + (kI 1)) + (kI 1)))  (i3 h1 h2 h3 h4 h5)) ?_
            refine EV.steps cl_202 1 (q2 := (137, [some (.ref 110), some (.int ((F_175_110 w) - (kI 97))), some (.int ((F_175_110 (up2 w 110 11 ((w 110 11) + (kI 1)))) - (kI 48))), none, none, none], [.int (kI 43), .int (F_175_110 (up2 (up2 w 110 11 ((w 110 11) + (kI 1))) 110 11 (((w 110 11) + (kI 1)) + (kI 1))))], SH, (up2 (up2 w 110 11 ((w 110 11) + (kI 1))) 110 11 (((w 110 11) + (kI 1)) + (kI 1))))) rfl ?_
            refine EV.i_ne cl_202 rfl (fun h6 => ?_) (fun h6 => ?_)
            · skip
              refine EV.steps cl_202 1 (q2 := (145, [some (.ref 110), some (.int ((F_175_110 w) - (kI 97))), some (.int ((F_175_110 (up2 w 110 11 ((w 110 11) + (kI 1)))) - (kI 48))), none, none, none], [.ref 110], SH, (up2 (up2 w 110 11 ((w 110 11) + (kI 1))) 110 11 (((w 110 11) + (kI 1)) + (kI 1))))) rfl ?_
              refine EV.callF (kc := 175) (av := [.ref 110]) (r := []) (rv := some (.int (F_175_110 (up2 (up2 w 110 11 ((w 110 11) + (kI 1))) 110 11 (((w 110 11) + (kI 1)) + (kI 1)))))) (w2 := (up2 (up2 w 110 11 ((w 110 11) + (kI 1))) 110 11 (((w 110 11) + (kI 1)) + (kI 1)))) cl_202 rfl rfl rfl (m_175_110 (up2 (up2 w 110 11 ((w 110 11) + (kI 1))) 110 11 (((w 110 11) + (kI 1)) + (kI 1)))  (i4 h1 h2 h3 h4 h5 h6)) ?_
              refine EV.steps cl_202 1 (q2 := (150, [some (.ref 110), some (.int ((F_175_110 w) - (kI 97))), some (.int ((F_175_110 (up2 w 110 11 ((w 110 11) + (kI 1)))) - (kI 48))), none, none, none], [.int (kI 45), .int (F_175_110 (up2 (up2 w 110 11 ((w 110 11) + (kI 1))) 110 11 (((w 110 11) + (kI 1)) + (kI 1))))], SH, (up2 (up2 w 110 11 ((w 110 11) + (kI 1))) 110 11 (((w 110 11) + (kI 1)) + (kI 1))))) rfl ?_
              refine EV.i_ne cl_202 rfl (fun h7 => ?_) (fun h7 => ?_)
              · skip
                refine EV.steps cl_202 8 (q2 := (169, [some (.ref 110), some (.int ((F_175_110 w) - (kI 97))), some (.int ((F_175_110 (up2 w 110 11 ((w 110 11) + (kI 1)))) - (kI 48))), some (.int (kI 0)), none, none], [.int (((w 110 11) + (kI 1)) + (kI 1)), .int (kI 1), .ref 110], SH, (up2 (up2 w 110 11 ((w 110 11) + (kI 1))) 110 11 (((w 110 11) + (kI 1)) + (kI 1))))) rfl ?_
                refine EV.callF (kc := 177) (av := [.ref 110, .int (kI 1), .int (((w 110 11) + (kI 1)) + (kI 1))]) (r := []) (rv := some (.int (F_177_110 (kI 1) (((w 110 11) + (kI 1)) + (kI 1)) (up2 (up2 w 110 11 ((w 110 11) + (kI 1))) 110 11 (((w 110 11) + (kI 1)) + (kI 1)))))) (w2 := (G_177_110 (kI 1) (((w 110 11) + (kI 1)) + (kI 1)) (up2 (up2 w 110 11 ((w 110 11) + (kI 1))) 110 11 (((w 110 11) + (kI 1)) + (kI 1))))) cl_202 rfl rfl rfl (m_177_110 (up2 (up2 w 110 11 ((w 110 11) + (kI 1))) 110 11 (((w 110 11) + (kI 1)) + (kI 1))) (kI 1) (((w 110 11) + (kI 1)) + (kI 1))) ?_
                refine EV.retB cl_202 rfl rfl (z1_177_110 (kI 1) (((w 110 11) + (kI 1)) + (kI 1)) (up2 (up2 w 110 11 ((w 110 11) + (kI 1))) 110 11 (((w 110 11) + (kI 1)) + (kI 1)))) ?_
                exact i5 h1 h2 h3 h4 h5 h6 h7
              · skip
                refine EV.steps cl_202 17 (q2 := (193, [some (.ref 110), some (.int ((F_175_110 w) - (kI 97))), some (.int ((F_175_110 (up2 w 110 11 ((w 110 11) + (kI 1)))) - (kI 48))), some (.int (kI (-1))), some (.int ((((w 110 11) + (kI 1)) + (kI 1)) + (kI 1))), some (.int (kI 0))], [.ref 110], SH, (up2 (up2 (up2 w 110 11 ((w 110 11) + (kI 1))) 110 11 (((w 110 11) + (kI 1)) + (kI 1))) 110 11 ((((w 110 11) + (kI 1)) + (kI 1)) + (kI 1))))) rfl ?_
                refine EV.callF (kc := 176) (av := [.ref 110]) (r := []) (rv := some (.int (F_176_110 (up2 (up2 (up2 w 110 11 ((w 110 11) + (kI 1))) 110 11 (((w 110 11) + (kI 1)) + (kI 1))) 110 11 ((((w 110 11) + (kI 1)) + (kI 1)) + (kI 1)))))) (w2 := (up2 (up2 (up2 w 110 11 ((w 110 11) + (kI 1))) 110 11 (((w 110 11) + (kI 1)) + (kI 1))) 110 11 ((((w 110 11) + (kI 1)) + (kI 1)) + (kI 1)))) cl_202 rfl rfl rfl (m_176_110 (up2 (up2 (up2 w 110 11 ((w 110 11) + (kI 1))) 110 11 (((w 110 11) + (kI 1)) + (kI 1))) 110 11 ((((w 110 11) + (kI 1)) + (kI 1)) + (kI 1)))  (i6 h1 h2 h3 h4 h5 h6 h7) (i7 h1 h2 h3 h4 h5 h6 h7)) ?_
                refine EV.z_ne cl_202 rfl (fun h8 => ?_) (fun h8 => ?_)
                · skip
                  exact i8 h1 h2 h3 h4 h5 h6 h7 h8
                · skip
                  refine EV.steps cl_202 4 (q2 := (205, [some (.ref 110), some (.int ((F_175_110 w) - (kI 97))), some (.int ((F_175_110 (up2 w 110 11 ((w 110 11) + (kI 1)))) - (kI 48))), some (.int (kI (-1))), some (.int ((((w 110 11) + (kI 1)) + (kI 1)) + (kI 1))), some (.int (kI 0))], [.int ((((w 110 11) + (kI 1)) + (kI 1)) + (kI 1)), .int (kI 1), .ref 110], SH, (up2 (up2 (up2 w 110 11 ((w 110 11) + (kI 1))) 110 11 (((w 110 11) + (kI 1)) + (kI 1))) 110 11 ((((w 110 11) + (kI 1)) + (kI 1)) + (kI 1))))) rfl ?_
                  refine EV.callF (kc := 177) (av := [.ref 110, .int (kI 1), .int ((((w 110 11) + (kI 1)) + (kI 1)) + (kI 1))]) (r := []) (rv := some (.int (F_177_110 (kI 1) ((((w 110 11) + (kI 1)) + (kI 1)) + (kI 1)) (up2 (up2 (up2 w 110 11 ((w 110 11) + (kI 1))) 110 11 (((w 110 11) + (kI 1)) + (kI 1))) 110 11 ((((w 110 11) + (kI 1)) + (kI 1)) + (kI 1)))))) (w2 := (G_177_110 (kI 1) ((((w 110 11) + (kI 1)) + (kI 1)) + (kI 1)) (up2 (up2 (up2 w 110 11 ((w 110 11) + (kI 1))) 110 11 (((w 110 11) + (kI 1)) + (kI 1))) 110 11 ((((w 110 11) + (kI 1)) + (kI 1)) + (kI 1))))) cl_202 rfl rfl rfl (m_177_110 (up2 (up2 (up2 w 110 11 ((w 110 11) + (kI 1))) 110 11 (((w 110 11) + (kI 1)) + (kI 1))) 110 11 ((((w 110 11) + (kI 1)) + (kI 1)) + (kI 1))) (kI 1) ((((w 110 11) + (kI 1)) + (kI 1)) + (kI 1))) ?_
                  refine EV.retB cl_202 rfl rfl (z1_177_110 (kI 1) ((((w 110 11) + (kI 1)) + (kI 1)) + (kI 1)) (up2 (up2 (up2 w 110 11 ((w 110 11) + (kI 1))) 110 11 (((w 110 11) + (kI 1)) + (kI 1))) 110 11 ((((w 110 11) + (kI 1)) + (kI 1)) + (kI 1)))) ?_
                  exact i9 h1 h2 h3 h4 h5 h6 h7 h8
            · skip
              refine EV.steps cl_202 17 (q2 := (193, [some (.ref 110), some (.int ((F_175_110 w) - (kI 97))), some (.int ((F_175_110 (up2 w 110 11 ((w 110 11) + (kI 1)))) - (kI 48))), some (.int (kI 1)), some (.int ((((w 110 11) + (kI 1)) + (kI 1)) + (kI 1))), some (.int (kI 0))], [.ref 110], SH, (up2 (up2 (up2 w 110 11 ((w 110 11) + (kI 1))) 110 11 (((w 110 11) + (kI 1)) + (kI 1))) 110 11 ((((w 110 11) + (kI 1)) + (kI 1)) + (kI 1))))) rfl ?_
              refine EV.callF (kc := 176) (av := [.ref 110]) (r := []) (rv := some (.int (F_176_110 (up2 (up2 (up2 w 110 11 ((w 110 11) + (kI 1))) 110 11 (((w 110 11) + (kI 1)) + (kI 1))) 110 11 ((((w 110 11) + (kI 1)) + (kI 1)) + (kI 1)))))) (w2 := (up2 (up2 (up2 w 110 11 ((w 110 11) + (kI 1))) 110 11 (((w 110 11) + (kI 1)) + (kI 1))) 110 11 ((((w 110 11) + (kI 1)) + (kI 1)) + (kI 1)))) cl_202 rfl rfl rfl (m_176_110 (up2 (up2 (up2 w 110 11 ((w 110 11) + (kI 1))) 110 11 (((w 110 11) + (kI 1)) + (kI 1))) 110 11 ((((w 110 11) + (kI 1)) + (kI 1)) + (kI 1)))  (i10 h1 h2 h3 h4 h5 h6) (i11 h1 h2 h3 h4 h5 h6)) ?_
              refine EV.z_ne cl_202 rfl (fun h9 => ?_) (fun h9 => ?_)
              · skip
                exact i12 h1 h2 h3 h4 h5 h6 h9
              · skip
                refine EV.steps cl_202 4 (q2 := (205, [some (.ref 110), some (.int ((F_175_110 w) - (kI 97))), some (.int ((F_175_110 (up2 w 110 11 ((w 110 11) + (kI 1)))) - (kI 48))), some (.int (kI 1)), some (.int ((((w 110 11) + (kI 1)) + (kI 1)) + (kI 1))), some (.int (kI 0))], [.int ((((w 110 11) + (kI 1)) + (kI 1)) + (kI 1)), .int (kI 1), .ref 110], SH, (up2 (up2 (up2 w 110 11 ((w 110 11) + (kI 1))) 110 11 (((w 110 11) + (kI 1)) + (kI 1))) 110 11 ((((w 110 11) + (kI 1)) + (kI 1)) + (kI 1))))) rfl ?_
                refine EV.callF (kc := 177) (av := [.ref 110, .int (kI 1), .int ((((w 110 11) + (kI 1)) + (kI 1)) + (kI 1))]) (r := []) (rv := some (.int (F_177_110 (kI 1) ((((w 110 11) + (kI 1)) + (kI 1)) + (kI 1)) (up2 (up2 (up2 w 110 11 ((w 110 11) + (kI 1))) 110 11 (((w 110 11) + (kI 1)) + (kI 1))) 110 11 ((((w 110 11) + (kI 1)) + (kI 1)) + (kI 1)))))) (w2 := (G_177_110 (kI 1) ((((w 110 11) + (kI 1)) + (kI 1)) + (kI 1)) (up2 (up2 (up2 w 110 11 ((w 110 11) + (kI 1))) 110 11 (((w 110 11) + (kI 1)) + (kI 1))) 110 11 ((((w 110 11) + (kI 1)) + (kI 1)) + (kI 1))))) cl_202 rfl rfl rfl (m_177_110 (up2 (up2 (up2 w 110 11 ((w 110 11) + (kI 1))) 110 11 (((w 110 11) + (kI 1)) + (kI 1))) 110 11 ((((w 110 11) + (kI 1)) + (kI 1)) + (kI 1))) (kI 1) ((((w 110 11) + (kI 1)) + (kI 1)) + (kI 1))) ?_
                refine EV.retB cl_202 rfl rfl (z1_177_110 (kI 1) ((((w 110 11) + (kI 1)) + (kI 1)) + (kI 1)) (up2 (up2 (up2 w 110 11 ((w 110 11) + (kI 1))) 110 11 (((w 110 11) + (kI 1)) + (kI 1))) 110 11 ((((w 110 11) + (kI 1)) + (kI 1)) + (kI 1)))) ?_
                exact i13 h1 h2 h3 h4 h5 h6 h9
          · skip
            refine EV.steps cl_202 4 (q2 := (117, [some (.ref 110), some (.int ((F_175_110 w) - (kI 97))), some (.int ((F_175_110 (up2 w 110 11 ((w 110 11) + (kI 1)))) - (kI 48))), none, none, none], [.int ((w 110 11) + (kI 1)), .int (kI 7), .ref 110], SH, (up2 w 110 11 ((w 110 11) + (kI 1))))) rfl ?_
            refine EV.callF (kc := 177) (av := [.ref 110, .int (kI 7), .int ((w 110 11) + (kI 1))]) (r := []) (rv := some (.int (F_177_110 (kI 7) ((w 110 11) + (kI 1)) (up2 w 110 11 ((w 110 11) + (kI 1)))))) (w2 := (G_177_110 (kI 7) ((w 110 11) + (kI 1)) (up2 w 110 11 ((w 110 11) + (kI 1))))) cl_202 rfl rfl rfl (m_177_110 (up2 w 110 11 ((w 110 11) + (kI 1))) (kI 7) ((w 110 11) + (kI 1))) ?_
            refine EV.retB cl_202 rfl rfl (z1_177_110 (kI 7) ((w 110 11) + (kI 1)) (up2 w 110 11 ((w 110 11) + (kI 1)))) ?_
            exact i14 h1 h2 h3 h4 h5
        · skip
          refine EV.steps cl_202 4 (q2 := (98, [some (.ref 110), some (.int ((F_175_110 w) - (kI 97))), some (.int ((F_175_110 (up2 w 110 11 ((w 110 11) + (kI 1)))) - (kI 48))), none, none, none], [.int ((w 110 11) + (kI 1)), .int (kI 1), .ref 110], SH, (up2 w 110 11 ((w 110 11) + (kI 1))))) rfl ?_
          refine EV.callF (kc := 177) (av := [.ref 110, .int (kI 1), .int ((w 110 11) + (kI 1))]) (r := []) (rv := some (.int (F_177_110 (kI 1) ((w 110 11) + (kI 1)) (up2 w 110 11 ((w 110 11) + (kI 1)))))) (w2 := (G_177_110 (kI 1) ((w 110 11) + (kI 1)) (up2 w 110 11 ((w 110 11) + (kI 1))))) cl_202 rfl rfl rfl (m_177_110 (up2 w 110 11 ((w 110 11) + (kI 1))) (kI 1) ((w 110 11) + (kI 1))) ?_
          refine EV.retB cl_202 rfl rfl (z1_177_110 (kI 1) ((w 110 11) + (kI 1)) (up2 w 110 11 ((w 110 11) + (kI 1)))) ?_
          exact i15 h1 h2 h3 h4
      · skip
        refine EV.steps cl_202 4 (q2 := (61, [some (.ref 110), some (.int ((F_175_110 w) - (kI 97))), none, none, none, none], [.int (w 110 11), .int (kI 7), .ref 110], SH, w)) rfl ?_
        refine EV.callF (kc := 177) (av := [.ref 110, .int (kI 7), .int (w 110 11)]) (r := []) (rv := some (.int (F_177_110 (kI 7) (w 110 11) w))) (w2 := (G_177_110 (kI 7) (w 110 11) w)) cl_202 rfl rfl rfl (m_177_110 w (kI 7) (w 110 11)) ?_
        refine EV.retB cl_202 rfl rfl (z1_177_110 (kI 7) (w 110 11) w) ?_
        exact i16 h1 h2 h3
    · skip
      refine EV.steps cl_202 4 (q2 := (42, [some (.ref 110), some (.int ((F_175_110 w) - (kI 97))), none, none, none, none], [.int (w 110 11), .int (kI 4), .ref 110], SH, w)) rfl ?_
      refine EV.callF (kc := 177) (av := [.ref 110, .int (kI 4), .int (w 110 11)]) (r := []) (rv := some (.int (F_177_110 (kI 4) (w 110 11) w))) (w2 := (G_177_110 (kI 4) (w 110 11) w)) cl_202 rfl rfl rfl (m_177_110 w (kI 4) (w 110 11)) ?_
      refine EV.retB cl_202 rfl rfl (z1_177_110 (kI 4) (w 110 11) w) ?_
      exact i17 h1 h2
  · skip
    refine EV.steps cl_202 4 (q2 := (23, [some (.ref 110), some (.int ((F_175_110 w) - (kI 97))), none, none, none, none], [.int (w 110 11), .int (kI 1), .ref 110], SH, w)) rfl ?_
    refine EV.callF (kc := 177) (av := [.ref 110, .int (kI 1), .int (w 110 11)]) (r := []) (rv := some (.int (F_177_110 (kI 1) (w 110 11) w))) (w2 := (G_177_110 (kI 1) (w 110 11) w)) cl_202 rfl rfl rfl (m_177_110 w (kI 1) (w 110 11)) ?_
    refine EV.retB cl_202 rfl rfl (z1_177_110 (kI 1) (w 110 11) w) ?_
    exact i18 h1
theorem s_202_110_at209 {X : Scr} {d : Nat} {Q : Option Value → Sh → Wd → Prop} (w : Wd) (v1 : Int32) (v2 : Int32) (v3 : Int32) (v4 : Int32) (v5 : Int32) (i1 : ((¬ (w 110 12) ≤ (w 110 11) → (inB (w 110 11) 260 = true)))) (i2 : (¬ (F_175_110 w) < (kI 48) → (¬ (w 110 12) ≤ (w 110 11) → (inB (w 110 11) 260 = true)))) (i3 : (F_176_110 w) = 0 → (inB (w 110 35) 20 = true)) (i4 : (F_176_110 w) = 0 → (Q (some (.int (kI 1))) SH (up2 (up2 (up2 w 131 (w 110 35).toNatClampNeg (((kI 0) + ((kI 6) * v1)) + v2)) 132 (w 110 35).toNatClampNeg (v3 * v5)) 110 35 ((w 110 35) + (kI 1))))) (i5 : ¬ (F_176_110 w) = 0 → ¬ (w 110 11) = (v4 + (kI 3)) → (¬ (w 110 12) ≤ (w 110 11) → (inB (w 110 11) 260 = true))) (i6 : ¬ (F_176_110 w) = 0 → ¬ (w 110 11) = (v4 + (kI 3)) → (EV X (d + 2) 202 (209, [some (.ref 110), some (.int v1), some (.int v2), some (.int v3), some (.int v4), some (.int ((((kI 10) * v5) + (F_175_110 w)) - (kI 48)))], [], SH, (up2 w 110 11 ((w 110 11) + (kI 1)))) Q)) (i7 : ¬ (F_176_110 w) = 0 → (w 110 11) = (v4 + (kI 3)) → (Q (some (.int (F_177_110 (kI 2) (w 110 11) w))) SH (G_177_110 (kI 2) (w 110 11) w))) : EV X (d + 2) 202 (209, [some (.ref 110), some (.int v1), some (.int v2), some (.int v3), some (.int v4), some (.int v5)], [], SH, w) Q := by
  refine EV.steps cl_202 1 (q2 := (210, [some (.ref 110), some (.int v1), some (.int v2), some (.int v3), some (.int v4), some (.int v5)], [.ref 110], SH, w)) rfl ?_
  refine EV.callF (kc := 176) (av := [.ref 110]) (r := []) (rv := some (.int (F_176_110 w))) (w2 := w) cl_202 rfl rfl rfl (m_176_110 w  (i1) (i2)) ?_
  refine EV.z_eq cl_202 rfl (fun h1 => ?_) (fun h1 => ?_)
  · skip
    refine EV.steps cl_202 11 (q2 := (281, [some (.ref 110), some (.int v1), some (.int v2), some (.int v3), some (.int v4), some (.int v5)], [.int (((kI 0) + ((kI 6) * v1)) + v2), .int (w 110 35), .ref 131], SH, w)) rfl ?_
    refine EV.iastore cl_202 rfl rfl (by decide) (i3 h1) ?_
    refine EV.steps cl_202 7 (q2 := (294, [some (.ref 110), some (.int v1), some (.int v2), some (.int v3), some (.int v4), some (.int v5)], [.int (v3 * v5), .int (w 110 35), .ref 132], SH, (up2 w 131 (w 110 35).toNatClampNeg (((kI 0) + ((kI 6) * v1)) + v2)))) rfl ?_
    refine EV.iastore cl_202 rfl rfl (by decide) (i3 h1) ?_
    refine EV.steps cl_202 7 (q2 := (306, [some (.ref 110), some (.int v1), some (.int v2), some (.int v3), some (.int v4), some (.int v5)], [.int (kI 1)], SH, (up2 (up2 (up2 w 131 (w 110 35).toNatClampNeg (((kI 0) + ((kI 6) * v1)) + v2)) 132 (w 110 35).toNatClampNeg (v3 * v5)) 110 35 ((w 110 35) + (kI 1))))) rfl ?_
    refine EV.ret cl_202 rfl rfl rfl ?_
    exact i4 h1
  · skip
    refine EV.steps cl_202 5 (q2 := (224, [some (.ref 110), some (.int v1), some (.int v2), some (.int v3), some (.int v4), some (.int v5)], [.int (v4 + (kI 3)), .int (w 110 11)], SH, w)) rfl ?_
    refine EV.i_ne cl_202 rfl (fun h2 => ?_) (fun h2 => ?_)
    · skip
      refine EV.steps cl_202 4 (q2 := (243, [some (.ref 110), some (.int v1), some (.int v2), some (.int v3), some (.int v4), some (.int v5)], [.ref 110, .int ((kI 10) * v5)], SH, w)) rfl ?_
      refine EV.callF (kc := 175) (av := [.ref 110]) (r := [.int ((kI 10) * v5)]) (rv := some (.int (F_175_110 w))) (w2 := w) cl_202 rfl rfl rfl (m_175_110 w  (i5 h1 h2)) ?_
      refine EV.steps cl_202 11 (q2 := (209, [some (.ref 110), some (.int v1), some (.int v2), some (.int v3), some (.int v4), some (.int ((((kI 10) * v5) + (F_175_110 w)) - (kI 48)))], [], SH, (up2 w 110 11 ((w 110 11) + (kI 1))))) rfl ?_
      exact i6 h1 h2
    · skip
      refine EV.steps cl_202 4 (q2 := (233, [some (.ref 110), some (.int v1), some (.int v2), some (.int v3), some (.int v4), some (.int v5)], [.int (w 110 11), .int (kI 2), .ref 110], SH, w)) rfl ?_
      refine EV.callF (kc := 177) (av := [.ref 110, .int (kI 2), .int (w 110 11)]) (r := []) (rv := some (.int (F_177_110 (kI 2) (w 110 11) w))) (w2 := (G_177_110 (kI 2) (w 110 11) w)) cl_202 rfl rfl rfl (m_177_110 w (kI 2) (w 110 11)) ?_
      refine EV.retB cl_202 rfl rfl (z1_177_110 (kI 2) (w 110 11) w) ?_
      exact i7 h1 h2
set_option maxRecDepth 20000 in
theorem cl_215 : RCT[215]? = some rc_215 := rfl
theorem s_215_110_at0 {X : Scr} {d : Nat} {Q : Option Value → Sh → Wd → Prop} (w : Wd) (v1 : Int32) (i1 : (EV X (d + 1) 215 (14, [some (.ref 110), some (.int v1), some (.int (w 111 (kI 157).toNatClampNeg)), some (.int (kI 0)), some (.int (kI 0))], [], SH, w) Q)) : EV X (d + 1) 215 (0, [some (.ref 110), some (.int v1), none, none, none], [], SH, w) Q := by
  refine EV.steps cl_215 3 (q2 := (7, [some (.ref 110), some (.int v1), none, none, none], [.int (kI 157), .ref 111], SH, w)) rfl ?_
  refine EV.iaload cl_215 rfl rfl (by decide) rfl ?_
  refine EV.steps cl_215 5 (q2 := (14, [some (.ref 110), some (.int v1), some (.int (w 111 (kI 157).toNatClampNeg)), some (.int (kI 0)), some (.int (kI 0))], [], SH, w)) rfl ?_
  exact i1
theorem s_215_110_at14 {X : Scr} {d : Nat} {Q : Option Value → Sh → Wd → Prop} (w : Wd) (v1 : Int32) (v2 : Int32) (v3 : Int32) (v4 : Int32) (i1 : v2 ≤ v4 → ¬ v2 = 0 → (¬ ((kI 2) * v2) = 0)) (i2 : v2 ≤ v4 → ¬ v2 = 0 → (Q (some (.int ((((kI 24) * v3) + v2) / ((kI 2) * v2)))) SH w)) (i3 : v2 ≤ v4 → v2 = 0 → (Q (some (.int (kI (-2)))) SH w)) (i4 : ¬ v2 ≤ v4 → (inB (((kI 36) + ((kI 12) * v1)) + v4) 162 = true)) (i5 : ¬ v2 ≤ v4 → (EV X (d + 1) 215 (14, [some (.ref 110), some (.int v1), some (.int v2), some (.int (v3 + (w 111 (((kI 36) + ((kI 12) * v1)) + v4).toNatClampNeg))), some (.int (v4 + (kI 1)))], [], SH, w) Q)) : EV X (d + 1) 215 (14, [some (.ref 110), some (.int v1), some (.int v2), some (.int v3), some (.int v4)], [], SH, w) Q := by
  refine EV.steps cl_215 2 (q2 := (17, [some (.ref 110), some (.int v1), some (.int v2), some (.int v3), some (.int v4)], [.int v2, .int v4], SH, w)) rfl ?_
  refine EV.i_ge cl_215 rfl (fun h1 => ?_) (fun h1 => ?_)
  · skip
    refine EV.steps cl_215 1 (q2 := (45, [some (.ref 110), some (.int v1), some (.int v2), some (.int v3), some (.int v4)], [.int v2], SH, w)) rfl ?_
    refine EV.z_ne cl_215 rfl (fun h2 => ?_) (fun h2 => ?_)
    · skip
      refine EV.steps cl_215 8 (q2 := (62, [some (.ref 110), some (.int v1), some (.int v2), some (.int v3), some (.int v4)], [.int ((kI 2) * v2), .int (((kI 24) * v3) + v2)], SH, w)) rfl ?_
      refine EV.idiv cl_215 rfl (i1 h1 h2) ?_
      refine EV.ret cl_215 rfl rfl rfl ?_
      exact i2 h1 h2
    · skip
      refine EV.steps cl_215 2 (q2 := (63, [some (.ref 110), some (.int v1), some (.int v2), some (.int v3), some (.int v4)], [.int (kI (-2))], SH, w)) rfl ?_
      refine EV.ret cl_215 rfl rfl rfl ?_
      exact i3 h1 h2
  · skip
    refine EV.steps cl_215 10 (q2 := (35, [some (.ref 110), some (.int v1), some (.int v2), some (.int v3), some (.int v4)], [.int (((kI 36) + ((kI 12) * v1)) + v4), .ref 111, .int v3], SH, w)) rfl ?_
    refine EV.iaload cl_215 rfl rfl (by decide) (i4 h1) ?_
    refine EV.steps cl_215 4 (q2 := (14, [some (.ref 110), some (.int v1), some (.int v2), some (.int (v3 + (w 111 (((kI 36) + ((kI 12) * v1)) + v4).toNatClampNeg))), some (.int (v4 + (kI 1)))], [], SH, w)) rfl ?_
    exact i5 h1
set_option maxRecDepth 20000 in
theorem cl_226 : RCT[226]? = some rc_226 := rfl
theorem s_226_110_at0 {X : Scr} {d : Nat} {Q : Option Value → Sh → Wd → Prop} (w : Wd) (v1 : Int32) (i1 : (EV X (d + 1) 226 (6, [some (.ref 110), some (.int v1), some (.int ((kI 1) <<< (v1 &&& 31))), some (.int (kI 0)), none], [], SH, w) Q)) : EV X (d + 1) 226 (0, [some (.ref 110), some (.int v1), none, none, none], [], SH, w) Q := by
  refine EV.steps cl_226 6 (q2 := (6, [some (.ref 110), some (.int v1), some (.int ((kI 1) <<< (v1 &&& 31))), some (.int (kI 0)), none], [], SH, w)) rfl ?_
  exact i1
theorem s_226_110_at6 {X : Scr} {d : Nat} {Q : Option Value → Sh → Wd → Prop} (w : Wd) (v1 : Int32) (v2 : Int32) (v3 : Int32) (i1 : v2 = v3 → (Q (some (.int v2)) SH w)) (i2 : ¬ v2 = v3 → (EV X (d + 1) 226 (16, [some (.ref 110), some (.int v1), some (.int v2), some (.int v2), some (.int (kI 0))], [], SH, w) Q)) : EV X (d + 1) 226 (6, [some (.ref 110), some (.int v1), some (.int v2), some (.int v3), none], [], SH, w) Q := by
  refine EV.steps cl_226 2 (q2 := (8, [some (.ref 110), some (.int v1), some (.int v2), some (.int v3), none], [.int v3, .int v2], SH, w)) rfl ?_
  refine EV.i_eq cl_226 rfl (fun h1 => ?_) (fun h1 => ?_)
  · skip
    refine EV.steps cl_226 1 (q2 := (52, [some (.ref 110), some (.int v1), some (.int v2), some (.int v3), none], [.int v2], SH, w)) rfl ?_
    refine EV.ret cl_226 rfl rfl rfl ?_
    exact i1 h1
  · skip
    refine EV.steps cl_226 4 (q2 := (16, [some (.ref 110), some (.int v1), some (.int v2), some (.int v2), some (.int (kI 0))], [], SH, w)) rfl ?_
    exact i2 h1
theorem s_226_110_at16 {X : Scr} {d : Nat} {Q : Option Value → Sh → Wd → Prop} (w : Wd) (v1 : Int32) (v2 : Int32) (v3 : Int32) (v4 : Int32) (i1 : (kI 6) ≤ v4 → (EV X (d + 1) 226 (6, [some (.ref 110), some (.int v1), some (.int v2), some (.int v3), some (.int v4)], [], SH, w) Q)) (i2 : ¬ (kI 6) ≤ v4 → (F_161 v3 v4 w) = 0 → (EV X (d + 1) 226 (16, [some (.ref 110), some (.int v1), some (.int v2), some (.int v3), some (.int (v4 + (kI 1)))], [], SH, w) Q)) (i3 : ¬ (kI 6) ≤ v4 → ¬ (F_161 v3 v4 w) = 0 → (inB v4 6 = true)) (i4 : ¬ (kI 6) ≤ v4 → ¬ (F_161 v3 v4 w) = 0 → (EV X (d + 1) 226 (16, [some (.ref 110), some (.int v1), some (.int (v2 ||| (w 115 v4.toNatClampNeg))), some (.int v3), some (.int (v4 + (kI 1)))], [], SH, w) Q)) : EV X (d + 1) 226 (16, [some (.ref 110), some (.int v1), some (.int v2), some (.int v3), some (.int v4)], [], SH, w) Q := by
  refine EV.steps cl_226 2 (q2 := (20, [some (.ref 110), some (.int v1), some (.int v2), some (.int v3), some (.int v4)], [.int (kI 6), .int v4], SH, w)) rfl ?_
  refine EV.i_ge cl_226 rfl (fun h1 => ?_) (fun h1 => ?_)
  · skip
    refine EV.steps cl_226 1 (q2 := (6, [some (.ref 110), some (.int v1), some (.int v2), some (.int v3), some (.int v4)], [], SH, w)) rfl ?_
    exact i1 h1
  · skip
    refine EV.steps cl_226 2 (q2 := (26, [some (.ref 110), some (.int v1), some (.int v2), some (.int v3), some (.int v4)], [.int v4, .int v3], SH, w)) rfl ?_
    refine EV.callF (kc := 161) (av := [.int v3, .int v4]) (r := []) (rv := some (.int (F_161 v3 v4 w))) (w2 := w) cl_226 rfl rfl rfl (m_161 w v3 v4) ?_
    refine EV.z_eq cl_226 rfl (fun h2 => ?_) (fun h2 => ?_)
    · skip
      refine EV.steps cl_226 2 (q2 := (16, [some (.ref 110), some (.int v1), some (.int v2), some (.int v3), some (.int (v4 + (kI 1)))], [], SH, w)) rfl ?_
      exact i2 h1 h2
    · skip
      refine EV.steps cl_226 4 (q2 := (39, [some (.ref 110), some (.int v1), some (.int v2), some (.int v3), some (.int v4)], [.int v4, .ref 115, .int v2], SH, w)) rfl ?_
      refine EV.iaload cl_226 rfl rfl (by decide) (i3 h1 h2) ?_
      refine EV.steps cl_226 4 (q2 := (16, [some (.ref 110), some (.int v1), some (.int (v2 ||| (w 115 v4.toNatClampNeg))), some (.int v3), some (.int (v4 + (kI 1)))], [], SH, w)) rfl ?_
      exact i4 h1 h2
set_option maxRecDepth 20000 in
theorem cl_228 : RCT[228]? = some rc_228 := rfl
theorem s_228_110_at0 {X : Scr} {d : Nat} {Q : Option Value → Sh → Wd → Prop} (w : Wd) (v1 : Int32) (v2 : Int32) (i1 : (EV X (d + 1) 228 (12, [some (.ref 110), some (.int v1), some (.int v2), some (.int (kI 0)), none], [], SH, (up2 (up2 w 110 46 (kI 0)) 110 47 (kI 0))) Q)) : EV X (d + 1) 228 (0, [some (.ref 110), some (.int v1), some (.int v2), none, none], [], SH, w) Q := by
  refine EV.steps cl_228 8 (q2 := (12, [some (.ref 110), some (.int v1), some (.int v2), some (.int (kI 0)), none], [], SH, (up2 (up2 w 110 46 (kI 0)) 110 47 (kI 0)))) rfl ?_
  exact i1
theorem s_228_110_at12 {X : Scr} {d : Nat} {Q : Option Value → Sh → Wd → Prop} (w : Wd) (v1 : Int32) (v2 : Int32) (v3 : Int32) (i1 : (kI 6) ≤ v3 → (EV X (d + 1) 228 (57, [some (.ref 110), some (.int v1), some (.int v2), some (.int (kI 0)), none], [], SH, w) Q)) (i2 : ¬ (kI 6) ≤ v3 → ¬ (F_161 v1 v3 w) = 0 → (inB (w 110 46) 4 = true)) (i3 : ¬ (kI 6) ≤ v3 → ¬ (F_161 v1 v3 w) = 0 → (EV X (d + 1) 228 (12, [some (.ref 110), some (.int v1), some (.int v2), some (.int (v3 + (kI 1))), none], [], SH, (up2 (up2 w 136 (w 110 46).toNatClampNeg v3) 110 46 ((w 110 46) + (kI 1)))) Q)) (i4 : ¬ (kI 6) ≤ v3 → (F_161 v1 v3 w) = 0 → (EV X (d + 1) 228 (12, [some (.ref 110), some (.int v1), some (.int v2), some (.int (v3 + (kI 1))), none], [], SH, w) Q)) : EV X (d + 1) 228 (12, [some (.ref 110), some (.int v1), some (.int v2), some (.int v3), none], [], SH, w) Q := by
  refine EV.steps cl_228 2 (q2 := (15, [some (.ref 110), some (.int v1), some (.int v2), some (.int v3), none], [.int (kI 6), .int v3], SH, w)) rfl ?_
  refine EV.i_ge cl_228 rfl (fun h1 => ?_) (fun h1 => ?_)
  · skip
    refine EV.steps cl_228 2 (q2 := (57, [some (.ref 110), some (.int v1), some (.int v2), some (.int (kI 0)), none], [], SH, w)) rfl ?_
    exact i1 h1
  · skip
    refine EV.steps cl_228 2 (q2 := (20, [some (.ref 110), some (.int v1), some (.int v2), some (.int v3), none], [.int v3, .int v1], SH, w)) rfl ?_
    refine EV.callF (kc := 161) (av := [.int v1, .int v3]) (r := []) (rv := some (.int (F_161 v1 v3 w))) (w2 := w) cl_228 rfl rfl rfl (m_161 w v1 v3) ?_
    refine EV.z_ne cl_228 rfl (fun h2 => ?_) (fun h2 => ?_)
    · skip
      refine EV.steps cl_228 5 (q2 := (38, [some (.ref 110), some (.int v1), some (.int v2), some (.int v3), none], [.int v3, .int (w 110 46), .ref 136], SH, w)) rfl ?_
      refine EV.iastore cl_228 rfl rfl (by decide) (i2 h1 h2) ?_
      refine EV.steps cl_228 8 (q2 := (12, [some (.ref 110), some (.int v1), some (.int v2), some (.int (v3 + (kI 1))), none], [], SH, (up2 (up2 w 136 (w 110 46).toNatClampNeg v3) 110 46 ((w 110 46) + (kI 1))))) rfl ?_
      exact i3 h1 h2
    · skip
      refine EV.steps cl_228 3 (q2 := (12, [some (.ref 110), some (.int v1), some (.int v2), some (.int (v3 + (kI 1))), none], [], SH, w)) rfl ?_
      exact i4 h1 h2
theorem s_228_110_at57 {X : Scr} {d : Nat} {Q : Option Value → Sh → Wd → Prop} (w : Wd) (v1 : Int32) (v2 : Int32) (v3 : Int32) (i1 : (kI 6) ≤ v3 → (EV X (d + 1) 228 (102, [some (.ref 110), some (.int v1), some (.int v2), some (.int (kI 0)), none], [], SH, w) Q)) (i2 : ¬ (kI 6) ≤ v3 → ¬ (F_161 v2 v3 w) = 0 → (inB (w 110 47) 3 = true)) (i3 : ¬ (kI 6) ≤ v3 → ¬ (F_161 v2 v3 w) = 0 → (EV X (d + 1) 228 (57, [some (.ref 110), some (.int v1), some (.int v2), some (.int (v3 + (kI 1))), none], [], SH, (up2 (up2 w 137 (w 110 47).toNatClampNeg v3) 110 47 ((w 110 47) + (kI 1)))) Q)) (i4 : ¬ (kI 6) ≤ v3 → (F_161 v2 v3 w) = 0 → (EV X (d + 1) 228 (57, [some (.ref 110), some (.int v1), some (.int v2), some (.int (v3 + (kI 1))), none], [], SH, w) Q)) : EV X (d + 1) 228 (57, [some (.ref 110), some (.int v1), some (.int v2), some (.int v3), none], [], SH, w) Q := by
  refine EV.steps cl_228 2 (q2 := (60, [some (.ref 110), some (.int v1), some (.int v2), some (.int v3), none], [.int (kI 6), .int v3], SH, w)) rfl ?_
  refine EV.i_ge cl_228 rfl (fun h1 => ?_) (fun h1 => ?_)
  · skip
    refine EV.steps cl_228 2 (q2 := (102, [some (.ref 110), some (.int v1), some (.int v2), some (.int (kI 0)), none], [], SH, w)) rfl ?_
    exact i1 h1
  · skip
    refine EV.steps cl_228 2 (q2 := (65, [some (.ref 110), some (.int v1), some (.int v2), some (.int v3), none], [.int v3, .int v2], SH, w)) rfl ?_
    refine EV.callF (kc := 161) (av := [.int v2, .int v3]) (r := []) (rv := some (.int (F_161 v2 v3 w))) (w2 := w) cl_228 rfl rfl rfl (m_161 w v2 v3) ?_
    refine EV.z_ne cl_228 rfl (fun h2 => ?_) (fun h2 => ?_)
    · skip
      refine EV.steps cl_228 5 (q2 := (83, [some (.ref 110), some (.int v1), some (.int v2), some (.int v3), none], [.int v3, .int (w 110 47), .ref 137], SH, w)) rfl ?_
      refine EV.iastore cl_228 rfl rfl (by decide) (i2 h1 h2) ?_
      refine EV.steps cl_228 8 (q2 := (57, [some (.ref 110), some (.int v1), some (.int v2), some (.int (v3 + (kI 1))), none], [], SH, (up2 (up2 w 137 (w 110 47).toNatClampNeg v3) 110 47 ((w 110 47) + (kI 1))))) rfl ?_
      exact i3 h1 h2
    · skip
      refine EV.steps cl_228 3 (q2 := (57, [some (.ref 110), some (.int v1), some (.int v2), some (.int (v3 + (kI 1))), none], [], SH, w)) rfl ?_
      exact i4 h1 h2
theorem s_228_110_at102 {X : Scr} {d : Nat} {Q : Option Value → Sh → Wd → Prop} (w : Wd) (v1 : Int32) (v2 : Int32) (v3 : Int32) (i1 : (w 110 46) ≤ v3 → (Q (none) SH w)) (i2 : ¬ (w 110 46) ≤ v3 → (EV X (d + 1) 228 (113, [some (.ref 110), some (.int v1), some (.int v2), some (.int v3), some (.int (kI 0))], [], SH, w) Q)) : EV X (d + 1) 228 (102, [some (.ref 110), some (.int v1), some (.int v2), some (.int v3), none], [], SH, w) Q := by
  refine EV.steps cl_228 3 (q2 := (107, [some (.ref 110), some (.int v1), some (.int v2), some (.int v3), none], [.int (w 110 46), .int v3], SH, w)) rfl ?_
  refine EV.i_ge cl_228 rfl (fun h1 => ?_) (fun h1 => ?_)
  · skip
    refine EV.ret cl_228 rfl rfl rfl ?_
    exact i1 h1
  · skip
    refine EV.steps cl_228 2 (q2 := (113, [some (.ref 110), some (.int v1), some (.int v2), some (.int v3), some (.int (kI 0))], [], SH, w)) rfl ?_
    exact i2 h1
theorem s_228_110_at113 {X : Scr} {d : Nat} {Q : Option Value → Sh → Wd → Prop} (w : Wd) (v1 : Int32) (v2 : Int32) (v3 : Int32) (v4 : Int32) (i1 : (w 110 47) ≤ v4 → (EV X (d + 1) 228 (102, [some (.ref 110), some (.int v1), some (.int v2), some (.int (v3 + (kI 1))), some (.int v4)], [], SH, w) Q)) (i2 : ¬ (w 110 47) ≤ v4 → (inB v3 4 = true)) (i3 : ¬ (w 110 47) ≤ v4 → (inB v4 3 = true)) (i4 : ¬ (w 110 47) ≤ v4 → ((inB (((kI 0) + ((kI 6) * (w 136 v3.toNatClampNeg))) + (w 137 v4.toNatClampNeg)) 162 = true))) (i5 : ¬ (w 110 47) ≤ v4 → (inB (((w 110 47) * v3) + v4) 12 = true)) (i6 : ¬ (w 110 47) ≤ v4 → (EV X (d + 1) 228 (113, [some (.ref 110), some (.int v1), some (.int v2), some (.int v3), some (.int (v4 + (kI 1)))], [], SH, (up2 w 135 (((w 110 47) * v3) + v4).toNatClampNeg (F_166_110 (w 136 v3.toNatClampNeg) (w 137 v4.toNatClampNeg) w))) Q)) : EV X (d + 1) 228 (113, [some (.ref 110), some (.int v1), some (.int v2), some (.int v3), some (.int v4)], [], SH, w) Q := by
  refine EV.steps cl_228 3 (q2 := (119, [some (.ref 110), some (.int v1), some (.int v2), some (.int v3), some (.int v4)], [.int (w 110 47), .int v4], SH, w)) rfl ?_
  refine EV.i_ge cl_228 rfl (fun h1 => ?_) (fun h1 => ?_)
  · skip
    refine EV.steps cl_228 2 (q2 := (102, [some (.ref 110), some (.int v1), some (.int v2), some (.int (v3 + (kI 1))), some (.int v4)], [], SH, w)) rfl ?_
    exact i1 h1
  · skip
    refine EV.steps cl_228 12 (q2 := (141, [some (.ref 110), some (.int v1), some (.int v2), some (.int v3), some (.int v4)], [.int v3, .ref 136, .ref 110, .int (((w 110 47) * v3) + v4), .ref 135], SH, w)) rfl ?_
    refine EV.iaload cl_228 rfl rfl (by decide) (i2 h1) ?_
    refine EV.steps cl_228 3 (q2 := (148, [some (.ref 110), some (.int v1), some (.int v2), some (.int v3), some (.int v4)], [.int v4, .ref 137, .int (w 136 v3.toNatClampNeg), .ref 110, .int (((w 110 47) * v3) + v4), .ref 135], SH, w)) rfl ?_
    refine EV.iaload cl_228 rfl rfl (by decide) (i3 h1) ?_
    refine EV.callF (kc := 166) (av := [.ref 110, .int (w 136 v3.toNatClampNeg), .int (w 137 v4.toNatClampNeg)]) (r := [.int (((w 110 47) * v3) + v4), .ref 135]) (rv := some (.int (F_166_110 (w 136 v3.toNatClampNeg) (w 137 v4.toNatClampNeg) w))) (w2 := w) cl_228 rfl rfl rfl (m_166_110 w (w 136 v3.toNatClampNeg) (w 137 v4.toNatClampNeg) (i4 h1)) ?_
    refine EV.iastore cl_228 rfl rfl (by decide) (i5 h1) ?_
    refine EV.steps cl_228 2 (q2 := (113, [some (.ref 110), some (.int v1), some (.int v2), some (.int v3), some (.int (v4 + (kI 1)))], [], SH, (up2 w 135 (((w 110 47) * v3) + v4).toNatClampNeg (F_166_110 (w 136 v3.toNatClampNeg) (w 137 v4.toNatClampNeg) w)))) rfl ?_
    exact i6 h1
set_option maxRecDepth 20000 in
theorem cl_230 : RCT[230]? = some rc_230 := rfl
theorem s_230_110_at0 {X : Scr} {d : Nat} {Q : Option Value → Sh → Wd → Prop} (w : Wd) (v1 : Int32) (v2 : Int32) (i1 : (EV X (d + 1) 230 (8, [some (.ref 110), some (.int v1), some (.int v2), some (.int (kI 0)), some (.int (kI 0)), some (.int (kI 0)), none, none], [], SH, w) Q)) : EV X (d + 1) 230 (0, [some (.ref 110), some (.int v1), some (.int v2), none, none, none, none, none], [], SH, w) Q := by
  refine EV.steps cl_230 6 (q2 := (8, [some (.ref 110), some (.int v1), some (.int v2), some (.int (kI 0)), some (.int (kI 0)), some (.int (kI 0)), none, none], [], SH, w)) rfl ?_
  exact i1
theorem s_230_110_at8 {X : Scr} {d : Nat} {Q : Option Value → Sh → Wd → Prop} (w : Wd) (v1 : Int32) (v2 : Int32) (v3 : Int32) (v4 : Int32) (v5 : Int32) (i1 : (w 110 46) ≤ v5 → (EV X (d + 1) 230 (94, [some (.ref 110), some (.int v1), some (.int v2), some (.int v3), some (.int v4), some (.int (kI 0)), none, none], [], SH, w) Q)) (i2 : ¬ (w 110 46) ≤ v5 → (EV X (d + 1) 230 (23, [some (.ref 110), some (.int v1), some (.int v2), some (.int v3), some (.int v4), some (.int v5), some (.int (kI 0)), some (.int (kI 0))], [], SH, w) Q)) : EV X (d + 1) 230 (8, [some (.ref 110), some (.int v1), some (.int v2), some (.int v3), some (.int v4), some (.int v5), none, none], [], SH, w) Q := by
  refine EV.steps cl_230 3 (q2 := (14, [some (.ref 110), some (.int v1), some (.int v2), some (.int v3), some (.int v4), some (.int v5), none, none], [.int (w 110 46), .int v5], SH, w)) rfl ?_
  refine EV.i_ge cl_230 rfl (fun h1 => ?_) (fun h1 => ?_)
  · skip
    refine EV.steps cl_230 2 (q2 := (94, [some (.ref 110), some (.int v1), some (.int v2), some (.int v3), some (.int v4), some (.int (kI 0)), none, none], [], SH, w)) rfl ?_
    exact i1 h1
  · skip
    refine EV.steps cl_230 4 (q2 := (23, [some (.ref 110), some (.int v1), some (.int v2), some (.int v3), some (.int v4), some (.int v5), some (.int (kI 0)), some (.int (kI 0))], [], SH, w)) rfl ?_
    exact i2 h1
theorem s_230_110_at23 {X : Scr} {d : Nat} {Q : Option Value → Sh → Wd → Prop} (w : Wd) (v1 : Int32) (v2 : Int32) (v3 : Int32) (v4 : Int32) (v5 : Int32) (v6 : Int32) (v7 : Int32) (i1 : (w 110 47) ≤ v7 → (F_160 v6 w) < v1 → (EV X (d + 2) 230 (8, [some (.ref 110), some (.int v1), some (.int v2), some (.int (v3 + (F_160 v6 w))), some (.int (v4 + v6)), some (.int (v5 + (kI 1))), some (.int v6), some (.int v7)], [], SH, w) Q)) (i2 : (w 110 47) ≤ v7 → ¬ (F_160 v6 w) < v1 → (Q (some (.int (kI (-1)))) SH w)) (i3 : ¬ (w 110 47) ≤ v7 → ((inB (((w 110 47) * v5) + v7) 12 = true))) (i4 : ¬ (w 110 47) ≤ v7 → ((¬ v1 = 0))) (i5 : ¬ (w 110 47) ≤ v7 → (EV X (d + 2) 230 (23, [some (.ref 110), some (.int v1), some (.int v2), some (.int v3), some (.int v4), some (.int v5), some (.int (v6 + (F_229_110 (((w 110 47) * v5) + v7) v1 v2 w))), some (.int (v7 + (kI 1)))], [], SH, w) Q)) : EV X (d + 2) 230 (23, [some (.ref 110), some (.int v1), some (.int v2), some (.int v3), some (.int v4), some (.int v5), some (.int v6), some (.int v7)], [], SH, w) Q := by
  refine EV.steps cl_230 3 (q2 := (29, [some (.ref 110), some (.int v1), some (.int v2), some (.int v3), some (.int v4), some (.int v5), some (.int v6), some (.int v7)], [.int (w 110 47), .int v7], SH, w)) rfl ?_
  refine EV.i_ge cl_230 rfl (fun h1 => ?_) (fun h1 => ?_)
  · skip
    refine EV.steps cl_230 1 (q2 := (61, [some (.ref 110), some (.int v1), some (.int v2), some (.int v3), some (.int v4), some (.int v5), some (.int v6), some (.int v7)], [.int v6], SH, w)) rfl ?_
    refine EV.callF (kc := 160) (av := [.int v6]) (r := []) (rv := some (.int (F_160 v6 w))) (w2 := w) cl_230 rfl rfl rfl (m_160 w v6) ?_
    refine EV.steps cl_230 1 (q2 := (65, [some (.ref 110), some (.int v1), some (.int v2), some (.int v3), some (.int v4), some (.int v5), some (.int v6), some (.int v7)], [.int v1, .int (F_160 v6 w)], SH, w)) rfl ?_
    refine EV.i_lt cl_230 rfl (fun h2 => ?_) (fun h2 => ?_)
    · skip
      refine EV.steps cl_230 2 (q2 := (73, [some (.ref 110), some (.int v1), some (.int v2), some (.int v3), some (.int v4), some (.int v5), some (.int v6), some (.int v7)], [.int v6, .int v3], SH, w)) rfl ?_
      refine EV.callF (kc := 160) (av := [.int v6]) (r := [.int v3]) (rv := some (.int (F_160 v6 w))) (w2 := w) cl_230 rfl rfl rfl (m_160 w v6) ?_
      refine EV.steps cl_230 8 (q2 := (8, [some (.ref 110), some (.int v1), some (.int v2), some (.int (v3 + (F_160 v6 w))), some (.int (v4 + v6)), some (.int (v5 + (kI 1))), some (.int v6), some (.int v7)], [], SH, w)) rfl ?_
      exact i1 h1 h2
    · skip
      refine EV.steps cl_230 1 (q2 := (69, [some (.ref 110), some (.int v1), some (.int v2), some (.int v3), some (.int v4), some (.int v5), some (.int v6), some (.int v7)], [.int (kI (-1))], SH, w)) rfl ?_
      refine EV.ret cl_230 rfl rfl rfl ?_
      exact i2 h1 h2
  · skip
    refine EV.steps cl_230 10 (q2 := (47, [some (.ref 110), some (.int v1), some (.int v2), some (.int v3), some (.int v4), some (.int v5), some (.int v6), some (.int v7)], [.int v2, .int v1, .int (((w 110 47) * v5) + v7), .ref 110, .int v6], SH, w)) rfl ?_
    refine EV.callF (kc := 229) (av := [.ref 110, .int (((w 110 47) * v5) + v7), .int v1, .int v2]) (r := [.int v6]) (rv := some (.int (F_229_110 (((w 110 47) * v5) + v7) v1 v2 w))) (w2 := w) cl_230 rfl rfl rfl (m_229_110 w (((w 110 47) * v5) + v7) v1 v2 (i3 h1) (i4 h1)) ?_
    refine EV.steps cl_230 4 (q2 := (23, [some (.ref 110), some (.int v1), some (.int v2), some (.int v3), some (.int v4), some (.int v5), some (.int (v6 + (F_229_110 (((w 110 47) * v5) + v7) v1 v2 w))), some (.int (v7 + (kI 1)))], [], SH, w)) rfl ?_
    exact i5 h1
theorem s_230_110_at94 {X : Scr} {d : Nat} {Q : Option Value → Sh → Wd → Prop} (w : Wd) (v1 : Int32) (v2 : Int32) (v3 : Int32) (v4 : Int32) (v5 : Int32) (i1 : (w 110 47) ≤ v5 → (F_160 v4 w) < v1 → (Q (some (.int v3)) SH w)) (i2 : (w 110 47) ≤ v5 → ¬ (F_160 v4 w) < v1 → (Q (some (.int (kI (-1)))) SH w)) (i3 : ¬ (w 110 47) ≤ v5 → (EV X (d + 1) 230 (109, [some (.ref 110), some (.int v1), some (.int v2), some (.int v3), some (.int v4), some (.int v5), some (.int (kI 0)), some (.int (kI 0))], [], SH, w) Q)) : EV X (d + 1) 230 (94, [some (.ref 110), some (.int v1), some (.int v2), some (.int v3), some (.int v4), some (.int v5), none, none], [], SH, w) Q := by
  refine EV.steps cl_230 3 (q2 := (100, [some (.ref 110), some (.int v1), some (.int v2), some (.int v3), some (.int v4), some (.int v5), none, none], [.int (w 110 47), .int v5], SH, w)) rfl ?_
  refine EV.i_ge cl_230 rfl (fun h1 => ?_) (fun h1 => ?_)
  · skip
    refine EV.steps cl_230 1 (q2 := (172, [some (.ref 110), some (.int v1), some (.int v2), some (.int v3), some (.int v4), some (.int v5), none, none], [.int v4], SH, w)) rfl ?_
    refine EV.callF (kc := 160) (av := [.int v4]) (r := []) (rv := some (.int (F_160 v4 w))) (w2 := w) cl_230 rfl rfl rfl (m_160 w v4) ?_
    refine EV.steps cl_230 1 (q2 := (176, [some (.ref 110), some (.int v1), some (.int v2), some (.int v3), some (.int v4), some (.int v5), none, none], [.int v1, .int (F_160 v4 w)], SH, w)) rfl ?_
    refine EV.i_lt cl_230 rfl (fun h2 => ?_) (fun h2 => ?_)
    · skip
      refine EV.steps cl_230 1 (q2 := (184, [some (.ref 110), some (.int v1), some (.int v2), some (.int v3), some (.int v4), some (.int v5), none, none], [.int v3], SH, w)) rfl ?_
      refine EV.ret cl_230 rfl rfl rfl ?_
      exact i1 h1 h2
    · skip
      refine EV.steps cl_230 2 (q2 := (184, [some (.ref 110), some (.int v1), some (.int v2), some (.int v3), some (.int v4), some (.int v5), none, none], [.int (kI (-1))], SH, w)) rfl ?_
      refine EV.ret cl_230 rfl rfl rfl ?_
      exact i2 h1 h2
  · skip
    refine EV.steps cl_230 4 (q2 := (109, [some (.ref 110), some (.int v1), some (.int v2), some (.int v3), some (.int v4), some (.int v5), some (.int (kI 0)), some (.int (kI 0))], [], SH, w)) rfl ?_
    exact i3 h1
theorem s_230_110_at109 {X : Scr} {d : Nat} {Q : Option Value → Sh → Wd → Prop} (w : Wd) (v1 : Int32) (v2 : Int32) (v3 : Int32) (v4 : Int32) (v5 : Int32) (v6 : Int32) (v7 : Int32) (i1 : (w 110 46) ≤ v7 → (F_160 v6 w) < v1 → (EV X (d + 2) 230 (94, [some (.ref 110), some (.int v1), some (.int v2), some (.int (v3 + (F_160 v6 w))), some (.int v4), some (.int (v5 + (kI 1))), some (.int v6), some (.int v7)], [], SH, w) Q)) (i2 : (w 110 46) ≤ v7 → ¬ (F_160 v6 w) < v1 → (Q (some (.int (kI (-1)))) SH w)) (i3 : ¬ (w 110 46) ≤ v7 → ((inB (((w 110 47) * v7) + v5) 12 = true))) (i4 : ¬ (w 110 46) ≤ v7 → ((¬ v1 = 0))) (i5 : ¬ (w 110 46) ≤ v7 → (EV X (d + 2) 230 (109, [some (.ref 110), some (.int v1), some (.int v2), some (.int v3), some (.int v4), some (.int v5), some (.int (v6 + (F_229_110 (((w 110 47) * v7) + v5) v1 v2 w))), some (.int (v7 + (kI 1)))], [], SH, w) Q)) : EV X (d + 2) 230 (109, [some (.ref 110), some (.int v1), some (.int v2), some (.int v3), some (.int v4), some (.int v5), some (.int v6), some (.int v7)], [], SH, w) Q := by
  refine EV.steps cl_230 3 (q2 := (115, [some (.ref 110), some (.int v1), some (.int v2), some (.int v3), some (.int v4), some (.int v5), some (.int v6), some (.int v7)], [.int (w 110 46), .int v7], SH, w)) rfl ?_
  refine EV.i_ge cl_230 rfl (fun h1 => ?_) (fun h1 => ?_)
  · skip
    refine EV.steps cl_230 1 (q2 := (147, [some (.ref 110), some (.int v1), some (.int v2), some (.int v3), some (.int v4), some (.int v5), some (.int v6), some (.int v7)], [.int v6], SH, w)) rfl ?_
    refine EV.callF (kc := 160) (av := [.int v6]) (r := []) (rv := some (.int (F_160 v6 w))) (w2 := w) cl_230 rfl rfl rfl (m_160 w v6) ?_
    refine EV.steps cl_230 1 (q2 := (151, [some (.ref 110), some (.int v1), some (.int v2), some (.int v3), some (.int v4), some (.int v5), some (.int v6), some (.int v7)], [.int v1, .int (F_160 v6 w)], SH, w)) rfl ?_
    refine EV.i_lt cl_230 rfl (fun h2 => ?_) (fun h2 => ?_)
    · skip
      refine EV.steps cl_230 2 (q2 := (159, [some (.ref 110), some (.int v1), some (.int v2), some (.int v3), some (.int v4), some (.int v5), some (.int v6), some (.int v7)], [.int v6, .int v3], SH, w)) rfl ?_
      refine EV.callF (kc := 160) (av := [.int v6]) (r := [.int v3]) (rv := some (.int (F_160 v6 w))) (w2 := w) cl_230 rfl rfl rfl (m_160 w v6) ?_
      refine EV.steps cl_230 4 (q2 := (94, [some (.ref 110), some (.int v1), some (.int v2), some (.int (v3 + (F_160 v6 w))), some (.int v4), some (.int (v5 + (kI 1))), some (.int v6), some (.int v7)], [], SH, w)) rfl ?_
      exact i1 h1 h2
    · skip
      refine EV.steps cl_230 1 (q2 := (155, [some (.ref 110), some (.int v1), some (.int v2), some (.int v3), some (.int v4), some (.int v5), some (.int v6), some (.int v7)], [.int (kI (-1))], SH, w)) rfl ?_
      refine EV.ret cl_230 rfl rfl rfl ?_
      exact i2 h1 h2
  · skip
    refine EV.steps cl_230 10 (q2 := (133, [some (.ref 110), some (.int v1), some (.int v2), some (.int v3), some (.int v4), some (.int v5), some (.int v6), some (.int v7)], [.int v2, .int v1, .int (((w 110 47) * v7) + v5), .ref 110, .int v6], SH, w)) rfl ?_
    refine EV.callF (kc := 229) (av := [.ref 110, .int (((w 110 47) * v7) + v5), .int v1, .int v2]) (r := [.int v6]) (rv := some (.int (F_229_110 (((w 110 47) * v7) + v5) v1 v2 w))) (w2 := w) cl_230 rfl rfl rfl (m_229_110 w (((w 110 47) * v7) + v5) v1 v2 (i3 h1) (i4 h1)) ?_
    refine EV.steps cl_230 4 (q2 := (109, [some (.ref 110), some (.int v1), some (.int v2), some (.int v3), some (.int v4), some (.int v5), some (.int (v6 + (F_229_110 (((w 110 47) * v7) + v5) v1 v2 w))), some (.int (v7 + (kI 1)))], [], SH, w)) rfl ?_
    exact i5 h1
