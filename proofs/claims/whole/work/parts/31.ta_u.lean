theorem t136_0_c5_at0 {X : Scr} {d : Nat} {Q : Int32 → Wd → Prop} (w : Wd) (v2 : Int32)
    (H : (if (F_153 (kI 5) (kI 0) (kI 5) w) = 0 then Q (kI (-1)) w else (if (F_105_1 v2 (kI 1) (kI 80) w) = 0 then Q (kI (-1)) w else CI X (d + 2) 63 [.ref 79, .int v2] w (fun x1 w1 => (if 0 ≤ x1 then (((¬ ((if (Int32.ofNat 80) < (w1 29 6) then (Int32.ofNat 80) else (w1 29 6)) < 0 ∨ (kI 0) < 0 ∨ (kI 0) < 0 ∨ 240 < (kI 0).toNatClampNeg + (if (Int32.ofNat 80) < (w1 29 6) then (Int32.ofNat 80) else (w1 29 6)).toNatClampNeg ∨ 80 < (kI 0).toNatClampNeg + (if (Int32.ofNat 80) < (w1 29 6) then (Int32.ofNat 80) else (w1 29 6)).toNatClampNeg))) ∧ (((¬ (((cp2 (up2 (up2 w1 72 6 (if (Int32.ofNat 80) < (w1 29 6) then (Int32.ofNat 80) else (w1 29 6))) 72 7 (if (Int32.ofNat 1) < (w1 29 7) then (Int32.ofNat 1) else (w1 29 7))) 30 73 (kI 0).toNatClampNeg (kI 0).toNatClampNeg (if (Int32.ofNat 80) < (w1 29 6) then (Int32.ofNat 80) else (w1 29 6)).toNatClampNeg) 72 6) < 0 ∨ (kI 0) < 0 ∨ (kI 0) < 0 ∨ 240 < (kI 0).toNatClampNeg + ((cp2 (up2 (up2 w1 72 6 (if (Int32.ofNat 80) < (w1 29 6) then (Int32.ofNat 80) else (w1 29 6))) 72 7 (if (Int32.ofNat 1) < (w1 29 7) then (Int32.ofNat 1) else (w1 29 7))) 30 73 (kI 0).toNatClampNeg (kI 0).toNatClampNeg (if (Int32.ofNat 80) < (w1 29 6) then (Int32.ofNat 80) else (w1 29 6)).toNatClampNeg) 72 6).toNatClampNeg ∨ 80 < (kI 0).toNatClampNeg + ((cp2 (up2 (up2 w1 72 6 (if (Int32.ofNat 80) < (w1 29 6) then (Int32.ofNat 80) else (w1 29 6))) 72 7 (if (Int32.ofNat 1) < (w1 29 7) then (Int32.ofNat 1) else (w1 29 7))) 30 73 (kI 0).toNatClampNeg (kI 0).toNatClampNeg (if (Int32.ofNat 80) < (w1 29 6) then (Int32.ofNat 80) else (w1 29 6)).toNatClampNeg) 72 6).toNatClampNeg))) ∧ (((¬ (((cp2 (cp2 (up2 (up2 w1 72 6 (if (Int32.ofNat 80) < (w1 29 6) then (Int32.ofNat 80) else (w1 29 6))) 72 7 (if (Int32.ofNat 1) < (w1 29 7) then (Int32.ofNat 1) else (w1 29 7))) 30 73 (kI 0).toNatClampNeg (kI 0).toNatClampNeg (if (Int32.ofNat 80) < (w1 29 6) then (Int32.ofNat 80) else (w1 29 6)).toNatClampNeg) 31 74 (kI 0).toNatClampNeg (kI 0).toNatClampNeg ((cp2 (up2 (up2 w1 72 6 (if (Int32.ofNat 80) < (w1 29 6) then (Int32.ofNat 80) else (w1 29 6))) 72 7 (if (Int32.ofNat 1) < (w1 29 7) then (Int32.ofNat 1) else (w1 29 7))) 30 73 (kI 0).toNatClampNeg (kI 0).toNatClampNeg (if (Int32.ofNat 80) < (w1 29 6) then (Int32.ofNat 80) else (w1 29 6)).toNatClampNeg) 72 6).toNatClampNeg) 72 7) < 0 ∨ (kI 0) < 0 ∨ (kI 0) < 0 ∨ 16 < (kI 0).toNatClampNeg + ((cp2 (cp2 (up2 (up2 w1 72 6 (if (Int32.ofNat 80) < (w1 29 6) then (Int32.ofNat 80) else (w1 29 6))) 72 7 (if (Int32.ofNat 1) < (w1 29 7) then (Int32.ofNat 1) else (w1 29 7))) 30 73 (kI 0).toNatClampNeg (kI 0).toNatClampNeg (if (Int32.ofNat 80) < (w1 29 6) then (Int32.ofNat 80) else (w1 29 6)).toNatClampNeg) 31 74 (kI 0).toNatClampNeg (kI 0).toNatClampNeg ((cp2 (up2 (up2 w1 72 6 (if (Int32.ofNat 80) < (w1 29 6) then (Int32.ofNat 80) else (w1 29 6))) 72 7 (if (Int32.ofNat 1) < (w1 29 7) then (Int32.ofNat 1) else (w1 29 7))) 30 73 (kI 0).toNatClampNeg (kI 0).toNatClampNeg (if (Int32.ofNat 80) < (w1 29 6) then (Int32.ofNat 80) else (w1 29 6)).toNatClampNeg) 72 6).toNatClampNeg) 72 7).toNatClampNeg ∨ 1 < (kI 0).toNatClampNeg + ((cp2 (cp2 (up2 (up2 w1 72 6 (if (Int32.ofNat 80) < (w1 29 6) then (Int32.ofNat 80) else (w1 29 6))) 72 7 (if (Int32.ofNat 1) < (w1 29 7) then (Int32.ofNat 1) else (w1 29 7))) 30 73 (kI 0).toNatClampNeg (kI 0).toNatClampNeg (if (Int32.ofNat 80) < (w1 29 6) then (Int32.ofNat 80) else (w1 29 6)).toNatClampNeg) 31 74 (kI 0).toNatClampNeg (kI 0).toNatClampNeg ((cp2 (up2 (up2 w1 72 6 (if (Int32.ofNat 80) < (w1 29 6) then (Int32.ofNat 80) else (w1 29 6))) 72 7 (if (Int32.ofNat 1) < (w1 29 7) then (Int32.ofNat 1) else (w1 29 7))) 30 73 (kI 0).toNatClampNeg (kI 0).toNatClampNeg (if (Int32.ofNat 80) < (w1 29 6) then (Int32.ofNat 80) else (w1 29 6)).toNatClampNeg) 72 6).toNatClampNeg) 72 7).toNatClampNeg))) ∧ (((¬ (((cp2 (cp2 (cp2 (up2 (up2 w1 72 6 (if (Int32.ofNat 80) < (w1 29 6) then (Int32.ofNat 80) else (w1 29 6))) 72 7 (if (Int32.ofNat 1) < (w1 29 7) then (Int32.ofNat 1) else (w1 29 7))) 30 73 (kI 0).toNatClampNeg (kI 0).toNatClampNeg (if (Int32.ofNat 80) < (w1 29 6) then (Int32.ofNat 80) else (w1 29 6)).toNatClampNeg) 31 74 (kI 0).toNatClampNeg (kI 0).toNatClampNeg ((cp2 (up2 (up2 w1 72 6 (if (Int32.ofNat 80) < (w1 29 6) then (Int32.ofNat 80) else (w1 29 6))) 72 7 (if (Int32.ofNat 1) < (w1 29 7) then (Int32.ofNat 1) else (w1 29 7))) 30 73 (kI 0).toNatClampNeg (kI 0).toNatClampNeg (if (Int32.ofNat 80) < (w1 29 6) then (Int32.ofNat 80) else (w1 29 6)).toNatClampNeg) 72 6).toNatClampNeg) 32 75 (kI 0).toNatClampNeg (kI 0).toNatClampNeg ((cp2 (cp2 (up2 (up2 w1 72 6 (if (Int32.ofNat 80) < (w1 29 6) then (Int32.ofNat 80) else (w1 29 6))) 72 7 (if (Int32.ofNat 1) < (w1 29 7) then (Int32.ofNat 1) else (w1 29 7))) 30 73 (kI 0).toNatClampNeg (kI 0).toNatClampNeg (if (Int32.ofNat 80) < (w1 29 6) then (Int32.ofNat 80) else (w1 29 6)).toNatClampNeg) 31 74 (kI 0).toNatClampNeg (kI 0).toNatClampNeg ((cp2 (up2 (up2 w1 72 6 (if (Int32.ofNat 80) < (w1 29 6) then (Int32.ofNat 80) else (w1 29 6))) 72 7 (if (Int32.ofNat 1) < (w1 29 7) then (Int32.ofNat 1) else (w1 29 7))) 30 73 (kI 0).toNatClampNeg (kI 0).toNatClampNeg (if (Int32.ofNat 80) < (w1 29 6) then (Int32.ofNat 80) else (w1 29 6)).toNatClampNeg) 72 6).toNatClampNeg) 72 7).toNatClampNeg) 72 7) < 0 ∨ (kI 0) < 0 ∨ (kI 0) < 0 ∨ 16 < (kI 0).toNatClampNeg + ((cp2 (cp2 (cp2 (up2 (up2 w1 72 6 (if (Int32.ofNat 80) < (w1 29 6) then (Int32.ofNat 80) else (w1 29 6))) 72 7 (if (Int32.ofNat 1) < (w1 29 7) then (Int32.ofNat 1) else (w1 29 7))) 30 73 (kI 0).toNatClampNeg (kI 0).toNatClampNeg (if (Int32.ofNat 80) < (w1 29 6) then (Int32.ofNat 80) else (w1 29 6)).toNatClampNeg) 31 74 (kI 0).toNatClampNeg (kI 0).toNatClampNeg ((cp2 (up2 (up2 w1 72 6 (if (Int32.ofNat 80) < (w1 29 6) then (Int32.ofNat 80) else (w1 29 6))) 72 7 (if (Int32.ofNat 1) < (w1 29 7) then (Int32.ofNat 1) else (w1 29 7))) 30 73 (kI 0).toNatClampNeg (kI 0).toNatClampNeg (if (Int32.ofNat 80) < (w1 29 6) then (Int32.ofNat 80) else (w1 29 6)).toNatClampNeg) 72 6).toNatClampNeg) 32 75 (kI 0).toNatClampNeg (kI 0).toNatClampNeg ((cp2 (cp2 (up2 (up2 w1 72 6 (if (Int32.ofNat 80) < (w1 29 6) then (Int32.ofNat 80) else (w1 29 6))) 72 7 (if (Int32.ofNat 1) < (w1 29 7) then (Int32.ofNat 1) else (w1 29 7))) 30 73 (kI 0).toNatClampNeg (kI 0).toNatClampNeg (if (Int32.ofNat 80) < (w1 29 6) then (Int32.ofNat 80) else (w1 29 6)).toNatClampNeg) 31 74 (kI 0).toNatClampNeg (kI 0).toNatClampNeg ((cp2 (up2 (up2 w1 72 6 (if (Int32.ofNat 80) < (w1 29 6) then (Int32.ofNat 80) else (w1 29 6))) 72 7 (if (Int32.ofNat 1) < (w1 29 7) then (Int32.ofNat 1) else (w1 29 7))) 30 73 (kI 0).toNatClampNeg (kI 0).toNatClampNeg (if (Int32.ofNat 80) < (w1 29 6) then (Int32.ofNat 80) else (w1 29 6)).toNatClampNeg) 72 6).toNatClampNeg) 72 7).toNatClampNeg) 72 7).toNatClampNeg ∨ 1 < (kI 0).toNatClampNeg + ((cp2 (cp2 (cp2 (up2 (up2 w1 72 6 (if (Int32.ofNat 80) < (w1 29 6) then (Int32.ofNat 80) else (w1 29 6))) 72 7 (if (Int32.ofNat 1) < (w1 29 7) then (Int32.ofNat 1) else (w1 29 7))) 30 73 (kI 0).toNatClampNeg (kI 0).toNatClampNeg (if (Int32.ofNat 80) < (w1 29 6) then (Int32.ofNat 80) else (w1 29 6)).toNatClampNeg) 31 74 (kI 0).toNatClampNeg (kI 0).toNatClampNeg ((cp2 (up2 (up2 w1 72 6 (if (Int32.ofNat 80) < (w1 29 6) then (Int32.ofNat 80) else (w1 29 6))) 72 7 (if (Int32.ofNat 1) < (w1 29 7) then (Int32.ofNat 1) else (w1 29 7))) 30 73 (kI 0).toNatClampNeg (kI 0).toNatClampNeg (if (Int32.ofNat 80) < (w1 29 6) then (Int32.ofNat 80) else (w1 29 6)).toNatClampNeg) 72 6).toNatClampNeg) 32 75 (kI 0).toNatClampNeg (kI 0).toNatClampNeg ((cp2 (cp2 (up2 (up2 w1 72 6 (if (Int32.ofNat 80) < (w1 29 6) then (Int32.ofNat 80) else (w1 29 6))) 72 7 (if (Int32.ofNat 1) < (w1 29 7) then (Int32.ofNat 1) else (w1 29 7))) 30 73 (kI 0).toNatClampNeg (kI 0).toNatClampNeg (if (Int32.ofNat 80) < (w1 29 6) then (Int32.ofNat 80) else (w1 29 6)).toNatClampNeg) 31 74 (kI 0).toNatClampNeg (kI 0).toNatClampNeg ((cp2 (up2 (up2 w1 72 6 (if (Int32.ofNat 80) < (w1 29 6) then (Int32.ofNat 80) else (w1 29 6))) 72 7 (if (Int32.ofNat 1) < (w1 29 7) then (Int32.ofNat 1) else (w1 29 7))) 30 73 (kI 0).toNatClampNeg (kI 0).toNatClampNeg (if (Int32.ofNat 80) < (w1 29 6) then (Int32.ofNat 80) else (w1 29 6)).toNatClampNeg) 72 6).toNatClampNeg) 72 7).toNatClampNeg) 72 7).toNatClampNeg))) ∧ (((¬ (((cp2 (cp2 (cp2 (cp2 (up2 (up2 w1 72 6 (if (Int32.ofNat 80) < (w1 29 6) then (Int32.ofNat 80) else (w1 29 6))) 72 7 (if (Int32.ofNat 1) < (w1 29 7) then (Int32.ofNat 1) else (w1 29 7))) 30 73 (kI 0).toNatClampNeg (kI 0).toNatClampNeg (if (Int32.ofNat 80) < (w1 29 6) then (Int32.ofNat 80) else (w1 29 6)).toNatClampNeg) 31 74 (kI 0).toNatClampNeg (kI 0).toNatClampNeg ((cp2 (up2 (up2 w1 72 6 (if (Int32.ofNat 80) < (w1 29 6) then (Int32.ofNat 80) else (w1 29 6))) 72 7 (if (Int32.ofNat 1) < (w1 29 7) then (Int32.ofNat 1) else (w1 29 7))) 30 73 (kI 0).toNatClampNeg (kI 0).toNatClampNeg (if (Int32.ofNat 80) < (w1 29 6) then (Int32.ofNat 80) else (w1 29 6)).toNatClampNeg) 72 6).toNatClampNeg) 32 75 (kI 0).toNatClampNeg (kI 0).toNatClampNeg ((cp2 (cp2 (up2 (up2 w1 72 6 (if (Int32.ofNat 80) < (w1 29 6) then (Int32.ofNat 80) else (w1 29 6))) 72 7 (if (Int32.ofNat 1) < (w1 29 7) then (Int32.ofNat 1) else (w1 29 7))) 30 73 (kI 0).toNatClampNeg (kI 0).toNatClampNeg (if (Int32.ofNat 80) < (w1 29 6) then (Int32.ofNat 80) else (w1 29 6)).toNatClampNeg) 31 74 (kI 0).toNatClampNeg (kI 0).toNatClampNeg ((cp2 (up2 (up2 w1 72 6 (if (Int32.ofNat 80) < (w1 29 6) then (Int32.ofNat 80) else (w1 29 6))) 72 7 (if (Int32.ofNat 1) < (w1 29 7) then (Int32.ofNat 1) else (w1 29 7))) 30 73 (kI 0).toNatClampNeg (kI 0).toNatClampNeg (if (Int32.ofNat 80) < (w1 29 6) then (Int32.ofNat 80) else (w1 29 6)).toNatClampNeg) 72 6).toNatClampNeg) 72 7).toNatClampNeg) 33 76 (kI 0).toNatClampNeg (kI 0).toNatClampNeg ((cp2 (cp2 (cp2 (up2 (up2 w1 72 6 (if (Int32.ofNat 80) < (w1 29 6) then (Int32.ofNat 80) else (w1 29 6))) 72 7 (if (Int32.ofNat 1) < (w1 29 7) then (Int32.ofNat 1) else (w1 29 7))) 30 73 (kI 0).toNatClampNeg (kI 0).toNatClampNeg (if (Int32.ofNat 80) < (w1 29 6) then (Int32.ofNat 80) else (w1 29 6)).toNatClampNeg) 31 74 (kI 0).toNatClampNeg (kI 0).toNatClampNeg ((cp2 (up2 (up2 w1 72 6 (if (Int32.ofNat 80) < (w1 29 6) then (Int32.ofNat 80) else (w1 29 6))) 72 7 (if (Int32.ofNat 1) < (w1 29 7) then (Int32.ofNat 1) else (w1 29 7))) 30 73 (kI 0).toNatClampNeg (kI 0).toNatClampNeg (if (Int32.ofNat 80) < (w1 29 6) then (Int32.ofNat 80) else (w1 29 6)).toNatClampNeg) 72 6).toNatClampNeg) 32 75 (kI 0).toNatClampNeg (kI 0).toNatClampNeg ((cp2 (cp2 (up2 (up2 w1 72 6 (if (Int32.ofNat 80) < (w1 29 6) then (Int32.ofNat 80) else (w1 29 6))) 72 7 (if (Int32.ofNat 1) < (w1 29 7) then (Int32.ofNat 1) else (w1 29 7))) 30 73 (kI 0).toNatClampNeg (kI 0).toNatClampNeg (if (Int32.ofNat 80) < (w1 29 6) then (Int32.ofNat 80) else (w1 29 6)).toNatClampNeg) 31 74 (kI 0).toNatClampNeg (kI 0).toNatClampNeg ((cp2 (up2 (up2 w1 72 6 (if (Int32.ofNat 80) < (w1 29 6) then (Int32.ofNat 80) else (w1 29 6))) 72 7 (if (Int32.ofNat 1) < (w1 29 7) then (Int32.ofNat 1) else (w1 29 7))) 30 73 (kI 0).toNatClampNeg (kI 0).toNatClampNeg (if (Int32.ofNat 80) < (w1 29 6) then (Int32.ofNat 80) else (w1 29 6)).toNatClampNeg) 72 6).toNatClampNeg) 72 7).toNatClampNeg) 72 7).toNatClampNeg) 72 7) < 0 ∨ (kI 0) < 0 ∨ (kI 0) < 0 ∨ 16 < (kI 0).toNatClampNeg + ((cp2 (cp2 (cp2 (cp2 (up2 (up2 w1 72 6 (if (Int32.ofNat 80) < (w1 29 6) then (Int32.ofNat 80) else (w1 29 6))) 72 7 (if (Int32.ofNat 1) < (w1 29 7) then (Int32.ofNat 1) else (w1 29 7))) 30 73 (kI 0).toNatClampNeg (kI 0).toNatClampNeg (if (Int32.ofNat 80) < (w1 29 6) then (Int32.ofNat 80) else (w1 29 6)).toNatClampNeg) 31 74 (kI 0).toNatClampNeg (kI 0).toNatClampNeg ((cp2 (up2 (up2 w1 72 6 (if (Int32.ofNat 80) < (w1 29 6) then (Int32.ofNat 80) else (w1 29 6))) 72 7 (if (Int32.ofNat 1) < (w1 29 7) then (Int32.ofNat 1) else (w1 29 7))) 30 73 (kI 0).toNatClampNeg (kI 0).toNatClampNeg (if (Int32.ofNat 80) < (w1 29 6) then (Int32.ofNat 80) else (w1 29 6)).toNatClampNeg) 72 6).toNatClampNeg) 32 75 (kI 0).toNatClampNeg (kI 0).toNatClampNeg ((cp2 (cp2 (up2 (up2 w1 72 6 (if (Int32.ofNat 80) < (w1 29 6) then (Int32.ofNat 80) else (w1 29 6))) 72 7 (if (Int32.ofNat 1) < (w1 29 7) then (Int32.ofNat 1) else (w1 29 7))) 30 73 (kI 0).toNatClampNeg (kI 0).toNatClampNeg (if (Int32.ofNat 80) < (w1 29 6) then (Int32.ofNat 80) else (w1 29 6)).toNatClampNeg) 31 74 (kI 0).toNatClampNeg (kI 0).toNatClampNeg ((cp2 (up2 (up2 w1 72 6 (if (Int32.ofNat 80) < (w1 29 6) then (Int32.ofNat 80) else (w1 29 6))) 72 7 (if (Int32.ofNat 1) < (w1 29 7) then (Int32.ofNat 1) else (w1 29 7))) 30 73 (kI 0).toNatClampNeg (kI 0).toNatClampNeg (if (Int32.ofNat 80) < (w1 29 6) then (Int32.ofNat 80) else (w1 29 6)).toNatClampNeg) 72 6).toNatClampNeg) 72 7).toNatClampNeg) 33 76 (kI 0).toNatClampNeg (kI 0).toNatClampNeg ((cp2 (cp2 (cp2 (up2 (up2 w1 72 6 (if (Int32.ofNat 80) < (w1 29 6) then (Int32.ofNat 80) else (w1 29 6))) 72 7 (if (Int32.ofNat 1) < (w1 29 7) then (Int32.ofNat 1) else (w1 29 7))) 30 73 (kI 0).toNatClampNeg (kI 0).toNatClampNeg (if (Int32.ofNat 80) < (w1 29 6) then (Int32.ofNat 80) else (w1 29 6)).toNatClampNeg) 31 74 (kI 0).toNatClampNeg (kI 0).toNatClampNeg ((cp2 (up2 (up2 w1 72 6 (if (Int32.ofNat 80) < (w1 29 6) then (Int32.ofNat 80) else (w1 29 6))) 72 7 (if (Int32.ofNat 1) < (w1 29 7) then (Int32.ofNat 1) else (w1 29 7))) 30 73 (kI 0).toNatClampNeg (kI 0).toNatClampNeg (if (Int32.ofNat 80) < (w1 29 6) then (Int32.ofNat 80) else (w1 29 6)).toNatClampNeg) 72 6).toNatClampNeg) 32 75 (kI 0).toNatClampNeg (kI 0).toNatClampNeg ((cp2 (cp2 (up2 (up2 w1 72 6 (if (Int32.ofNat 80) < (w1 29 6) then (Int32.ofNat 80) else (w1 29 6))) 72 7 (if (Int32.ofNat 1) < (w1 29 7) then (Int32.ofNat 1) else (w1 29 7))) 30 73 (kI 0).toNatClampNeg (kI 0).toNatClampNeg (if (Int32.ofNat 80) < (w1 29 6) then (Int32.ofNat 80) else (w1 29 6)).toNatClampNeg) 31 74 (kI 0).toNatClampNeg (kI 0).toNatClampNeg ((cp2 (up2 (up2 w1 72 6 (if (Int32.ofNat 80) < (w1 29 6) then (Int32.ofNat 80) else (w1 29 6))) 72 7 (if (Int32.ofNat 1) < (w1 29 7) then (Int32.ofNat 1) else (w1 29 7))) 30 73 (kI 0).toNatClampNeg (kI 0).toNatClampNeg (if (Int32.ofNat 80) < (w1 29 6) then (Int32.ofNat 80) else (w1 29 6)).toNatClampNeg) 72 6).toNatClampNeg) 72 7).toNatClampNeg) 72 7).toNatClampNeg) 72 7).toNatClampNeg ∨ 1 < (kI 0).toNatClampNeg + ((cp2 (cp2 (cp2 (cp2 (up2 (up2 w1 72 6 (if (Int32.ofNat 80) < (w1 29 6) then (Int32.ofNat 80) else (w1 29 6))) 72 7 (if (Int32.ofNat 1) < (w1 29 7) then (Int32.ofNat 1) else (w1 29 7))) 30 73 (kI 0).toNatClampNeg (kI 0).toNatClampNeg (if (Int32.ofNat 80) < (w1 29 6) then (Int32.ofNat 80) else (w1 29 6)).toNatClampNeg) 31 74 (kI 0).toNatClampNeg (kI 0).toNatClampNeg ((cp2 (up2 (up2 w1 72 6 (if (Int32.ofNat 80) < (w1 29 6) then (Int32.ofNat 80) else (w1 29 6))) 72 7 (if (Int32.ofNat 1) < (w1 29 7) then (Int32.ofNat 1) else (w1 29 7))) 30 73 (kI 0).toNatClampNeg (kI 0).toNatClampNeg (if (Int32.ofNat 80) < (w1 29 6) then (Int32.ofNat 80) else (w1 29 6)).toNatClampNeg) 72 6).toNatClampNeg) 32 75 (kI 0).toNatClampNeg (kI 0).toNatClampNeg ((cp2 (cp2 (up2 (up2 w1 72 6 (if (Int32.ofNat 80) < (w1 29 6) then (Int32.ofNat 80) else (w1 29 6))) 72 7 (if (Int32.ofNat 1) < (w1 29 7) then (Int32.ofNat 1) else (w1 29 7))) 30 73 (kI 0).toNatClampNeg (kI 0).toNatClampNeg (if (Int32.ofNat 80) < (w1 29 6) then (Int32.ofNat 80) else (w1 29 6)).toNatClampNeg) 31 74 (kI 0).toNatClampNeg (kI 0).toNatClampNeg ((cp2 (up2 (up2 w1 72 6 (if (Int32.ofNat 80) < (w1 29 6) then (Int32.ofNat 80) else (w1 29 6))) 72 7 (if (Int32.ofNat 1) < (w1 29 7) then (Int32.ofNat 1) else (w1 29 7))) 30 73 (kI 0).toNatClampNeg (kI 0).toNatClampNeg (if (Int32.ofNat 80) < (w1 29 6) then (Int32.ofNat 80) else (w1 29 6)).toNatClampNeg) 72 6).toNatClampNeg) 72 7).toNatClampNeg) 33 76 (kI 0).toNatClampNeg (kI 0).toNatClampNeg ((cp2 (cp2 (cp2 (up2 (up2 w1 72 6 (if (Int32.ofNat 80) < (w1 29 6) then (Int32.ofNat 80) else (w1 29 6))) 72 7 (if (Int32.ofNat 1) < (w1 29 7) then (Int32.ofNat 1) else (w1 29 7))) 30 73 (kI 0).toNatClampNeg (kI 0).toNatClampNeg (if (Int32.ofNat 80) < (w1 29 6) then (Int32.ofNat 80) else (w1 29 6)).toNatClampNeg) 31 74 (kI 0).toNatClampNeg (kI 0).toNatClampNeg ((cp2 (up2 (up2 w1 72 6 (if (Int32.ofNat 80) < (w1 29 6) then (Int32.ofNat 80) else (w1 29 6))) 72 7 (if (Int32.ofNat 1) < (w1 29 7) then (Int32.ofNat 1) else (w1 29 7))) 30 73 (kI 0).toNatClampNeg (kI 0).toNatClampNeg (if (Int32.ofNat 80) < (w1 29 6) then (Int32.ofNat 80) else (w1 29 6)).toNatClampNeg) 72 6).toNatClampNeg) 32 75 (kI 0).toNatClampNeg (kI 0).toNatClampNeg ((cp2 (cp2 (up2 (up2 w1 72 6 (if (Int32.ofNat 80) < (w1 29 6) then (Int32.ofNat 80) else (w1 29 6))) 72 7 (if (Int32.ofNat 1) < (w1 29 7) then (Int32.ofNat 1) else (w1 29 7))) 30 73 (kI 0).toNatClampNeg (kI 0).toNatClampNeg (if (Int32.ofNat 80) < (w1 29 6) then (Int32.ofNat 80) else (w1 29 6)).toNatClampNeg) 31 74 (kI 0).toNatClampNeg (kI 0).toNatClampNeg ((cp2 (up2 (up2 w1 72 6 (if (Int32.ofNat 80) < (w1 29 6) then (Int32.ofNat 80) else (w1 29 6))) 72 7 (if (Int32.ofNat 1) < (w1 29 7) then (Int32.ofNat 1) else (w1 29 7))) 30 73 (kI 0).toNatClampNeg (kI 0).toNatClampNeg (if (Int32.ofNat 80) < (w1 29 6) then (Int32.ofNat 80) else (w1 29 6)).toNatClampNeg) 72 6).toNatClampNeg) 72 7).toNatClampNeg) 72 7).toNatClampNeg) 72 7).toNatClampNeg))) ∧ (((¬ (((cp2 (cp2 (cp2 (cp2 (cp2 (up2 (up2 w1 72 6 (if (Int32.ofNat 80) < (w1 29 6) then (Int32.ofNat 80) else (w1 29 6))) 72 7 (if (Int32.ofNat 1) < (w1 29 7) then (Int32.ofNat 1) else (w1 29 7))) 30 73 (kI 0).toNatClampNeg (kI 0).toNatClampNeg (if (Int32.ofNat 80) < (w1 29 6) then (Int32.ofNat 80) else (w1 29 6)).toNatClampNeg) 31 74 (kI 0).toNatClampNeg (kI 0).toNatClampNeg ((cp2 (up2 (up2 w1 72 6 (if (Int32.ofNat 80) < (w1 29 6) then (Int32.ofNat 80) else (w1 29 6))) 72 7 (if (Int32.ofNat 1) < (w1 29 7) then (Int32.ofNat 1) else (w1 29 7))) 30 73 (kI 0).toNatClampNeg (kI 0).toNatClampNeg (if (Int32.ofNat 80) < (w1 29 6) then (Int32.ofNat 80) else (w1 29 6)).toNatClampNeg) 72 6).toNatClampNeg) 32 75 (kI 0).toNatClampNeg (kI 0).toNatClampNeg ((cp2 (cp2 (up2 (up2 w1 72 6 (if (Int32.ofNat 80) < (w1 29 6) then (Int32.ofNat 80) else (w1 29 6))) 72 7 (if (Int32.ofNat 1) < (w1 29 7) then (Int32.ofNat 1) else (w1 29 7))) 30 73 (kI 0).toNatClampNeg (kI 0).toNatClampNeg (if (Int32.ofNat 80) < (w1 29 6) then (Int32.ofNat 80) else (w1 29 6)).toNatClampNeg) 31 74 (kI 0).toNatClampNeg (kI 0).toNatClampNeg ((cp2 (up2 (up2 w1 72 6 (if (Int32.ofNat 80) < (w1 29 6) then (Int32.ofNat 80) else (w1 29 6))) 72 7 (if (Int32.ofNat 1) < (w1 29 7) then (Int32.ofNat 1) else (w1 29 7))) 30 73 (kI 0).toNatClampNeg (kI 0).toNatClampNeg (if (Int32.ofNat 80) < (w1 29 6) then (Int32.ofNat 80) else (w1 29 6)).toNatClampNeg) 72 6).toNatClampNeg) 72 7).toNatClampNeg) 33 76 (kI 0).toNatClampNeg (kI 0).toNatClampNeg ((cp2 (cp2 (cp2 (up2 (up2 w1 72 6 (if (Int32.ofNat 80) < (w1 29 6) then (Int32.ofNat 80) else (w1 29 6))) 72 7 (if (Int32.ofNat 1) < (w1 29 7) then (Int32.ofNat 1) else (w1 29 7))) 30 73 (kI 0).toNatClampNeg (kI 0).toNatClampNeg (if (Int32.ofNat 80) < (w1 29 6) then (Int32.ofNat 80) else (w1 29 6)).toNatClampNeg) 31 74 (kI 0).toNatClampNeg (kI 0).toNatClampNeg ((cp2 (up2 (up2 w1 72 6 (if (Int32.ofNat 80) < (w1 29 6) then (Int32.ofNat 80) else (w1 29 6))) 72 7 (if (Int32.ofNat 1) < (w1 29 7) then (Int32.ofNat 1) else (w1 29 7))) 30 73 (kI 0).toNatClampNeg (kI 0).toNatClampNeg (if (Int32.ofNat 80) < (w1 29 6) then (Int32.ofNat 80) else (w1 29 6)).toNatClampNeg) 72 6).toNatClampNeg) 32 75 (kI 0).toNatClampNeg (kI 0).toNatClampNeg ((cp2 (cp2 (up2 (up2 w1 72 6 (if (Int32.ofNat 80) < (w1 29 6) then (Int32.ofNat 80) else (w1 29 6))) 72 7 (if (Int32.ofNat 1) < (w1 29 7) then (Int32.ofNat 1) else (w1 29 7))) 30 73 (kI 0).toNatClampNeg (kI 0).toNatClampNeg (if (Int32.ofNat 80) < (w1 29 6) then (Int32.ofNat 80) else (w1 29 6)).toNatClampNeg) 31 74 (kI 0).toNatClampNeg (kI 0).toNatClampNeg ((cp2 (up2 (up2 w1 72 6 (if (Int32.ofNat 80) < (w1 29 6) then (Int32.ofNat 80) else (w1 29 6))) 72 7 (if (Int32.ofNat 1) < (w1 29 7) then (Int32.ofNat 1) else (w1 29 7))) 30 73 (kI 0).toNatClampNeg (kI 0).toNatClampNeg (if (Int32.ofNat 80) < (w1 29 6) then (Int32.ofNat 80) else (w1 29 6)).toNatClampNeg) 72 6).toNatClampNeg) 72 7).toNatClampNeg) 72 7).toNatClampNeg) 34 77 (kI 0).toNatClampNeg (kI 0).toNatClampNeg ((cp2 (cp2 (cp2 (cp2 (up2 (up2 w1 72 6 (if (Int32.ofNat 80) < (w1 29 6) then (Int32.ofNat 80) else (w1 29 6))) 72 7 (if (Int32.ofNat 1) < (w1 29 7) then (Int32.ofNat 1) else (w1 29 7))) 30 73 (kI 0).toNatClampNeg (kI 0).toNatClampNeg (if (Int32.ofNat 80) < (w1 29 6) then (Int32.ofNat 80) else (w1 29 6)).toNatClampNeg) 31 74 (kI 0).toNatClampNeg (kI 0).toNatClampNeg ((cp2 (up2 (up2 w1 72 6 (if (Int32.ofNat 80) < (w1 29 6) then (Int32.ofNat 80) else (w1 29 6))) 72 7 (if (Int32.ofNat 1) < (w1 29 7) then (Int32.ofNat 1) else (w1 29 7))) 30 73 (kI 0).toNatClampNeg (kI 0).toNatClampNeg (if (Int32.ofNat 80) < (w1 29 6) then (Int32.ofNat 80) else (w1 29 6)).toNatClampNeg) 72 6).toNatClampNeg) 32 75 (kI 0).toNatClampNeg (kI 0).toNatClampNeg ((cp2 (cp2 (up2 (up2 w1 72 6 (if (Int32.ofNat 80) < (w1 29 6) then (Int32.ofNat 80) else (w1 29 6))) 72 7 (if (Int32.ofNat 1) < (w1 29 7) then (Int32.ofNat 1) else (w1 29 7))) 30 73 (kI 0).toNatClampNeg (kI 0).toNatClampNeg (if (Int32.ofNat 80) < (w1 29 6) then (Int32.ofNat 80) else (w1 29 6)).toNatClampNeg) 31 74 (kI 0).toNatClampNeg (kI 0).toNatClampNeg ((cp2 (up2 (up2 w1 72 6 (if (Int32.ofNat 80) < (w1 29 6) then (Int32.ofNat 80) else (w1 29 6))) 72 7 (if (Int32.ofNat 1) < (w1 29 7) then (Int32.ofNat 1) else (w1 29 7))) 30 73 (kI 0).toNatClampNeg (kI 0).toNatClampNeg (if (Int32.ofNat 80) < (w1 29 6) then (Int32.ofNat 80) else (w1 29 6)).toNatClampNeg) 72 6).toNatClampNeg) 72 7).toNatClampNeg) 33 76 (kI 0).toNatClampNeg (kI 0).toNatClampNeg ((cp2 (cp2 (cp2 (up2 (up2 w1 72 6 (if (Int32.ofNat 80) < (w1 29 6) then (Int32.ofNat 80) else (w1 29 6))) 72 7 (if (Int32.ofNat 1) < (w1 29 7) then (Int32.ofNat 1) else (w1 29 7))) 30 73 (kI 0).toNatClampNeg (kI 0).toNatClampNeg (if (Int32.ofNat 80) < (w1 29 6) then (Int32.ofNat 80) else (w1 29 6)).toNatClampNeg) 31 74 (kI 0).toNatClampNeg (kI 0).toNatClampNeg ((cp2 (up2 (up2 w1 72 6 (if (Int32.ofNat 80) < (w1 29 6) then (Int32.ofNat 80) else (w1 29 6))) 72 7 (if (Int32.ofNat 1) < (w1 29 7) then (Int32.ofNat 1) else (w1 29 7))) 30 73 (kI 0).toNatClampNeg (kI 0).toNatClampNeg (if (Int32.ofNat 80) < (w1 29 6) then (Int32.ofNat 80) else (w1 29 6)).toNatClampNeg) 72 6).toNatClampNeg) 32 75 (kI 0).toNatClampNeg (kI 0).toNatClampNeg ((cp2 (cp2 (up2 (up2 w1 72 6 (if (Int32.ofNat 80) < (w1 29 6) then (Int32.ofNat 80) else (w1 29 6))) 72 7 (if (Int32.ofNat 1) < (w1 29 7) then (Int32.ofNat 1) else (w1 29 7))) 30 73 (kI 0).toNatClampNeg (kI 0).toNatClampNeg (if (Int32.ofNat 80) < (w1 29 6) then (Int32.ofNat 80) else (w1 29 6)).toNatClampNeg) 31 74 (kI 0).toNatClampNeg (kI 0).toNatClampNeg ((cp2 (up2 (up2 w1 72 6 (if (Int32.ofNat 80) < (w1 29 6) then (Int32.ofNat 80) else (w1 29 6))) 72 7 (if (Int32.ofNat 1) < (w1 29 7) then (Int32.ofNat 1) else (w1 29 7))) 30 73 (kI 0).toNatClampNeg (kI 0).toNatClampNeg (if (Int32.ofNat 80) < (w1 29 6) then (Int32.ofNat 80) else (w1 29 6)).toNatClampNeg) 72 6).toNatClampNeg) 72 7).toNatClampNeg) 72 7).toNatClampNeg) 72 7).toNatClampNeg) 72 7) < 0 ∨ (kI 0) < 0 ∨ (kI 0) < 0 ∨ 16 < (kI 0).toNatClampNeg + ((cp2 (cp2 (cp2 (cp2 (cp2 (up2 (up2 w1 72 6 (if (Int32.ofNat 80) < (w1 29 6) then (Int32.ofNat 80) else (w1 29 6))) 72 7 (if (Int32.ofNat 1) < (w1 29 7) then (Int32.ofNat 1) else (w1 29 7))) 30 73 (kI 0).toNatClampNeg (kI 0).toNatClampNeg (if (Int32.ofNat 80) < (w1 29 6) then (Int32.ofNat 80) else (w1 29 6)).toNatClampNeg) 31 74 (kI 0).toNatClampNeg (kI 0).toNatClampNeg ((cp2 (up2 (up2 w1 72 6 (if (Int32.ofNat 80) < (w1 29 6) then (Int32.ofNat 80) else (w1 29 6))) 72 7 (if (Int32.ofNat 1) < (w1 29 7) then (Int32.ofNat 1) else (w1 29 7))) 30 73 (kI 0).toNatClampNeg (kI 0).toNatClampNeg (if (Int32.ofNat 80) < (w1 29 6) then (Int32.ofNat 80) else (w1 29 6)).toNatClampNeg) 72 6).toNatClampNeg) 32 75 (kI 0).toNatClampNeg (kI 0).toNatClampNeg ((cp2 (cp2 (up2 (up2 w1 72 6 (if (Int32.ofNat 80) < (w1 29 6) then (Int32.ofNat 80) else (w1 29 6))) 72 7 (if (Int32.ofNat 1) < (w1 29 7) then (Int32.ofNat 1) else (w1 29 7))) 30 73 (kI 0).toNatClampNeg (kI 0).toNatClampNeg (if (Int32.ofNat 80) < (w1 29 6) then (Int32.ofNat 80) else (w1 29 6)).toNatClampNeg) 31 74 (kI 0).toNatClampNeg (kI 0).toNatClampNeg ((cp2 (up2 (up2 w1 72 6 (if (Int32.ofNat 80) < (w1 29 6) then (Int32.ofNat 80) else (w1 29 6))) 72 7 (if (Int32.ofNat 1) < (w1 29 7) then (Int32.ofNat 1) else (w1 29 7))) 30 73 (kI 0).toNatClampNeg (kI 0).toNatClampNeg (if (Int32.ofNat 80) < (w1 29 6) then (Int32.ofNat 80) else (w1 29 6)).toNatClampNeg) 72 6).toNatClampNeg) 72 7).toNatClampNeg) 33 76 (kI 0).toNatClampNeg (kI 0).toNatClampNeg ((cp2 (cp2 (cp2 (up2 (up2 w1 72 6 (if (Int32.ofNat 80) < (w1 29 6) then (Int32.ofNat 80) else (w1 29 6))) 72 7 (if (Int32.ofNat 1) < (w1 29 7) then (Int32.ofNat 1) else (w1 29 7))) 30 73 (kI 0).toNatClampNeg (kI 0).toNatClampNeg (if (Int32.ofNat 80) < (w1 29 6) then (Int32.ofNat 80) else (w1 29 6)).toNatClampNeg) 31 74 (kI 0).toNatClampNeg (kI 0).toNatClampNeg ((cp2 (up2 (up2 w1 72 6 (if (Int32.ofNat 80) < (w1 29 6) then (Int32.ofNat 80) else (w1 29 6))) 72 7 (if (Int32.ofNat 1) < (w1 29 7) then (Int32.ofNat 1) else (w1 29 7))) 30 73 (kI 0).toNatClampNeg (kI 0).toNatClampNeg (if (Int32.ofNat 80) < (w1 29 6) then (Int32.ofNat 80) else (w1 29 6)).toNatClampNeg) 72 6).toNatClampNeg) 32 75 (kI 0).toNatClampNeg (kI 0).toNatClampNeg ((cp2 (cp2 (up2 (up2 w1 72 6 (if (Int32.ofNat 80) < (w1 29 6) then (Int32.ofNat 80) else (w1 29 6))) 72 7 (if (Int32.ofNat 1) < (w1 29 7) then (Int32.ofNat 1) else (w1 29 7))) 30 73 (kI 0).toNatClampNeg (kI 0).toNatClampNeg (if (Int32.ofNat 80) < (w1 29 6) then (Int32.ofNat 80) else (w1 29 6)).toNatClampNeg) 31 74 (kI 0).toNatClampNeg (kI 0).toNatClampNeg ((cp2 (up2 (up2 w1 72 6 (if (Int32.ofNat 80) < (w1 29 6) then (Int32.ofNat 80) else (w1 29 6))) 72 7 (if (Int32.ofNat 1) < (w1 29 7) then (Int32.ofNat 1) else (w1 29 7))) 30 73 (kI 0).toNatClampNeg (kI 0).toNatClampNeg (if (Int32.ofNat 80) < (w1 29 6) then (Int32.ofNat 80) else (w1 29 6)).toNatClampNeg) 72 6).toNatClampNeg) 72 7).toNatClampNeg) 72 7).toNatClampNeg) 34 77 (kI 0).toNatClampNeg (kI 0).toNatClampNeg ((cp2 (cp2 (cp2 (cp2 (up2 (up2 w1 72 6 (if (Int32.ofNat 80) < (w1 29 6) then (Int32.ofNat 80) else (w1 29 6))) 72 7 (if (Int32.ofNat 1) < (w1 29 7) then (Int32.ofNat 1) else (w1 29 7))) 30 73 (kI 0).toNatClampNeg (kI 0).toNatClampNeg (if (Int32.ofNat 80) < (w1 29 6) then (Int32.ofNat 80) else (w1 29 6)).toNatClampNeg) 31 74 (kI 0).toNatClampNeg (kI 0).toNatClampNeg ((cp2 (up2 (up2 w1 72 6 (if (Int32.ofNat 80) < (w1 29 6) then (Int32.ofNat 80) else (w1 29 6))) 72 7 (if (Int32.ofNat 1) < (w1 29 7) then (Int32.ofNat 1) else (w1 29 7))) 30 73 (kI 0).toNatClampNeg (kI 0).toNatClampNeg (if (Int32.ofNat 80) < (w1 29 6) then (Int32.ofNat 80) else (w1 29 6)).toNatClampNeg) 72 6).toNatClampNeg) 32 75 (kI 0).toNatClampNeg (kI 0).toNatClampNeg ((cp2 (cp2 (up2 (up2 w1 72 6 (if (Int32.ofNat 80) < (w1 29 6) then (Int32.ofNat 80) else (w1 29 6))) 72 7 (if (Int32.ofNat 1) < (w1 29 7) then (Int32.ofNat 1) else (w1 29 7))) 30 73 (kI 0).toNatClampNeg (kI 0).toNatClampNeg (if (Int32.ofNat 80) < (w1 29 6) then (Int32.ofNat 80) else (w1 29 6)).toNatClampNeg) 31 74 (kI 0).toNatClampNeg (kI 0).toNatClampNeg ((cp2 (up2 (up2 w1 72 6 (if (Int32.ofNat 80) < (w1 29 6) then (Int32.ofNat 80) else (w1 29 6))) 72 7 (if (Int32.ofNat 1) < (w1 29 7) then (Int32.ofNat 1) else (w1 29 7))) 30 73 (kI 0).toNatClampNeg (kI 0).toNatClampNeg (if (Int32.ofNat 80) < (w1 29 6) then (Int32.ofNat 80) else (w1 29 6)).toNatClampNeg) 72 6).toNatClampNeg) 72 7).toNatClampNeg) 33 76 (kI 0).toNatClampNeg (kI 0).toNatClampNeg ((cp2 (cp2 (cp2 (up2 (up2 w1 72 6 (if (Int32.ofNat 80) < (w1 29 6) then (Int32.ofNat 80) else (w1 29 6))) 72 7 (if (Int32.ofNat 1) < (w1 29 7) then (Int32.ofNat 1) else (w1 29 7))) 30 73 (kI 0).toNatClampNeg (kI 0).toNatClampNeg (if (Int32.ofNat 80) < (w1 29 6) then (Int32.ofNat 80) else (w1 29 6)).toNatClampNeg) 31 74 (kI 0).toNatClampNeg (kI 0).toNatClampNeg ((cp2 (up2 (up2 w1 72 6 (if (Int32.ofNat 80) < (w1 29 6) then (Int32.ofNat 80) else (w1 29 6))) 72 7 (if (Int32.ofNat 1) < (w1 29 7) then (Int32.ofNat 1) else (w1 29 7))) 30 73 (kI 0).toNatClampNeg (kI 0).toNatClampNeg (if (Int32.ofNat 80) < (w1 29 6) then (Int32.ofNat 80) else (w1 29 6)).toNatClampNeg) 72 6).toNatClampNeg) 32 75 (kI 0).toNatClampNeg (kI 0).toNatClampNeg ((cp2 (cp2 (up2 (up2 w1 72 6 (if (Int32.ofNat 80) < (w1 29 6) then (Int32.ofNat 80) else (w1 29 6))) 72 7 (if (Int32.ofNat 1) < (w1 29 7) then (Int32.ofNat 1) else (w1 29 7))) 30 73 (kI 0).toNatClampNeg (kI 0).toNatClampNeg (if (Int32.ofNat 80) < (w1 29 6) then (Int32.ofNat 80) else (w1 29 6)).toNatClampNeg) 31 74 (kI 0).toNatClampNeg (kI 0).toNatClampNeg ((cp2 (up2 (up2 w1 72 6 (if (Int32.ofNat 80) < (w1 29 6) then (Int32.ofNat 80) else (w1 29 6))) 72 7 (if (Int32.ofNat 1) < (w1 29 7) then (Int32.ofNat 1) else (w1 29 7))) 30 73 (kI 0).toNatClampNeg (kI 0).toNatClampNeg (if (Int32.ofNat 80) < (w1 29 6) then (Int32.ofNat 80) else (w1 29 6)).toNatClampNeg) 72 6).toNatClampNeg) 72 7).toNatClampNeg) 72 7).toNatClampNeg) 72 7).toNatClampNeg) 72 7).toNatClampNeg ∨ 1 < (kI 0).toNatClampNeg + ((cp2 (cp2 (cp2 (cp2 (cp2 (up2 (up2 w1 72 6 (if (Int32.ofNat 80) < (w1 29 6) then (Int32.ofNat 80) else (w1 29 6))) 72 7 (if (Int32.ofNat 1) < (w1 29 7) then (Int32.ofNat 1) else (w1 29 7))) 30 73 (kI 0).toNatClampNeg (kI 0).toNatClampNeg (if (Int32.ofNat 80) < (w1 29 6) then (Int32.ofNat 80) else (w1 29 6)).toNatClampNeg) 31 74 (kI 0).toNatClampNeg (kI 0).toNatClampNeg ((cp2 (up2 (up2 w1 72 6 (if (Int32.ofNat 80) < (w1 29 6) then (Int32.ofNat 80) else (w1 29 6))) 72 7 (if (Int32.ofNat 1) < (w1 29 7) then (Int32.ofNat 1) else (w1 29 7))) 30 73 (kI 0).toNatClampNeg (kI 0).toNatClampNeg (if (Int32.ofNat 80) < (w1 29 6) then (Int32.ofNat 80) else (w1 29 6)).toNatClampNeg) 72 6).toNatClampNeg) 32 75 (kI 0).toNatClampNeg (kI 0).toNatClampNeg ((cp2 (cp2 (up2 (up2 w1 72 6 (if (Int32.ofNat 80) < (w1 29 6) then (Int32.ofNat 80) else (w1 29 6))) 72 7 (if (Int32.ofNat 1) < (w1 29 7) then (Int32.ofNat 1) else (w1 29 7))) 30 73 (kI 0).toNatClampNeg (kI 0).toNatClampNeg (if (Int32.ofNat 80) < (w1 29 6) then (Int32.ofNat 80) else (w1 29 6)).toNatClampNeg) 31 74 (kI 0).toNatClampNeg (kI 0).toNatClampNeg ((cp2 (up2 (up2 w1 72 6 (if (Int32.ofNat 80) < (w1 29 6) then (Int32.ofNat 80) else (w1 29 6))) 72 7 (if (Int32.ofNat 1) < (w1 29 7) then (Int32.ofNat 1) else (w1 29 7))) 30 73 (kI 0).toNatClampNeg (kI 0).toNatClampNeg (if (Int32.ofNat 80) < (w1 29 6) then (Int32.ofNat 80) else (w1 29 6)).toNatClampNeg) 72 6).toNatClampNeg) 72 7).toNatClampNeg) 33 76 (kI 0).toNatClampNeg (kI 0).toNatClampNeg ((cp2 (cp2 (cp2 (up2 (up2 w1 72 6 (if (Int32.ofNat 80) < (w1 29 6) then (Int32.ofNat 80) else (w1 29 6))) 72 7 (if (Int32.ofNat 1) < (w1 29 7) then (Int32.ofNat 1) else (w1 29 7))) 30 73 (kI 0).toNatClampNeg (kI 0).toNatClampNeg (if (Int32.ofNat 80) < (w1 29 6) then (Int32.ofNat 80) else (w1 29 6)).toNatClampNeg) 31 74 (kI 0).toNatClampNeg (kI 0).toNatClampNeg ((cp2 (up2 (up2 w1 72 6 (if (Int32.ofNat 80) < (w1 29 6) then (Int32.ofNat 80) else (w1 29 6))) 72 7 (if (Int32.ofNat 1) < (w1 29 7) then (Int32.ofNat 1) else (w1 29 7))) 30 73 (kI 0).toNatClampNeg (kI 0).toNatClampNeg (if (Int32.ofNat 80) < (w1 29 6) then (Int32.ofNat 80) else (w1 29 6)).toNatClampNeg) 72 6).toNatClampNeg) 32 75 (kI 0).toNatClampNeg (kI 0).toNatClampNeg ((cp2 (cp2 (up2 (up2 w1 72 6 (if (Int32.ofNat 80) < (w1 29 6) then (Int32.ofNat 80) else (w1 29 6))) 72 7 (if (Int32.ofNat 1) < (w1 29 7) then (Int32.ofNat 1) else (w1 29 7))) 30 73 (kI 0).toNatClampNeg (kI 0).toNatClampNeg (if (Int32.ofNat 80) < (w1 29 6) then (Int32.ofNat 80) else (w1 29 6)).toNatClampNeg) 31 74 (kI 0).toNatClampNeg (kI 0).toNatClampNeg ((cp2 (up2 (up2 w1 72 6 (if (Int32.ofNat 80) < (w1 29 6) then (Int32.ofNat 80) else (w1 29 6))) 72 7 (if (Int32.ofNat 1) < (w1 29 7) then (Int32.ofNat 1) else (w1 29 7))) 30 73 (kI 0).toNatClampNeg (kI 0).toNatClampNeg (if (Int32.ofNat 80) < (w1 29 6) then (Int32.ofNat 80) else (w1 29 6)).toNatClampNeg) 72 6).toNatClampNeg) 72 7).toNatClampNeg) 72 7).toNatClampNeg) 34 77 (kI 0).toNatClampNeg (kI 0).toNatClampNeg ((cp2 (cp2 (cp2 (cp2 (up2 (up2 w1 72 6 (if (Int32.ofNat 80) < (w1 29 6) then (Int32.ofNat 80) else (w1 29 6))) 72 7 (if (Int32.ofNat 1) < (w1 29 7) then (Int32.ofNat 1) else (w1 29 7))) 30 73 (kI 0).toNatClampNeg (kI 0).toNatClampNeg (if (Int32.ofNat 80) < (w1 29 6) then (Int32.ofNat 80) else (w1 29 6)).toNatClampNeg) 31 74 (kI 0).toNatClampNeg (kI 0).toNatClampNeg ((cp2 (up2 (up2 w1 72 6 (if (Int32.ofNat 80) < (w1 29 6) then (Int32.ofNat 80) else (w1 29 6))) 72 7 (if (Int32.ofNat 1) < (w1 29 7) then (Int32.ofNat 1) else (w1 29 7))) 30 73 (kI 0).toNatClampNeg (kI 0).toNatClampNeg (if (Int32.ofNat 80) < (w1 29 6) then (Int32.ofNat 80) else (w1 29 6)).toNatClampNeg) 72 6).toNatClampNeg) 32 75 (kI 0).toNatClampNeg (kI 0).toNatClampNeg ((cp2 (cp2 (up2 (up2 w1 72 6 (if (Int32.ofNat 80) < (w1 29 6) then (Int32.ofNat 80) else (w1 29 6))) 72 7 (if (Int32.ofNat 1) < (w1 29 7) then (Int32.ofNat 1) else (w1 29 7))) 30 73 (kI 0).toNatClampNeg (kI 0).toNatClampNeg (if (Int32.ofNat 80) < (w1 29 6) then (Int32.ofNat 80) else (w1 29 6)).toNatClampNeg) 31 74 (kI 0).toNatClampNeg (kI 0).toNatClampNeg ((cp2 (up2 (up2 w1 72 6 (if (Int32.ofNat 80) < (w1 29 6) then (Int32.ofNat 80) else (w1 29 6))) 72 7 (if (Int32.ofNat 1) < (w1 29 7) then (Int32.ofNat 1) else (w1 29 7))) 30 73 (kI 0).toNatClampNeg (kI 0).toNatClampNeg (if (Int32.ofNat 80) < (w1 29 6) then (Int32.ofNat 80) else (w1 29 6)).toNatClampNeg) 72 6).toNatClampNeg) 72 7).toNatClampNeg) 33 76 (kI 0).toNatClampNeg (kI 0).toNatClampNeg ((cp2 (cp2 (cp2 (up2 (up2 w1 72 6 (if (Int32.ofNat 80) < (w1 29 6) then (Int32.ofNat 80) else (w1 29 6))) 72 7 (if (Int32.ofNat 1) < (w1 29 7) then (Int32.ofNat 1) else (w1 29 7))) 30 73 (kI 0).toNatClampNeg (kI 0).toNatClampNeg (if (Int32.ofNat 80) < (w1 29 6) then (Int32.ofNat 80) else (w1 29 6)).toNatClampNeg) 31 74 (kI 0).toNatClampNeg (kI 0).toNatClampNeg ((cp2 (up2 (up2 w1 72 6 (if (Int32.ofNat 80) < (w1 29 6) then (Int32.ofNat 80) else (w1 29 6))) 72 7 (if (Int32.ofNat 1) < (w1 29 7) then (Int32.ofNat 1) else (w1 29 7))) 30 73 (kI 0).toNatClampNeg (kI 0).toNatClampNeg (if (Int32.ofNat 80) < (w1 29 6) then (Int32.ofNat 80) else (w1 29 6)).toNatClampNeg) 72 6).toNatClampNeg) 32 75 (kI 0).toNatClampNeg (kI 0).toNatClampNeg ((cp2 (cp2 (up2 (up2 w1 72 6 (if (Int32.ofNat 80) < (w1 29 6) then (Int32.ofNat 80) else (w1 29 6))) 72 7 (if (Int32.ofNat 1) < (w1 29 7) then (Int32.ofNat 1) else (w1 29 7))) 30 73 (kI 0).toNatClampNeg (kI 0).toNatClampNeg (if (Int32.ofNat 80) < (w1 29 6) then (Int32.ofNat 80) else (w1 29 6)).toNatClampNeg) 31 74 (kI 0).toNatClampNeg (kI 0).toNatClampNeg ((cp2 (up2 (up2 w1 72 6 (if (Int32.ofNat 80) < (w1 29 6) then (Int32.ofNat 80) else (w1 29 6))) 72 7 (if (Int32.ofNat 1) < (w1 29 7) then (Int32.ofNat 1) else (w1 29 7))) 30 73 (kI 0).toNatClampNeg (kI 0).toNatClampNeg (if (Int32.ofNat 80) < (w1 29 6) then (Int32.ofNat 80) else (w1 29 6)).toNatClampNeg) 72 6).toNatClampNeg) 72 7).toNatClampNeg) 72 7).toNatClampNeg) 72 7).toNatClampNeg) 72 7).toNatClampNeg))) ∧ CI X (d + 2) 151 [.ref 0, .int (kI 5)] (up2 (G_76_72_29 w1) 0 16 (((G_76_72_29 w1) 0 16) ||| ((kI 1) <<< ((kI 5) &&& 31)))) (fun x2 w2 => Q (F_259 x2 w2) w2))))))) else Q x1 w1))))) : EI X (d + 2) 136 (0, [some (.ref 0), some (.int (kI 5)), some (.int v2), none], [], SH, w) Q := by
  unfold EI
  refine EV.steps cl_136 3 (q2 := (3, [some (.ref 0), some (.int (kI 5)), some (.int v2), none], [.int (kI 5), .int (kI 0), .int (kI 5)], SH, w)) rfl ?_
  refine EV.callF (kc := 153) (av := [.int (kI 5), .int (kI 0), .int (kI 5)]) (r := []) (rv := some (.int (F_153 (kI 5) (kI 0) (kI 5) w))) (w2 := w) cl_136 rfl rfl rfl (m_153 w (kI 5) (kI 0) (kI 5)) ?_
  refine EV.z_eq cl_136 rfl (fun h1 => ?_) (fun h1 => ?_)
  · skip
    rw [if_pos h1] at H
    refine EV.steps cl_136 1 (q2 := (24, [some (.ref 0), some (.int (kI 5)), some (.int v2), none], [.int (kI (-1))], SH, w)) rfl ?_
    refine EV.ret cl_136 rfl rfl rfl ?_
    exact ⟨_, rfl, rfl, H⟩
  · skip
    rw [if_neg h1] at H
    refine EV.steps cl_136 5 (q2 := (17, [some (.ref 0), some (.int (kI 5)), some (.int v2), none], [.int (kI 80), .int (kI 1), .int v2, .ref 1], SH, w)) rfl ?_
    refine EV.callF (kc := 105) (av := [.ref 1, .int v2, .int (kI 1), .int (kI 80)]) (r := []) (rv := some (.int (F_105_1 v2 (kI 1) (kI 80) w))) (w2 := w) cl_136 rfl rfl rfl (m_105_1 w v2 (kI 1) (kI 80)) ?_
    refine EV.z_ne cl_136 rfl (fun h2 => ?_) (fun h2 => ?_)
    · skip
      rw [if_neg h2] at H
      refine EV.steps cl_136 3 (q2 := (30, [some (.ref 0), some (.int (kI 5)), some (.int v2), none], [.int v2, .ref 79], SH, w)) rfl ?_
      refine EV.call (kc := 63) (av := [.ref 79, .int v2]) (r := []) cl_136 rfl rfl rfl H ?_
      clear H; intro y1 s1 w1 e1
      obtain ⟨x1, rfl, rfl, H⟩ := e1
      refine EV.steps cl_136 2 (q2 := (35, [some (.ref 0), some (.int (kI 5)), some (.int v2), some (.int x1)], [.int x1], SH, w1)) rfl ?_
      refine EV.z_ge cl_136 rfl (fun h3 => ?_) (fun h3 => ?_)
      · skip
        rw [if_pos h3] at H
        refine EV.steps cl_136 6 (q2 := (50, [some (.ref 0), some (.int (kI 5)), some (.int v2), some (.int x1)], [.ref 29, .ref 72], SH, w1)) rfl ?_
        obtain ⟨j4, H⟩ := H
        obtain ⟨j5, H⟩ := H
        obtain ⟨j6, H⟩ := H
        obtain ⟨j7, H⟩ := H
        obtain ⟨j8, H⟩ := H
        obtain ⟨j9, H⟩ := H
        refine EV.callF (kc := 76) (av := [.ref 72, .ref 29]) (r := []) (rv := none) (w2 := (G_76_72_29 w1)) cl_136 rfl rfl rfl (m_76_72_29 w1  j4 j5 j6 j7 j8 j9) ?_
        refine EV.steps cl_136 10 (q2 := (67, [some (.ref 0), some (.int (kI 5)), some (.int v2), some (.int x1)], [.int (kI 5), .ref 0], SH, (up2 (G_76_72_29 w1) 0 16 (((G_76_72_29 w1) 0 16) ||| ((kI 1) <<< ((kI 5) &&& 31)))))) rfl ?_
        refine EV.call (kc := 151) (av := [.ref 0, .int (kI 5)]) (r := []) cl_136 rfl rfl rfl H ?_
        clear H; intro y2 s2 w2 e2
        obtain ⟨x2, rfl, rfl, H⟩ := e2
        refine EV.callF (kc := 259) (av := [.int x2]) (r := []) (rv := some (.int (F_259 x2 w2))) (w2 := w2) cl_136 rfl rfl rfl (m_259 w2 x2) ?_
        refine EV.ret cl_136 rfl rfl rfl ?_
        exact ⟨_, rfl, rfl, H⟩
      · skip
        rw [if_neg h3] at H
        refine EV.steps cl_136 1 (q2 := (39, [some (.ref 0), some (.int (kI 5)), some (.int v2), some (.int x1)], [.int x1], SH, w1)) rfl ?_
        refine EV.ret cl_136 rfl rfl rfl ?_
        exact ⟨_, rfl, rfl, H⟩
    · skip
      rw [if_pos h2] at H
      refine EV.steps cl_136 1 (q2 := (24, [some (.ref 0), some (.int (kI 5)), some (.int v2), none], [.int (kI (-1))], SH, w)) rfl ?_
      refine EV.ret cl_136 rfl rfl rfl ?_
      exact ⟨_, rfl, rfl, H⟩
theorem t137_0_at0 {X : Scr} {d : Nat} {Q : Int32 → Wd → Prop} (w : Wd) (v1 : Int32)
    (H : (if (F_153 v1 (kI 0) (kI 5) w) = 0 then Q (kI (-1)) w else (if (F_154 (w 0 16) v1 w) = 0 then Q (kI (-1)) w else CI X (d + 1) 151 [.ref 0, .int v1] w (fun x1 w1 => Q x1 w1)))) : EI X (d + 1) 137 (0, [some (.ref 0), some (.int v1)], [], SH, w) Q := by
  unfold EI
  refine EV.steps cl_137 3 (q2 := (3, [some (.ref 0), some (.int v1)], [.int (kI 5), .int (kI 0), .int v1], SH, w)) rfl ?_
  refine EV.callF (kc := 153) (av := [.int v1, .int (kI 0), .int (kI 5)]) (r := []) (rv := some (.int (F_153 v1 (kI 0) (kI 5) w))) (w2 := w) cl_137 rfl rfl rfl (m_153 w v1 (kI 0) (kI 5)) ?_
  refine EV.z_eq cl_137 rfl (fun h1 => ?_) (fun h1 => ?_)
  · skip
    rw [if_pos h1] at H
    refine EV.steps cl_137 1 (q2 := (21, [some (.ref 0), some (.int v1)], [.int (kI (-1))], SH, w)) rfl ?_
    refine EV.ret cl_137 rfl rfl rfl ?_
    exact ⟨_, rfl, rfl, H⟩
  · skip
    rw [if_neg h1] at H
    refine EV.steps cl_137 3 (q2 := (14, [some (.ref 0), some (.int v1)], [.int v1, .int (w 0 16)], SH, w)) rfl ?_
    refine EV.callF (kc := 154) (av := [.int (w 0 16), .int v1]) (r := []) (rv := some (.int (F_154 (w 0 16) v1 w))) (w2 := w) cl_137 rfl rfl rfl (m_154 w (w 0 16) v1) ?_
    refine EV.z_ne cl_137 rfl (fun h2 => ?_) (fun h2 => ?_)
    · skip
      rw [if_neg h2] at H
      refine EV.steps cl_137 2 (q2 := (24, [some (.ref 0), some (.int v1)], [.int v1, .ref 0], SH, w)) rfl ?_
      refine EV.call (kc := 151) (av := [.ref 0, .int v1]) (r := []) cl_137 rfl rfl rfl H ?_
      clear H; intro y1 s1 w1 e1
      obtain ⟨x1, rfl, rfl, H⟩ := e1
      refine EV.ret cl_137 rfl rfl rfl ?_
      exact ⟨_, rfl, rfl, H⟩
    · skip
      rw [if_pos h2] at H
      refine EV.steps cl_137 1 (q2 := (21, [some (.ref 0), some (.int v1)], [.int (kI (-1))], SH, w)) rfl ?_
      refine EV.ret cl_137 rfl rfl rfl ?_
      exact ⟨_, rfl, rfl, H⟩
theorem t138_0_at0 {X : Scr} {d : Nat} {Q : Int32 → Wd → Prop} (w : Wd) (v1 : Int32) (v2 : Int32)
    (H : (if (F_153 v1 (kI 0) (kI 20) w) = 0 then Q (kI (-1)) w else (if (F_153 v2 (kI 0) (kI 1) w) = 0 then Q (kI (-1)) w else EI X (d + 1) 138 (23, [some (.ref 0), some (.int v1), some (.int v2), some (.int (kI 0)), none, none], [], SH, w) Q))) : EI X (d + 1) 138 (0, [some (.ref 0), some (.int v1), some (.int v2), none, none, none], [], SH, w) Q := by
  unfold EI
  refine EV.steps cl_138 3 (q2 := (4, [some (.ref 0), some (.int v1), some (.int v2), none, none, none], [.int (kI 20), .int (kI 0), .int v1], SH, w)) rfl ?_
  refine EV.callF (kc := 153) (av := [.int v1, .int (kI 0), .int (kI 20)]) (r := []) (rv := some (.int (F_153 v1 (kI 0) (kI 20) w))) (w2 := w) cl_138 rfl rfl rfl (m_153 w v1 (kI 0) (kI 20)) ?_
  refine EV.z_eq cl_138 rfl (fun h1 => ?_) (fun h1 => ?_)
  · skip
    rw [if_pos h1] at H
    refine EV.steps cl_138 1 (q2 := (20, [some (.ref 0), some (.int v1), some (.int v2), none, none, none], [.int (kI (-1))], SH, w)) rfl ?_
    refine EV.ret cl_138 rfl rfl rfl ?_
    exact ⟨_, rfl, rfl, H⟩
  · skip
    rw [if_neg h1] at H
    refine EV.steps cl_138 3 (q2 := (13, [some (.ref 0), some (.int v1), some (.int v2), none, none, none], [.int (kI 1), .int (kI 0), .int v2], SH, w)) rfl ?_
    refine EV.callF (kc := 153) (av := [.int v2, .int (kI 0), .int (kI 1)]) (r := []) (rv := some (.int (F_153 v2 (kI 0) (kI 1) w))) (w2 := w) cl_138 rfl rfl rfl (m_153 w v2 (kI 0) (kI 1)) ?_
    refine EV.z_ne cl_138 rfl (fun h2 => ?_) (fun h2 => ?_)
    · skip
      rw [if_neg h2] at H
      refine EV.steps cl_138 2 (q2 := (23, [some (.ref 0), some (.int v1), some (.int v2), some (.int (kI 0)), none, none], [], SH, w)) rfl ?_
      exact H
    · skip
      rw [if_pos h2] at H
      refine EV.steps cl_138 1 (q2 := (20, [some (.ref 0), some (.int v1), some (.int v2), none, none, none], [.int (kI (-1))], SH, w)) rfl ?_
      refine EV.ret cl_138 rfl rfl rfl ?_
      exact ⟨_, rfl, rfl, H⟩
theorem t138_0_at23 {X : Scr} {d : Nat} {Q : Int32 → Wd → Prop} (w : Wd) (v1 : Int32) (v2 : Int32) (v3 : Int32)
    (H : (if (kI 6) ≤ v3 then EI X (d + 1) 138 (67, [some (.ref 0), some (.int v1), some (.int v2), some (.int (kI (-2))), some (.int (kI 0)), none], [], SH, w) Q else (if (F_154 (w 0 16) v3 w) = 0 then (inB v3 6 = true ∧ EI X (d + 1) 138 (23, [some (.ref 0), some (.int v1), some (.int v2), some (.int (v3 + (kI 1))), none, none], [], SH, (up2 w 109 v3.toNatClampNeg (kI 0))) Q) else CI X (d + 1) 151 [.ref 0, .int v3] w (fun x1 w1 => (inB v3 6 = true ∧ EI X (d + 1) 138 (23, [some (.ref 0), some (.int v1), some (.int v2), some (.int (v3 + (kI 1))), none, none], [], SH, (up2 w1 109 v3.toNatClampNeg x1)) Q))))) : EI X (d + 1) 138 (23, [some (.ref 0), some (.int v1), some (.int v2), some (.int v3), none, none], [], SH, w) Q := by
  unfold EI
  refine EV.steps cl_138 2 (q2 := (26, [some (.ref 0), some (.int v1), some (.int v2), some (.int v3), none, none], [.int (kI 6), .int v3], SH, w)) rfl ?_
  refine EV.i_ge cl_138 rfl (fun h1 => ?_) (fun h1 => ?_)
  · skip
    rw [if_pos h1] at H
    refine EV.steps cl_138 4 (q2 := (67, [some (.ref 0), some (.int v1), some (.int v2), some (.int (kI (-2))), some (.int (kI 0)), none], [], SH, w)) rfl ?_
    exact H
  · skip
    rw [if_neg h1] at H
    refine EV.steps cl_138 6 (q2 := (39, [some (.ref 0), some (.int v1), some (.int v2), some (.int v3), none, none], [.int v3, .int (w 0 16), .int v3, .ref 109], SH, w)) rfl ?_
    refine EV.callF (kc := 154) (av := [.int (w 0 16), .int v3]) (r := [.int v3, .ref 109]) (rv := some (.int (F_154 (w 0 16) v3 w))) (w2 := w) cl_138 rfl rfl rfl (m_154 w (w 0 16) v3) ?_
    refine EV.z_eq cl_138 rfl (fun h2 => ?_) (fun h2 => ?_)
    · skip
      rw [if_pos h2] at H
      refine EV.steps cl_138 1 (q2 := (54, [some (.ref 0), some (.int v1), some (.int v2), some (.int v3), none, none], [.int (kI 0), .int v3, .ref 109], SH, w)) rfl ?_
      obtain ⟨j3, H⟩ := H
      refine EV.iastore cl_138 rfl rfl (by decide) j3 ?_
      refine EV.steps cl_138 2 (q2 := (23, [some (.ref 0), some (.int v1), some (.int v2), some (.int (v3 + (kI 1))), none, none], [], SH, (up2 w 109 v3.toNatClampNeg (kI 0)))) rfl ?_
      exact H
    · skip
      rw [if_neg h2] at H
      refine EV.steps cl_138 2 (q2 := (47, [some (.ref 0), some (.int v1), some (.int v2), some (.int v3), none, none], [.int v3, .ref 0, .int v3, .ref 109], SH, w)) rfl ?_
      refine EV.call (kc := 151) (av := [.ref 0, .int v3]) (r := [.int v3, .ref 109]) cl_138 rfl rfl rfl H ?_
      clear H; intro y1 s1 w1 e1
      obtain ⟨x1, rfl, rfl, H⟩ := e1
      refine EV.steps cl_138 1 (q2 := (54, [some (.ref 0), some (.int v1), some (.int v2), some (.int v3), none, none], [.int x1, .int v3, .ref 109], SH, w1)) rfl ?_
      obtain ⟨j4, H⟩ := H
      refine EV.iastore cl_138 rfl rfl (by decide) j4 ?_
      refine EV.steps cl_138 2 (q2 := (23, [some (.ref 0), some (.int v1), some (.int v2), some (.int (v3 + (kI 1))), none, none], [], SH, (up2 w1 109 v3.toNatClampNeg x1))) rfl ?_
      exact H
theorem t138_0_at67 {X : Scr} {d : Nat} {Q : Int32 → Wd → Prop} (w : Wd) (v1 : Int32) (v2 : Int32) (v3 : Int32) (v4 : Int32)
    (H : (if (kI 64) ≤ v4 then (if 0 ≤ v3 then (if v2 = 0 then Q (F_259 v3 w) w else Q v3 w) else Q (kI (-2)) w) else (if (v4 &&& ((w 0 16) ^^^ (kI (-1)))) = 0 then CI X (d + 1) 152 [.ref 0, .int v4] w (fun x1 w1 => (if (F_259 x1 w1) = v1 then (if v3 < 0 then EI X (d + 1) 138 (67, [some (.ref 0), some (.int v1), some (.int v2), some (.int v4), some (.int (v4 + (kI 1))), none], [], SH, w1) Q else (if (F_259 v3 w1) ≤ (F_259 v4 w1) then EI X (d + 1) 138 (67, [some (.ref 0), some (.int v1), some (.int v2), some (.int v3), some (.int (v4 + (kI 1))), none], [], SH, w1) Q else EI X (d + 1) 138 (67, [some (.ref 0), some (.int v1), some (.int v2), some (.int v4), some (.int (v4 + (kI 1))), none], [], SH, w1) Q)) else EI X (d + 1) 138 (67, [some (.ref 0), some (.int v1), some (.int v2), some (.int v3), some (.int (v4 + (kI 1))), none], [], SH, w1) Q)) else EI X (d + 1) 138 (67, [some (.ref 0), some (.int v1), some (.int v2), some (.int v3), some (.int (v4 + (kI 1))), none], [], SH, w) Q))) : EI X (d + 1) 138 (67, [some (.ref 0), some (.int v1), some (.int v2), some (.int v3), some (.int v4), none], [], SH, w) Q := by
  unfold EI
  refine EV.steps cl_138 2 (q2 := (71, [some (.ref 0), some (.int v1), some (.int v2), some (.int v3), some (.int v4), none], [.int (kI 64), .int v4], SH, w)) rfl ?_
  refine EV.i_ge cl_138 rfl (fun h1 => ?_) (fun h1 => ?_)
  · skip
    rw [if_pos h1] at H
    refine EV.steps cl_138 1 (q2 := (137, [some (.ref 0), some (.int v1), some (.int v2), some (.int v3), some (.int v4), none], [.int v3], SH, w)) rfl ?_
    refine EV.z_ge cl_138 rfl (fun h2 => ?_) (fun h2 => ?_)
    · skip
      rw [if_pos h2] at H
      refine EV.steps cl_138 1 (q2 := (144, [some (.ref 0), some (.int v1), some (.int v2), some (.int v3), some (.int v4), none], [.int v2], SH, w)) rfl ?_
      refine EV.z_ne cl_138 rfl (fun h3 => ?_) (fun h3 => ?_)
      · skip
        rw [if_neg h3] at H
        refine EV.steps cl_138 1 (q2 := (155, [some (.ref 0), some (.int v1), some (.int v2), some (.int v3), some (.int v4), none], [.int v3], SH, w)) rfl ?_
        refine EV.ret cl_138 rfl rfl rfl ?_
        exact ⟨_, rfl, rfl, H⟩
      · skip
        rw [if_pos h3] at H
        refine EV.steps cl_138 1 (q2 := (148, [some (.ref 0), some (.int v1), some (.int v2), some (.int v3), some (.int v4), none], [.int v3], SH, w)) rfl ?_
        refine EV.callF (kc := 259) (av := [.int v3]) (r := []) (rv := some (.int (F_259 v3 w))) (w2 := w) cl_138 rfl rfl rfl (m_259 w v3) ?_
        refine EV.steps cl_138 1 (q2 := (155, [some (.ref 0), some (.int v1), some (.int v2), some (.int v3), some (.int v4), none], [.int (F_259 v3 w)], SH, w)) rfl ?_
        refine EV.ret cl_138 rfl rfl rfl ?_
        exact ⟨_, rfl, rfl, H⟩
    · skip
      rw [if_neg h2] at H
      refine EV.steps cl_138 1 (q2 := (142, [some (.ref 0), some (.int v1), some (.int v2), some (.int v3), some (.int v4), none], [.int (kI (-2))], SH, w)) rfl ?_
      refine EV.ret cl_138 rfl rfl rfl ?_
      exact ⟨_, rfl, rfl, H⟩
  · skip
    rw [if_neg h1] at H
    refine EV.steps cl_138 6 (q2 := (83, [some (.ref 0), some (.int v1), some (.int v2), some (.int v3), some (.int v4), none], [.int (v4 &&& ((w 0 16) ^^^ (kI (-1))))], SH, w)) rfl ?_
    refine EV.z_ne cl_138 rfl (fun h4 => ?_) (fun h4 => ?_)
    · skip
      rw [if_neg h4] at H
      refine EV.steps cl_138 6 (q2 := (67, [some (.ref 0), some (.int v1), some (.int v2), some (.int v3), some (.int (v4 + (kI 1))), some (.int (kI 0))], [], SH, w)) rfl ?_
      exact EV.weak (l := [some (.ref 0), some (.int v1), some (.int v2), some (.int v3), some (.int (v4 + (kI 1))), none]) ⟨rfl, ⟨rfl, ⟨rfl, ⟨rfl, ⟨rfl, ⟨rfl, trivial⟩⟩⟩⟩⟩⟩ H
    · skip
      rw [if_pos h4] at H
      refine EV.steps cl_138 2 (q2 := (89, [some (.ref 0), some (.int v1), some (.int v2), some (.int v3), some (.int v4), none], [.int v4, .ref 0], SH, w)) rfl ?_
      refine EV.call (kc := 152) (av := [.ref 0, .int v4]) (r := []) cl_138 rfl rfl rfl H ?_
      clear H; intro y1 s1 w1 e1
      obtain ⟨x1, rfl, rfl, H⟩ := e1
      refine EV.callF (kc := 259) (av := [.int x1]) (r := []) (rv := some (.int (F_259 x1 w1))) (w2 := w1) cl_138 rfl rfl rfl (m_259 w1 x1) ?_
      refine EV.steps cl_138 1 (q2 := (96, [some (.ref 0), some (.int v1), some (.int v2), some (.int v3), some (.int v4), none], [.int v1, .int (F_259 x1 w1)], SH, w1)) rfl ?_
      refine EV.i_ne cl_138 rfl (fun h5 => ?_) (fun h5 => ?_)
      · skip
        rw [if_neg h5] at H
        refine EV.steps cl_138 6 (q2 := (67, [some (.ref 0), some (.int v1), some (.int v2), some (.int v3), some (.int (v4 + (kI 1))), some (.int (kI 0))], [], SH, w1)) rfl ?_
        exact EV.weak (l := [some (.ref 0), some (.int v1), some (.int v2), some (.int v3), some (.int (v4 + (kI 1))), none]) ⟨rfl, ⟨rfl, ⟨rfl, ⟨rfl, ⟨rfl, ⟨rfl, trivial⟩⟩⟩⟩⟩⟩ H
      · skip
        rw [if_pos h5] at H
        refine EV.steps cl_138 6 (q2 := (112, [some (.ref 0), some (.int v1), some (.int v2), some (.int v3), some (.int v4), some (.int (kI 1))], [.int v3], SH, w1)) rfl ?_
        refine EV.z_lt cl_138 rfl (fun h6 => ?_) (fun h6 => ?_)
        · skip
          rw [if_pos h6] at H
          refine EV.steps cl_138 4 (q2 := (67, [some (.ref 0), some (.int v1), some (.int v2), some (.int v4), some (.int (v4 + (kI 1))), some (.int (kI 1))], [], SH, w1)) rfl ?_
          exact EV.weak (l := [some (.ref 0), some (.int v1), some (.int v2), some (.int v4), some (.int (v4 + (kI 1))), none]) ⟨rfl, ⟨rfl, ⟨rfl, ⟨rfl, ⟨rfl, ⟨rfl, trivial⟩⟩⟩⟩⟩⟩ H
        · skip
          rw [if_neg h6] at H
          refine EV.steps cl_138 1 (q2 := (117, [some (.ref 0), some (.int v1), some (.int v2), some (.int v3), some (.int v4), some (.int (kI 1))], [.int v4], SH, w1)) rfl ?_
          refine EV.callF (kc := 259) (av := [.int v4]) (r := []) (rv := some (.int (F_259 v4 w1))) (w2 := w1) cl_138 rfl rfl rfl (m_259 w1 v4) ?_
          refine EV.steps cl_138 1 (q2 := (121, [some (.ref 0), some (.int v1), some (.int v2), some (.int v3), some (.int v4), some (.int (kI 1))], [.int v3, .int (F_259 v4 w1)], SH, w1)) rfl ?_
          refine EV.callF (kc := 259) (av := [.int v3]) (r := [.int (F_259 v4 w1)]) (rv := some (.int (F_259 v3 w1))) (w2 := w1) cl_138 rfl rfl rfl (m_259 w1 v3) ?_
          refine EV.i_ge cl_138 rfl (fun h7 => ?_) (fun h7 => ?_)
          · skip
            rw [if_pos h7] at H
            refine EV.steps cl_138 2 (q2 := (67, [some (.ref 0), some (.int v1), some (.int v2), some (.int v3), some (.int (v4 + (kI 1))), some (.int (kI 1))], [], SH, w1)) rfl ?_
            exact EV.weak (l := [some (.ref 0), some (.int v1), some (.int v2), some (.int v3), some (.int (v4 + (kI 1))), none]) ⟨rfl, ⟨rfl, ⟨rfl, ⟨rfl, ⟨rfl, ⟨rfl, trivial⟩⟩⟩⟩⟩⟩ H
          · skip
            rw [if_neg h7] at H
            refine EV.steps cl_138 4 (q2 := (67, [some (.ref 0), some (.int v1), some (.int v2), some (.int v4), some (.int (v4 + (kI 1))), some (.int (kI 1))], [], SH, w1)) rfl ?_
            exact EV.weak (l := [some (.ref 0), some (.int v1), some (.int v2), some (.int v4), some (.int (v4 + (kI 1))), none]) ⟨rfl, ⟨rfl, ⟨rfl, ⟨rfl, ⟨rfl, ⟨rfl, trivial⟩⟩⟩⟩⟩⟩ H
theorem t139_0_at0 {X : Scr} {d : Nat} {Q : Int32 → Wd → Prop} (w : Wd) (v1 : Int32) (v2 : Int32) (v3 : Int32)
    (H : (if (F_153 v1 (kI 0) (kI 9) w) = 0 then Q (kI (-1)) w else (if (F_153 v2 (kI 1) (kI 20) w) = 0 then Q (kI (-1)) w else (if (F_153 v3 (kI 0) (kI 1) w) = 0 then Q (kI (-1)) w else CI X (d + 1) 4 [.ref 102, .int v1, .int v2] w (fun x1 w1 => (if x1 = 0 then Q (kI (-2)) w1 else (if v3 = 0 then Q (w1 102 8) w1 else Q (w1 102 9) w1))))))) : EI X (d + 1) 139 (0, [some (.ref 0), some (.int v1), some (.int v2), some (.int v3)], [], SH, w) Q := by
  unfold EI
  refine EV.steps cl_139 3 (q2 := (4, [some (.ref 0), some (.int v1), some (.int v2), some (.int v3)], [.int (kI 9), .int (kI 0), .int v1], SH, w)) rfl ?_
  refine EV.callF (kc := 153) (av := [.int v1, .int (kI 0), .int (kI 9)]) (r := []) (rv := some (.int (F_153 v1 (kI 0) (kI 9) w))) (w2 := w) cl_139 rfl rfl rfl (m_153 w v1 (kI 0) (kI 9)) ?_
  refine EV.z_eq cl_139 rfl (fun h1 => ?_) (fun h1 => ?_)
  · skip
    rw [if_pos h1] at H
    refine EV.steps cl_139 1 (q2 := (30, [some (.ref 0), some (.int v1), some (.int v2), some (.int v3)], [.int (kI (-1))], SH, w)) rfl ?_
    refine EV.ret cl_139 rfl rfl rfl ?_
    exact ⟨_, rfl, rfl, H⟩
  · skip
    rw [if_neg h1] at H
    refine EV.steps cl_139 3 (q2 := (14, [some (.ref 0), some (.int v1), some (.int v2), some (.int v3)], [.int (kI 20), .int (kI 1), .int v2], SH, w)) rfl ?_
    refine EV.callF (kc := 153) (av := [.int v2, .int (kI 1), .int (kI 20)]) (r := []) (rv := some (.int (F_153 v2 (kI 1) (kI 20) w))) (w2 := w) cl_139 rfl rfl rfl (m_153 w v2 (kI 1) (kI 20)) ?_
    refine EV.z_eq cl_139 rfl (fun h2 => ?_) (fun h2 => ?_)
    · skip
      rw [if_pos h2] at H
      refine EV.steps cl_139 1 (q2 := (30, [some (.ref 0), some (.int v1), some (.int v2), some (.int v3)], [.int (kI (-1))], SH, w)) rfl ?_
      refine EV.ret cl_139 rfl rfl rfl ?_
      exact ⟨_, rfl, rfl, H⟩
    · skip
      rw [if_neg h2] at H
      refine EV.steps cl_139 3 (q2 := (23, [some (.ref 0), some (.int v1), some (.int v2), some (.int v3)], [.int (kI 1), .int (kI 0), .int v3], SH, w)) rfl ?_
      refine EV.callF (kc := 153) (av := [.int v3, .int (kI 0), .int (kI 1)]) (r := []) (rv := some (.int (F_153 v3 (kI 0) (kI 1) w))) (w2 := w) cl_139 rfl rfl rfl (m_153 w v3 (kI 0) (kI 1)) ?_
      refine EV.z_ne cl_139 rfl (fun h3 => ?_) (fun h3 => ?_)
      · skip
        rw [if_neg h3] at H
        refine EV.steps cl_139 4 (q2 := (37, [some (.ref 0), some (.int v1), some (.int v2), some (.int v3)], [.int v2, .int v1, .ref 102], SH, w)) rfl ?_
        refine EV.call (kc := 4) (av := [.ref 102, .int v1, .int v2]) (r := []) cl_139 rfl rfl rfl H ?_
        clear H; intro y1 s1 w1 e1
        obtain ⟨x1, rfl, rfl, H⟩ := e1
        refine EV.z_ne cl_139 rfl (fun h4 => ?_) (fun h4 => ?_)
        · skip
          rw [if_neg h4] at H
          refine EV.steps cl_139 1 (q2 := (47, [some (.ref 0), some (.int v1), some (.int v2), some (.int v3)], [.int v3], SH, w1)) rfl ?_
          refine EV.z_ne cl_139 rfl (fun h5 => ?_) (fun h5 => ?_)
          · skip
            rw [if_neg h5] at H
            refine EV.steps cl_139 3 (q2 := (67, [some (.ref 0), some (.int v1), some (.int v2), some (.int v3)], [.int (w1 102 9)], SH, w1)) rfl ?_
            refine EV.ret cl_139 rfl rfl rfl ?_
            exact ⟨_, rfl, rfl, H⟩
          · skip
            rw [if_pos h5] at H
            refine EV.steps cl_139 4 (q2 := (67, [some (.ref 0), some (.int v1), some (.int v2), some (.int v3)], [.int (w1 102 8)], SH, w1)) rfl ?_
            refine EV.ret cl_139 rfl rfl rfl ?_
            exact ⟨_, rfl, rfl, H⟩
        · skip
          rw [if_pos h4] at H
          refine EV.steps cl_139 1 (q2 := (45, [some (.ref 0), some (.int v1), some (.int v2), some (.int v3)], [.int (kI (-2))], SH, w1)) rfl ?_
          refine EV.ret cl_139 rfl rfl rfl ?_
          exact ⟨_, rfl, rfl, H⟩
      · skip
        rw [if_pos h3] at H
        refine EV.steps cl_139 1 (q2 := (30, [some (.ref 0), some (.int v1), some (.int v2), some (.int v3)], [.int (kI (-1))], SH, w)) rfl ?_
        refine EV.ret cl_139 rfl rfl rfl ?_
        exact ⟨_, rfl, rfl, H⟩
theorem t140_0_at0 {X : Scr} {d : Nat} {Q : Int32 → Wd → Prop} (w : Wd) (v1 : Int32) (v2 : Int32)
    (H : (if (F_153 v1 (kI 0) (kI 9) w) = 0 then Q (kI (-1)) w else (if (F_153 v2 (kI 0) (kI 1) w) = 0 then Q (kI (-1)) w else CU X (d + 1) 2 [.ref 102, .int v1] w (fun w1 => (if v2 = 0 then CI X (d + 1) 3 [.ref 102] w1 (fun x2 w2 => Q x2 w2) else Q (w1 102 7) w1))))) : EI X (d + 1) 140 (0, [some (.ref 0), some (.int v1), some (.int v2)], [], SH, w) Q := by
  unfold EI
  refine EV.steps cl_140 3 (q2 := (4, [some (.ref 0), some (.int v1), some (.int v2)], [.int (kI 9), .int (kI 0), .int v1], SH, w)) rfl ?_
  refine EV.callF (kc := 153) (av := [.int v1, .int (kI 0), .int (kI 9)]) (r := []) (rv := some (.int (F_153 v1 (kI 0) (kI 9) w))) (w2 := w) cl_140 rfl rfl rfl (m_153 w v1 (kI 0) (kI 9)) ?_
  refine EV.z_eq cl_140 rfl (fun h1 => ?_) (fun h1 => ?_)
  · skip
    rw [if_pos h1] at H
    refine EV.steps cl_140 1 (q2 := (20, [some (.ref 0), some (.int v1), some (.int v2)], [.int (kI (-1))], SH, w)) rfl ?_
    refine EV.ret cl_140 rfl rfl rfl ?_
    exact ⟨_, rfl, rfl, H⟩
  · skip
    rw [if_neg h1] at H
    refine EV.steps cl_140 3 (q2 := (13, [some (.ref 0), some (.int v1), some (.int v2)], [.int (kI 1), .int (kI 0), .int v2], SH, w)) rfl ?_
    refine EV.callF (kc := 153) (av := [.int v2, .int (kI 0), .int (kI 1)]) (r := []) (rv := some (.int (F_153 v2 (kI 0) (kI 1) w))) (w2 := w) cl_140 rfl rfl rfl (m_153 w v2 (kI 0) (kI 1)) ?_
    refine EV.z_ne cl_140 rfl (fun h2 => ?_) (fun h2 => ?_)
    · skip
      rw [if_neg h2] at H
      refine EV.steps cl_140 3 (q2 := (26, [some (.ref 0), some (.int v1), some (.int v2)], [.int v1, .ref 102], SH, w)) rfl ?_
      refine EV.call (kc := 2) (av := [.ref 102, .int v1]) (r := []) cl_140 rfl rfl rfl H ?_
      clear H; intro y1 s1 w1 e1
      obtain ⟨rfl, rfl, H⟩ := e1
      refine EV.steps cl_140 1 (q2 := (30, [some (.ref 0), some (.int v1), some (.int v2)], [.int v2], SH, w1)) rfl ?_
      refine EV.z_ne cl_140 rfl (fun h3 => ?_) (fun h3 => ?_)
      · skip
        rw [if_neg h3] at H
        refine EV.steps cl_140 3 (q2 := (50, [some (.ref 0), some (.int v1), some (.int v2)], [.int (w1 102 7)], SH, w1)) rfl ?_
        refine EV.ret cl_140 rfl rfl rfl ?_
        exact ⟨_, rfl, rfl, H⟩
      · skip
        rw [if_pos h3] at H
        refine EV.steps cl_140 2 (q2 := (37, [some (.ref 0), some (.int v1), some (.int v2)], [.ref 102], SH, w1)) rfl ?_
        refine EV.call (kc := 3) (av := [.ref 102]) (r := []) cl_140 rfl rfl rfl H ?_
        clear H; intro y2 s2 w2 e2
        obtain ⟨x2, rfl, rfl, H⟩ := e2
        refine EV.steps cl_140 1 (q2 := (50, [some (.ref 0), some (.int v1), some (.int v2)], [.int x2], SH, w2)) rfl ?_
        refine EV.ret cl_140 rfl rfl rfl ?_
        exact ⟨_, rfl, rfl, H⟩
    · skip
      rw [if_pos h2] at H
      refine EV.steps cl_140 1 (q2 := (20, [some (.ref 0), some (.int v1), some (.int v2)], [.int (kI (-1))], SH, w)) rfl ?_
      refine EV.ret cl_140 rfl rfl rfl ?_
      exact ⟨_, rfl, rfl, H⟩
