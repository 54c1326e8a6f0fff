/-! definitions, part 2: what is read is taken over (class) -/
section DEF2
theorem cpok2 {x : Int32} {L N1 N2 : Nat} (h : x = nI L) (h1 : L ≤ N1) (h2 : L ≤ N2) (hL : L < 2 ^ 31) : ¬ (x < 0 ∨ (kI 0) < 0 ∨ (kI 0) < 0 ∨ N1 < (kI 0).toNatClampNeg + x.toNatClampNeg ∨ N2 < (kI 0).toNatClampNeg + x.toNatClampNeg) := by
  rw [h, nI_clamp (by omega)]
  intro e
  have z : (kI 0).toNatClampNeg = 0 := rfl
  rw [z] at e
  rcases e with e | e | e | e | e
  · exact absurd e (nI_nlt (a := L) (b := 0) (Nat.zero_le _) (by omega))
  · exact absurd e (by decide)
  · exact absurd e (by decide)
  · omega
  · omega
theorem g76_37 {w : Wd} {L : Nat} (h6 : w 29 6 = nI L) (hL : L ≤ 80) (h7 : w 29 7 = nI 1) : (∀ a, (a < 37 ∨ 43 < a) → G_76_37_29 w a = w a) ∧ G_76_37_29 w 37 7 = nI 1 ∧ (∀ i, i < L → G_76_37_29 w 38 i = w 30 i ∧ G_76_37_29 w 39 i = w 31 i) ∧ G_76_37_29 w 42 0 = w 34 0 ∧ G_76_37_29 w 43 0 = w 35 0 := by
  have hA : (if (Int32.ofNat 80) < (w 29 6) then (Int32.ofNat 80) else (w 29 6)) = nI L := by
    rw [h6]; exact if_neg (nI_nlt (a := 80) (b := L) hL (by omega))
  have hB : (if (Int32.ofNat 1) < (w 29 7) then (Int32.ofNat 1) else (w 29 7)) = nI 1 := by
    rw [h7]; exact if_neg (by decide)
  unfold G_76_37_29
  rw [hA, hB]
  refine ⟨fun a ha => ?_, rfl, fun i hi => ⟨?_, ?_⟩, ?_, ?_⟩
  · rw [cp2_no (by omega), cp2_no (by omega), cp2_no (by omega), cp2_no (by omega), cp2_no (by omega), cp2_no (by omega), up2_ne (by omega), up2_ne (by omega)]
  · rw [cp2_no (by decide), cp2_no (by decide), cp2_no (by decide), cp2_no (by decide), cp2_no (by decide)]
    exact (cp2_to (n := L) rfl (by omega) i hi).trans rfl
  · rw [cp2_no (by decide), cp2_no (by decide), cp2_no (by decide), cp2_no (by decide)]
    exact (cp2_to (n := L) rfl (by omega) i hi).trans rfl
  · rw [cp2_no (by decide)]
    exact (cp2_to (n := 1) rfl (by decide) 0 (by decide)).trans rfl
  · exact (cp2_to (n := 1) rfl (by decide) 0 (by decide)).trans rfl
theorem c_136_0 {X : Scr} {d : Nat} {w : Wd} {v2 : Int32} {Q : Int32 → Wd → Prop} (hF : ¬ F_105_1 v2 (kI 1) (kI 80) w = 0) (h : CI X (d + 2) 63 [.ref 79, .int v2] w (fun x1 w1 => (x1 < 0 ∧ Q x1 w1) ∨ (x1 = kI 0 ∧ ∃ L, w1 29 6 = nI L ∧ L ≤ 80 ∧ w1 29 7 = nI 1 ∧ CI X (d + 2) 151 [.ref 0, .int (kI 0)] (up2 (G_76_37_29 w1) 0 16 (((G_76_37_29 w1) 0 16) ||| ((kI 1) <<< ((kI 0) &&& 31)))) (fun x2 w2 => Q (F_259 x2 w2) w2)))) : CI X (d + 3) 136 [.ref 0, .int (kI 0), .int v2] w Q := by
  refine CI.of rfl (t136_0_c0_at0 (d := d) w _ ?_)
  rw [if_neg (show ¬ F_153 (kI 0) (kI 0) (kI 5) w = 0 from by unfold F_153; decide), if_neg hF]
  refine CI.mono h (fun x1 w1 hh => ?_)
  rcases hh with ⟨hx, hq⟩ | ⟨hx, L, h6, hL, h7, hq⟩
  · rw [if_neg (fun e => absurd (Int32.lt_of_le_of_lt e hx) (by decide))]
    exact hq
  · have hA : (if (Int32.ofNat 80) < (w1 29 6) then (Int32.ofNat 80) else (w1 29 6)) = nI L := by
      rw [h6]; exact if_neg (nI_nlt (a := 80) (b := L) hL (by omega))
    have hB : (if (Int32.ofNat 1) < (w1 29 7) then (Int32.ofNat 1) else (w1 29 7)) = nI 1 := by
      rw [h7]; exact if_neg (by decide)
    rw [if_pos (by rw [hx]; decide), hA, hB]
    exact ⟨cpok2 (L := L) rfl (by omega) hL (by omega), cpok2 (L := L) rfl (by omega) hL (by omega), cpok2 (L := 1) rfl (by decide) (by decide) (by decide), cpok2 (L := 1) rfl (by decide) (by decide) (by decide), cpok2 (L := 1) rfl (by decide) (by decide) (by decide), cpok2 (L := 1) rfl (by decide) (by decide) (by decide), hq⟩
theorem g76_44 {w : Wd} {L : Nat} (h6 : w 29 6 = nI L) (hL : L ≤ 80) (h7 : w 29 7 = nI 1) : (∀ a, (a < 44 ∨ 50 < a) → G_76_44_29 w a = w a) ∧ G_76_44_29 w 44 7 = nI 1 ∧ (∀ i, i < L → G_76_44_29 w 45 i = w 30 i ∧ G_76_44_29 w 46 i = w 31 i) ∧ G_76_44_29 w 49 0 = w 34 0 ∧ G_76_44_29 w 50 0 = w 35 0 := by
  have hA : (if (Int32.ofNat 80) < (w 29 6) then (Int32.ofNat 80) else (w 29 6)) = nI L := by
    rw [h6]; exact if_neg (nI_nlt (a := 80) (b := L) hL (by omega))
  have hB : (if (Int32.ofNat 1) < (w 29 7) then (Int32.ofNat 1) else (w 29 7)) = nI 1 := by
    rw [h7]; exact if_neg (by decide)
  unfold G_76_44_29
  rw [hA, hB]
  refine ⟨fun a ha => ?_, rfl, fun i hi => ⟨?_, ?_⟩, ?_, ?_⟩
  · rw [cp2_no (by omega), cp2_no (by omega), cp2_no (by omega), cp2_no (by omega), cp2_no (by omega), cp2_no (by omega), up2_ne (by omega), up2_ne (by omega)]
  · rw [cp2_no (by decide), cp2_no (by decide), cp2_no (by decide), cp2_no (by decide), cp2_no (by decide)]
    exact (cp2_to (n := L) rfl (by omega) i hi).trans rfl
  · rw [cp2_no (by decide), cp2_no (by decide), cp2_no (by decide), cp2_no (by decide)]
    exact (cp2_to (n := L) rfl (by omega) i hi).trans rfl
  · rw [cp2_no (by decide)]
    exact (cp2_to (n := 1) rfl (by decide) 0 (by decide)).trans rfl
  · exact (cp2_to (n := 1) rfl (by decide) 0 (by decide)).trans rfl
theorem c_136_1 {X : Scr} {d : Nat} {w : Wd} {v2 : Int32} {Q : Int32 → Wd → Prop} (hF : ¬ F_105_1 v2 (kI 1) (kI 80) w = 0) (h : CI X (d + 2) 63 [.ref 79, .int v2] w (fun x1 w1 => (x1 < 0 ∧ Q x1 w1) ∨ (x1 = kI 0 ∧ ∃ L, w1 29 6 = nI L ∧ L ≤ 80 ∧ w1 29 7 = nI 1 ∧ CI X (d + 2) 151 [.ref 0, .int (kI 1)] (up2 (G_76_44_29 w1) 0 16 (((G_76_44_29 w1) 0 16) ||| ((kI 1) <<< ((kI 1) &&& 31)))) (fun x2 w2 => Q (F_259 x2 w2) w2)))) : CI X (d + 3) 136 [.ref 0, .int (kI 1), .int v2] w Q := by
  refine CI.of rfl (t136_0_c1_at0 (d := d) w _ ?_)
  rw [if_neg (show ¬ F_153 (kI 1) (kI 0) (kI 5) w = 0 from by unfold F_153; decide), if_neg hF]
  refine CI.mono h (fun x1 w1 hh => ?_)
  rcases hh with ⟨hx, hq⟩ | ⟨hx, L, h6, hL, h7, hq⟩
  · rw [if_neg (fun e => absurd (Int32.lt_of_le_of_lt e hx) (by decide))]
    exact hq
  · have hA : (if (Int32.ofNat 80) < (w1 29 6) then (Int32.ofNat 80) else (w1 29 6)) = nI L := by
      rw [h6]; exact if_neg (nI_nlt (a := 80) (b := L) hL (by omega))
    have hB : (if (Int32.ofNat 1) < (w1 29 7) then (Int32.ofNat 1) else (w1 29 7)) = nI 1 := by
      rw [h7]; exact if_neg (by decide)
    rw [if_pos (by rw [hx]; decide), hA, hB]
    exact ⟨cpok2 (L := L) rfl (by omega) hL (by omega), cpok2 (L := L) rfl (by omega) hL (by omega), cpok2 (L := 1) rfl (by decide) (by decide) (by decide), cpok2 (L := 1) rfl (by decide) (by decide) (by decide), cpok2 (L := 1) rfl (by decide) (by decide) (by decide), cpok2 (L := 1) rfl (by decide) (by decide) (by decide), hq⟩
theorem g76_51 {w : Wd} {L : Nat} (h6 : w 29 6 = nI L) (hL : L ≤ 80) (h7 : w 29 7 = nI 1) : (∀ a, (a < 51 ∨ 57 < a) → G_76_51_29 w a = w a) ∧ G_76_51_29 w 51 7 = nI 1 ∧ (∀ i, i < L → G_76_51_29 w 52 i = w 30 i ∧ G_76_51_29 w 53 i = w 31 i) ∧ G_76_51_29 w 56 0 = w 34 0 ∧ G_76_51_29 w 57 0 = w 35 0 := by
  have hA : (if (Int32.ofNat 80) < (w 29 6) then (Int32.ofNat 80) else (w 29 6)) = nI L := by
    rw [h6]; exact if_neg (nI_nlt (a := 80) (b := L) hL (by omega))
  have hB : (if (Int32.ofNat 1) < (w 29 7) then (Int32.ofNat 1) else (w 29 7)) = nI 1 := by
    rw [h7]; exact if_neg (by decide)
  unfold G_76_51_29
  rw [hA, hB]
  refine ⟨fun a ha => ?_, rfl, fun i hi => ⟨?_, ?_⟩, ?_, ?_⟩
  · rw [cp2_no (by omega), cp2_no (by omega), cp2_no (by omega), cp2_no (by omega), cp2_no (by omega), cp2_no (by omega), up2_ne (by omega), up2_ne (by omega)]
  · rw [cp2_no (by decide), cp2_no (by decide), cp2_no (by decide), cp2_no (by decide), cp2_no (by decide)]
    exact (cp2_to (n := L) rfl (by omega) i hi).trans rfl
  · rw [cp2_no (by decide), cp2_no (by decide), cp2_no (by decide), cp2_no (by decide)]
    exact (cp2_to (n := L) rfl (by omega) i hi).trans rfl
  · rw [cp2_no (by decide)]
    exact (cp2_to (n := 1) rfl (by decide) 0 (by decide)).trans rfl
  · exact (cp2_to (n := 1) rfl (by decide) 0 (by decide)).trans rfl
theorem c_136_2 {X : Scr} {d : Nat} {w : Wd} {v2 : Int32} {Q : Int32 → Wd → Prop} (hF : ¬ F_105_1 v2 (kI 1) (kI 80) w = 0) (h : CI X (d + 2) 63 [.ref 79, .int v2] w (fun x1 w1 => (x1 < 0 ∧ Q x1 w1) ∨ (x1 = kI 0 ∧ ∃ L, w1 29 6 = nI L ∧ L ≤ 80 ∧ w1 29 7 = nI 1 ∧ CI X (d + 2) 151 [.ref 0, .int (kI 2)] (up2 (G_76_51_29 w1) 0 16 (((G_76_51_29 w1) 0 16) ||| ((kI 1) <<< ((kI 2) &&& 31)))) (fun x2 w2 => Q (F_259 x2 w2) w2)))) : CI X (d + 3) 136 [.ref 0, .int (kI 2), .int v2] w Q := by
  refine CI.of rfl (t136_0_c2_at0 (d := d) w _ ?_)
  rw [if_neg (show ¬ F_153 (kI 2) (kI 0) (kI 5) w = 0 from by unfold F_153; decide), if_neg hF]
  refine CI.mono h (fun x1 w1 hh => ?_)
  rcases hh with ⟨hx, hq⟩ | ⟨hx, L, h6, hL, h7, hq⟩
  · rw [if_neg (fun e => absurd (Int32.lt_of_le_of_lt e hx) (by decide))]
    exact hq
  · have hA : (if (Int32.ofNat 80) < (w1 29 6) then (Int32.ofNat 80) else (w1 29 6)) = nI L := by
      rw [h6]; exact if_neg (nI_nlt (a := 80) (b := L) hL (by omega))
    have hB : (if (Int32.ofNat 1) < (w1 29 7) then (Int32.ofNat 1) else (w1 29 7)) = nI 1 := by
      rw [h7]; exact if_neg (by decide)
    rw [if_pos (by rw [hx]; decide), hA, hB]
    exact ⟨cpok2 (L := L) rfl (by omega) hL (by omega), cpok2 (L := L) rfl (by omega) hL (by omega), cpok2 (L := 1) rfl (by decide) (by decide) (by decide), cpok2 (L := 1) rfl (by decide) (by decide) (by decide), cpok2 (L := 1) rfl (by decide) (by decide) (by decide), cpok2 (L := 1) rfl (by decide) (by decide) (by decide), hq⟩
theorem g76_58 {w : Wd} {L : Nat} (h6 : w 29 6 = nI L) (hL : L ≤ 80) (h7 : w 29 7 = nI 1) : (∀ a, (a < 58 ∨ 64 < a) → G_76_58_29 w a = w a) ∧ G_76_58_29 w 58 7 = nI 1 ∧ (∀ i, i < L → G_76_58_29 w 59 i = w 30 i ∧ G_76_58_29 w 60 i = w 31 i) ∧ G_76_58_29 w 63 0 = w 34 0 ∧ G_76_58_29 w 64 0 = w 35 0 := by
  have hA : (if (Int32.ofNat 80) < (w 29 6) then (Int32.ofNat 80) else (w 29 6)) = nI L := by
    rw [h6]; exact if_neg (nI_nlt (a := 80) (b := L) hL (by omega))
  have hB : (if (Int32.ofNat 1) < (w 29 7) then (Int32.ofNat 1) else (w 29 7)) = nI 1 := by
    rw [h7]; exact if_neg (by decide)
  unfold G_76_58_29
  rw [hA, hB]
  refine ⟨fun a ha => ?_, rfl, fun i hi => ⟨?_, ?_⟩, ?_, ?_⟩
  · rw [cp2_no (by omega), cp2_no (by omega), cp2_no (by omega), cp2_no (by omega), cp2_no (by omega), cp2_no (by omega), up2_ne (by omega), up2_ne (by omega)]
  · rw [cp2_no (by decide), cp2_no (by decide), cp2_no (by decide), cp2_no (by decide), cp2_no (by decide)]
    exact (cp2_to (n := L) rfl (by omega) i hi).trans rfl
  · rw [cp2_no (by decide), cp2_no (by decide), cp2_no (by decide), cp2_no (by decide)]
    exact (cp2_to (n := L) rfl (by omega) i hi).trans rfl
  · rw [cp2_no (by decide)]
    exact (cp2_to (n := 1) rfl (by decide) 0 (by decide)).trans rfl
  · exact (cp2_to (n := 1) rfl (by decide) 0 (by decide)).trans rfl
theorem c_136_3 {X : Scr} {d : Nat} {w : Wd} {v2 : Int32} {Q : Int32 → Wd → Prop} (hF : ¬ F_105_1 v2 (kI 1) (kI 80) w = 0) (h : CI X (d + 2) 63 [.ref 79, .int v2] w (fun x1 w1 => (x1 < 0 ∧ Q x1 w1) ∨ (x1 = kI 0 ∧ ∃ L, w1 29 6 = nI L ∧ L ≤ 80 ∧ w1 29 7 = nI 1 ∧ CI X (d + 2) 151 [.ref 0, .int (kI 3)] (up2 (G_76_58_29 w1) 0 16 (((G_76_58_29 w1) 0 16) ||| ((kI 1) <<< ((kI 3) &&& 31)))) (fun x2 w2 => Q (F_259 x2 w2) w2)))) : CI X (d + 3) 136 [.ref 0, .int (kI 3), .int v2] w Q := by
  refine CI.of rfl (t136_0_c3_at0 (d := d) w _ ?_)
  rw [if_neg (show ¬ F_153 (kI 3) (kI 0) (kI 5) w = 0 from by unfold F_153; decide), if_neg hF]
  refine CI.mono h (fun x1 w1 hh => ?_)
  rcases hh with ⟨hx, hq⟩ | ⟨hx, L, h6, hL, h7, hq⟩
  · rw [if_neg (fun e => absurd (Int32.lt_of_le_of_lt e hx) (by decide))]
    exact hq
  · have hA : (if (Int32.ofNat 80) < (w1 29 6) then (Int32.ofNat 80) else (w1 29 6)) = nI L := by
      rw [h6]; exact if_neg (nI_nlt (a := 80) (b := L) hL (by omega))
    have hB : (if (Int32.ofNat 1) < (w1 29 7) then (Int32.ofNat 1) else (w1 29 7)) = nI 1 := by
      rw [h7]; exact if_neg (by decide)
    rw [if_pos (by rw [hx]; decide), hA, hB]
    exact ⟨cpok2 (L := L) rfl (by omega) hL (by omega), cpok2 (L := L) rfl (by omega) hL (by omega), cpok2 (L := 1) rfl (by decide) (by decide) (by decide), cpok2 (L := 1) rfl (by decide) (by decide) (by decide), cpok2 (L := 1) rfl (by decide) (by decide) (by decide), cpok2 (L := 1) rfl (by decide) (by decide) (by decide), hq⟩
theorem g76_65 {w : Wd} {L : Nat} (h6 : w 29 6 = nI L) (hL : L ≤ 80) (h7 : w 29 7 = nI 1) : (∀ a, (a < 65 ∨ 71 < a) → G_76_65_29 w a = w a) ∧ G_76_65_29 w 65 7 = nI 1 ∧ (∀ i, i < L → G_76_65_29 w 66 i = w 30 i ∧ G_76_65_29 w 67 i = w 31 i) ∧ G_76_65_29 w 70 0 = w 34 0 ∧ G_76_65_29 w 71 0 = w 35 0 := by
  have hA : (if (Int32.ofNat 80) < (w 29 6) then (Int32.ofNat 80) else (w 29 6)) = nI L := by
    rw [h6]; exact if_neg (nI_nlt (a := 80) (b := L) hL (by omega))
  have hB : (if (Int32.ofNat 1) < (w 29 7) then (Int32.ofNat 1) else (w 29 7)) = nI 1 := by
    rw [h7]; exact if_neg (by decide)
  unfold G_76_65_29
  rw [hA, hB]
  refine ⟨fun a ha => ?_, rfl, fun i hi => ⟨?_, ?_⟩, ?_, ?_⟩
  · rw [cp2_no (by omega), cp2_no (by omega), cp2_no (by omega), cp2_no (by omega), cp2_no (by omega), cp2_no (by omega), up2_ne (by omega), up2_ne (by omega)]
  · rw [cp2_no (by decide), cp2_no (by decide), cp2_no (by decide), cp2_no (by decide), cp2_no (by decide)]
    exact (cp2_to (n := L) rfl (by omega) i hi).trans rfl
  · rw [cp2_no (by decide), cp2_no (by decide), cp2_no (by decide), cp2_no (by decide)]
    exact (cp2_to (n := L) rfl (by omega) i hi).trans rfl
  · rw [cp2_no (by decide)]
    exact (cp2_to (n := 1) rfl (by decide) 0 (by decide)).trans rfl
  · exact (cp2_to (n := 1) rfl (by decide) 0 (by decide)).trans rfl
theorem c_136_4 {X : Scr} {d : Nat} {w : Wd} {v2 : Int32} {Q : Int32 → Wd → Prop} (hF : ¬ F_105_1 v2 (kI 1) (kI 80) w = 0) (h : CI X (d + 2) 63 [.ref 79, .int v2] w (fun x1 w1 => (x1 < 0 ∧ Q x1 w1) ∨ (x1 = kI 0 ∧ ∃ L, w1 29 6 = nI L ∧ L ≤ 80 ∧ w1 29 7 = nI 1 ∧ CI X (d + 2) 151 [.ref 0, .int (kI 4)] (up2 (G_76_65_29 w1) 0 16 (((G_76_65_29 w1) 0 16) ||| ((kI 1) <<< ((kI 4) &&& 31)))) (fun x2 w2 => Q (F_259 x2 w2) w2)))) : CI X (d + 3) 136 [.ref 0, .int (kI 4), .int v2] w Q := by
  refine CI.of rfl (t136_0_c4_at0 (d := d) w _ ?_)
  rw [if_neg (show ¬ F_153 (kI 4) (kI 0) (kI 5) w = 0 from by unfold F_153; decide), if_neg hF]
  refine CI.mono h (fun x1 w1 hh => ?_)
  rcases hh with ⟨hx, hq⟩ | ⟨hx, L, h6, hL, h7, hq⟩
  · rw [if_neg (fun e => absurd (Int32.lt_of_le_of_lt e hx) (by decide))]
    exact hq
  · have hA : (if (Int32.ofNat 80) < (w1 29 6) then (Int32.ofNat 80) else (w1 29 6)) = nI L := by
      rw [h6]; exact if_neg (nI_nlt (a := 80) (b := L) hL (by omega))
    have hB : (if (Int32.ofNat 1) < (w1 29 7) then (Int32.ofNat 1) else (w1 29 7)) = nI 1 := by
      rw [h7]; exact if_neg (by decide)
    rw [if_pos (by rw [hx]; decide), hA, hB]
    exact ⟨cpok2 (L := L) rfl (by omega) hL (by omega), cpok2 (L := L) rfl (by omega) hL (by omega), cpok2 (L := 1) rfl (by decide) (by decide) (by decide), cpok2 (L := 1) rfl (by decide) (by decide) (by decide), cpok2 (L := 1) rfl (by decide) (by decide) (by decide), cpok2 (L := 1) rfl (by decide) (by decide) (by decide), hq⟩
theorem g76_72 {w : Wd} {L : Nat} (h6 : w 29 6 = nI L) (hL : L ≤ 80) (h7 : w 29 7 = nI 1) : (∀ a, (a < 72 ∨ 78 < a) → G_76_72_29 w a = w a) ∧ G_76_72_29 w 72 7 = nI 1 ∧ (∀ i, i < L → G_76_72_29 w 73 i = w 30 i ∧ G_76_72_29 w 74 i = w 31 i) ∧ G_76_72_29 w 77 0 = w 34 0 ∧ G_76_72_29 w 78 0 = w 35 0 := by
  have hA : (if (Int32.ofNat 80) < (w 29 6) then (Int32.ofNat 80) else (w 29 6)) = nI L := by
    rw [h6]; exact if_neg (nI_nlt (a := 80) (b := L) hL (by omega))
  have hB : (if (Int32.ofNat 1) < (w 29 7) then (Int32.ofNat 1) else (w 29 7)) = nI 1 := by
    rw [h7]; exact if_neg (by decide)
  unfold G_76_72_29
  rw [hA, hB]
  refine ⟨fun a ha => ?_, rfl, fun i hi => ⟨?_, ?_⟩, ?_, ?_⟩
  · rw [cp2_no (by omega), cp2_no (by omega), cp2_no (by omega), cp2_no (by omega), cp2_no (by omega), cp2_no (by omega), up2_ne (by omega), up2_ne (by omega)]
  · rw [cp2_no (by decide), cp2_no (by decide), cp2_no (by decide), cp2_no (by decide), cp2_no (by decide)]
    exact (cp2_to (n := L) rfl (by omega) i hi).trans rfl
  · rw [cp2_no (by decide), cp2_no (by decide), cp2_no (by decide), cp2_no (by decide)]
    exact (cp2_to (n := L) rfl (by omega) i hi).trans rfl
  · rw [cp2_no (by decide)]
    exact (cp2_to (n := 1) rfl (by decide) 0 (by decide)).trans rfl
  · exact (cp2_to (n := 1) rfl (by decide) 0 (by decide)).trans rfl
theorem c_136_5 {X : Scr} {d : Nat} {w : Wd} {v2 : Int32} {Q : Int32 → Wd → Prop} (hF : ¬ F_105_1 v2 (kI 1) (kI 80) w = 0) (h : CI X (d + 2) 63 [.ref 79, .int v2] w (fun x1 w1 => (x1 < 0 ∧ Q x1 w1) ∨ (x1 = kI 0 ∧ ∃ L, w1 29 6 = nI L ∧ L ≤ 80 ∧ w1 29 7 = nI 1 ∧ CI X (d + 2) 151 [.ref 0, .int (kI 5)] (up2 (G_76_72_29 w1) 0 16 (((G_76_72_29 w1) 0 16) ||| ((kI 1) <<< ((kI 5) &&& 31)))) (fun x2 w2 => Q (F_259 x2 w2) w2)))) : CI X (d + 3) 136 [.ref 0, .int (kI 5), .int v2] w Q := by
  refine CI.of rfl (t136_0_c5_at0 (d := d) w _ ?_)
  rw [if_neg (show ¬ F_153 (kI 5) (kI 0) (kI 5) w = 0 from by unfold F_153; decide), if_neg hF]
  refine CI.mono h (fun x1 w1 hh => ?_)
  rcases hh with ⟨hx, hq⟩ | ⟨hx, L, h6, hL, h7, hq⟩
  · rw [if_neg (fun e => absurd (Int32.lt_of_le_of_lt e hx) (by decide))]
    exact hq
  · have hA : (if (Int32.ofNat 80) < (w1 29 6) then (Int32.ofNat 80) else (w1 29 6)) = nI L := by
      rw [h6]; exact if_neg (nI_nlt (a := 80) (b := L) hL (by omega))
    have hB : (if (Int32.ofNat 1) < (w1 29 7) then (Int32.ofNat 1) else (w1 29 7)) = nI 1 := by
      rw [h7]; exact if_neg (by decide)
    rw [if_pos (by rw [hx]; decide), hA, hB]
    exact ⟨cpok2 (L := L) rfl (by omega) hL (by omega), cpok2 (L := L) rfl (by omega) hL (by omega), cpok2 (L := 1) rfl (by decide) (by decide) (by decide), cpok2 (L := 1) rfl (by decide) (by decide) (by decide), cpok2 (L := 1) rfl (by decide) (by decide) (by decide), cpok2 (L := 1) rfl (by decide) (by decide) (by decide), hq⟩
end DEF2
