/-! law, part 1: what is read is taken over (class) -/
section LAW1
theorem cpok {x : Int32} {L N : Nat} (h : x = nI L) (hL : L ≤ N) (hN : N < 2 ^ 31) : ¬ (x < 0 ∨ (kI 0) < 0 ∨ (kI 0) < 0 ∨ N < (kI 0).toNatClampNeg + x.toNatClampNeg ∨ N < (kI 0).toNatClampNeg + x.toNatClampNeg) := by
  rw [h, nI_clamp (by omega)]
  intro e
  have z : (kI 0).toNatClampNeg = 0 := rfl
  rw [z] at e
  rcases e with e | e | e | e | e
  · exact absurd e (nI_nlt (a := L) (b := 0) (Nat.zero_le _) (by omega))
  · exact absurd e (by decide)
  · exact absurd e (by decide)
  · omega
  · omega
theorem cp2_to {w : Wd} {a b n : Nat} {x : Int32} (hx : x = nI n) (hn : n < 2 ^ 31) (i : Nat) (hi : i < n) : cp2 w a b (kI 0).toNatClampNeg (kI 0).toNatClampNeg x.toNatClampNeg b i = w a i := by
  have z : (kI 0).toNatClampNeg = 0 := rfl
  unfold cp2 va_cpy
  rw [hx, nI_clamp hn, z, if_pos rfl, if_pos ⟨Nat.zero_le _, by omega⟩, Nat.zero_add, Nat.sub_zero]
theorem cp2_no {w : Wd} {a b s d n c : Nat} (h : c ≠ b) : cp2 w a b s d n c = w c := if_neg h
theorem g76 {w : Wd} {L M : Nat} (h6 : w 29 6 = nI L) (hL : L ≤ 240) (h7 : w 29 7 = nI M) (hM : M ≤ 16) : (∀ a, (a < 22 ∨ 28 < a) → G_76_22_29 w a = w a) ∧ G_76_22_29 w 22 7 = nI M ∧ (∀ i, i < L → G_76_22_29 w 23 i = w 30 i ∧ G_76_22_29 w 24 i = w 31 i) ∧ ∀ i, i < M → G_76_22_29 w 25 i = w 32 i ∧ G_76_22_29 w 26 i = w 33 i ∧ G_76_22_29 w 27 i = w 34 i ∧ G_76_22_29 w 28 i = w 35 i := by
  have hA : (if (Int32.ofNat 240) < (w 29 6) then (Int32.ofNat 240) else (w 29 6)) = nI L := by
    rw [h6]; exact if_neg (nI_nlt (a := 240) (b := L) hL (by omega))
  have hB : (if (Int32.ofNat 16) < (w 29 7) then (Int32.ofNat 16) else (w 29 7)) = nI M := by
    rw [h7]; exact if_neg (nI_nlt (a := 16) (b := M) hM (by omega))
  unfold G_76_22_29
  rw [hA, hB]
  refine ⟨fun a ha => ?_, rfl, fun i hi => ⟨?_, ?_⟩, fun i hi => ⟨?_, ?_, ?_, ?_⟩⟩
  · rw [cp2_no (by omega), cp2_no (by omega), cp2_no (by omega), cp2_no (by omega), cp2_no (by omega), cp2_no (by omega), up2_ne (by omega), up2_ne (by omega)]
  · rw [cp2_no (by decide), cp2_no (by decide), cp2_no (by decide), cp2_no (by decide), cp2_no (by decide)]
    exact (cp2_to (n := L) rfl (by omega) i hi).trans rfl
  · rw [cp2_no (by decide), cp2_no (by decide), cp2_no (by decide), cp2_no (by decide)]
    exact (cp2_to (n := L) rfl (by omega) i hi).trans rfl
  · rw [cp2_no (by decide), cp2_no (by decide), cp2_no (by decide)]
    exact (cp2_to (n := M) rfl (by omega) i hi).trans rfl
  · rw [cp2_no (by decide), cp2_no (by decide)]
    exact (cp2_to (n := M) rfl (by omega) i hi).trans rfl
  · rw [cp2_no (by decide)]
    exact (cp2_to (n := M) rfl (by omega) i hi).trans rfl
  · exact (cp2_to (n := M) rfl (by omega) i hi).trans rfl
/-- the call law of the class -/
theorem c_122 {X : Scr} {d : Nat} {w : Wd} {v1 : Int32} {Q : Int32 → Wd → Prop} (hF : ¬ F_105_1 v1 (kI 1) (kI 240) w = 0) (h : CI X (d + 2) 62 [.ref 79, .int v1] w (fun x1 w1 => (x1 < 0 ∧ Q x1 w1) ∨ (x1 = kI 0 ∧ ∃ L M, w1 29 6 = nI L ∧ L ≤ 240 ∧ w1 29 7 = nI M ∧ M ≤ 16 ∧ Q (nI M) (G_76_22_29 w1)))) : CI X (d + 3) 122 [.ref 0, .int v1] w Q := by
  refine CI.of rfl (t122_0_at0 (d := d) w _ ?_)
  rw [if_neg hF]
  refine CI.mono h (fun x1 w1 hh => ?_)
  rcases hh with ⟨hx, hq⟩ | ⟨hx, L, M, h6, hL, h7, hM, hq⟩
  · rw [if_neg (fun e => absurd (Int32.lt_of_le_of_lt e hx) (by decide))]
    exact hq
  · have hA : (if (Int32.ofNat 240) < (w1 29 6) then (Int32.ofNat 240) else (w1 29 6)) = nI L := by
      rw [h6]; exact if_neg (nI_nlt (a := 240) (b := L) hL (by omega))
    have hB : (if (Int32.ofNat 16) < (w1 29 7) then (Int32.ofNat 16) else (w1 29 7)) = nI M := by
      rw [h7]; exact if_neg (nI_nlt (a := 16) (b := M) hM (by omega))
    have hg := (g76 h6 hL h7 hM).2.1
    rw [if_pos (by rw [hx]; decide), hg, hA, hB]
    exact ⟨cpok rfl hL (by decide), cpok rfl hL (by decide), cpok rfl hM (by decide), cpok rfl hM (by decide), cpok rfl hM (by decide), cpok rfl hM (by decide), hq⟩
end LAW1
