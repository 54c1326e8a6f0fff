/-! definitions, part 3: both sides as wholes -/
section DEF3
def TGd (k : Nat) (w : Wd) : Wd := if k = 0 then G_76_37_29 w else if k = 1 then G_76_44_29 w else if k = 2 then G_76_51_29 w else if k = 3 then G_76_58_29 w else if k = 4 then G_76_65_29 w else G_76_72_29 w
theorem tg_0 : TGd 0 = G_76_37_29 := funext (fun w => if_pos rfl)
theorem tg_1 : TGd 1 = G_76_44_29 := funext (fun w => (if_neg (by decide)).trans (if_pos rfl))
theorem tg_2 : TGd 2 = G_76_51_29 := funext (fun w => (if_neg (by decide)).trans ((if_neg (by decide)).trans (if_pos rfl)))
theorem tg_3 : TGd 3 = G_76_58_29 := funext (fun w => (if_neg (by decide)).trans ((if_neg (by decide)).trans ((if_neg (by decide)).trans (if_pos rfl))))
theorem tg_4 : TGd 4 = G_76_65_29 := funext (fun w => (if_neg (by decide)).trans ((if_neg (by decide)).trans ((if_neg (by decide)).trans ((if_neg (by decide)).trans (if_pos rfl)))))
theorem tg_5 : TGd 5 = G_76_72_29 := funext (fun w => (if_neg (by decide)).trans ((if_neg (by decide)).trans ((if_neg (by decide)).trans ((if_neg (by decide)).trans (if_neg (by decide))))))
theorem tgd {w : Wd} {L k : Nat} (hk : k < 6) (h6 : w 29 6 = nI L) (hL : L ≤ 80) (h7 : w 29 7 = nI 1) : (∀ a, (a < 37 + 7 * k ∨ 43 + 7 * k < a) → TGd k w a = w a) ∧ TGd k w (37 + 7 * k) 7 = nI 1 ∧ (∀ i, i < L → TGd k w (38 + 7 * k) i = w 30 i ∧ TGd k w (39 + 7 * k) i = w 31 i) ∧ TGd k w (42 + 7 * k) 0 = w 34 0 ∧ TGd k w (43 + 7 * k) 0 = w 35 0 := by
  have c : k = 0 ∨ k = 1 ∨ k = 2 ∨ k = 3 ∨ k = 4 ∨ k = 5 := by omega
  rcases c with e | e | e | e | e | e <;> subst e
  · rw [tg_0]; exact g76_37 h6 hL h7
  · rw [tg_1]; exact g76_44 h6 hL h7
  · rw [tg_2]; exact g76_51 h6 hL h7
  · rw [tg_3]; exact g76_58 h6 hL h7
  · rw [tg_4]; exact g76_65 h6 hL h7
  · rw [tg_5]; exact g76_72 h6 hL h7
theorem c_136 {X : Scr} {d k : Nat} {w : Wd} {v2 : Int32} {Q : Int32 → Wd → Prop} (hk : k < 6) (hF : ¬ F_105_1 v2 (kI 1) (kI 80) w = 0) (h : CI X (d + 2) 63 [.ref 79, .int v2] w (fun x1 w1 => (x1 < 0 ∧ Q x1 w1) ∨ (x1 = kI 0 ∧ ∃ L, w1 29 6 = nI L ∧ L ≤ 80 ∧ w1 29 7 = nI 1 ∧ CI X (d + 2) 151 [.ref 0, .int (nI k)] (up2 (TGd k w1) 0 16 (((TGd k w1) 0 16) ||| ((kI 1) <<< ((nI k) &&& 31)))) (fun x2 w2 => Q (F_259 x2 w2) w2)))) : CI X (d + 3) 136 [.ref 0, .int (nI k), .int v2] w Q := by
  have c : k = 0 ∨ k = 1 ∨ k = 2 ∨ k = 3 ∨ k = 4 ∨ k = 5 := by omega
  rcases c with e | e | e | e | e | e <;> subst e
  · rw [tg_0] at h; exact c_136_0 hF h
  · rw [tg_1] at h; exact c_136_1 hF h
  · rw [tg_2] at h; exact c_136_2 hF h
  · rw [tg_3] at h; exact c_136_3 hF h
  · rw [tg_4] at h; exact c_136_4 hF h
  · rw [tg_5] at h; exact c_136_5 hF h
theorem dfA_ok {ch : Nat → Nat} {n : Nat} (hc : CHn256 ch n) (hn : n ≤ 240) : (∀ t, dfA ch = .inr t → CDB t.2 ∧ t.2.2.2 ≤ n ∧ SEGW t.2.1 t.2.2.1 0 t.2.2.2 true) ∧ ∀ r, dfA ch = .inl r → r < 0 := by
  unfold dfA
  cases er : bkF ch 6 (0, cd0) with
  | inl e => exact ⟨fun t h => (by cases h), fun r h => by rw [← Sum.inl.inj h]; exact bk_n hc hn _ e (Nat.zero_le _) er⟩
  | inr t =>
    dsimp only
    have g := bk_gr hc er
    by_cases h256 : ch t.1 = 256
    · rw [if_pos h256]
      refine ⟨fun t2 h => ?_, fun r h => by cases h⟩
      cases h
      refine ⟨bk_b hc hn (0, cd0) t (Nat.zero_le _) (Nat.le_refl _) (fun k hk => by have : k < 0 := hk; omega) er, ?_, ((bk_sg (0, cd0) t er).2.2 0 (by decide)).w⟩
      have hz : ch 0 = 40 := by
        unfold bkF at er
        by_cases hh : ch 0 = 40
        · exact hh
        · rw [if_neg hh] at er; cases er
      have e3 : inF ch (cdF ch (tF ch 5)) 41 (0, cd0) = .inr t := by
        unfold bkF at er
        rw [if_pos hz] at er
        exact er
      have h3 := in_grw hc (by decide) (cd_grw hc (tF_grw hc 5)) (0, cd0) t (hc.lt (show ch 0 < 256 by omega)) e3
      have h4 : t.2.2.2 + 0 ≤ 0 + t.1 := h3.2.2.2
      have h5 : t.1 ≤ n := h3.2.1
      omega
    · rw [if_neg h256]
      exact ⟨fun t2 h => (by cases h), fun r h => by rw [← Sum.inl.inj h]; have := g.2.1; exact flt_neg (c := 1) (by omega) (by omega) (by omega)⟩
end DEF3
