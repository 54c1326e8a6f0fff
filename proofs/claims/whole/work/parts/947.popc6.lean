section POPC6
theorem F162_pcn (w : Wd) {n : Nat} (h : n < 2 ^ 20) : F_162 (nI n) w = nI (pcn n) := by
  have z : kI 0 = nI 0 := rfl
  have e := sbF_fold (S := n) (by omega) 20 0 0 (by omega)
  have e2 : sbF n 20 0 0 = pcn n := (sb_20 n).trans (pc_20 n h).symm
  rw [e2] at e
  unfold F_162
  rw [z]
  generalize nI (pcn n) = y at e ⊢
  exact e
theorem pop_eq (w u : Wd) {n : Nat} (h : n < 2 ^ 20) : F_162 (nI n) u = F_259 (nI n) w := by rw [F162_pcn u h, F259_pcn w h]
theorem b8_le (d : Nat) : b8 d ≤ 8 := by unfold b8; omega
theorem pcn_le {n : Nat} (h : n < 2 ^ 20) : pcn n ≤ 24 := by
  rw [pcn_eq h]
  have l1 := b8_le (n % 256)
  have l2 := b8_le (n / 256 % 256)
  have l3 := b8_le (n / 65536)
  omega
end POPC6
