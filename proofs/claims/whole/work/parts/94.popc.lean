/-! how many bits: Integer.bitCount and bits of the reference are the same for sets of 20 -/
section POPC
theorem and_sp {d y m : Nat} (hd : d < 256) : (d + 256 * y) &&& m = (d &&& m % 256) + 256 * (y &&& m / 256) := by
  have h1 := Nat.and_div_two_pow (a := d + 256 * y) (b := m) (n := 8)
  have h2 := Nat.and_mod_two_pow (a := d + 256 * y) (b := m) (n := 8)
  rw [show (2 : Nat) ^ 8 = 256 from rfl] at h1 h2
  rw [show (d + 256 * y) / 256 = y by omega] at h1
  rw [show (d + 256 * y) % 256 = d by omega] at h2
  have h3 := Nat.div_add_mod ((d + 256 * y) &&& m) 256
  rw [h1, h2] at h3
  omega
def B1 (d : Nat) : Nat := d - (d / 2 &&& 85)
def B2 (d : Nat) : Nat := (B1 d &&& 51) + (B1 d / 4 &&& 51)
def b8 (d : Nat) : Nat := d % 2 + d / 2 % 2 + d / 4 % 2 + d / 8 % 2 + d / 16 % 2 + d / 32 % 2 + d / 64 % 2 + d / 128 % 2
theorem B_1 : ∀ d, d < 256 → ∀ e, e < 2 → (d / 2 + 128 * e &&& 85) = (d / 2 &&& 85) := by decide +kernel
theorem B_2 : ∀ d, d < 256 → ∀ e, e < 4 → (d / 4 + 64 * e &&& 51) = (d / 4 &&& 51) := by decide +kernel
theorem B_3 : ∀ d, d < 256 → B1 d < 256 ∧ (d / 2 &&& 85) ≤ d ∧ B2 d % 16 ≤ 4 ∧ B2 d / 16 ≤ 4 ∧ B2 d % 16 + B2 d / 16 = b8 d := by decide +kernel
def P1 (n : Nat) : Nat := n - (n / 2 &&& 1431655765)
def P2 (n : Nat) : Nat := (n &&& 858993459) + (n / 4 &&& 858993459)
def P3 (n : Nat) : Nat := n + n / 16 &&& 252645135
def pcn (n : Nat) : Nat := (P3 (P2 (P1 n)) + P3 (P2 (P1 n)) / 256) + (P3 (P2 (P1 n)) + P3 (P2 (P1 n)) / 256) / 65536 &&& 63
theorem P1_sp {a b c : Nat} (ha : a < 256) (hb : b < 256) (hc : c < 256) : P1 (a + 256 * (b + 256 * c)) = B1 a + 256 * (B1 b + 256 * B1 c) := by
  unfold P1
  have e0 : (a + 256 * (b + 256 * c)) / 2 = (a / 2 + 128 * (b % 2)) + 256 * ((b / 2 + 128 * (c % 2)) + 256 * (c / 2)) := by omega
  rw [e0, and_sp (by omega), and_sp (by omega)]
  simp only [Nat.reduceMod, Nat.reduceDiv]
  rw [B_1 a ha (b % 2) (by omega), B_1 b hb (c % 2) (by omega)]
  have h1 := (B_3 a ha).2.1
  have h2 := (B_3 b hb).2.1
  have h3 := (B_3 c hc).2.1
  have h4 : (c / 2 &&& 21845) = (c / 2 &&& 85) := (by decide +kernel : ∀ c, c < 256 → (c / 2 &&& 21845) = (c / 2 &&& 85)) c hc
  rw [h4]
  unfold B1
  omega
theorem P2_sp {a b c : Nat} (ha : a < 256) (hb : b < 256) (hc : c < 256) : P2 (B1 a + 256 * (B1 b + 256 * B1 c)) = B2 a + 256 * (B2 b + 256 * B2 c) := by
  have h1 := (B_3 a ha).1
  have h2 := (B_3 b hb).1
  have h3 := (B_3 c hc).1
  unfold P2
  have e0 : (B1 a + 256 * (B1 b + 256 * B1 c)) / 4 = (B1 a / 4 + 64 * (B1 b % 4)) + 256 * ((B1 b / 4 + 64 * (B1 c % 4)) + 256 * (B1 c / 4)) := by omega
  rw [e0, and_sp h1, and_sp h2, and_sp (by omega), and_sp (by omega)]
  simp only [Nat.reduceMod, Nat.reduceDiv]
  rw [B_2 _ h1 (B1 b % 4) (by omega), B_2 _ h2 (B1 c % 4) (by omega)]
  have h4 : (B1 c &&& 13107) = (B1 c &&& 51) := (by decide +kernel : ∀ c, c < 256 → (c &&& 13107) = (c &&& 51)) _ h3
  have h5 : (B1 c / 4 &&& 13107) = (B1 c / 4 &&& 51) := (by decide +kernel : ∀ c, c < 256 → (c / 4 &&& 13107) = (c / 4 &&& 51)) _ h3
  rw [h4, h5]
  unfold B2
  omega
theorem P3_sp {a b c : Nat} (ha : a < 256) (hb : b < 256) (hc : c < 256) : P3 (B2 a + 256 * (B2 b + 256 * B2 c)) = b8 a + 256 * (b8 b + 256 * b8 c) := by
  obtain ⟨-, -, a1, a2, a3⟩ := B_3 a ha
  obtain ⟨-, -, b1, b2, b3⟩ := B_3 b hb
  obtain ⟨-, -, c1, c2, c3⟩ := B_3 c hc
  unfold P3
  have e0 : (B2 a + 256 * (B2 b + 256 * B2 c)) + (B2 a + 256 * (B2 b + 256 * B2 c)) / 16 = (B2 a + B2 a / 16 + 16 * (B2 b % 16)) + 256 * ((B2 b + B2 b / 16 + 16 * (B2 c % 16)) + 256 * (B2 c + B2 c / 16)) := by omega
  rw [e0, and_sp (by omega), and_sp (by omega)]
  simp only [Nat.reduceMod, Nat.reduceDiv]
  have m15 : ∀ x, (x &&& 15) = x % 16 := fun x => Nat.and_two_pow_sub_one_eq_mod x 4
  have h4 : (B2 c + B2 c / 16 &&& 3855) = (B2 c + B2 c / 16 &&& 15) := (by decide +kernel : ∀ c, c < 256 → (c &&& 3855) = (c &&& 15)) _ (by omega)
  have md : ∀ x y, x % 16 ≤ 4 → x / 16 ≤ 4 → (x + x / 16 + 16 * y) % 16 = x % 16 + x / 16 := fun x y h1 h2 => by omega
  have mc : (B2 c + B2 c / 16) % 16 = B2 c % 16 + B2 c / 16 := by have := md (B2 c) 0 c1 c2; omega
  rw [h4, m15, m15, m15, md _ _ a1 a2, md _ _ b1 b2, mc, a3, b3, c3]
theorem pcn_eq {n : Nat} (h : n < 2 ^ 20) : pcn n = b8 (n % 256) + b8 (n / 256 % 256) + b8 (n / 65536) := by
  have hn : n = n % 256 + 256 * (n / 256 % 256 + 256 * (n / 65536)) := by omega
  have e : P3 (P2 (P1 n)) = b8 (n % 256) + 256 * (b8 (n / 256 % 256) + 256 * b8 (n / 65536)) := by
    have e1 := P1_sp (a := n % 256) (b := n / 256 % 256) (c := n / 65536) (by omega) (by omega) (by omega)
    rw [← hn] at e1
    rw [e1, P2_sp (by omega) (by omega) (by omega), P3_sp (by omega) (by omega) (by omega)]
  unfold pcn
  rw [e]
  have m63 : ∀ x, (x &&& 63) = x % 64 := fun x => Nat.and_two_pow_sub_one_eq_mod x 6
  rw [m63]
  have l1 : b8 (n % 256) ≤ 8 := by unfold b8; omega
  have l2 : b8 (n / 256 % 256) ≤ 8 := by unfold b8; omega
  have l3 : b8 (n / 65536) ≤ 8 := by unfold b8; omega
  generalize b8 (n % 256) = x at l1 ⊢
  generalize b8 (n / 256 % 256) = y at l2 ⊢
  generalize b8 (n / 65536) = z at l3 ⊢
  have d1 : (x + 256 * (y + 256 * z)) / 256 = y + 256 * z := by omega
  rw [d1]
  have d2 : (x + 256 * (y + 256 * z) + (y + 256 * z)) / 65536 = z := by omega
  rw [d2]
  omega
end POPC
