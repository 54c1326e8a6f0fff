/-! numbers: ints that are nI n; bits of sets that are nI S -/
section NUM
def nn (x : Int32) (m : Nat) : Prop := ∃ n : Nat, n ≤ m ∧ x = nI n
theorem kI_of (n : Nat) : kI (n : Int) = nI n := rfl
theorem kI_0 : kI 0 = nI 0 := rfl
theorem zero_nI : (0 : Int32) = nI 0 := rfl
theorem one_nI : (1 : Int32) = nI 1 := rfl
theorem n31 {n m : Nat} (h : n ≤ m) (hm : m < 2 ^ 31) : n < 2 ^ 31 := by omega
theorem shr_nI {S c : Nat} (hS : S < 2 ^ 31) (hc : c < 32) : nI S >>> (nI c &&& 31) = nI (S / 2 ^ c) :=
  pk_shrN hS _ c ((by decide +kernel : ∀ n, n < 32 → ((nI n &&& 31).toBitVec.smod 32).toNat = n) c hc)
theorem and1_nI {n : Nat} (h : n < 2 ^ 32) : nI n &&& kI 1 = nI (n % 2) := pk_andN h 1 rfl
theorem bit_nI {S c : Nat} (hS : S < 2 ^ 31) (hc : c < 32) : (nI S >>> (nI c &&& 31)) &&& kI 1 = nI (S / 2 ^ c % 2) := by
  rw [shr_nI hS hc, and1_nI]
  have := Nat.div_le_self S (2 ^ c)
  omega
theorem tb_div {S c : Nat} : S.testBit c = true ↔ S / 2 ^ c % 2 = 1 := by
  rw [Nat.testBit_eq_decide_div_mod_eq]
  simp
theorem isin_nI {S c : Nat} (w : Wd) (hS : S < 2 ^ 31) (hc : c < 32) : F_154 (nI S) (nI c) w = if S.testBit c then 1 else 0 := by
  unfold F_154
  rw [bit_nI hS hc]
  have h2 : S / 2 ^ c % 2 < 2 := Nat.mod_lt _ (by decide)
  by_cases h : S.testBit c = true
  · rw [if_pos h, tb_div.mp h]
    rfl
  · rw [if_neg h]
    have h3 : S / 2 ^ c % 2 = 0 := by
      have := mt tb_div.mpr h
      omega
    rw [h3]
    rfl
theorem isin_z {S c : Nat} (w : Wd) (hS : S < 2 ^ 31) (hc : c < 32) : F_154 (nI S) (nI c) w = 0 ↔ ¬ S.testBit c = true := by
  rw [isin_nI w hS hc]
  by_cases h : S.testBit c = true
  · rw [if_pos h]; exact ⟨fun e => absurd e (by decide), fun e => absurd h e⟩
  · rw [if_neg h]; exact ⟨fun _ => h, fun _ => rfl⟩
theorem has_z {S c : Nat} (w : Wd) (hS : S < 2 ^ 31) (hc : c < 32) : F_161 (nI S) (nI c) w = 0 ↔ ¬ S.testBit c = true := isin_z w hS hc
theorem shl1_nI {c : Nat} (hc : c < 31) : kI 1 <<< (nI c &&& 31) = nI (2 ^ c) := by
  have h1 : (2 : Nat) ^ c < 2 ^ 31 := Nat.pow_lt_pow_right (by decide) hc
  have := pk_shlN (n := 1) (nI c &&& 31) c ((by decide +kernel : ∀ n, n < 32 → ((nI n &&& 31).toBitVec.smod 32).toNat = n) c (by omega)) (by omega)
  rw [Nat.one_mul] at this
  exact this
theorem toBV_nI (n : Nat) : (nI n).toBitVec = BitVec.ofNat 32 n := rfl
theorem or_nI (a b : Nat) : nI a ||| nI b = nI (a ||| b) := by
  apply Int32.toBitVec_inj.mp
  rw [Int32.toBitVec_or, toBV_nI, toBV_nI, toBV_nI]
  apply BitVec.eq_of_getLsbD_eq
  intro i hi
  simp [BitVec.getLsbD_ofNat, Nat.testBit_or, hi]
theorem and_nI (a b : Nat) : nI a &&& nI b = nI (a &&& b) := by
  apply Int32.toBitVec_inj.mp
  rw [Int32.toBitVec_and, toBV_nI, toBV_nI, toBV_nI]
  apply BitVec.eq_of_getLsbD_eq
  intro i hi
  simp [BitVec.getLsbD_ofNat, Nat.testBit_and, hi]
theorem xor_nI (a b : Nat) : nI a ^^^ nI b = nI (a ^^^ b) := by
  apply Int32.toBitVec_inj.mp
  rw [Int32.toBitVec_xor, toBV_nI, toBV_nI, toBV_nI]
  apply BitVec.eq_of_getLsbD_eq
  intro i hi
  simp [BitVec.getLsbD_ofNat, Nat.testBit_xor, hi]
theorem m1_nI : kI (-1) = nI 4294967295 := by decide
/-- a without the bits of b -/
theorem andn_nI (a b : Nat) (ha : a < 2 ^ 32) : nI a &&& (nI b ^^^ kI (-1)) = nI (a &&& (b ^^^ 4294967295)) := by
  rw [m1_nI, xor_nI, and_nI]
theorem tb_andn {a b i : Nat} (ha : a < 2 ^ 32) : (a &&& (b ^^^ 4294967295)).testBit i = (a.testBit i && !b.testBit i) := by
  rw [Nat.testBit_and, Nat.testBit_xor]
  by_cases h : i < 32
  · have h1 : Nat.testBit 4294967295 i = true := by
      have : (4294967295 : Nat) = 2 ^ 32 - 1 := by decide
      rw [this, Nat.testBit_two_pow_sub_one]
      simpa using h
    rw [h1]
    simp
  · have h1 : a.testBit i = false := Nat.testBit_lt_two_pow (Nat.lt_of_lt_of_le ha (Nat.pow_le_pow_right (by decide) (by omega)))
    rw [h1]
    rfl
theorem nI_inj {a b : Nat} (ha : a < 2 ^ 31) (hb : b < 2 ^ 31) (h : nI a = nI b) : a = b := (nI_eq ha hb).mp h
theorem nI_z {a : Nat} (ha : a < 2 ^ 31) : nI a = 0 ↔ a = 0 := nI_eq ha (by decide)
/-- within: p lies between two small numbers -/
theorem within_z {p : Int32} {a b : Nat} {w : Wd} (ha : a < 2 ^ 31) (hb : b < 2 ^ 31) (h : ¬ F_153 p (kI a) (kI b) w = 0) : ∃ n : Nat, a ≤ n ∧ n ≤ b ∧ p = nI n := by
  unfold F_153 at h
  by_cases h1 : p < kI a
  · rw [if_pos h1] at h; exact absurd rfl h
  · rw [if_neg h1] at h
    by_cases h2 : kI b < p
    · rw [if_pos h2] at h; exact absurd rfl h
    · have h3 : ¬ p < 0 := fun h3 => h1 (by
        rw [Int32.lt_iff_toInt_lt] at h3 ⊢
        rw [kI_of, nI_toInt ha]
        have : (0 : Int32).toInt = 0 := rfl
        omega)
      obtain ⟨n, hn, rfl⟩ := nI_of h3
      refine ⟨n, ?_, ?_, rfl⟩
      · rw [kI_of, nI_ltI hn ha] at h1; omega
      · rw [kI_of, nI_ltI hb hn] at h2; omega
theorem within_nI {n a b : Nat} {w : Wd} (hn : n < 2 ^ 31) (ha : a < 2 ^ 31) (hb : b < 2 ^ 31) : F_153 (nI n) (kI a) (kI b) w = if a ≤ n ∧ n ≤ b then 1 else 0 := by
  unfold F_153
  by_cases h1 : a ≤ n
  · rw [if_neg (by rw [kI_of, nI_ltI hn ha]; omega)]
    by_cases h2 : n ≤ b
    · rw [if_neg (by rw [kI_of, nI_ltI hb hn]; omega), if_pos ⟨h1, h2⟩]; rfl
    · rw [if_pos (by rw [kI_of, nI_ltI hb hn]; omega), if_neg (fun h => h2 h.2)]; rfl
  · rw [if_pos (by rw [kI_of, nI_ltI hn ha]; omega), if_neg (fun h => h1 h.1)]; rfl
end NUM
