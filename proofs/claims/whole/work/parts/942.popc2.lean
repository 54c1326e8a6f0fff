section POPC2
theorem q_sh (n : Nat) (hn : n < 2 ^ 32) (s : Int32) (k : Nat) (hs : ((s.toUInt32 &&& Int32.toUInt32 31).toBitVec % 32).toNat = k) : ((nI n).toUInt32 >>> (s.toUInt32 &&& Int32.toUInt32 31)).toInt32 = nI (n / 2 ^ k) := pk_ushrN hn s k hs
theorem F259_pcn (w : Wd) {n : Nat} (h : n < 2 ^ 20) : F_259 (nI n) w = nI (pcn n) := by
  have s1 : nI n - (((nI n).toUInt32 >>> ((kI 1).toUInt32 &&& Int32.toUInt32 31)).toInt32 &&& kI 1431655765) = nI (P1 n) := by
    rw [q_sh n (by omega) (kI 1) 1 (by decide), show kI 1431655765 = nI 1431655765 from rfl, and_nI, pk_sub (Nat.le_trans Nat.and_le_left (by omega))]
    rfl
  have hP1 : P1 n < 2 ^ 20 := by unfold P1; omega
  have s2 : (nI (P1 n) &&& kI 858993459) + (((nI (P1 n)).toUInt32 >>> ((kI 2).toUInt32 &&& Int32.toUInt32 31)).toInt32 &&& kI 858993459) = nI (P2 (P1 n)) := by
    rw [q_sh (P1 n) (by omega) (kI 2) 2 (by decide), show kI 858993459 = nI 858993459 from rfl, and_nI, and_nI, nI_add]
    rfl
  have hP2 : P2 (P1 n) < 2 ^ 21 := by
    unfold P2
    have g1 : (P1 n &&& 858993459) ≤ P1 n := Nat.and_le_left
    have g2 : (P1 n / 4 &&& 858993459) ≤ P1 n / 4 := Nat.and_le_left
    omega
  have s3 : (nI (P2 (P1 n)) + ((nI (P2 (P1 n))).toUInt32 >>> ((kI 4).toUInt32 &&& Int32.toUInt32 31)).toInt32) &&& kI 252645135 = nI (P3 (P2 (P1 n))) := by
    rw [q_sh (P2 (P1 n)) (by omega) (kI 4) 4 (by decide), show kI 252645135 = nI 252645135 from rfl, nI_add, and_nI]
    rfl
  have hP3 : P3 (P2 (P1 n)) < 2 ^ 22 := by
    unfold P3
    have g1 : (P2 (P1 n) + P2 (P1 n) / 16 &&& 252645135) ≤ P2 (P1 n) + P2 (P1 n) / 16 := Nat.and_le_left
    omega
  have s4 : nI (P3 (P2 (P1 n))) + ((nI (P3 (P2 (P1 n)))).toUInt32 >>> ((kI 8).toUInt32 &&& Int32.toUInt32 31)).toInt32 = nI (P3 (P2 (P1 n)) + P3 (P2 (P1 n)) / 256) := by
    rw [q_sh (P3 (P2 (P1 n))) (by omega) (kI 8) 8 (by decide), nI_add]
  have s5 : (nI (P3 (P2 (P1 n)) + P3 (P2 (P1 n)) / 256) + ((nI (P3 (P2 (P1 n)) + P3 (P2 (P1 n)) / 256)).toUInt32 >>> ((kI 16).toUInt32 &&& Int32.toUInt32 31)).toInt32) &&& kI 63 = nI (pcn n) := by
    rw [q_sh _ (by omega) (kI 16) 16 (by decide), show kI 63 = nI 63 from rfl, nI_add, and_nI]
    rfl
  unfold F_259
  rw [s1, s2, s3, s4, s5]
end POPC2
