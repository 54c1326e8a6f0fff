section POPC4
theorem sb_20 (n : Nat) : sbF n 20 0 0 = n % 2 + n / 2 % 2 + n / 4 % 2 + n / 8 % 2 + n / 16 % 2 + n / 32 % 2 + n / 64 % 2 + n / 128 % 2 + n / 256 % 2 + n / 512 % 2 + n / 1024 % 2 + n / 2048 % 2 + n / 4096 % 2 + n / 8192 % 2 + n / 16384 % 2 + n / 32768 % 2 + n / 65536 % 2 + n / 131072 % 2 + n / 262144 % 2 + n / 524288 % 2 := by
  simp only [sbF, Nat.reducePow, Nat.reduceAdd, Nat.div_one, Nat.zero_add]
end POPC4
