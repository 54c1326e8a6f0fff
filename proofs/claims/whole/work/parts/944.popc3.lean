section POPC3
theorem b8_lo (n : Nat) : b8 (n % 256) = n % 2 + n / 2 % 2 + n / 4 % 2 + n / 8 % 2 + n / 16 % 2 + n / 32 % 2 + n / 64 % 2 + n / 128 % 2 := by
  unfold b8
  rw [show n % 256 % 2 = n % 2 by omega, show n % 256 / 2 % 2 = n / 2 % 2 by omega, show n % 256 / 4 % 2 = n / 4 % 2 by omega, show n % 256 / 8 % 2 = n / 8 % 2 by omega, show n % 256 / 16 % 2 = n / 16 % 2 by omega, show n % 256 / 32 % 2 = n / 32 % 2 by omega, show n % 256 / 64 % 2 = n / 64 % 2 by omega, show n % 256 / 128 % 2 = n / 128 % 2 by omega]
theorem b8_mi (n : Nat) : b8 (n / 256 % 256) = n / 256 % 2 + n / 512 % 2 + n / 1024 % 2 + n / 2048 % 2 + n / 4096 % 2 + n / 8192 % 2 + n / 16384 % 2 + n / 32768 % 2 := by
  unfold b8
  rw [show n / 256 % 256 % 2 = n / 256 % 2 by omega, show n / 256 % 256 / 2 % 2 = n / 512 % 2 by omega, show n / 256 % 256 / 4 % 2 = n / 1024 % 2 by omega, show n / 256 % 256 / 8 % 2 = n / 2048 % 2 by omega, show n / 256 % 256 / 16 % 2 = n / 4096 % 2 by omega, show n / 256 % 256 / 32 % 2 = n / 8192 % 2 by omega, show n / 256 % 256 / 64 % 2 = n / 16384 % 2 by omega, show n / 256 % 256 / 128 % 2 = n / 32768 % 2 by omega]
theorem b8_hi (n : Nat) (h : n < 2 ^ 20) : b8 (n / 65536) = n / 65536 % 2 + n / 131072 % 2 + n / 262144 % 2 + n / 524288 % 2 := by
  unfold b8
  rw [show n / 65536 / 2 % 2 = n / 131072 % 2 by omega, show n / 65536 / 4 % 2 = n / 262144 % 2 by omega, show n / 65536 / 8 % 2 = n / 524288 % 2 by omega, show n / 65536 / 16 % 2 = 0 by omega, show n / 65536 / 32 % 2 = 0 by omega, show n / 65536 / 64 % 2 = 0 by omega, show n / 65536 / 128 % 2 = 0 by omega, Nat.add_zero]
end POPC3
