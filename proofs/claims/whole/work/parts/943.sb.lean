section SB1
def sbF (S : Nat) : Nat → Nat → Nat → Nat
  | 0, _, a => a
  | m + 1, k, a => sbF S m (k + 1) (a + S / 2 ^ k % 2)
theorem sbF_fold {S : Nat} (hS : S < 2 ^ 31) : ∀ (m k a : Nat), k + m ≤ 32 → foldF (fun n a => a + ((nI S >>> (nI n &&& 31)) &&& kI 1)) m k (nI a) = nI (sbF S m k a) := by
  intro m
  induction m with
  | zero => intro k a _; rfl
  | succ m ih =>
    intro k a h
    show foldF _ m (k + 1) (nI a + ((nI S >>> (nI k &&& 31)) &&& kI 1)) = _
    rw [bit_nI hS (by omega), nI_add]
    exact ih (k + 1) _ (by omega)
end SB1
