/-! loops by hand -/
theorem inB_nI {n N : Nat} (h : n < N) (hN : N < 2 ^ 31) : inB (nI n) N = true := by
  refine inB_of ?_ ?_
  · rw [nI_toInt (by omega)]; omega
  · rw [nI_toInt (by omega)]; omega
theorem kI_1 : kI 1 = 1 := rfl
theorem kI_nI (n : Nat) : kI (n : Int) = nI n := rfl
/-- f n, f (n + 1) .. (m of them) added to a, one by one -/
def sumF (f : Nat → Int32) : Nat → Nat → Int32 → Int32
  | 0, _, a => a
  | m + 1, n, a => sumF f m (n + 1) (a + f n)
theorem lp_57 {X : Scr} {d : Nat} (w : Wd) : ∀ (m n : Nat) (a : Int32), n + m = 6 → EV X (d + 1) 57 (4, [some (.ref 3), some (.int a), some (.int (nI n))], [], SH, w) (fun r s1 w1 => r = some (.int (sumF (w 4) m n a)) ∧ s1 = SH ∧ w1 = w) := by
  intro m
  induction m with
  | zero =>
    intro n a h
    have hn : n = 6 := by omega
    subst hn
    have hle : kI 6 ≤ nI 6 := by decide
    exact s_57_3_at4 w a (nI 6) (fun _ => ⟨rfl, rfl, rfl⟩) (fun h => absurd hle h) (fun h => absurd hle h)
  | succ m ih =>
    intro n a h
    have hlt : ¬ kI 6 ≤ nI n := nI_ge (b := 6) (by omega) (by decide)
    refine s_57_3_at4 w a (nI n) (fun h => absurd h hlt) (fun _ => inB_nI (by omega) (by decide)) (fun _ => ?_)
    rw [nI_clamp (show n < 2 ^ 31 by omega), kI_1, nI_1]
    exact ih (n + 1) (a + w 4 n) (by omega)
def F_57_3 (w : Wd) : Int32 := sumF (w 4) 6 0 (kI 0)
/-- Office.allPeople() -/
theorem m_57_3 {X : Scr} {d : Nat} (w : Wd) : CV X (d + 2) 57 [.ref 3] SH w (fun r s1 w1 => r = some (.int (F_57_3 w)) ∧ s1 = SH ∧ w1 = w) :=
  CV.of rfl (s_57_3_at0 w (lp_57 w 6 0 (kI 0) rfl))
