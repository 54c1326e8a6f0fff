theorem lp_59 {X : Scr} {d : Nat} (w : Wd) (c : Int32) : ∀ (m n : Nat) (a : Int32), n + m = 6 → EV X (d + 2) 59 (6, [some (.ref 3), some (.int c), some (.int a), some (.int (nI n))], [], SH, w) (fun r s1 w1 => r = some (.int (foldF (fun _ a => a ||| F_58_3 a w) m n a)) ∧ s1 = SH ∧ w1 = w) := by
  intro m
  induction m with
  | zero =>
    intro n a h
    have hn : n = 6 := by omega
    subst hn
    have hle : kI 6 ≤ nI 6 := by decide
    exact s_59_3_at6 w c a (nI 6) (fun _ => ⟨rfl, rfl, rfl⟩) (fun h => absurd hle h)
  | succ m ih =>
    intro n a h
    have hlt : ¬ kI 6 ≤ nI n := nI_ge (b := 6) (by omega) (by decide)
    have e1 : nI n + kI 1 = nI (n + 1) := nI_1 n
    refine s_59_3_at6 w c a (nI n) (fun h => absurd h hlt) (fun _ => ?_)
    rw [e1]
    exact ih (n + 1) _ (by omega)
def F_59_3 (p1 : Int32) (w : Wd) : Int32 := foldF (fun _ a => a ||| F_58_3 a w) 6 0 (kI 1 <<< (p1 &&& 31))
/-- Office.regionOf(c) -/
theorem m_59_3 {X : Scr} {d : Nat} (w : Wd) (p1 : Int32) : CV X (d + 3) 59 [.ref 3, .int p1] SH w (fun r s1 w1 => r = some (.int (F_59_3 p1 w)) ∧ s1 = SH ∧ w1 = w) :=
  CV.of rfl (s_59_3_at0 (d := d + 1) w p1 (lp_59 w p1 6 0 _ rfl))
