/-- a loop's number n, n + 1 .. (m of them), each changing a -/
def foldF (g : Nat → Int32 → Int32) : Nat → Nat → Int32 → Int32
  | 0, _, a => a
  | m + 1, n, a => foldF g m (n + 1) (g n a)
theorem lp_58 {X : Scr} {d : Nat} (w : Wd) (s : Int32) : ∀ (m n : Nat) (a : Int32), n + m = 6 → EV X (d + 1) 58 (4, [some (.ref 3), some (.int s), some (.int a), some (.int (nI n))], [], SH, w) (fun r s1 w1 => r = some (.int (foldF (fun n a => if F_154 s (nI n) w = 0 then a else a ||| w 6 n) m n a)) ∧ s1 = SH ∧ w1 = w) := by
  intro m
  induction m with
  | zero =>
    intro n a h
    have hn : n = 6 := by omega
    subst hn
    have hle : kI 6 ≤ nI 6 := by decide
    exact s_58_3_at4 w s a (nI 6) (fun _ => ⟨rfl, rfl, rfl⟩) (fun h => absurd hle h) (fun h => absurd hle h) (fun h => absurd hle h)
  | succ m ih =>
    intro n a h
    have hlt : ¬ kI 6 ≤ nI n := nI_ge (b := 6) (by omega) (by decide)
    refine s_58_3_at4 w s a (nI n) (fun h => absurd h hlt) (fun _ hz => ?_) (fun _ _ => inB_nI (by omega) (by decide)) (fun _ hz => ?_)
    · rw [kI_1, nI_1]
      simp only [foldF, if_pos hz]
      exact ih (n + 1) a (by omega)
    · rw [nI_clamp (show n < 2 ^ 31 by omega), kI_1, nI_1]
      simp only [foldF, if_neg hz]
      exact ih (n + 1) (a ||| w 6 n) (by omega)
def F_58_3 (p1 : Int32) (w : Wd) : Int32 := foldF (fun n a => if F_154 p1 (nI n) w = 0 then a else a ||| w 6 n) 6 0 (kI 0)
/-- Office.neighboursOfAll(counties) -/
theorem m_58_3 {X : Scr} {d : Nat} (w : Wd) (p1 : Int32) : CV X (d + 2) 58 [.ref 3, .int p1] SH w (fun r s1 w1 => r = some (.int (F_58_3 p1 w)) ∧ s1 = SH ∧ w1 = w) :=
  CV.of rfl (s_58_3_at0 w p1 (lp_58 w p1 6 0 (kI 0) rfl))
theorem lp_162 {X : Scr} {d : Nat} (w : Wd) (s : Int32) : ∀ (m n : Nat) (a : Int32), n + m = 20 → EV X (d + 1) 162 (4, [some (.int s), some (.int a), some (.int (nI n))], [], SH, w) (fun r s1 w1 => r = some (.int (foldF (fun n a => a + ((s >>> (nI n &&& 31)) &&& kI 1)) m n a)) ∧ s1 = SH ∧ w1 = w) := by
  intro m
  induction m with
  | zero =>
    intro n a h
    have hn : n = 20 := by omega
    subst hn
    have hle : kI 20 ≤ nI 20 := by decide
    exact s_162_at4 w s a (nI 20) (fun _ => ⟨rfl, rfl, rfl⟩) (fun h => absurd hle h)
  | succ m ih =>
    intro n a h
    have hlt : ¬ kI 20 ≤ nI n := nI_ge (b := 20) (by omega) (by decide)
    refine s_162_at4 w s a (nI n) (fun h => absurd h hlt) (fun _ => ?_)
    have e1 : nI n + kI 1 = nI (n + 1) := nI_1 n
    rw [e1]
    exact ih (n + 1) _ (by omega)
def F_162 (p1 : Int32) (w : Wd) : Int32 := foldF (fun n a => a + ((p1 >>> (nI n &&& 31)) &&& kI 1)) 20 0 (kI 0)
/-- Model.bits(set) -/
theorem m_162 {X : Scr} {d : Nat} (w : Wd) (p1 : Int32) : CV X (d + 2) 162 [.int p1] SH w (fun r s1 w1 => r = some (.int (F_162 p1 w)) ∧ s1 = SH ∧ w1 = w) :=
  CV.of rfl (s_162_at0 w p1 (lp_162 w p1 20 0 (kI 0) rfl))
theorem lp_168 {X : Scr} {d : Nat} (w : Wd) : ∀ (m n : Nat) (a : Int32), n + m = 6 → EV X (d + 2) 168 (4, [some (.ref 110), some (.int a), some (.int (nI n))], [], SH, w) (fun r s1 w1 => r = some (.int (foldF (fun n a => if F_164_110 (nI n) w = 0 then a + kI 0 else a + w 114 n) m n a)) ∧ s1 = SH ∧ w1 = w) := by
  intro m
  induction m with
  | zero =>
    intro n a h
    have hn : n = 6 := by omega
    subst hn
    have hle : kI 6 ≤ nI 6 := by decide
    exact s_168_110_at4 w a (nI 6) (fun _ => ⟨rfl, rfl, rfl⟩) (fun h => absurd hle h) (fun h => absurd hle h) (fun h => absurd hle h)
  | succ m ih =>
    intro n a h
    have hlt : ¬ kI 6 ≤ nI n := nI_ge (b := 6) (by omega) (by decide)
    have e1 : nI n + kI 1 = nI (n + 1) := nI_1 n
    refine s_168_110_at4 w a (nI n) (fun h => absurd h hlt) (fun _ hz => ?_) (fun _ _ => inB_nI (by omega) (by decide)) (fun _ hz => ?_)
    · rw [e1]
      simp only [foldF, if_pos hz]
      exact ih (n + 1) _ (by omega)
    · rw [nI_clamp (show n < 2 ^ 31 by omega), e1]
      simp only [foldF, if_neg hz]
      exact ih (n + 1) _ (by omega)
def F_168_110 (w : Wd) : Int32 := foldF (fun n a => if F_164_110 (nI n) w = 0 then a + kI 0 else a + w 114 n) 6 0 (kI 0)
/-- Model.allPeople() -/
theorem m_168_110 {X : Scr} {d : Nat} (w : Wd) : CV X (d + 3) 168 [.ref 110] SH w (fun r s1 w1 => r = some (.int (F_168_110 w)) ∧ s1 = SH ∧ w1 = w) :=
  CV.of rfl (s_168_110_at0 (d := d + 1) w (lp_168 w 6 0 (kI 0) rfl))
