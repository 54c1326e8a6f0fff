/-! tools: indices, told counties and figures, sums -/
section TOOLS
theorem k1 (n : Nat) : nI n + kI 1 = nI (n + 1) := nI_1 n
theorem nI_any (y : Int32) : y = nI y.toBitVec.toNat := by
  apply Int32.toBitVec_inj.mp
  rw [toBV_nI, BitVec.ofNat_toNat]
  simp
theorem nn_and {x : Int32} {m : Nat} (h : nn x m) (y : Int32) : nn (x &&& y) m := by
  obtain ⟨n, hn, rfl⟩ := h
  rw [nI_any y, and_nI]
  exact ⟨_, Nat.le_trans Nat.and_le_left hn, rfl⟩
theorem nn_le {x : Int32} {a b : Nat} (h : nn x a) (hab : a ≤ b) : nn x b := by
  obtain ⟨n, hn, e⟩ := h
  exact ⟨n, by omega, e⟩
theorem ixC (c f : Nat) : ((kI 0) + ((kI 6) * nI c)) + nI f = nI (6 * c + f) := by
  show (nI 0 + nI 6 * nI c) + nI f = _
  rw [pk_mul, nI_add, nI_add, Nat.zero_add]
theorem ixB (c f : Nat) : (nI c * kI 6) + nI f = nI (6 * c + f) := by
  show (nI c * nI 6) + nI f = _
  rw [pk_mul, nI_add, Nat.mul_comm]
theorem ixH (c f : Nat) : (nI c * kI 12) + nI f = nI (12 * c + f) := by
  show (nI c * nI 12) + nI f = _
  rw [pk_mul, nI_add, Nat.mul_comm]
theorem ixP (f k : Nat) : ((kI 108) + ((kI 8) * nI f)) + nI k = nI (108 + 8 * f + k) := by
  show (nI 108 + nI 8 * nI f) + nI k = _
  rw [pk_mul, nI_add, nI_add]
theorem ixG (f m : Nat) : ((kI 36) + ((kI 12) * nI f)) + nI m = nI (36 + 12 * f + m) := by
  show (nI 36 + nI 12 * nI f) + nI m = _
  rw [pk_mul, nI_add, nI_add]
theorem in5 {n : Nat} {w : Wd} (h : n < 6) : ¬ F_153 (nI n) (kI 0) (kI 5) w = 0 := by
  have := within_nI (n := n) (a := 0) (b := 5) (w := w) (by omega) (by decide) (by decide)
  rw [if_pos (by omega)] at this
  intro e
  rw [show F_153 (nI n) (kI 0) (kI 5) w = 1 from this] at e
  exact absurd e (by decide)
theorem in11 {n : Nat} {w : Wd} (h : n < 12) : ¬ F_153 (nI n) (kI 0) (kI 11) w = 0 := by
  have := within_nI (n := n) (a := 0) (b := 11) (w := w) (by omega) (by decide) (by decide)
  rw [if_pos (by omega)] at this
  intro e
  rw [show F_153 (nI n) (kI 0) (kI 11) w = 1 from this] at e
  exact absurd e (by decide)
theorem in7 {n : Nat} {w : Wd} (h : n < 8) : ¬ F_153 (nI n) (kI 0) (kI 7) w = 0 := by
  have := within_nI (n := n) (a := 0) (b := 7) (w := w) (by omega) (by decide) (by decide)
  rw [if_pos (by omega)] at this
  intro e
  rw [show F_153 (nI n) (kI 0) (kI 7) w = 1 from this] at e
  exact absurd e (by decide)
theorem in19 {n : Nat} {w : Wd} (h : n < 20) : ¬ F_153 (nI n) (kI 0) (kI 19) w = 0 := by
  have := within_nI (n := n) (a := 0) (b := 19) (w := w) (by omega) (by decide) (by decide)
  rw [if_pos (by omega)] at this
  intro e
  rw [show F_153 (nI n) (kI 0) (kI 19) w = 1 from this] at e
  exact absurd e (by decide)
theorem isC_eq {w : Wd} (o1 : w 110 6 = w 3 3) (p : Int32) : F_164_110 p w = F_51_3 p w := by
  unfold F_164_110 F_51_3
  rw [o1]
  rfl
theorem isF_eq {w : Wd} (o2 : w 110 7 = w 3 4) (p : Int32) : F_165_110 p w = F_52_3 p w := by
  unfold F_165_110 F_52_3
  rw [o2]
  rfl
theorem hasC {p : Int32} {w : Wd} (h : ¬ F_51_3 p w = 0) : ∃ c, c < 6 ∧ p = nI c ∧ ¬ F_154 (w 3 3) (nI c) w = 0 := by
  unfold F_51_3 at h
  by_cases h1 : F_153 p (kI 0) (kI 5) w = 0
  · rw [if_pos h1] at h; exact absurd rfl h
  · obtain ⟨c, -, hc, rfl⟩ := within_z (a := 0) (b := 5) (by decide) (by decide) h1
    rw [if_neg h1] at h
    by_cases h2 : F_154 (w 3 3) (nI c) w = 0
    · rw [if_pos h2] at h; exact absurd rfl h
    · exact ⟨c, by omega, rfl, h2⟩
theorem hasF {p : Int32} {w : Wd} (h : ¬ F_52_3 p w = 0) : ∃ f, f < 6 ∧ p = nI f ∧ ¬ F_154 (w 3 4) (nI f) w = 0 := by
  unfold F_52_3 at h
  by_cases h1 : F_153 p (kI 0) (kI 5) w = 0
  · rw [if_pos h1] at h; exact absurd rfl h
  · obtain ⟨c, -, hc, rfl⟩ := within_z (a := 0) (b := 5) (by decide) (by decide) h1
    rw [if_neg h1] at h
    by_cases h2 : F_154 (w 3 4) (nI c) w = 0
    · rw [if_pos h2] at h; exact absurd rfl h
    · exact ⟨c, by omega, rfl, h2⟩
theorem isC_nI {c : Nat} {w : Wd} (hc : c < 6) : F_51_3 (nI c) w = 0 ↔ F_154 (w 3 3) (nI c) w = 0 := by
  unfold F_51_3
  rw [if_neg (in5 hc)]
  by_cases h : F_154 (w 3 3) (nI c) w = 0
  · rw [if_pos h]; exact ⟨fun _ => h, fun _ => rfl⟩
  · rw [if_neg h]; exact ⟨fun e => absurd e (by decide), fun e => absurd e h⟩
theorem isF_nI {c : Nat} {w : Wd} (hc : c < 6) : F_52_3 (nI c) w = 0 ↔ F_154 (w 3 4) (nI c) w = 0 := by
  unfold F_52_3
  rw [if_neg (in5 hc)]
  by_cases h : F_154 (w 3 4) (nI c) w = 0
  · rw [if_pos h]; exact ⟨fun _ => h, fun _ => rfl⟩
  · rw [if_neg h]; exact ⟨fun e => absurd e (by decide), fun e => absurd e h⟩
theorem peopleOf_nI {c : Nat} {w : Wd} (hc : c < 6) : F_53_3 (nI c) w = w 4 c := by
  unfold F_53_3; rw [if_neg (in5 hc), nI_clamp (by omega)]
theorem targetOf_nI {c : Nat} {w : Wd} (hc : c < 6) : F_54_3 (nI c) w = w 5 c := by
  unfold F_54_3; rw [if_neg (in5 hc), nI_clamp (by omega)]
theorem neighOf_nI {c : Nat} {w : Wd} (hc : c < 6) : F_55_3 (nI c) w = w 6 c := by
  unfold F_55_3; rw [if_neg (in5 hc), nI_clamp (by omega)]
theorem countOf7 {c f : Nat} {w : Wd} (hc : c < 6) (hf : f < 6) : F_11_7 (nI c) (nI f) w = w 8 (6 * c + f) := by
  unfold F_11_7; rw [if_neg (in5 hc), if_neg (in5 hf), ixB, nI_clamp (by omega)]
theorem countOf17 {c f : Nat} {w : Wd} (hc : c < 6) (hf : f < 6) : F_11_17 (nI c) (nI f) w = w 18 (6 * c + f) := by
  unfold F_11_17; rw [if_neg (in5 hc), if_neg (in5 hf), ixB, nI_clamp (by omega)]
theorem histOf7 {f m : Nat} {w : Wd} (hf : f < 6) (hm : m < 12) : F_12_7 (nI f) (nI m) w = w 10 (12 * f + m) := by
  unfold F_12_7; rw [if_neg (in5 hf), if_neg (in11 hm), ixH, nI_clamp (by omega)]
theorem pubOf7 {f k : Nat} {w : Wd} (hf : f < 6) (hk : k < 8) : F_13_7 (nI f) (nI k) w = w 11 (6 * k + f) := by
  unfold F_13_7; rw [if_neg (in5 hf), if_neg (in7 hk), ixB, nI_clamp (by omega)]
theorem sumOf7 {f : Nat} {w : Wd} (hf : f < 6) : F_14_7 (nI f) w = w 9 f := by
  unfold F_14_7; rw [if_neg (in5 hf), nI_clamp (by omega)]
theorem sumOf17 {f : Nat} {w : Wd} (hf : f < 6) : F_14_17 (nI f) w = w 19 f := by
  unfold F_14_17; rw [if_neg (in5 hf), nI_clamp (by omega)]
theorem countR {c f : Nat} {w : Wd} (hc : c < 6) (hf : f < 6) : F_166_110 (nI c) (nI f) w = w 111 (6 * c + f) := by
  unfold F_166_110; rw [ixC, nI_clamp (by omega)]
theorem add0 (a : Int32) : a + kI 0 = a := Int32.add_zero a
theorem zadd (a : Int32) : kI 0 + a = a := Int32.zero_add a
theorem allPeople_eq {w : Wd} (hO : IOf w) : F_168_110 w = F_57_3 w := by
  obtain ⟨o1, o2, o3, o4, o5, o6, o7⟩ := hO
  have step : ∀ n a, n < 6 → (if F_164_110 (nI n) w = 0 then a + kI 0 else a + w 114 n) = a + w 4 n := by
    intro n a hn
    obtain ⟨q1, q2, q3, q4, q5, q6, q7⟩ := o7 n hn
    by_cases h : F_164_110 (nI n) w = 0
    · rw [if_pos h]
      rw [isC_eq o1, isC_nI hn] at h
      rw [q7 h]
      rfl
    · rw [if_neg h, q1]
  unfold F_168_110 F_57_3
  simp only [foldF, sumF]
  rw [step 0 _ (by omega), step 1 _ (by omega), step 2 _ (by omega), step 3 _ (by omega), step 4 _ (by omega), step 5 _ (by omega)]
def cpA (w : Wd) (a b n : Nat) : Wd := fun c => if c = b then (fun i => if i < n then w a i else w b i) else w c
theorem cpA_ne {w : Wd} {a b n c : Nat} (h : c ≠ b) : cpA w a b n c = w c := if_neg h
theorem cpA_at {w : Wd} {a b n : Nat} (i : Nat) : cpA w a b n b i = if i < n then w a i else w b i := by simp [cpA]
theorem cpA_up {w : Wd} {a b n : Nat} (h : a ≠ b) : up2 (cpA w a b n) b n (cpA w a b n a n) = cpA w a b (n + 1) := by
  funext c i
  by_cases hc : c = b
  · subst hc
    rw [up2_at, cpA_ne h, cpA_at, cpA_at]
    by_cases hi : i = n
    · subst hi; rw [if_pos rfl, if_pos (by omega)]
    · rw [if_neg hi]
      by_cases h2 : i < n
      · rw [if_pos h2, if_pos (by omega)]
      · rw [if_neg h2, if_neg (by omega)]
  · rw [up2_ne hc, cpA_ne hc, cpA_ne hc]
theorem cpA_0 (w : Wd) (a b : Nat) : cpA w a b 0 = w := by
  funext c i
  by_cases hc : c = b
  · subst hc; rw [cpA_at, if_neg (by omega)]
  · rw [cpA_ne hc]
theorem lt_2 (n : Nat) (h : n < 2) : ¬ kI 2 ≤ nI n := nI_ge (b := 2) h (by decide)
theorem lt_3 (n : Nat) (h : n < 3) : ¬ kI 3 ≤ nI n := nI_ge (b := 3) h (by decide)
theorem lt_4 (n : Nat) (h : n < 4) : ¬ kI 4 ≤ nI n := nI_ge (b := 4) h (by decide)
theorem lt_6 (n : Nat) (h : n < 6) : ¬ kI 6 ≤ nI n := nI_ge (b := 6) h (by decide)
theorem lt_8 (n : Nat) (h : n < 8) : ¬ kI 8 ≤ nI n := nI_ge (b := 8) h (by decide)
theorem lt_12 (n : Nat) (h : n < 12) : ¬ kI 12 ≤ nI n := nI_ge (b := 12) h (by decide)
theorem lt_16 (n : Nat) (h : n < 16) : ¬ kI 16 ≤ nI n := nI_ge (b := 16) h (by decide)
theorem lt_20 (n : Nat) (h : n < 20) : ¬ kI 20 ≤ nI n := nI_ge (b := 20) h (by decide)
theorem lt_36 (n : Nat) (h : n < 36) : ¬ kI 36 ≤ nI n := nI_ge (b := 36) h (by decide)
theorem lt_60 (n : Nat) (h : n < 60) : ¬ kI 60 ≤ nI n := nI_ge (b := 60) h (by decide)
theorem lt_61 (n : Nat) (h : n < 61) : ¬ kI 61 ≤ nI n := nI_ge (b := 61) h (by decide)
theorem lt_64 (n : Nat) (h : n < 64) : ¬ kI 64 ≤ nI n := nI_ge (b := 64) h (by decide)
theorem lt_72 (n : Nat) (h : n < 72) : ¬ kI 72 ≤ nI n := nI_ge (b := 72) h (by decide)
theorem lt_100 (n : Nat) (h : n < 100) : ¬ kI 100 ≤ nI n := nI_ge (b := 100) h (by decide)
theorem lt_108 (n : Nat) (h : n < 108) : ¬ kI 108 ≤ nI n := nI_ge (b := 108) h (by decide)
theorem lt_120 (n : Nat) (h : n < 120) : ¬ kI 120 ≤ nI n := nI_ge (b := 120) h (by decide)
theorem lt_162 (n : Nat) (h : n < 162) : ¬ kI 162 ≤ nI n := nI_ge (b := 162) h (by decide)
theorem lt_200 (n : Nat) (h : n < 200) : ¬ kI 200 ≤ nI n := nI_ge (b := 200) h (by decide)
theorem lt_240 (n : Nat) (h : n < 240) : ¬ kI 240 ≤ nI n := nI_ge (b := 240) h (by decide)
theorem lt_260 (n : Nat) (h : n < 260) : ¬ kI 260 ≤ nI n := nI_ge (b := 260) h (by decide)
theorem lp_163_111_112 {X : Scr} {d : Nat} {w : Wd} : ∀ (m n : Nat), n + m = 162 → EU X (d + 1) 163 (2, [some (.ref 111), some (.ref 112), some (.int (nI n))], [], SH, cpA w 111 112 n) (fun w1 => w1 = cpA w 111 112 162) := by
  intro m
  induction m with
  | zero =>
    intro n h
    have hn : n = 162 := by omega
    subst hn
    refine t163_111_112_at2 _ _ ?_
    rw [if_pos (by decide)]
  | succ m ih =>
    intro n h
    refine t163_111_112_at2 _ _ ?_
    rw [if_neg (lt_162 n (by omega))]
    refine ⟨inB_nI (by omega) (by decide), inB_nI (by omega) (by decide), ?_⟩
    rw [nI_clamp (by omega), k1, cpA_up (by decide)]
    exact ih (n + 1) (by omega)
theorem c_163_111_112 {X : Scr} {d : Nat} (w : Wd) : CU X (d + 2) 163 [.ref 111, .ref 112] w (fun w1 => w1 = cpA w 111 112 162) := by
  refine CU.of rfl (t163_111_112_at0 w ?_)
  have := lp_163_111_112 (X := X) (d := d) (w := w) 162 0 rfl
  rw [cpA_0] at this
  exact this
theorem lp_163_112_111 {X : Scr} {d : Nat} {w : Wd} : ∀ (m n : Nat), n + m = 162 → EU X (d + 1) 163 (2, [some (.ref 112), some (.ref 111), some (.int (nI n))], [], SH, cpA w 112 111 n) (fun w1 => w1 = cpA w 112 111 162) := by
  intro m
  induction m with
  | zero =>
    intro n h
    have hn : n = 162 := by omega
    subst hn
    refine t163_112_111_at2 _ _ ?_
    rw [if_pos (by decide)]
  | succ m ih =>
    intro n h
    refine t163_112_111_at2 _ _ ?_
    rw [if_neg (lt_162 n (by omega))]
    refine ⟨inB_nI (by omega) (by decide), inB_nI (by omega) (by decide), ?_⟩
    rw [nI_clamp (by omega), k1, cpA_up (by decide)]
    exact ih (n + 1) (by omega)
theorem c_163_112_111 {X : Scr} {d : Nat} (w : Wd) : CU X (d + 2) 163 [.ref 112, .ref 111] w (fun w1 => w1 = cpA w 112 111 162) := by
  refine CU.of rfl (t163_112_111_at0 w ?_)
  have := lp_163_112_111 (X := X) (d := d) (w := w) 162 0 rfl
  rw [cpA_0] at this
  exact this
theorem lp_163_111_113 {X : Scr} {d : Nat} {w : Wd} : ∀ (m n : Nat), n + m = 162 → EU X (d + 1) 163 (2, [some (.ref 111), some (.ref 113), some (.int (nI n))], [], SH, cpA w 111 113 n) (fun w1 => w1 = cpA w 111 113 162) := by
  intro m
  induction m with
  | zero =>
    intro n h
    have hn : n = 162 := by omega
    subst hn
    refine t163_111_113_at2 _ _ ?_
    rw [if_pos (by decide)]
  | succ m ih =>
    intro n h
    refine t163_111_113_at2 _ _ ?_
    rw [if_neg (lt_162 n (by omega))]
    refine ⟨inB_nI (by omega) (by decide), inB_nI (by omega) (by decide), ?_⟩
    rw [nI_clamp (by omega), k1, cpA_up (by decide)]
    exact ih (n + 1) (by omega)
theorem c_163_111_113 {X : Scr} {d : Nat} (w : Wd) : CU X (d + 2) 163 [.ref 111, .ref 113] w (fun w1 => w1 = cpA w 111 113 162) := by
  refine CU.of rfl (t163_111_113_at0 w ?_)
  have := lp_163_111_113 (X := X) (d := d) (w := w) 162 0 rfl
  rw [cpA_0] at this
  exact this
theorem lp_163_113_111 {X : Scr} {d : Nat} {w : Wd} : ∀ (m n : Nat), n + m = 162 → EU X (d + 1) 163 (2, [some (.ref 113), some (.ref 111), some (.int (nI n))], [], SH, cpA w 113 111 n) (fun w1 => w1 = cpA w 113 111 162) := by
  intro m
  induction m with
  | zero =>
    intro n h
    have hn : n = 162 := by omega
    subst hn
    refine t163_113_111_at2 _ _ ?_
    rw [if_pos (by decide)]
  | succ m ih =>
    intro n h
    refine t163_113_111_at2 _ _ ?_
    rw [if_neg (lt_162 n (by omega))]
    refine ⟨inB_nI (by omega) (by decide), inB_nI (by omega) (by decide), ?_⟩
    rw [nI_clamp (by omega), k1, cpA_up (by decide)]
    exact ih (n + 1) (by omega)
theorem c_163_113_111 {X : Scr} {d : Nat} (w : Wd) : CU X (d + 2) 163 [.ref 113, .ref 111] w (fun w1 => w1 = cpA w 113 111 162) := by
  refine CU.of rfl (t163_113_111_at0 w ?_)
  have := lp_163_113_111 (X := X) (d := d) (w := w) 162 0 rfl
  rw [cpA_0] at this
  exact this
end TOOLS
