/-! middle, window -/
section ARCHIVE
/-- records in numbers: which, ages, kinds -/
def ARC (w : Wd) (R : Nat) (A K : Nat → Nat) : Prop := w 102 6 = nI R ∧ R < 2 ^ 20 ∧ ∀ r, r < 20 → w 104 r = nI (A r) ∧ A r ≤ 99 ∧ w 106 r = nI (K r) ∧ K r ≤ 9
def ARR (w : Wd) (R : Nat) (A K : Nat → Nat) : Prop := w 110 56 = nI R ∧ R < 2 ^ 20 ∧ ∀ r, r < 20 → w 141 r = nI (A r) ∧ A r ≤ 99 ∧ w 143 r = nI (K r) ∧ K r ≤ 9
theorem arc_of {w : Wd} (h : IR w) : ∃ R A K, ARC w R A K ∧ ARR w R A K := by
  obtain ⟨r1, ⟨R, hR, eR⟩, r3⟩ := h
  have kA : ∀ r, r < 20 → w 104 r = nI (w 104 r).toNatClampNeg ∧ (w 104 r).toNatClampNeg ≤ 99 := by
    intro r hr
    obtain ⟨n, hn, e⟩ := (r3 r hr).2.2.2.2.2.1
    rw [e, nI_clamp (by omega)]
    exact ⟨rfl, hn⟩
  have kK : ∀ r, r < 20 → w 106 r = nI (w 106 r).toNatClampNeg ∧ (w 106 r).toNatClampNeg ≤ 9 := by
    intro r hr
    obtain ⟨n, hn, e⟩ := (r3 r hr).2.2.2.2.2.2.2
    rw [e, nI_clamp (by omega)]
    exact ⟨rfl, hn⟩
  refine ⟨R, fun r => (w 104 r).toNatClampNeg, fun r => (w 106 r).toNatClampNeg, ⟨eR, by omega, fun r hr => ⟨(kA r hr).1, (kA r hr).2, (kK r hr).1, (kK r hr).2⟩⟩, ⟨by rw [r1]; exact eR, by omega, fun r hr => ?_⟩⟩
  rw [(r3 r hr).2.1, (r3 r hr).2.2.2.1]
  exact ⟨(kA r hr).1, (kA r hr).2, (kK r hr).1, (kK r hr).2⟩
def selF (R : Nat) (K : Nat → Nat) (kd r : Nat) : Bool := R.testBit r && K r == kd
/-- how many of the first n records of a kind are from lo to hi -/
def mbF (R : Nat) (A K : Nat → Nat) (kd lo hi : Nat) : Nat → Nat
  | 0 => 0
  | n + 1 => mbF R A K kd lo hi n + (selF R K kd n && decide (lo ≤ A n) && decide (A n ≤ hi)).toNat
theorem mbF_le {R : Nat} {A K : Nat → Nat} {kd lo hi : Nat} : ∀ n, mbF R A K kd lo hi n ≤ n
  | 0 => Nat.le_refl _
  | n + 1 => by
    have ih := mbF_le (R := R) (A := A) (K := K) (kd := kd) (lo := lo) (hi := hi) n
    have := Bool.toNat_le (selF R K kd n && decide (lo ≤ A n) && decide (A n ≤ hi))
    show mbF R A K kd lo hi n + _ ≤ n + 1
    omega
theorem mbF_step {R : Nat} {A K : Nat → Nat} {kd lo hi : Nat} (h : lo ≤ hi + 1) : ∀ n, mbF R A K kd lo (hi + 1) n = mbF R A K kd lo hi n + mbF R A K kd (hi + 1) (hi + 1) n
  | 0 => rfl
  | n + 1 => by
    have ih := mbF_step (R := R) (A := A) (K := K) (kd := kd) h n
    show mbF R A K kd lo (hi + 1) n + _ = mbF R A K kd lo hi n + _ + (mbF R A K kd (hi + 1) (hi + 1) n + _)
    rw [ih]
    cases selF R K kd n with
    | false => simp
    | true =>
      simp only [Bool.true_and]
      by_cases h1 : A n ≤ hi
      · rw [decide_eq_true h1, decide_eq_true (show A n ≤ hi + 1 by omega), decide_eq_false (show ¬ hi + 1 ≤ A n by omega)]
        simp only [Bool.and_true, Bool.false_and, Bool.toNat_false]
        omega
      · rw [decide_eq_false h1]
        by_cases h2 : A n ≤ hi + 1
        · rw [decide_eq_true h2, decide_eq_true (show hi + 1 ≤ A n by omega), decide_eq_true (show lo ≤ A n by omega)]
          simp only [Bool.and_true, Bool.and_false, Bool.toNat_false, Bool.toNat_true]
          omega
        · rw [decide_eq_false h2]
          simp only [Bool.and_false, Bool.toNat_false]
          omega
theorem mbF_0 {R : Nat} {A K : Nat → Nat} {kd lo : Nat} : mbF R A K kd lo lo 20 = mbF R A K kd lo lo 20 := rfl
/-- what countAges leaves -/
def CA (w u : Wd) (R : Nat) (A K : Nat → Nat) (kd n : Nat) : Prop := (∀ x, x < 100 → u 107 x = nI (mbF R A K kd x x n)) ∧ u 102 7 = nI (mbF R A K kd 0 99 n) ∧ (∀ a, a ≠ 107 → a ≠ 102 → u a = w a) ∧ ∀ j, j ≠ 7 → u 102 j = w 102 j
theorem l_2 {X : Scr} {d kd R : Nat} {w : Wd} {A K : Nat → Nat} (hR : ARC w R A K) (hk : kd ≤ 9) : ∀ (m n : Nat) (u : Wd), n + m = 20 → CA w u R A K kd n → EU X (d + 2) 2 (15, [some (.ref 102), some (.int (nI kd)), some (.int (nI n))], [], SH, u) (fun u2 => CA w u2 R A K kd 20) := by
  intro m
  obtain ⟨g1, g2, g3⟩ := hR
  induction m with
  | zero =>
    intro n u h hI
    have hn : n = 20 := by omega
    subst hn
    refine t2_102_at15 u _ _ ?_
    rw [if_pos (by decide)]
    exact hI
  | succ m ih =>
    intro n u h hI
    have hn : n < 20 := by omega
    obtain ⟨c1, c2, c3, c4⟩ := hI
    obtain ⟨a1, a2, a3, a4⟩ := g3 n hn
    have hib : inB (nI n) 20 = true := inB_nI hn (by decide)
    have eR : u 102 6 = nI R := by rw [c4 6 (by decide)]; exact g1
    have keep : selF R K kd n = false → CA w u R A K kd (n + 1) := by
      intro hs
      refine ⟨fun x hx => ?_, ?_, c3, c4⟩
      · rw [c1 x hx]
        show _ = nI (mbF R A K kd x x n + (selF R K kd n && _ && _).toNat)
        rw [hs]; rfl
      · rw [c2]
        show _ = nI (mbF R A K kd 0 99 n + (selF R K kd n && _ && _).toNat)
        rw [hs]; rfl
    refine t2_102_at15 u _ _ ?_
    rw [if_neg (lt_20 n hn), eR, k1, nI_clamp (by omega), c3 106 (by decide) (by decide), c3 104 (by decide) (by decide), a1, a3]
    by_cases hb : R.testBit n = true
    · rw [if_neg (by rw [isin_z u (by omega) (by omega)]; exact fun x => x hb)]
      refine ⟨hib, ?_⟩
      by_cases hkd : K n = kd
      · rw [if_pos (by rw [hkd])]
        refine ⟨hib, ?_⟩
        have hin : ¬ F_153 (nI (A n)) (kI 0) (kI 99) u = 0 := by
          have := within_nI (n := A n) (a := 0) (b := 99) (w := u) (by omega) (by decide) (by decide)
          rw [if_pos (by omega)] at this
          intro e
          rw [show F_153 (nI (A n)) (kI 0) (kI 99) u = 1 from this] at e
          exact absurd e (by decide)
        have hs : selF R K kd n = true := by unfold selF; rw [hb, hkd]; simp
        rw [if_neg hin, nI_clamp (by omega)]
        refine ⟨hib, ih (n + 1) _ (by omega) ⟨fun x hx => ?_, ?_, fun a h1 h2 => ?_, fun j hj => ?_⟩⟩
        · rw [up2_ne (by decide), up2_at, c1 x hx, c1 _ (by omega), k1]
          show _ = nI (mbF R A K kd x x n + (selF R K kd n && decide (x ≤ A n) && decide (A n ≤ x)).toNat)
          rw [hs]
          by_cases e : x = A n
          · subst e
            rw [if_pos rfl]
            simp
          · rw [if_neg e]
            by_cases h1 : x ≤ A n
            · rw [decide_eq_false (show ¬ A n ≤ x by omega)]; simp
            · rw [decide_eq_false h1]; simp
        · rw [up2_at, if_pos rfl, c2, k1]
          show _ = nI (mbF R A K kd 0 99 n + (selF R K kd n && decide (0 ≤ A n) && decide (A n ≤ 99)).toNat)
          rw [hs, decide_eq_true (Nat.zero_le _), decide_eq_true a2]
          rfl
        · rw [up2_ne h2, up2_ne h1]; exact c3 a h1 h2
        · rw [up2_at, if_neg hj, up2_ne (by decide)]; exact c4 j hj
      · rw [if_neg (by rw [nI_eq (by omega) (by omega)]; exact hkd)]
        exact ih (n + 1) u (by omega) (keep (by unfold selF; rw [hb]; simpa using hkd))
    · rw [if_pos (by rw [isin_z u (by omega) (by omega)]; exact hb)]
      exact ih (n + 1) u (by omega) (keep (by unfold selF; simp [hb]))
theorem c_2 {X : Scr} {d kd R : Nat} {w : Wd} {A K : Nat → Nat} (hR : ARC w R A K) (hk : kd ≤ 9) : CU X (d + 3) 2 [.ref 102, .int (nI kd)] w (fun u2 => CA w u2 R A K kd 20) := by
  refine CU.of rfl (t2_102_at0 w _ ?_)
  refine l_2 hR hk 20 0 _ rfl ⟨fun x hx => ?_, rfl, fun a h1 h2 => ?_, fun j hj => ?_⟩
  · show (if x < 100 then kI 0 else w 107 x) = _
    rw [if_pos hx]; rfl
  · rw [up2_ne h2]; exact if_neg h1
  · rw [up2_at, if_neg hj]; rfl
theorem l_241 {X : Scr} {d kd lo hi R : Nat} {w : Wd} {A K : Nat → Nat} (hR : ARR w R A K) (hk : kd ≤ 9) (hlo : lo ≤ 100) (hhi : hi ≤ 200) : ∀ (m n : Nat), n + m = 20 → EI X (d + 1) 241 (6, [some (.ref 110), some (.int (nI kd)), some (.int (nI lo)), some (.int (nI hi)), some (.int (nI (mbF R A K kd lo hi n))), some (.int (nI n))], [], SH, w) (fun x u2 => x = nI (mbF R A K kd lo hi 20) ∧ u2 = w) := by
  intro m
  obtain ⟨g1, g2, g3⟩ := hR
  induction m with
  | zero =>
    intro n h
    have hn : n = 20 := by omega
    subst hn
    refine t241_110_at6 w _ _ _ _ _ ?_
    rw [if_pos (by decide)]
    exact ⟨rfl, rfl⟩
  | succ m ih =>
    intro n h
    have hn : n < 20 := by omega
    obtain ⟨a1, a2, a3, a4⟩ := g3 n hn
    have hib : inB (nI n) 20 = true := inB_nI hn (by decide)
    have ihn := ih (n + 1) (by omega)
    have e : mbF R A K kd lo hi (n + 1) = mbF R A K kd lo hi n + (selF R K kd n && decide (lo ≤ A n) && decide (A n ≤ hi)).toNat := rfl
    refine t241_110_at6 w _ _ _ _ _ ?_
    rw [if_neg (lt_20 n hn), g1, k1, k1, nI_clamp (by omega), a1, a3]
    by_cases hb : R.testBit n = true
    · rw [if_neg (by rw [has_z w (by omega) (by omega)]; exact fun x => x hb)]
      refine ⟨hib, ?_⟩
      by_cases hkd : K n = kd
      · rw [if_pos (by rw [hkd])]
        refine ⟨hib, ?_⟩
        have hs : selF R K kd n = true := by unfold selF; rw [hb, hkd]; simp
        have ef : F_157 (nI (A n)) (nI lo) (nI hi) w = if lo ≤ A n ∧ A n ≤ hi then 1 else 0 := within_nI (w := w) (by omega) (by omega) (by omega)
        rw [hs, Bool.true_and] at e
        rw [ef]
        by_cases hc : lo ≤ A n ∧ A n ≤ hi
        · rw [if_pos hc, if_neg (by decide)]
          rw [decide_eq_true hc.1, decide_eq_true hc.2] at e
          rw [e] at ihn
          exact ihn
        · rw [if_neg hc, if_pos rfl]
          have : (decide (lo ≤ A n) && decide (A n ≤ hi)) = false := by
            simp only [Bool.and_eq_false_iff, decide_eq_false_iff_not]
            omega
          rw [this] at e
          rw [e] at ihn
          exact ihn
      · rw [if_neg (by rw [nI_eq (by omega) (by omega)]; exact hkd)]
        have hs : selF R K kd n = false := by unfold selF; rw [hb]; simpa using hkd
        rw [hs] at e
        simp only [Bool.false_and, Bool.toNat_false, Nat.add_zero] at e
        rw [e] at ihn
        exact ihn
    · rw [if_pos (by rw [has_z w (by omega) (by omega)]; exact hb)]
      have hs : selF R K kd n = false := by unfold selF; simp [hb]
      rw [hs] at e
      simp only [Bool.false_and, Bool.toNat_false, Nat.add_zero] at e
      rw [e] at ihn
      exact ihn
theorem c_241 {X : Scr} {d kd lo hi R : Nat} {w : Wd} {A K : Nat → Nat} (hR : ARR w R A K) (hk : kd ≤ 9) (hlo : lo ≤ 100) (hhi : hi ≤ 200) : CI X (d + 2) 241 [.ref 110, .int (nI kd), .int (nI lo), .int (nI hi)] w (fun x u2 => x = nI (mbF R A K kd lo hi 20) ∧ u2 = w) :=
  CI.of rfl (t241_110_at0 w _ _ _ (l_241 hR hk hlo hhi 20 0 rfl))
/-! middle -/
/-- the first from k on (m of them) at which f holds -/
def fstF (f : Nat → Bool) : Nat → Nat → Nat
  | 0, k => k
  | m + 1, k => if f k then k else fstF f m (k + 1)
def mdF (R : Nat) (A K : Nat → Nat) (kd : Nat) (x : Nat) : Bool := decide (mbF R A K kd 0 99 20 ≤ 2 * mbF R A K kd 0 x 20)
theorem l_3 {X : Scr} {d kd R : Nat} {w u : Wd} {A K : Nat → Nat} (hC : CA w u R A K kd 20) : ∀ (m k : Nat), k + m = 100 → (∀ i, i < k → mdF R A K kd i = false ∨ mbF R A K kd 0 99 20 = 0) → EI X (d + 1) 3 (4, [some (.ref 102), some (.int (nI (if k = 0 then 0 else mbF R A K kd 0 (k - 1) 20))), some (.int (nI k))], [], SH, u) (fun x u2 => x = (if mbF R A K kd 0 99 20 = 0 then kI (-2) else nI (fstF (mdF R A K kd) m k)) ∧ u2 = u) := by
  intro m
  obtain ⟨c1, c2, c3, c4⟩ := hC
  have many_le := mbF_le (R := R) (A := A) (K := K) (kd := kd) (lo := 0) (hi := 99) 20
  induction m with
  | zero =>
    intro k h hp
    have hk : k = 100 := by omega
    subst hk
    refine t3_102_at4 u _ _ ?_
    rw [if_pos (by decide)]
    refine ⟨?_, rfl⟩
    have h99 := hp 99 (by omega)
    rcases h99 with h9 | h9
    · unfold mdF at h9
      simp only [decide_eq_false_iff_not] at h9
      omega
    · rw [if_pos h9]
  | succ m ih =>
    intro k h hp
    have hk : k < 100 := by omega
    have s1 := mbF_le (R := R) (A := A) (K := K) (kd := kd) (lo := 0) (hi := k) 20
    have es : (if k = 0 then 0 else mbF R A K kd 0 (k - 1) 20) + mbF R A K kd k k 20 = mbF R A K kd 0 k 20 := by
      by_cases h0 : k = 0
      · subst h0; rw [if_pos rfl, Nat.zero_add]
      · rw [if_neg h0]
        have := mbF_step (R := R) (A := A) (K := K) (kd := kd) (lo := 0) (hi := k - 1) (by omega) 20
        rw [show k - 1 + 1 = k by omega] at this
        exact this.symm
    refine t3_102_at4 u _ _ ?_
    rw [if_neg (lt_100 k hk), nI_clamp (by omega), c1 k hk, nI_add, es, c2, k1, show kI 2 * nI (mbF R A K kd 0 k 20) = nI (2 * mbF R A K kd 0 k 20) from pk_mul 2 _]
    refine ⟨inB_nI hk (by decide), ?_⟩
    have nx : (mdF R A K kd k = false ∨ mbF R A K kd 0 99 20 = 0) → EI X (d + 1) 3 (4, [some (.ref 102), some (.int (nI (mbF R A K kd 0 k 20))), some (.int (nI (k + 1)))], [], SH, u) (fun x u2 => x = (if mbF R A K kd 0 99 20 = 0 then kI (-2) else nI (fstF (mdF R A K kd) (m + 1) k)) ∧ u2 = u) := by
      intro hc
      have z := ih (k + 1) (by omega) (fun i hi => by
        by_cases e : i = k
        · subst e; exact hc
        · exact hp i (by omega))
      rw [if_neg (by omega), show k + 1 - 1 = k by omega] at z
      refine EI.mono z ?_
      intro x u2 hx
      refine ⟨?_, hx.2⟩
      rw [hx.1]
      rcases hc with hc | hc
      · by_cases h0 : mbF R A K kd 0 99 20 = 0
        · rw [if_pos h0, if_pos h0]
        · rw [if_neg h0, if_neg h0]
          show _ = nI (if mdF R A K kd k then k else fstF (mdF R A K kd) m (k + 1))
          rw [hc]; rfl
      · rw [if_pos hc, if_pos hc]
    by_cases h0 : mbF R A K kd 0 k 20 = 0
    · rw [if_pos (by rw [h0]; decide)]
      refine nx ?_
      by_cases hz : mbF R A K kd 0 99 20 = 0
      · exact Or.inr hz
      · left
        unfold mdF
        simp only [decide_eq_false_iff_not]
        omega
    · rw [if_neg (nI_nle (by omega) (by omega))]
      by_cases hc : mdF R A K kd k = true
      · have hc2 : mbF R A K kd 0 99 20 ≤ 2 * mbF R A K kd 0 k 20 := of_decide_eq_true hc
        rw [if_neg (nI_nlt hc2 (by omega))]
        refine ⟨?_, rfl⟩
        by_cases hz : mbF R A K kd 0 99 20 = 0
        · exfalso
          have : mbF R A K kd 0 k 20 ≤ mbF R A K kd 0 99 20 := by
            clear nx hc hc2 es h0 s1 hp ih
            have mono : ∀ j i, mbF R A K kd 0 i 20 ≤ mbF R A K kd 0 (i + j) 20 := by
              intro j
              induction j with
              | zero => intro i; exact Nat.le_refl _
              | succ j ihj =>
                intro i
                have := mbF_step (R := R) (A := A) (K := K) (kd := kd) (lo := 0) (hi := i + j) (by omega) 20
                have h2 := ihj i
                rw [show i + (j + 1) = i + j + 1 by omega, this]
                omega
            have := mono (99 - k) k
            rw [show k + (99 - k) = 99 by omega] at this
            exact this
          omega
        · rw [if_neg hz]
          show nI k = nI (if mdF R A K kd k then k else fstF (mdF R A K kd) m (k + 1))
          rw [hc]; rfl
      · have hcf : mdF R A K kd k = false := by simpa using hc
        have hc2 : ¬ mbF R A K kd 0 99 20 ≤ 2 * mbF R A K kd 0 k 20 := by
          unfold mdF at hcf
          simpa using hcf
        rw [if_pos (nI_lt (by omega) (by omega))]
        exact nx (Or.inl hcf)
theorem l_243 {X : Scr} {d kd R : Nat} {w : Wd} {A K : Nat → Nat} {v2 : Int32} (hR : ARR w R A K) (hk : kd ≤ 9) (hz : mbF R A K kd 0 99 20 ≠ 0) : ∀ (m k : Nat), k + m = 100 → (∀ i, i < k → mdF R A K kd i = false) → EI X (d + 2) 243 (40, [some (.ref 110), some (.int (nI kd)), some (.int v2), some (.int (nI (mbF R A K kd 0 99 20))), some (.int (nI k))], [], SH, w) (fun x u2 => x = nI (fstF (mdF R A K kd) m k) ∧ u2 = w) := by
  intro m
  have many_le := mbF_le (R := R) (A := A) (K := K) (kd := kd) (lo := 0) (hi := 99) 20
  induction m with
  | zero =>
    intro k h hp
    have h99 := hp 99 (by omega)
    unfold mdF at h99
    simp only [decide_eq_false_iff_not] at h99
    omega
  | succ m ih =>
    intro k h hp
    refine t243_110_at40 (d := d + 1) w _ _ _ _ ?_
    rw [if_neg (nI_nle (by omega) (by omega)), k1]
    refine CI.mono (c_241 (d := d) hR hk (lo := 0) (hi := k) (by omega) (by omega)) ?_
    intro x u2 hx
    obtain ⟨rfl, rfl⟩ := hx
    have s1 := mbF_le (R := R) (A := A) (K := K) (kd := kd) (lo := 0) (hi := k) 20
    rw [show kI 2 * nI (mbF R A K kd 0 k 20) = nI (2 * mbF R A K kd 0 k 20) from pk_mul 2 _]
    by_cases hc : mdF R A K kd k = true
    · have hc2 : mbF R A K kd 0 99 20 ≤ 2 * mbF R A K kd 0 k 20 := of_decide_eq_true hc
      rw [if_pos (nI_le hc2 (by omega)), if_neg (nI_ne0 (by omega) (by omega))]
      refine ⟨?_, rfl⟩
      show nI k = nI (if mdF R A K kd k then k else fstF (mdF R A K kd) m (k + 1))
      rw [hc]; rfl
    · have hcf : mdF R A K kd k = false := by simpa using hc
      have hc2 : ¬ mbF R A K kd 0 99 20 ≤ 2 * mbF R A K kd 0 k 20 := by
        unfold mdF at hcf
        simpa using hcf
      rw [if_neg (nI_ge (by omega) (by omega))]
      have z := ih (k + 1) (by omega) (fun i hi => by
        by_cases e : i = k
        · subst e; exact hcf
        · exact hp i (by omega))
      refine EI.mono z ?_
      intro x u3 hx
      refine ⟨?_, hx.2⟩
      rw [hx.1]
      show _ = nI (if mdF R A K kd k then k else fstF (mdF R A K kd) m (k + 1))
      rw [hcf]; rfl
theorem J_middle {X : Scr} {w : Wd} (h : II w) (p q : Int32) : JJ X 140 243 [.int p, .int q] w := by
  obtain ⟨R, A, K, hC, hR⟩ := arc_of h.2.2.2.2.2.2
  unfold JJ
  refine CI.of (d := 59) rfl (t140_0_at0 (d := 58) w p q ?_)
  have t : ∀ (u : Wd) (Q : Int32 → Wd → Prop), _ → CI X 60 243 [.ref 110, .int p, .int q] u Q := fun u Q H => CI.of (d := 59) rfl (t243_110_at0 (d := 58) u p q H)
  by_cases h1 : F_153 p (kI 0) (kI 9) w = 0
  · rw [if_pos h1]
    refine t w _ ?_
    rw [if_pos (show F_157 p (kI 0) (kI 9) w = 0 from h1)]
    exact ⟨rfl, h⟩
  rw [if_neg h1]
  by_cases h2 : F_153 q (kI 0) (kI 1) w = 0
  · rw [if_pos h2]
    refine t w _ ?_
    rw [if_neg (show ¬ F_157 p (kI 0) (kI 9) w = 0 from h1), if_pos (show F_157 q (kI 0) (kI 1) w = 0 from h2)]
    exact ⟨rfl, h⟩
  rw [if_neg h2]
  obtain ⟨kd, -, hk, rfl⟩ := within_z (a := 0) (b := 9) (by decide) (by decide) h1
  obtain ⟨v, -, hv, rfl⟩ := within_z (a := 0) (b := 1) (by decide) (by decide) h2
  have many_le := mbF_le (R := R) (A := A) (K := K) (kd := kd) (lo := 0) (hi := 99) 20
  refine CU.mono (c_2 (d := 56) hC hk) ?_
  intro ua ha
  have fr : ∀ a, a ≠ 107 → a ≠ 102 → ua a = w a := ha.2.2.1
  have hRa : ARR ua R A K := by
    unfold ARR
    rw [fr 110 (by decide) (by decide), fr 141 (by decide) (by decide), fr 143 (by decide) (by decide)]
    exact hR
  have hII : II ua := by
    refine h.ss ⟨fun a ha2 => fr a (fun e => by rw [e] at ha2; cases ha2) (fun e => by rw [e] at ha2; cases ha2), ?_, ?_, ?_, ha.2.2.2 6 (by decide), ?_, ?_, ?_, ?_, ?_, ?_, ?_, ?_⟩
    all_goals first | rw [fr 0 (by decide) (by decide)] | rw [fr 1 (by decide) (by decide)] | rw [fr 110 (by decide) (by decide)]
  have fin : ∀ z : Int32, z = (if nI v = kI 1 then nI (mbF R A K kd 0 99 20) else if mbF R A K kd 0 99 20 = 0 then kI (-2) else nI (fstF (mdF R A K kd) 100 0)) → CI X 60 243 [.ref 110, .int (nI kd), .int (nI v)] ua (fun y u2 => y = z ∧ II u2) := by
    intro z hz
    refine t ua _ ?_
    rw [if_neg (show ¬ F_157 (nI kd) (kI 0) (kI 9) ua = 0 from h1), if_neg (show ¬ F_157 (nI v) (kI 0) (kI 1) ua = 0 from h2)]
    refine CI.mono (c_241 (d := 57) hRa hk (lo := 0) (hi := 99) (by decide) (by decide)) ?_
    intro x u2 hx
    obtain ⟨rfl, rfl⟩ := hx
    by_cases hv1 : nI v = kI 1
    · rw [if_pos hv1]
      rw [if_pos hv1] at hz
      exact ⟨hz.symm, hII⟩
    · rw [if_neg hv1]
      rw [if_neg hv1] at hz
      by_cases h0 : mbF R A K kd 0 99 20 = 0
      · rw [if_pos h0] at hz
        refine t243_110_at40 (d := 58) _ _ _ _ _ ?_
        rw [h0, if_pos (by decide), if_pos (show nI 0 = 0 from rfl)]
        exact ⟨hz.symm, hII⟩
      · rw [if_neg h0] at hz
        refine EI.mono (l_243 (d := 57) hRa hk h0 100 0 rfl (fun i hi => by omega)) ?_
        intro y u3 hy
        obtain ⟨rfl, rfl⟩ := hy
        exact ⟨hz.symm, hII⟩
  by_cases hv0 : nI v = 0
  · rw [if_pos hv0]
    have hv1 : ¬ nI v = kI 1 := by rw [hv0]; decide
    refine CI.of (d := 58) rfl (t3_102_at0 (d := 57) ua ?_)
    refine EI.mono (l_3 (d := 57) ha 100 0 rfl (fun i hi => by omega)) ?_
    intro x u2 hx
    obtain ⟨rfl, rfl⟩ := hx
    exact fin _ (by rw [if_neg hv1])
  · rw [if_neg hv0, ha.2.1]
    have hv1 : nI v = kI 1 := by
      have : v = 1 := by
        have : v ≠ 0 := fun e => hv0 (by rw [e]; rfl)
        omega
      rw [this]; rfl
    exact fin _ (by rw [if_pos hv1])
end ARCHIVE
