/-! canComeOut -/
section CANCOME
theorem ndF_nn {fc : Nat → Bool} {AK : (Nat → Int32) → Int32} {T Pp : Nat → Int32} {f : Nat} (hA : ∀ V, nn (AK V) 99) : ∀ (m k : Nat) (n : Nat → Int32), ndF fc AK T Pp f m n (nI k) = kI (-2) ∨ nn (ndF fc AK T Pp f m n (nI k)) (k + 99 * m) := by
  intro m
  induction m with
  | zero => intro k n; exact Or.inr ⟨k, by omega, rfl⟩
  | succ m ih =>
    intro k n
    have hval := chF_val (fc := fc) (K := fun c => AK (Vof n T Pp c f (kI 11))) (m := 99) (fun c => hA _) 6 0 (none, 0) (fun hb => absurd rfl hb)
    unfold ndF
    generalize chF fc (fun c => AK (Vof n T Pp c f (kI 11))) 6 0 (none, 0) = R at hval ⊢
    obtain ⟨o, v⟩ := R
    cases o with
    | none => exact Or.inl rfl
    | some c =>
      obtain ⟨j, hj, ej⟩ := hval (by intro e; cases e)
      have ej2 : v = nI j := ej
      dsimp only
      rw [ej2, nI_add]
      rcases ih (k + j) (upd n (6 * c + f) (mn9 (n (6 * c + f) + kI 1))) with e | e
      · exact Or.inl e
      · exact Or.inr (nn_le e (by omega))
theorem nedF_nn {fc : Nat → Bool} {AK : (Nat → Int32) → Int32} {T Pp : Nat → Int32} {f t S : Nat} {n : Nat → Int32} (hA : ∀ V, nn (AK V) 99) : nedF fc AK T Pp f n t S = kI (-2) ∨ nn (nedF fc AK T Pp f n t S) 19800 := by
  unfold nedF
  by_cases h : S ≤ t ∧ t - S ≤ 200
  · rw [if_pos h]
    rcases ndF_nn (fc := fc) (T := T) (Pp := Pp) (f := f) hA (t - S) 0 n with e | e
    · exact Or.inl e
    · exact Or.inr (nn_le e (by omega))
  · rw [if_neg h]; exact Or.inl rfl
def enN (o : Option Nat) : Int32 := match o with
  | none => kI (-2)
  | some v => nI v
theorem enN_ne (v : Nat) (h : v < 2 ^ 31) : ¬ nI v = kI (-2) := by
  intro e
  have : (nI v).toInt = (kI (-2)).toInt := by rw [e]
  rw [nI_toInt h, kI_toInt (by omega) (by omega)] at this
  omega
theorem enN_of {x : Int32} {m : Nat} (h : x = kI (-2) ∨ nn x m) : ∃ o : Option Nat, x = enN o ∧ ∀ v, o = some v → v ≤ m := by
  rcases h with e | ⟨v, hv, e⟩
  · exact ⟨none, e, fun v h => by cases h⟩
  · exact ⟨some v, e, fun v2 h => by cases h; exact hv⟩
def bcN (n : Nat) : Nat := n % 2 + n / 2 % 2 + n / 4 % 2 + n / 8 % 2 + n / 16 % 2 + n / 32 % 2
theorem bcN_le (n : Nat) : bcN n ≤ 6 := by unfold bcN; omega
theorem bc259 (w : Wd) (n : Nat) (h : n < 64) : F_259 (nI n) w = nI (bcN n) := (by decide +kernel : ∀ n, n < 64 → F_259 (nI n) (fun _ _ => 0) = nI (bcN n)) n h
theorem bc162 (w : Wd) (n : Nat) (h : n < 64) : F_162 (nI n) w = nI (bcN n) := (by decide +kernel : ∀ n, n < 64 → F_162 (nI n) (fun _ _ => 0) = nI (bcN n)) n h
theorem sub_gt {a b : Nat} (ha : a < 2 ^ 30) (hb : b < 2 ^ 30) : 0 < nI a - nI b ↔ b < a := by
  rw [Int32.lt_iff_toInt_lt, pk_sub_toInt ha hb]
  have : (0 : Int32).toInt = 0 := rfl
  omega
theorem sub_z {a b : Nat} (ha : a < 2 ^ 30) (hb : b < 2 ^ 30) : nI a - nI b = 0 ↔ a = b := by
  constructor
  · intro e
    have : (nI a - nI b).toInt = (0 : Int32).toInt := by rw [e]
    rw [pk_sub_toInt ha hb] at this
    have h0 : (0 : Int32).toInt = 0 := rfl
    omega
  · intro e
    subst e
    exact Int32.sub_self _
/-- the days of a set of figures -/
def dA (N : Nat → Option Nat) (S : Nat) : Nat → Nat → Nat → Option Nat
  | 0, _, a => some a
  | m + 1, f, a => if S.testBit f then (match N f with
    | none => none
    | some v => dA N S m (f + 1) (a + v)) else dA N S m (f + 1) a
def NB (N : Nat → Option Nat) : Prop := ∀ f v, f < 6 → N f = some v → v ≤ 19800
theorem dA_le {N : Nat → Option Nat} {S : Nat} (hN : NB N) : ∀ (m f a x : Nat), f + m = 6 → dA N S m f a = some x → x ≤ a + 19800 * m := by
  intro m
  induction m with
  | zero => intro f a x _ h; cases h; omega
  | succ m ih =>
    intro f a x hf h
    unfold dA at h
    by_cases hb : S.testBit f = true
    · rw [if_pos hb] at h
      cases e : N f with
      | none => rw [e] at h; cases h
      | some v =>
        rw [e] at h
        have := ih _ _ _ (by omega) h
        have := hN f v (by omega) e
        omega
    · rw [if_neg hb] at h
      have := ih _ _ _ (by omega) h
      omega
theorem dA_none {N : Nat → Option Nat} {S : Nat} : ∀ (m f a : Nat), dA N S m f a = none ↔ ∃ g, f ≤ g ∧ g < f + m ∧ S.testBit g = true ∧ N g = none := by
  intro m
  induction m with
  | zero => intro f a; exact ⟨fun h => (by cases h), fun ⟨g, h1, h2, _⟩ => (by omega)⟩
  | succ m ih =>
    intro f a
    unfold dA
    by_cases hb : S.testBit f = true
    · rw [if_pos hb]
      cases e : N f with
      | none => exact ⟨fun _ => ⟨f, Nat.le_refl _, by omega, hb, e⟩, fun _ => rfl⟩
      | some v =>
        dsimp only
        rw [ih]
        constructor
        · rintro ⟨g, h1, h2, h3, h4⟩; exact ⟨g, by omega, by omega, h3, h4⟩
        · rintro ⟨g, h1, h2, h3, h4⟩
          have : g ≠ f := fun e2 => by rw [e2, e] at h4; cases h4
          exact ⟨g, by omega, by omega, h3, h4⟩
    · rw [if_neg hb, ih]
      constructor
      · rintro ⟨g, h1, h2, h3, h4⟩; exact ⟨g, by omega, by omega, h3, h4⟩
      · rintro ⟨g, h1, h2, h3, h4⟩
        have : g ≠ f := fun e2 => by rw [e2] at h3; exact hb h3
        exact ⟨g, by omega, by omega, h3, h4⟩
/-- one set more -/
def plS (N : Nat → Option Nat) (D S : Nat) (p : Nat × Nat) : Nat × Nat := match dA N S 6 0 0 with
  | none => p
  | some x => if D < x then p else if bcN p.1 < bcN S then (S, x) else if bcN S = bcN p.1 then (if p.2 ≤ x then p else (S, x)) else p
def plF (N : Nat → Option Nat) (D : Nat) : Nat → Nat → Nat × Nat → Nat × Nat
  | 0, _, p => p
  | m + 1, S, p => plF N D m (S + 1) (plS N D S p)
theorem plS_le {N : Nat → Option Nat} {D S : Nat} {p : Nat × Nat} (hN : NB N) (hS : S < 64) (hp : p.1 < 64 ∧ p.2 ≤ 118800) : (plS N D S p).1 < 64 ∧ (plS N D S p).2 ≤ 118800 := by
  unfold plS
  cases e : dA N S 6 0 0 with
  | none => exact hp
  | some x =>
    have hx := dA_le hN 6 0 0 x rfl e
    dsimp only
    split
    · exact hp
    · split
      · exact ⟨hS, by dsimp only; omega⟩
      · split
        · split
          · exact hp
          · exact ⟨hS, by dsimp only; omega⟩
        · exact hp
theorem l_26 {X : Scr} {d S : Nat} {w : Wd} {N : Nat → Option Nat} (hS : S < 64) (hN : NB N) (h88 : ∀ g, g < 6 → w 88 g = enN (N g)) : ∀ (m f a : Nat), f + m = 6 → a ≤ 19800 * f → EI X (d + 1) 26 (4, [some (.ref 87), some (.int (nI S)), some (.int (nI a)), some (.int (nI f))], [], SH, w) (fun x u => x = enN (dA N S m f a) ∧ u = w) := by
  intro m
  induction m with
  | zero =>
    intro f a hf ha
    have e : f = 6 := by omega
    subst e
    refine t26_87_at4 w _ _ _ ?_
    rw [if_pos (by decide)]
    exact ⟨rfl, rfl⟩
  | succ m ih =>
    intro f a hf ha
    refine t26_87_at4 w _ _ _ ?_
    unfold dA
    rw [if_neg (lt_6 f (by omega)), k1, nI_clamp (by omega), h88 f (by omega)]
    by_cases hb : S.testBit f = true
    · rw [if_neg (by rw [isin_z w (by omega) (by omega)]; exact fun x => x hb), if_pos hb]
      refine ⟨inB_nI (by omega) (by decide), ?_⟩
      cases e : N f with
      | none =>
        rw [if_pos (show enN none = kI (-2) from rfl)]
        exact ⟨rfl, rfl⟩
      | some v =>
        have hv := hN f v (by omega) e
        rw [if_neg (show ¬ enN (some v) = kI (-2) from enN_ne v (by omega))]
        refine ⟨inB_nI (by omega) (by decide), ?_⟩
        rw [show nI a + enN (some v) = nI (a + v) from nI_add a v]
        exact ih (f + 1) (a + v) (by omega) (by omega)
    · rw [if_pos (by rw [isin_z w (by omega) (by omega)]; exact hb), if_neg hb]
      exact ih (f + 1) a (by omega) (by omega)
def PL (w u : Wd) (p : Nat × Nat) : Prop := u 87 7 = nI p.1 ∧ u 87 8 = nI p.2 ∧ (∀ a, a ≠ 87 → u a = w a) ∧ ∀ j, j ≠ 7 → j ≠ 8 → u 87 j = w 87 j
theorem PL.put {w u : Wd} {p : Nat × Nat} {S x : Nat} (h : PL w u p) : PL w (up2 (up2 u 87 7 (nI S)) 87 8 (nI x)) (S, x) := by
  refine ⟨?_, ?_, fun a ha => ?_, fun j h7 h8 => ?_⟩
  · rw [up2_at, if_neg (by decide), up2_at, if_pos rfl]
  · rw [up2_at, if_pos rfl]
  · rw [up2_ne ha, up2_ne ha]; exact h.2.2.1 a ha
  · rw [up2_at, if_neg h8, up2_at, if_neg h7]; exact h.2.2.2 j h7 h8
theorem l_25 {X : Scr} {d D : Nat} {w : Wd} {N : Nat → Option Nat} (hN : NB N) (hD : D ≤ 9999) (h88 : ∀ g, g < 6 → w 88 g = enN (N g)) : ∀ (m S : Nat) (u : Wd) (p : Nat × Nat), S + m = 64 → p.1 < 64 → p.2 ≤ 118800 → PL w u p → EU X (d + 2) 25 (12, [some (.ref 87), some (.int (nI D)), some (.int (nI S)), none, none], [], SH, u) (fun u2 => PL w u2 (plF N D m S p) ∧ (plF N D m S p).1 < 64 ∧ (plF N D m S p).2 ≤ 118800) := by
  intro m
  induction m with
  | zero =>
    intro S u p hS hp1 hp2 hP
    have e : S = 64 := by omega
    subst e
    refine t25_87_at12 (d := d + 1) u _ _ ?_
    rw [if_pos (by decide)]
    exact ⟨hP, hp1, hp2⟩
  | succ m ih =>
    intro S u p hS hp1 hp2 hP
    have hS2 : S < 64 := by omega
    have bS := bcN_le S
    have bp := bcN_le p.1
    refine t25_87_at12 (d := d + 1) u _ _ ?_
    rw [if_neg (lt_64 S hS2), k1]
    unfold plF
    have hle := plS_le (D := D) hN hS2 ⟨hp1, hp2⟩
    refine CI.mono (CI.of (d := d + 1) rfl (t26_87_at0 (d := d) u _ (l_26 (d := d) (w := u) hS2 hN (fun g hg => by rw [hP.2.2.1 88 (by decide)]; exact h88 g hg) 6 0 0 rfl (by omega)))) ?_
    intro x u1 hx
    obtain ⟨hx, hu⟩ := hx
    have hu2 := hu.symm
    subst hu2
    rw [hx]
    unfold plS at hle ⊢
    cases e : dA N S 6 0 0 with
    | none =>
      rw [if_pos (show enN none = kI (-2) from rfl)]
      exact ih (S + 1) u p (by omega) hp1 hp2 hP
    | some y =>
      rw [e] at hle
      dsimp only at hle ⊢
      have hy := dA_le hN 6 0 0 y rfl e
      rw [if_neg (show ¬ enN (some y) = kI (-2) from enN_ne y (by omega)), show enN (some y) = nI y from rfl, bc259 u S hS2, hP.1, bc259 u _ hp1, hP.2.1]
      by_cases hd : D < y
      · rw [if_pos (nI_lt hd (by omega)), if_pos hd]
        exact ih (S + 1) u p (by omega) hp1 hp2 hP
      · rw [if_neg (nI_nlt (by omega) (by omega)), if_neg hd]
        rw [if_neg hd] at hle
        by_cases hb : bcN p.1 < bcN S
        · rw [if_pos ((sub_gt (by omega) (by omega)).mpr hb), if_pos hb]
          exact ih (S + 1) _ (S, y) (by omega) hS2 (by dsimp only; omega) hP.put
        · rw [if_neg (fun e2 => hb ((sub_gt (by omega) (by omega)).mp e2)), if_neg hb]
          by_cases hq : bcN S = bcN p.1
          · rw [if_pos ((sub_z (by omega) (by omega)).mpr hq), if_pos hq]
            by_cases hz : p.2 ≤ y
            · rw [if_pos (nI_le hz (by omega)), if_pos hz]
              exact ih (S + 1) u p (by omega) hp1 hp2 hP
            · rw [if_neg (nI_ge (by omega) (by omega)), if_neg hz]
              exact ih (S + 1) _ (S, y) (by omega) hS2 (by dsimp only; omega) hP.put
          · rw [if_neg (fun e2 => hq ((sub_z (by omega) (by omega)).mp e2)), if_neg hq]
            exact ih (S + 1) u p (by omega) hp1 hp2 hP
/-- the reference's sums -/
theorem l_234c {X : Scr} {d S : Nat} {v1 v2 v3 v4 : Int32} {w : Wd} {N : Nat → Option Nat} {Q : Int32 → Wd → Prop} {x : Nat} (hS : S < 64) (h139 : ∀ g, g < 6 → w 139 g = enN (N g)) (kk : EI X (d + 2) 234 (99, [some (.ref 110), some (.int v1), some (.int v2), some (.int v3), some (.int v4), some (.int (nI S)), some (.int (nI x)), some (.int (nI 6))], [], SH, w) Q) : ∀ (m f a : Nat), f + m = 6 → dA N S m f a = some x → EI X (d + 2) 234 (99, [some (.ref 110), some (.int v1), some (.int v2), some (.int v3), some (.int v4), some (.int (nI S)), some (.int (nI a)), some (.int (nI f))], [], SH, w) Q := by
  intro m
  induction m with
  | zero =>
    intro f a hf hd
    have e : f = 6 := by omega
    subst e
    cases hd
    exact kk
  | succ m ih =>
    intro f a hf hd
    unfold dA at hd
    refine t234_110_at99 w _ _ _ _ _ _ _ ?_
    rw [if_neg (lt_6 f (by omega)), k1, nI_clamp (by omega), h139 f (by omega)]
    by_cases hb : S.testBit f = true
    · rw [if_neg (by rw [has_z w (by omega) (by omega)]; exact fun x => x hb)]
      rw [if_pos hb] at hd
      refine ⟨inB_nI (by omega) (by decide), ?_⟩
      cases e : N f with
      | none => rw [e] at hd; cases hd
      | some v =>
        rw [e] at hd
        rw [show nI a + enN (some v) = nI (a + v) from nI_add a v]
        exact ih (f + 1) (a + v) (by omega) hd
    · rw [if_pos (by rw [has_z w (by omega) (by omega)]; exact hb), add0]
      rw [if_neg hb] at hd
      exact ih (f + 1) a (by omega) hd
theorem sub_iff {S C : Nat} (hS : S < 64) : nI S &&& (nI C ^^^ kI (-1)) = 0 ↔ ∀ g, g < 6 → S.testBit g = true → C.testBit g = true := by
  rw [andn_nI S C (by omega)]
  have hb : S &&& (C ^^^ 4294967295) < 64 := Nat.lt_of_le_of_lt Nat.and_le_left hS
  rw [nI_z (by omega)]
  constructor
  · intro e g hg h1
    have h2 := tb_andn (a := S) (b := C) (i := g) (by omega)
    rw [e, h1] at h2
    simp at h2
    exact h2
  · intro h
    apply Nat.eq_of_testBit_eq
    intro i
    rw [tb_andn (by omega)]
    simp only [Nat.zero_testBit]
    by_cases hi : i < 6
    · cases e : S.testBit i with
      | false => rfl
      | true => rw [h i hi e]; rfl
    · rw [Nat.testBit_lt_two_pow (Nat.lt_of_lt_of_le hS (show 64 ≤ 2 ^ i from Nat.pow_le_pow_right (n := 2) (i := 6) (by decide) (by omega)))]
      rfl
theorem l_234b {X : Scr} {d D C : Nat} {v1 : Int32} {w : Wd} {N : Nat → Option Nat} {Q : Int32 → Wd → Prop} (hN : NB N) (hD : D ≤ 9999) (h139 : ∀ g, g < 6 → w 139 g = enN (N g)) (hC : ∀ g, g < 6 → (C.testBit g = true ↔ N g ≠ none)) (hl : w 111 159 = nI D) : ∀ (m S : Nat) (p : Nat × Nat), S + m = 64 → p.1 < 64 → p.2 ≤ 118800 → ((plF N D m S p).1 < 64 → (if v1 = 0 then Q (nI (bcN (plF N D m S p).1)) w else (if v1 = kI 1 then Q (nI (plF N D m S p).1) w else Q (nI (plF N D m S p).2) w))) → EI X (d + 2) 234 (74, [some (.ref 110), some (.int v1), some (.int (nI C)), some (.int (nI p.1)), some (.int (nI p.2)), some (.int (nI S)), none, none], [], SH, w) Q := by
  intro m
  induction m with
  | zero =>
    intro S p hS hp1 hp2 kk
    have e : S = 64 := by omega
    subst e
    refine t234_110_at74 w _ _ _ _ _ ?_
    rw [if_pos (by decide), bc162 w _ hp1]
    exact kk hp1
  | succ m ih =>
    intro S p hS hp1 hp2 kk
    have hS2 : S < 64 := by omega
    have bS := bcN_le S
    have bp := bcN_le p.1
    unfold plF at kk
    refine t234_110_at74 w _ _ _ _ _ ?_
    rw [if_neg (lt_64 S hS2), k1]
    unfold plS at kk
    cases e : dA N S 6 0 0 with
    | none =>
      rw [e] at kk
      have hn : ¬ (nI S &&& (nI C ^^^ kI (-1)) = 0) := by
        rw [sub_iff hS2]
        intro hh
        obtain ⟨g, g1, g2, g3, g4⟩ := (dA_none 6 0 0).mp e
        exact (hC g (by omega)).mp (hh g (by omega) g3) g4
      rw [if_neg hn]
      exact ih (S + 1) p (by omega) hp1 hp2 kk
    | some y =>
      rw [e] at kk
      dsimp only at kk
      have hn : (nI S &&& (nI C ^^^ kI (-1))) = 0 := by
        rw [sub_iff hS2]
        intro g hg h1
        refine (hC g hg).mpr (fun h2 => ?_)
        have := (dA_none (N := N) (S := S) 6 0 0).mpr ⟨g, Nat.zero_le _, by omega, h1, h2⟩
        rw [e] at this
        cases this
      rw [if_pos hn]
      have hy := dA_le hN 6 0 0 y rfl e
      refine l_234c (N := N) (x := y) hS2 h139 ?_ 6 0 0 rfl e
      refine t234_110_at99 w _ _ _ _ _ _ _ ?_
      rw [if_pos (show kI 6 ≤ nI 6 by decide), show (kI 159).toNatClampNeg = 159 from rfl, hl, bc162 w S hS2, bc162 w _ hp1, k1]
      by_cases hd : D < y
      · rw [if_pos (nI_lt hd (by omega))]
        rw [if_pos hd] at kk
        exact ih (S + 1) p (by omega) hp1 hp2 kk
      · rw [if_neg (nI_nlt (by omega) (by omega))]
        rw [if_neg hd] at kk
        by_cases hb : bcN S < bcN p.1
        · rw [if_pos (nI_lt hb (by omega))]
          rw [if_neg (by omega), if_neg (by omega)] at kk
          exact ih (S + 1) p (by omega) hp1 hp2 kk
        · rw [if_neg (nI_nlt (by omega) (by omega))]
          by_cases hq : bcN S = bcN p.1
          · rw [if_pos (by rw [hq])]
            rw [if_neg (by omega), if_pos hq] at kk
            by_cases hz : p.2 ≤ y
            · rw [if_neg (nI_nlt hz (by omega))]
              rw [if_pos hz] at kk
              exact ih (S + 1) p (by omega) hp1 hp2 kk
            · rw [if_pos (nI_lt (by omega) (by omega))]
              rw [if_neg hz] at kk
              exact ih (S + 1) (S, y) (by omega) hS2 (by dsimp only; omega) kk
          · rw [if_neg (by rw [nI_eq (by omega) (by omega)]; exact hq)]
            rw [if_pos (by omega)] at kk
            exact ih (S + 1) (S, y) (by omega) hS2 (by dsimp only; omega) kk
end CANCOME
