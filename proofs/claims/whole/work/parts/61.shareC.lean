/-! shares, by the class: way 0 -/
section SHAREC
def PO (w : Wd) (P : Nat → Nat) : Prop := ∀ c, c < 6 → w 4 c = nI (P c) ∧ P c ≤ 9999
theorem all_PO {w : Wd} {P : Nat → Nat} (h : PO w P) : F_57_3 w = nI (pS P) := by
  unfold F_57_3
  simp only [sumF]
  rw [(h 0 (by omega)).1, (h 1 (by omega)).1, (h 2 (by omega)).1, (h 3 (by omega)).1, (h 4 (by omega)).1, (h 5 (by omega)).1, zadd, nI_add, nI_add, nI_add, nI_add, nI_add]
  rfl
theorem PO.pS_le {w : Wd} {P : Nat → Nat} (h : PO w P) : pS P ≤ 59994 := by
  have h0 := (h 0 (by omega)).2; have h1 := (h 1 (by omega)).2; have h2 := (h 2 (by omega)).2; have h3 := (h 3 (by omega)).2; have h4 := (h 4 (by omega)).2; have h5 := (h 5 (by omega)).2
  unfold pS
  omega
theorem pm_lt {a b : Nat} (ha : a ≤ 9999) (hb : b ≤ 9999) : a * b < 2 ^ 31 := by
  have := Nat.mul_le_mul ha hb
  omega
theorem PO.cg {w u : Wd} {P : Nat → Nat} (h : PO w P) (e : u 4 = w 4) : PO u P := fun c hc => by rw [e]; exact h c hc
/-- what the first loop leaves: shares rounded down, rests -/
def L1C (w u : Wd) (P : Nat → Nat) (many n : Nat) : Prop := (∀ c, c < n → u 90 c = nI (P c * many / pS P) ∧ u 92 c = nI (P c * many % pS P)) ∧ ∀ b, b ≠ 90 → b ≠ 92 → u b = w b
theorem l1_92 {X : Scr} {d many : Nat} {w : Wd} {P : Nat → Nat} {Q : Wd → Prop} (hP : PO w P) (ha : 0 < pS P) (hm : many ≤ 9999) (kk : ∀ u, L1C w u P many 6 → EU X (d + 2) 92 (70, [some (.ref 89), some (.int (nI many)), some (.int (nI (pS P))), some (.int (nI (many - qS P many 6))), some (.int (kI 0)), none, none], [], SH, u) Q) : ∀ (m n : Nat) (u : Wd), n + m = 6 → L1C w u P many n → EU X (d + 2) 92 (5, [some (.ref 89), some (.int (nI many)), some (.int (nI (pS P))), some (.int (nI (many - qS P many n))), some (.int (nI n)), none, none], [], SH, u) Q := by
  intro m
  induction m with
  | zero =>
    intro n u h hI
    have hn : n = 6 := by omega
    subst hn
    refine t92_89_at5 u _ _ _ _ ?_
    rw [if_pos (by decide)]
    exact kk u hI
  | succ m ih =>
    intro n u h hI
    have hn : n < 6 := by omega
    have hs := hP.pS_le
    refine t92_89_at5 u _ _ _ _ ?_
    have hne : ¬ nI (pS P) = 0 := nI_ne0 ha (by omega)
    rw [if_neg (lt_6 n hn), if_neg (nI_nle ha (by omega)), peopleOf_nI hn, ((hP.cg (hI.2 4 (by decide) (by decide))) n hn).1, pk_mul, pk_rem (pm_lt (hP n hn).2 hm) ha (by omega), pk_div (pm_lt (hP n hn).2 hm) ha (by omega), nI_clamp (by omega), up2_at, if_pos rfl, k1]
    have hib : inB (nI n) 6 = true := inB_nI hn (by decide)
    refine ⟨hne, hib, hne, hib, hib, ?_⟩
    have hq : qS P many (n + 1) = qS P many n + P n * many / pS P := rfl
    have hq6 : qS P many (n + 1) ≤ many := by
      have h1 := qS_mono (P := P) (many := many) m (n + 1)
      rw [show n + 1 + m = 6 by omega] at h1
      exact Nat.le_trans h1 (qS_le ha).1
    rw [pk_sub (by omega), show many - qS P many n - P n * many / pS P = many - qS P many (n + 1) by omega]
    refine ih (n + 1) _ (by omega) ⟨fun c hc => ?_, fun b h1 h2 => ?_⟩
    · rw [up2_ne (by decide), up2_at, up2_at]
      by_cases e : c = n
      · subst e; rw [if_pos rfl, if_pos rfl]; exact ⟨rfl, rfl⟩
      · rw [if_neg e, if_neg e, up2_ne (by decide)]; exact hI.1 c (by omega)
    · rw [up2_ne h2, up2_ne h1]; exact hI.2 b h1 h2
/-- the best rest -/
theorem in_92 {X : Scr} {d : Nat} {v1 v2 v3 v4 : Int32} {u : Wd} {Q : Wd → Prop} {R : Nat → Int} (hR : ∀ c, c < 6 → (u 92 c).toInt = R c) (kk : EU X (d + 2) 92 (87, [some (.ref 89), some (.int v1), some (.int v2), some (.int v3), some (.int v4), some (.int (nI (bstF R 5))), some (.int (nI 6))], [], SH, u) Q) : ∀ (m n : Nat), n + m = 5 → EU X (d + 2) 92 (87, [some (.ref 89), some (.int v1), some (.int v2), some (.int v3), some (.int v4), some (.int (nI (bstF R n))), some (.int (nI (n + 1)))], [], SH, u) Q := by
  intro m
  induction m with
  | zero =>
    intro n h
    have hn : n = 5 := by omega
    subst hn
    exact kk
  | succ m ih =>
    intro n h
    have hb := (bstF_is R n).1
    refine t92_89_at87 u _ _ _ _ _ _ ?_
    rw [if_neg (lt_6 (n + 1) (by omega)), nI_clamp (by omega), nI_clamp (by omega), k1]
    refine ⟨inB_nI (by omega) (by decide), inB_nI (by omega) (by decide), ?_⟩
    have e : bstF R (n + 1) = if R (bstF R n) < R (n + 1) then n + 1 else bstF R n := rfl
    by_cases hc : u 92 (n + 1) ≤ u 92 (bstF R n)
    · rw [if_pos hc]
      rw [Int32.le_iff_toInt_le, hR _ (by omega), hR _ (by omega)] at hc
      rw [if_neg (by omega)] at e
      rw [← e]
      exact ih (n + 1) (by omega)
    · rw [if_neg hc]
      rw [Int32.le_iff_toInt_le, hR _ (by omega), hR _ (by omega)] at hc
      rw [if_pos (by omega)] at e
      have := ih (n + 1) (by omega)
      rw [e] at this
      exact this
def L2C (w u : Wd) (P : Nat → Nat) (many j : Nat) : Prop := (∀ c, c < 6 → u 90 c = nI (P c * many / pS P + (tk P many j c).toNat) ∧ u 92 c = kI (rst P many (tk P many j) c)) ∧ ∀ b, b ≠ 90 → b ≠ 92 → u b = w b
theorem rst_toInt {P : Nat → Nat} {many c : Nat} {T : Nat → Bool} (ha : 0 < pS P) (hs : pS P ≤ 59994) : (kI (rst P many T c)).toInt = rst P many T c := by
  have h1 := Nat.mod_lt (P c * many) ha
  refine kI_toInt ?_ ?_
  · unfold rst; split <;> omega
  · unfold rst; split <;> omega
theorem l2_92 {X : Scr} {d many : Nat} {w : Wd} {P : Nat → Nat} {Q : Wd → Prop} {v1 v2 : Int32} (ha : 0 < pS P) (hs : pS P ≤ 59994) (kk : ∀ u, L2C w u P many (many - qS P many 6) → Q u) : ∀ (m j : Nat) (u : Wd), j + m = many - qS P many 6 → L2C w u P many j → EU X (d + 2) 92 (70, [some (.ref 89), some (.int v1), some (.int v2), some (.int (nI m)), some (.int (nI j)), none, none], [], SH, u) Q := by
  intro m
  have h6 := left_lt6 (P := P) (many := many) ha
  induction m with
  | zero =>
    intro j u h hI
    refine t92_89_at70 u _ _ _ _ ?_
    have hj : j = many - qS P many 6 := by omega
    subst hj
    rw [if_neg (lt_6 _ (by omega)), if_pos (by decide)]
    exact kk u hI
  | succ m ih =>
    intro j u h hI
    refine t92_89_at70 u _ _ _ _ ?_
    rw [if_neg (lt_6 _ (by omega)), if_neg (nI_nle (by omega) (by omega))]
    obtain ⟨b1, b2, b3⟩ := tk_best (P := P) (many := many) (j := j) ha (by omega)
    refine in_92 (R := rst P many (tk P many j)) (fun c hc => ?_) ?_ 5 0 rfl
    · rw [(hI.1 c hc).2]; exact rst_toInt ha hs
    · generalize hb : bstF (rst P many (tk P many j)) 5 = b at b1 b2 b3
      refine t92_89_at87 u _ _ _ _ _ _ ?_
      rw [if_pos (by decide), nI_clamp (by omega), k1]
      have hib : inB (nI b) 6 = true := inB_nI b1 (by decide)
      refine ⟨hib, hib, hib, ?_⟩
      rw [show nI (m + 1) + kI (-1) = nI m from pk_m1 m]
      refine ih (j + 1) _ (by omega) ⟨fun c hc => ?_, fun a h1 h2 => ?_⟩
      · have e : tk P many (j + 1) c = (tk P many j c || c == b) := by rw [← hb]; rfl
        rw [up2_ne (by decide), up2_at, up2_at]
        unfold rst
        rw [e]
        by_cases hcb : c = b
        · subst hcb
          rw [if_pos rfl, if_pos rfl, (hI.1 c hc).1, b2, k1]
          simp
        · rw [if_neg hcb, if_neg hcb, up2_ne (by decide)]
          have e2 : (c == b) = false := by simpa using hcb
          rw [e2, Bool.or_false]
          exact hI.1 c hc
      · rw [up2_ne h2, up2_ne h1]; exact hI.2 a h1 h2
theorem c_92 {X : Scr} {d many : Nat} {w : Wd} {P : Nat → Nat} (hP : PO w P) (ha : 0 < pS P) (hm : many ≤ 9999) : CU X (d + 3) 92 [.ref 89, .int (nI many), .int (nI (pS P))] w (fun u => (∀ c, c < 6 → u 90 c = nI (shR P many c)) ∧ ∀ b, b ≠ 90 → b ≠ 92 → u b = w b) := by
  refine CU.of rfl (t92_89_at0 w _ _ ?_)
  have := l1_92 (X := X) (d := d) (Q := (fun u => (∀ c, c < 6 → u 90 c = nI (shR P many c)) ∧ ∀ b, b ≠ 90 → b ≠ 92 → u b = w b)) hP ha hm ?_ 6 0 w rfl ⟨fun c hc => by omega, fun _ _ _ => rfl⟩
  · exact this
  · intro u hu
    have K : ∀ u2, L2C w u2 P many (many - qS P many 6) → (∀ c, c < 6 → u2 90 c = nI (shR P many c)) ∧ ∀ b, b ≠ 90 → b ≠ 92 → u2 b = w b := fun u2 h2 => ⟨fun c hc => by rw [(h2.1 c hc).1]; unfold shR; rw [if_neg (by omega)], h2.2⟩
    have J0 : L2C w u P many 0 := ⟨fun c hc => ⟨(hu.1 c hc).1, by rw [(hu.1 c hc).2]; rfl⟩, hu.2⟩
    exact l2_92 (w := w) ha hP.pS_le K (many - qS P many 6) 0 u (Nat.zero_add _) J0
/-! one by one -/
def enO (o : Option Nat) : Int32 := match o with
  | none => kI (-1)
  | some b => nI b
theorem nI_m1 {n : Nat} (h : n < 2 ^ 31) : ¬ nI n = kI (-1) := by
  intro e
  have : (nI n).toInt = (kI (-1)).toInt := by rw [e]
  rw [nI_toInt h, kI_toInt (by omega) (by omega)] at this
  omega
theorem dv_nI {s way : Nat} (hw : way ≤ 3) (w : Wd) : F_95 (nI s) (nI way) w = nI (dvS way s) := by
  unfold F_95 dvS
  by_cases h1 : way = 1
  · subst h1; rw [if_pos (show nI 1 = kI 1 from rfl), if_pos rfl, k1]
  · rw [if_neg (show ¬ nI way = kI 1 from fun e => h1 (nI_inj (by omega) (by decide) e)), if_neg h1]
    by_cases h2 : way = 2
    · subst h2; rw [if_pos (show nI 2 = kI 2 from rfl), if_pos rfl, show kI 2 * nI s = nI (2 * s) from pk_mul 2 s, k1]
    · rw [if_neg (show ¬ nI way = kI 2 from fun e => h2 (nI_inj (by omega) (by decide) e)), if_neg h2]
theorem dvS_le {way s : Nat} (h : s ≤ 999) : dvS way s ≤ 1999 := by
  unfold dvS; split
  · omega
  · split <;> omega
theorem pd_lt {a b : Nat} (ha : a ≤ 9999) (hb : b ≤ 1999) : a * b < 2 ^ 31 := by
  have := Nat.mul_le_mul ha hb
  omega
theorem in_93 {X : Scr} {d way : Nat} {v1 v3 : Int32} {u : Wd} {P s : Nat → Nat} {Q : Wd → Prop} (hP : PO u P) (hw : way ≤ 3) (hs : ∀ c, c < 6 → u 90 c = nI (s c) ∧ s c ≤ 999) (kk : EU X (d + 3) 93 (13, [some (.ref 89), some (.int v1), some (.int (nI way)), some (.int v3), some (.int (enO (pkW P s way 6))), some (.int (nI 6))], [], SH, u) Q) : ∀ (m n : Nat), n + m = 6 → EU X (d + 3) 93 (13, [some (.ref 89), some (.int v1), some (.int (nI way)), some (.int v3), some (.int (enO (pkW P s way n))), some (.int (nI n))], [], SH, u) Q := by
  intro m
  induction m with
  | zero =>
    intro n h
    have hn : n = 6 := by omega
    subst hn
    exact kk
  | succ m ih =>
    intro n h
    have hn : n < 6 := by omega
    have ihn := ih (n + 1) (by omega)
    refine t93_89_at13 u _ _ _ _ _ ?_
    rw [if_neg (lt_6 n hn), peopleOf_nI hn, (hP n hn).1, k1]
    have e : pkW P s way (n + 1) = if P n = 0 then pkW P s way n else match pkW P s way n with
      | none => some n
      | some b => if P b * dvS way (s n) < P n * dvS way (s b) then some n else some b := rfl
    have hpn := (hP n hn).2
    by_cases hp : P n = 0
    · rw [hp, if_pos (by decide)]
      rw [if_pos hp] at e
      rw [e] at ihn
      exact ihn
    · rw [if_neg (nI_nle (by omega) (by omega))]
      rw [if_neg hp] at e
      cases hb : pkW P s way n with
      | none =>
        rw [hb] at e
        rw [e] at ihn
        rw [if_pos (show enO none = kI (-1) from rfl)]
        exact ihn
      | some b =>
        have hbn := pkW_lt n b hb
        rw [hb] at e
        dsimp only at e
        rw [if_neg (show ¬ enO (some b) = kI (-1) from nI_m1 (by omega))]
        have ef : F_94_89 (nI n) (nI b) (nI way) u = if P b * dvS way (s n) < P n * dvS way (s b) then kI 1 else kI 0 := by
          unfold F_94_89 F_90_89
          rw [peopleOf_nI hn, peopleOf_nI (by omega), if_neg (in5 hn), if_neg (in5 (by omega)), nI_clamp (by omega), nI_clamp (by omega), (hs n hn).1, (hs b (by omega)).1, dv_nI hw, dv_nI hw, (hP n hn).1, (hP b (by omega)).1, pk_mul, pk_mul]
          have z1 := pd_lt hpn (dvS_le (way := way) (hs b (by omega)).2)
          have z2 := pd_lt (hP b (by omega)).2 (dvS_le (way := way) (hs n hn).2)
          by_cases hc : P b * dvS way (s n) < P n * dvS way (s b)
          · rw [if_pos hc, if_neg (by rw [nI_leI z1 z2]; omega)]
          · rw [if_neg hc, if_pos (by rw [nI_leI z1 z2]; omega)]
        rw [show enO (some b) = nI b from rfl, ef]
        by_cases hc : P b * dvS way (s n) < P n * dvS way (s b)
        · rw [if_pos hc] at e
          rw [e] at ihn
          rw [if_pos hc, if_neg (by decide)]
          exact ihn
        · rw [if_neg hc] at e
          rw [e] at ihn
          rw [if_neg hc, if_pos (show kI 0 = 0 from rfl)]
          exact ihn
def LWC (w u : Wd) (s : Nat → Nat) : Prop := (∀ c, c < 6 → u 90 c = nI (s c)) ∧ ∀ b, b ≠ 90 → b ≠ 92 → u b = w b
theorem l_93 {X : Scr} {d way many : Nat} {w : Wd} {P : Nat → Nat} {Q : Wd → Prop} (hP : PO w P) (hw : way ≤ 3) (hm : many ≤ 999) (kk : ∀ u, LWC w u (shW P way many) → Q u) : ∀ (m i : Nat) (u : Wd), i + m = many → LWC w u (shW P way i) → EU X (d + 3) 93 (2, [some (.ref 89), some (.int (nI many)), some (.int (nI way)), some (.int (nI i)), none, none], [], SH, u) Q := by
  intro m
  induction m with
  | zero =>
    intro i u h hI
    have hi : i = many := by omega
    subst hi
    refine t93_89_at2 u _ _ _ ?_
    rw [if_pos (Int32.le_refl _)]
    exact kk u hI
  | succ m ih =>
    intro i u h hI
    refine t93_89_at2 u _ _ _ ?_
    rw [if_neg (nI_ge (by omega) (by omega))]
    have hs : ∀ c, c < 6 → u 90 c = nI (shW P way i c) ∧ shW P way i c ≤ 999 := fun c hc => ⟨hI.1 c hc, by have := shW_le (P := P) (way := way) i c; omega⟩
    refine in_93 (hP.cg (hI.2 4 (by decide) (by decide))) hw hs ?_ 6 0 rfl
    refine t93_89_at13 u _ _ _ _ _ ?_
    rw [if_pos (by decide), k1]
    have e : shW P way (i + 1) = stW P way (shW P way i) := rfl
    cases hb : pkW P (shW P way i) way 6 with
    | none =>
      rw [if_pos (show enO none = kI (-1) from rfl)]
      refine ih (i + 1) u (by omega) ?_
      rw [e]
      unfold stW
      rw [hb]
      exact hI
    | some b =>
      have hb6 := (pkW_lt 6 b hb).1
      have hib : inB (nI b) 6 = true := inB_nI hb6 (by decide)
      rw [if_neg (show ¬ enO (some b) = kI (-1) from nI_m1 (by omega)), show enO (some b) = nI b from rfl, nI_clamp (by omega)]
      refine ⟨hib, hib, ih (i + 1) _ (by omega) ⟨fun c hc => ?_, fun a h1 h2 => ?_⟩⟩
      · rw [e]
        unfold stW
        rw [hb, up2_at]
        dsimp only
        by_cases hcb : c = b
        · subst hcb; rw [if_pos rfl, if_pos rfl, hI.1 c hc, k1]
        · rw [if_neg hcb, if_neg hcb]; exact hI.1 c hc
      · rw [up2_ne h1]; exact hI.2 a h1 h2
theorem c_93 {X : Scr} {d way many : Nat} {w : Wd} {P : Nat → Nat} (hP : PO w P) (hw : way ≤ 3) (hm : many ≤ 999) (hz : ∀ c, c < 6 → w 90 c = 0) : CU X (d + 4) 93 [.ref 89, .int (nI many), .int (nI way)] w (fun u => LWC w u (shW P way many)) := by
  refine CU.of rfl (t93_89_at0 w _ _ ?_)
  exact l_93 (X := X) (d := d) (Q := fun u => LWC w u (shW P way many)) hP hw hm (fun u h => h) many 0 w (Nat.zero_add _) ⟨fun c hc => hz c hc, fun _ _ _ => rfl⟩
/-- shareOut -/
theorem c_91 {X : Scr} {d way many : Nat} {w : Wd} {P : Nat → Nat} (hP : PO w P) (hw : way ≤ 3) (hm : many ≤ 9999) (hm2 : way ≠ 0 → many ≤ 999) : CU X (d + 5) 91 [.ref 89, .int (nI many), .int (nI way)] w (fun u => LWC w u (fun c => shN P many way c)) := by
  refine CU.of rfl (t91_89_at0 (d := d + 2) w _ _ ?_)
  have f4 : ∀ b, b ≠ 90 → (G_258_90 (kI 0) w) b = w b := fun b hb => if_neg hb
  have f90 : ∀ c, c < 6 → (G_258_90 (kI 0) w) 90 c = 0 := fun c hc => by
    show (if c < 6 then kI 0 else w 90 c) = 0
    rw [if_pos hc]; rfl
  have hP2 : PO (G_258_90 (kI 0) w) P := hP.cg (f4 4 (by decide))
  have hs := hP.pS_le
  rw [all_PO hP2]
  by_cases ha : pS P = 0
  · rw [ha, if_neg (by decide)]
    refine ⟨fun c hc => ?_, fun b h1 _ => f4 b h1⟩
    rw [f90 c hc]
    unfold shN shR
    simp only [ha, if_true, ite_self]
    rfl
  · rw [if_pos (show (0 : Int32) < nI (pS P) from nI_lt (a := 0) (by omega) (by omega))]
    by_cases h0 : way = 0
    · subst h0
      rw [if_pos (show nI 0 = 0 from rfl)]
      refine CU.mono (c_92 (d := d + 1) hP2 (by omega) hm) ?_
      intro u hu
      refine ⟨fun c hc => ?_, fun b h1 h2 => by rw [hu.2 b h1 h2, f4 b h1]⟩
      rw [hu.1 c hc]
      rfl
    · rw [if_neg (show ¬ nI way = 0 from nI_ne0 (by omega) (by omega))]
      refine CU.mono (c_93 (d := d) hP2 hw (hm2 h0) f90) ?_
      intro u hu
      refine ⟨fun c hc => ?_, fun b h1 h2 => by rw [hu.2 b h1 h2, f4 b h1]⟩
      rw [hu.1 c hc]
      show nI (shW P way many c) = nI (shN P many way c)
      unfold shN
      rw [if_neg h0, if_neg ha]
end SHAREC
