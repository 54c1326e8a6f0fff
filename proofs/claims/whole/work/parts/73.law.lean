/-! the law is asked alike -/
section LAWASK
def LAWC (w : Wd) (op ar : Nat → Nat) (lt : Nat → Int32) (la lm lb : Nat → Nat) (cnt len : Nat) : Prop := w 22 7 = nI cnt ∧ (∀ q, q < cnt → w 25 q = lt q ∧ w 26 q = nI (la q) ∧ w 27 q = nI (lm q) ∧ w 28 q = nI (lb q)) ∧ ∀ k, k < len → ∃ cd, CRel (w 23 k) (w 24 k) cd (op k) (ar k)
def LWR (w : Wd) (op ar : Nat → Nat) (lt : Nat → Int32) (la lm lb : Nat → Nat) (cnt len : Nat) : Prop := w 110 19 = nI cnt ∧ (∀ q, q < cnt → w 125 q = lt q ∧ w 126 q = nI (la q) ∧ w 127 q = nI (lm q) ∧ w 128 q = nI (lb q)) ∧ ∀ k, k < len → op k ≤ 12 ∧ ar k < 100000 ∧ w 124 k = nI (1048576 * op k + ar k)
def LWV (op ar : Nat → Nat) (lt : Nat → Int32) (la lm lb : Nat → Nat) (cnt len : Nat) : Prop := cnt ≤ 16 ∧ len ≤ 240 ∧ (∀ k, k < len → op k ≤ 12) ∧ ∀ q, q < cnt → la q ≤ lm q ∧ lm q ≤ lb q ∧ lb q ≤ len ∧ (¬ lt q = kI 120 → SEGW op ar (la q) (lm q) false) ∧ SEGW op ar (lm q) (lb q) true
theorem law_of {w : Wd} (h : IL w) : ∃ op ar lt la lm lb cnt len, LAWC w op ar lt la lm lb cnt len ∧ LWR w op ar lt la lm lb cnt len ∧ LWV op ar lt la lm lb cnt len := by
  obtain ⟨h1, ⟨cnt, hc, ec⟩, op, ar, len, hl, hk, hq⟩ := h
  have key : ∀ q, q < cnt → (w 26 q = nI (w 26 q).toNatClampNeg ∧ w 27 q = nI (w 27 q).toNatClampNeg ∧ w 28 q = nI (w 28 q).toNatClampNeg) ∧ (w 125 q = w 25 q ∧ w 126 q = w 26 q ∧ w 127 q = w 27 q ∧ w 128 q = w 28 q) ∧ ((w 26 q).toNatClampNeg ≤ (w 27 q).toNatClampNeg ∧ (w 27 q).toNatClampNeg ≤ (w 28 q).toNatClampNeg ∧ (w 28 q).toNatClampNeg ≤ len ∧ (¬ w 25 q = kI 120 → SEGW op ar (w 26 q).toNatClampNeg (w 27 q).toNatClampNeg false) ∧ SEGW op ar (w 27 q).toNatClampNeg (w 28 q).toNatClampNeg true) := by
    intro q hq2
    obtain ⟨a1, a2, a3, a4, a, m, b, e1, e2, e3, b1, b2, b3, b4, b5⟩ := hq q (by omega) (by rw [ec]; exact nI_lt hq2 (by omega))
    rw [e1, e2, e3, nI_clamp (by omega), nI_clamp (by omega), nI_clamp (by omega)]
    exact ⟨⟨rfl, rfl, rfl⟩, ⟨a1, by rw [a2, e1], by rw [a3, e2], by rw [a4, e3]⟩, b1, b2, b3, b4, b5⟩
  refine ⟨op, ar, fun q => w 25 q, fun q => (w 26 q).toNatClampNeg, fun q => (w 27 q).toNatClampNeg, fun q => (w 28 q).toNatClampNeg, cnt, len, ⟨ec, fun q hq2 => ⟨rfl, (key q hq2).1⟩, fun k hk2 => ⟨_, hk k hk2⟩⟩, ⟨by rw [h1, ec], fun q hq2 => ?_, fun k hk2 => ?_⟩, ⟨hc, hl, fun k hk2 => (hk k hk2).1, fun q hq2 => (key q hq2).2.2⟩⟩
  · obtain ⟨⟨k1, k2, k3⟩, ⟨k4, k5, k6, k7⟩, -⟩ := key q hq2
    exact ⟨k4, by rw [k5]; exact k1, by rw [k6]; exact k2, by rw [k7]; exact k3⟩
  · obtain ⟨r1, r2, r3, -⟩ := hk k hk2
    exact ⟨r1, r2, r3⟩
def cdC (op ar : Nat → Nat) (lm lb : Nat → Nat) (V : Nat → Int32) (q : Nat) : Int32 := evF op ar V (lb q) 300 (lm q) 0 (fun _ => 0)
def clmp (x v : Int32) : Int32 := if 0 ≤ x then (if x ≤ v then x else v) else kI 0
def askF (lt C E : Nat → Int32) (l v : Int32) : Nat → Nat → Int32
  | 0, _ => kI 0
  | m + 1, q => if lt q = l ∧ C q = kI 1 then clmp (E q) v else askF lt C E l v m (q + 1)
def lxF (lt C : Nat → Int32) (l : Int32) : Nat → Nat → Int32
  | 0, _ => kI 0
  | m + 1, q => if lt q = l ∧ C q = kI 1 then kI 1 else lxF lt C l m (q + 1)
theorem clmp_eq {x v : Int32} (hv : 0 ≤ v) : (if (kI 0) < (if x < v then x else v) then (if x < v then x else v) else (kI 0)) = clmp x v := by
  have h0 : (0 : Int32).toInt = 0 := rfl
  have h0k : (kI 0).toInt = 0 := rfl
  unfold clmp
  rw [Int32.le_iff_toInt_le, h0] at hv
  by_cases h1 : x < v
  · rw [if_pos h1]
    rw [Int32.lt_iff_toInt_lt] at h1
    by_cases h2 : kI 0 < x
    · rw [if_pos h2]
      rw [Int32.lt_iff_toInt_lt, h0k] at h2
      rw [if_pos (by rw [Int32.le_iff_toInt_le, h0]; omega), if_pos (by rw [Int32.le_iff_toInt_le]; omega)]
    · rw [if_neg h2]
      rw [Int32.lt_iff_toInt_lt, h0k] at h2
      by_cases h3 : 0 ≤ x
      · rw [if_pos h3, if_pos (by rw [Int32.le_iff_toInt_le]; omega)]
        rw [Int32.le_iff_toInt_le, h0] at h3
        apply Int32.toInt_inj.mp
        rw [h0k]; omega
      · rw [if_neg h3]
  · rw [if_neg h1]
    rw [Int32.lt_iff_toInt_lt] at h1
    have h3 : 0 ≤ x := by rw [Int32.le_iff_toInt_le, h0]; omega
    rw [if_pos h3]
    by_cases h4 : x ≤ v
    · rw [if_pos h4]
      rw [Int32.le_iff_toInt_le] at h4
      have e : x = v := Int32.toInt_inj.mp (by omega)
      rw [e]
      split
      · rfl
      · rename_i h5
        rw [Int32.lt_iff_toInt_lt, h0k] at h5
        apply Int32.toInt_inj.mp
        rw [h0k]; omega
    · rw [if_neg h4]
      split
      · rfl
      · rename_i h5
        rw [Int32.lt_iff_toInt_lt, h0k] at h5
        apply Int32.toInt_inj.mp
        rw [h0k]; omega
theorem in_cnt {q cnt : Nat} (w : Wd) (h : q < cnt) (hc : cnt ≤ 16) : ¬ F_153 (nI q) (kI 0) (nI cnt - kI 1) w = 0 := by
  rw [show nI cnt - kI 1 = nI (cnt - 1) from pk_sub (b := 1) (by omega)]
  have := within_nI (n := q) (a := 0) (b := cnt - 1) (w := w) (by omega) (by decide) (by omega)
  rw [if_pos (by omega)] at this
  intro e
  rw [show F_153 (nI q) (kI 0) (nI (cnt - 1)) w = 1 from this] at e
  exact absurd e (by decide)
variable {op ar : Nat → Nat} {lt : Nat → Int32} {la lm lb : Nat → Nat} {cnt len : Nat} {V : Nat → Int32}
theorem c_44 {X : Scr} {d q : Nat} {w : Wd} (hL : LAWC w op ar lt la lm lb cnt len) (hY : LWV op ar lt la lm lb cnt len) (hV : ∀ j, j < 12 → w 85 j = V j) (hq : q < cnt) : CI X (d + 3) 44 [.ref 84, .ref 22, .int (nI q)] w (fun x u2 => x = (if cdC op ar lm lb V q = kI 1 then kI 1 else kI 0) ∧ ∀ c, c ≠ 86 → u2 c = w c) := by
  obtain ⟨l1, l2, l3⟩ := hL
  obtain ⟨y1, y2, y3, y4⟩ := hY
  obtain ⟨a1, a2, a3, a4⟩ := l2 q hq
  obtain ⟨b1, b2, b3, b4, b5⟩ := y4 q hq
  refine CI.of rfl (t44_84_22_at0 (d := d + 1) w _ ?_)
  have hib : inB (nI q) 16 = true := inB_nI (by omega) (by decide)
  rw [l1, if_neg (in_cnt w hq y1), nI_clamp (by omega), a3, a4]
  refine ⟨hib, hib, CI.mono (c_46_22 (d := d) b2 (by omega) (fun k hk => l3 k (by omega)) hV b5) ?_⟩
  intro x u2 hx
  obtain ⟨rfl, hf⟩ := hx
  have hb := seg_bool (V := V) b2 (fun k hk => y3 k (by omega)) b5
  unfold cdC
  rcases hb with e | e
  · rw [e, if_pos (show kI 0 = 0 from rfl)]; exact ⟨by rw [if_neg (by decide)], hf⟩
  · rw [e, if_neg (by decide)]; exact ⟨by rw [if_pos rfl], hf⟩
theorem c_45 {X : Scr} {d q : Nat} {w : Wd} (hL : LAWC w op ar lt la lm lb cnt len) (hY : LWV op ar lt la lm lb cnt len) (hV : ∀ j, j < 12 → w 85 j = V j) (hq : q < cnt) (hx : ¬ lt q = kI 120) : CI X (d + 3) 45 [.ref 84, .ref 22, .int (nI q)] w (fun x u2 => x = cdC op ar la lm V q ∧ ∀ c, c ≠ 86 → u2 c = w c) := by
  obtain ⟨l1, l2, l3⟩ := hL
  obtain ⟨y1, y2, y3, y4⟩ := hY
  obtain ⟨a1, a2, a3, a4⟩ := l2 q hq
  obtain ⟨b1, b2, b3, b4, b5⟩ := y4 q hq
  refine CI.of rfl (t45_84_22_at0 (d := d + 1) w _ ?_)
  have hib : inB (nI q) 16 = true := inB_nI (by omega) (by decide)
  rw [l1, if_neg (in_cnt w hq y1), nI_clamp (by omega), a2, a3]
  exact ⟨hib, hib, CI.mono (c_46_22 (d := d) b1 (by omega) (fun k hk => l3 k (by omega)) hV (b4 hx)) (fun x u2 hx => hx)⟩
theorem LAWC.cg {w u : Wd} (h : LAWC w op ar lt la lm lb cnt len) (e : ∀ c, c ≠ 85 → c ≠ 86 → c ≠ 87 → u c = w c) : LAWC u op ar lt la lm lb cnt len := by
  unfold LAWC at h ⊢
  rw [e 22 (by decide) (by decide) (by decide), e 23 (by decide) (by decide) (by decide), e 24 (by decide) (by decide) (by decide), e 25 (by decide) (by decide) (by decide), e 26 (by decide) (by decide) (by decide), e 27 (by decide) (by decide) (by decide), e 28 (by decide) (by decide) (by decide)]
  exact h
theorem f83 {w : Wd} {q : Nat} (hL : LAWC w op ar lt la lm lb cnt len) (hq : q < cnt) (hc : cnt ≤ 16) : F_83_22 (nI q) w = lt q := by
  unfold F_83_22
  rw [hL.1, if_neg (in_cnt w hq hc), nI_clamp (by omega)]
  exact (hL.2.1 q hq).1
theorem l_29 {X : Scr} {d : Nat} {w : Wd} {l : Int32} {v : Nat} (hL : LAWC w op ar lt la lm lb cnt len) (hY : LWV op ar lt la lm lb cnt len) (hV : ∀ j, j < 12 → w 85 j = V j) (hl : ¬ l = kI 120) (hv : v < 2 ^ 31) : ∀ (m q : Nat) (u : Wd), q + m = cnt → (∀ c, c ≠ 86 → u c = w c) → EI X (d + 3) 29 (2, [some (.ref 87), some (.int l), some (.int (nI v)), some (.int (nI q))], [], SH, u) (fun x u2 => x = askF lt (cdC op ar lm lb V) (cdC op ar la lm V) l (nI v) m q ∧ ∀ c, c ≠ 86 → u2 c = w c) := by
  intro m
  have y1 := hY.1
  induction m with
  | zero =>
    intro q u h hf
    have hq : q = cnt := by omega
    subst hq
    refine t29_87_at2 (d := d + 1) u _ _ _ ?_
    rw [hf 22 (by decide), hL.1, if_pos (Int32.le_refl _)]
    exact ⟨rfl, hf⟩
  | succ m ih =>
    intro q u h hf
    have hq : q < cnt := by omega
    have hLu : LAWC u op ar lt la lm lb cnt len := hL.cg (fun c _ h2 _ => hf c h2)
    have hVu : ∀ j, j < 12 → u 85 j = V j := fun j hj => by rw [hf 85 (by decide)]; exact hV j hj
    refine t29_87_at2 (d := d + 1) u _ _ _ ?_
    rw [hLu.1, if_neg (nI_ge hq (by omega)), f83 hLu hq y1, k1]
    refine ⟨fun _ => inB_nI (by omega) (by decide), ?_⟩
    unfold askF
    by_cases h1 : lt q = l
    · rw [if_pos h1]
      refine CI.mono (c_44 (d := d) (V := V) hLu hY hVu hq) ?_
      intro x ua hx
      obtain ⟨rfl, hfa⟩ := hx
      have hfw : ∀ c, c ≠ 86 → ua c = w c := fun c hc => by rw [hfa c hc, hf c hc]
      by_cases h2 : cdC op ar lm lb V q = kI 1
      · rw [if_pos h2, if_neg (by decide), if_pos ⟨h1, h2⟩]
        have hLa : LAWC ua op ar lt la lm lb cnt len := hL.cg (fun c _ h2 _ => hfw c h2)
        refine CI.mono (c_45 (d := d) (V := V) hLa hY (fun j hj => by rw [hfw 85 (by decide)]; exact hV j hj) hq (fun e => hl (by rw [← h1]; exact e))) ?_
        intro y ub hy
        obtain ⟨rfl, hfb⟩ := hy
        rw [clmp_eq (nI_pos' hv)]
        exact ⟨rfl, fun c hc => by rw [hfb c hc, hfw c hc]⟩
      · rw [if_neg h2, if_pos (show kI 0 = 0 from rfl), if_neg (fun e => h2 e.2)]
        exact ih (q + 1) ua (by omega) hfw
    · rw [if_neg h1, if_neg (fun e => h1 e.1)]
      exact ih (q + 1) u (by omega) hf
/-- asked -/
theorem c_29 {X : Scr} {d : Nat} {w : Wd} {l : Int32} {v : Nat} (hL : LAWC w op ar lt la lm lb cnt len) (hY : LWV op ar lt la lm lb cnt len) (hV : ∀ j, j < 12 → w 85 j = V j) (hl : ¬ l = kI 120) (hv : v < 2 ^ 31) : CI X (d + 4) 29 [.ref 87, .int l, .int (nI v)] w (fun x u2 => x = askF lt (cdC op ar lm lb V) (cdC op ar la lm V) l (nI v) cnt 0 ∧ ∀ c, c ≠ 86 → u2 c = w c) :=
  CI.of rfl (t29_87_at0 (d := d + 1) w _ _ (l_29 hL hY hV hl hv cnt 0 w (Nat.zero_add _) (fun _ _ => rfl)))
theorem l_30 {X : Scr} {d : Nat} {w : Wd} (hL : LAWC w op ar lt la lm lb cnt len) (hY : LWV op ar lt la lm lb cnt len) (hV : ∀ j, j < 12 → w 85 j = V j) : ∀ (m q : Nat) (u : Wd), q + m = cnt → (∀ c, c ≠ 86 → u c = w c) → EI X (d + 3) 30 (2, [some (.ref 87), some (.int (nI q))], [], SH, u) (fun x u2 => x = lxF lt (cdC op ar lm lb V) (kI 120) m q ∧ ∀ c, c ≠ 86 → u2 c = w c) := by
  intro m
  have y1 := hY.1
  induction m with
  | zero =>
    intro q u h hf
    have hq : q = cnt := by omega
    subst hq
    refine t30_87_at2 (d := d + 1) u _ ?_
    rw [hf 22 (by decide), hL.1, if_pos (Int32.le_refl _)]
    exact ⟨rfl, hf⟩
  | succ m ih =>
    intro q u h hf
    have hq : q < cnt := by omega
    have hLu : LAWC u op ar lt la lm lb cnt len := hL.cg (fun c _ h2 _ => hf c h2)
    have hVu : ∀ j, j < 12 → u 85 j = V j := fun j hj => by rw [hf 85 (by decide)]; exact hV j hj
    refine t30_87_at2 (d := d + 1) u _ ?_
    rw [hLu.1, if_neg (nI_ge hq (by omega)), f83 hLu hq y1, k1]
    refine ⟨fun _ => inB_nI (by omega) (by decide), ?_⟩
    unfold lxF
    by_cases h1 : lt q = kI 120
    · rw [if_pos h1]
      refine CI.mono (c_44 (d := d) (V := V) hLu hY hVu hq) ?_
      intro x ua hx
      obtain ⟨rfl, hfa⟩ := hx
      have hfw : ∀ c, c ≠ 86 → ua c = w c := fun c hc => by rw [hfa c hc, hf c hc]
      by_cases h2 : cdC op ar lm lb V q = kI 1
      · rw [if_pos h2, if_neg (by decide), if_pos ⟨h1, h2⟩]
        exact ⟨rfl, hfw⟩
      · rw [if_neg h2, if_pos (show kI 0 = 0 from rfl), if_neg (fun e => h2 e.2)]
        exact ih (q + 1) ua (by omega) hfw
    · rw [if_neg h1, if_neg (fun e => h1 e.1)]
      exact ih (q + 1) u (by omega) hf
/-- isLeftOut -/
theorem c_30 {X : Scr} {d : Nat} {w : Wd} (hL : LAWC w op ar lt la lm lb cnt len) (hY : LWV op ar lt la lm lb cnt len) (hV : ∀ j, j < 12 → w 85 j = V j) : CI X (d + 4) 30 [.ref 87] w (fun x u2 => x = lxF lt (cdC op ar lm lb V) (kI 120) cnt 0 ∧ ∀ c, c ≠ 86 → u2 c = w c) :=
  CI.of rfl (t30_87_at0 (d := d + 1) w (l_30 hL hY hV cnt 0 w (Nat.zero_add _) (fun _ _ => rfl)))
/-! the reference's -/
theorem LWR.cg {w u : Wd} (h : LWR w op ar lt la lm lb cnt len) (e : ∀ c, c ≠ 129 → u c = w c) : LWR u op ar lt la lm lb cnt len := by
  unfold LWR at h ⊢
  rw [e 110 (by decide), e 124 (by decide), e 125 (by decide), e 126 (by decide), e 127 (by decide), e 128 (by decide)]
  exact h
theorem l_199 {X : Scr} {d : Nat} {w : Wd} {l v : Int32} (hL : LWR w op ar lt la lm lb cnt len) (hY : LWV op ar lt la lm lb cnt len) (hV : ∀ j, j < 12 → w 130 j = V j) (hl : ¬ l = kI 120) : ∀ (m q : Nat) (u : Wd), q + m = cnt → (∀ c, c ≠ 129 → u c = w c) → EI X (d + 2) 199 (2, [some (.ref 110), some (.int l), some (.int v), some (.int (nI q)), none], [], SH, u) (fun x u2 => x = askF lt (cdC op ar lm lb V) (cdC op ar la lm V) l v m q ∧ ∀ c, c ≠ 129 → u2 c = w c) := by
  intro m
  obtain ⟨y1, y2, y3, y4⟩ := hY
  induction m with
  | zero =>
    intro q u h hf
    have hq : q = cnt := by omega
    subst hq
    refine t199_110_at2 (d := d + 1) u _ _ _ ?_
    rw [hf 110 (by decide), hL.1, if_pos (Int32.le_refl _)]
    exact ⟨rfl, hf⟩
  | succ m ih =>
    intro q u h hf
    have hq : q < cnt := by omega
    obtain ⟨b1, b2, b3, b4, b5⟩ := y4 q hq
    have hLu : LWR u op ar lt la lm lb cnt len := hL.cg hf
    have hVu : ∀ j, j < 12 → u 130 j = V j := fun j hj => by rw [hf 130 (by decide)]; exact hV j hj
    have hib : inB (nI q) 16 = true := inB_nI (by omega) (by decide)
    obtain ⟨a1, a2, a3, a4⟩ := hLu.2.1 q hq
    refine t199_110_at2 (d := d + 1) u _ _ _ ?_
    rw [hLu.1, if_neg (nI_ge hq (by omega)), nI_clamp (by omega), a1, a3, a4, k1]
    refine ⟨hib, ?_⟩
    unfold askF
    by_cases h1 : lt q = l
    · rw [if_pos h1]
      refine ⟨hib, hib, CI.mono (c_198 (d := d) (V := V) b2 (by omega) (fun k hk => hLu.2.2 k (by omega)) hVu b5) ?_⟩
      intro x ua hx
      have hx1 : x = cdC op ar lm lb V q := hx.1
      have hfa := hx.2
      subst hx1
      have hfw : ∀ c, c ≠ 129 → ua c = w c := fun c hc => by rw [hfa c hc, hf c hc]
      by_cases h2 : cdC op ar lm lb V q = kI 1
      · rw [if_pos h2, if_pos ⟨h1, h2⟩]
        have hLa : LWR ua op ar lt la lm lb cnt len := hL.cg hfw
        obtain ⟨c1, c2, c3, c4⟩ := hLa.2.1 q hq
        rw [c2, c3]
        refine ⟨hib, hib, CI.mono (c_198 (d := d) (V := V) b1 (by omega) (fun k hk => hLa.2.2 k (by omega)) (fun j hj => by rw [hfw 130 (by decide)]; exact hV j hj) (b4 (fun e => hl (by rw [← h1]; exact e)))) ?_⟩
        intro y ub hy
        have hy1 : y = cdC op ar la lm V q := hy.1
        have hfb := hy.2
        subst hy1
        have hfin : ∀ c, c ≠ 129 → ub c = w c := fun c hc => by rw [hfb c hc, hfw c hc]
        unfold clmp
        by_cases g1 : 0 ≤ cdC op ar la lm V q
        · rw [if_pos g1, if_pos g1]
          by_cases g2 : cdC op ar la lm V q ≤ v
          · rw [if_pos g2, if_pos g2]; exact ⟨rfl, hfin⟩
          · rw [if_neg g2, if_neg g2]; exact ⟨rfl, hfin⟩
        · rw [if_neg g1, if_neg g1]; exact ⟨rfl, hfin⟩
      · rw [if_neg h2, if_neg (fun e => h2 e.2)]
        exact ih (q + 1) ua (by omega) hfw
    · rw [if_neg h1, if_neg (fun e => h1 e.1)]
      exact ih (q + 1) u (by omega) hf
/-- byLaw -/
theorem c_199 {X : Scr} {d : Nat} {w : Wd} {l v : Int32} (hL : LWR w op ar lt la lm lb cnt len) (hY : LWV op ar lt la lm lb cnt len) (hV : ∀ j, j < 12 → w 130 j = V j) (hl : ¬ l = kI 120) : CI X (d + 3) 199 [.ref 110, .int l, .int v] w (fun x u2 => x = askF lt (cdC op ar lm lb V) (cdC op ar la lm V) l v cnt 0 ∧ ∀ c, c ≠ 129 → u2 c = w c) :=
  CI.of rfl (t199_110_at0 (d := d + 1) w _ _ (l_199 hL hY hV hl cnt 0 w (Nat.zero_add _) (fun _ _ => rfl)))
theorem l_200 {X : Scr} {d : Nat} {w : Wd} {l : Int32} (hL : LWR w op ar lt la lm lb cnt len) (hY : LWV op ar lt la lm lb cnt len) (hV : ∀ j, j < 12 → w 130 j = V j) : ∀ (m q : Nat) (u : Wd), q + m = cnt → (∀ c, c ≠ 129 → u c = w c) → EI X (d + 2) 200 (2, [some (.ref 110), some (.int l), some (.int (nI q))], [], SH, u) (fun x u2 => x = lxF lt (cdC op ar lm lb V) l m q ∧ ∀ c, c ≠ 129 → u2 c = w c) := by
  intro m
  obtain ⟨y1, y2, y3, y4⟩ := hY
  induction m with
  | zero =>
    intro q u h hf
    have hq : q = cnt := by omega
    subst hq
    refine t200_110_at2 (d := d + 1) u _ _ ?_
    rw [hf 110 (by decide), hL.1, if_pos (Int32.le_refl _)]
    exact ⟨rfl, hf⟩
  | succ m ih =>
    intro q u h hf
    have hq : q < cnt := by omega
    obtain ⟨b1, b2, b3, b4, b5⟩ := y4 q hq
    have hLu : LWR u op ar lt la lm lb cnt len := hL.cg hf
    have hVu : ∀ j, j < 12 → u 130 j = V j := fun j hj => by rw [hf 130 (by decide)]; exact hV j hj
    have hib : inB (nI q) 16 = true := inB_nI (by omega) (by decide)
    obtain ⟨a1, a2, a3, a4⟩ := hLu.2.1 q hq
    refine t200_110_at2 (d := d + 1) u _ _ ?_
    rw [hLu.1, if_neg (nI_ge hq (by omega)), nI_clamp (by omega), a1, a3, a4, k1]
    refine ⟨hib, ?_⟩
    unfold lxF
    by_cases h1 : lt q = l
    · rw [if_pos h1]
      refine ⟨hib, hib, CI.mono (c_198 (d := d) (V := V) b2 (by omega) (fun k hk => hLu.2.2 k (by omega)) hVu b5) ?_⟩
      intro x ua hx
      have hx1 : x = cdC op ar lm lb V q := hx.1
      have hfa := hx.2
      subst hx1
      have hfw : ∀ c, c ≠ 129 → ua c = w c := fun c hc => by rw [hfa c hc, hf c hc]
      by_cases h2 : cdC op ar lm lb V q = kI 1
      · rw [if_pos h2, if_pos ⟨h1, h2⟩]
        exact ⟨rfl, hfw⟩
      · rw [if_neg h2, if_neg (fun e => h2 e.2)]
        exact ih (q + 1) ua (by omega) hfw
    · rw [if_neg h1, if_neg (fun e => h1 e.1)]
      exact ih (q + 1) u (by omega) hf
/-- holdsAny -/
theorem c_200 {X : Scr} {d : Nat} {w : Wd} {l : Int32} (hL : LWR w op ar lt la lm lb cnt len) (hY : LWV op ar lt la lm lb cnt len) (hV : ∀ j, j < 12 → w 130 j = V j) : CI X (d + 3) 200 [.ref 110, .int l] w (fun x u2 => x = lxF lt (cdC op ar lm lb V) l cnt 0 ∧ ∀ c, c ≠ 129 → u2 c = w c) :=
  CI.of rfl (t200_110_at0 (d := d + 1) w _ (l_200 hL hY hV cnt 0 w (Nat.zero_add _) (fun _ _ => rfl)))
end LAWASK
