/-! report, part 3: all lines, what they change, the two calls -/
section REPORT3
abbrev LNS : Type := Nat → Nat × Nat × Int
def upA (A : LNS) (k : Nat) (v : Nat × Nat × Int) : LNS := fun i => if i = k then v else A i
def rpF (ch : Nat → Nat) (fc ft : Nat → Bool) : Nat → Nat → LNS → Nat → Int32 ⊕ (Nat × LNS)
  | 0, k, A, _ => .inr (k, A)
  | m + 1, k, A, p => if ch p = 256 then .inr (k, A) else if ch p = 59 then (match lneF ch fc ft k (p + 1) with
    | .inl e => .inl e
    | .inr r => rpF ch fc ft m (k + 1) (upA A k (r.1, r.2.1, r.2.2.1)) r.2.2.2) else .inl (flt (kI 1) p)
theorem flt_neg {c p : Nat} (h1 : 1 ≤ c) (h7 : c ≤ 7) (hp : p ≤ 10000) : flt (kI c) p < 0 := by
  have e : flt (kI c) p = kI (-1000 * c - p) := by
    unfold flt
    rw [← kI_of, show kI (-1000) * kI c = kI (-1000 * c) from (Int32.ofInt_mul _ _).symm]
    exact (Int32.ofInt_sub _ _).symm
  rw [e, show (0 : Int32) = kI 0 from rfl, kI_lt (by omega) (by omega) (by omega) (by omega)]
  omega
theorem rdN_inl {ch : Nat → Nat} : ∀ m p v q, rdN ch m p v = .inl q → q = p + m
  | 0, p, v, q, h => by
    unfold rdN at h
    split at h
    · cases h; rfl
    · cases h
  | m + 1, p, v, q, h => by
    unfold rdN at h
    split at h
    · have := rdN_inl m (p + 1) _ q h
      omega
    · cases h
theorem nbF_neg {ch : Nat → Nat} {c f p : Nat} {s : Int} {e : Int32} (hp : p ≤ 9000) (h : nbF ch c f p s = .inl e) : e < 0 := by
  unfold nbF at h
  split at h
  · cases e2 : rdN ch 3 p 0 with
    | inl q =>
      rw [e2] at h
      have := rdN_inl 3 p 0 q e2
      rw [← Sum.inl.inj h]
      exact flt_neg (c := 2) (by decide) (by decide) (by omega)
    | inr x => rw [e2] at h; cases h
  · rw [← Sum.inl.inj h]
    exact flt_neg (c := 1) (by decide) (by decide) (by omega)
theorem lneF_neg {ch : Nat → Nat} {fc ft : Nat → Bool} {k p : Nat} {e : Int32} (hp : p ≤ 8000) (h : lneF ch fc ft k p = .inl e) : e < 0 := by
  unfold lneF at h
  split at h
  · split at h
    · rw [← Sum.inl.inj h]; exact flt_neg (c := 4) (by decide) (by decide) (by omega)
    · split at h
      · split at h
        · split at h
          · split at h
            · exact nbF_neg (by omega) h
            · split at h
              · exact nbF_neg (by omega) h
              · rw [← Sum.inl.inj h]; exact flt_neg (c := 1) (by decide) (by decide) (by omega)
          · rw [← Sum.inl.inj h]; exact flt_neg (c := 7) (by decide) (by decide) (by omega)
        · rw [← Sum.inl.inj h]; exact flt_neg (c := 1) (by decide) (by decide) (by omega)
      · rw [← Sum.inl.inj h]; exact flt_neg (c := 7) (by decide) (by decide) (by omega)
  · rw [← Sum.inl.inj h]; exact flt_neg (c := 1) (by decide) (by decide) (by omega)
theorem nbF_up {ch : Nat → Nat} {c f p : Nat} {s : Int} {r : Nat × Nat × Int × Nat} (h : nbF ch c f p s = .inr r) : r.2.2.2 ≤ p + 3 := by
  unfold nbF at h
  split at h
  · cases e : rdN ch 3 p 0 with
    | inl q => rw [e] at h; cases h
    | inr x =>
      rw [e] at h
      have := (rdN_le 3 p 0 x.1 x.2 e).2.1
      cases h
      exact this
  · cases h
theorem lneF_up {ch : Nat → Nat} {fc ft : Nat → Bool} {k p : Nat} {r : Nat × Nat × Int × Nat} (h : lneF ch fc ft k p = .inr r) : r.2.2.2 ≤ p + 6 := by
  unfold lneF at h
  split at h
  · split at h
    · cases h
    · split at h
      · split at h
        · split at h
          · split at h
            · have := nbF_up h; omega
            · split at h
              · have := nbF_up h; omega
              · cases h
          · cases h
        · cases h
      · cases h
  · cases h
def OKA (fc : Nat → Bool) (k : Nat) (A : LNS) : Prop := k ≤ 20 ∧ ∀ i, i < k → okL fc (A i)
theorem OKA.up {fc : Nat → Bool} {k : Nat} {A : LNS} {v : Nat × Nat × Int} (h : OKA fc k A) (hk : k < 20) (hv : okL fc v) : OKA fc (k + 1) (upA A k v) := by
  refine ⟨by omega, fun i hi => ?_⟩
  unfold upA
  by_cases e : i = k
  · rw [if_pos e]; exact hv
  · rw [if_neg e]; exact h.2 i (by omega)
theorem rpF_ok {ch : Nat → Nat} {fc ft : Nat → Bool} : ∀ (m k : Nat) (A : LNS) (p : Nat), p + 7 * m ≤ 7000 → OKA fc k A → (∀ e, rpF ch fc ft m k A p = .inl e → e < 0) ∧ ∀ r, rpF ch fc ft m k A p = .inr r → OKA fc r.1 r.2
  | 0, k, A, p, _, ho => ⟨fun e h => (by cases h), fun r h => by cases h; exact ho⟩
  | m + 1, k, A, p, hp, ho => by
    unfold rpF
    by_cases h1 : ch p = 256
    · rw [if_pos h1]; exact ⟨fun e h => (by cases h), fun r h => by cases h; exact ho⟩
    · rw [if_neg h1]
      by_cases h2 : ch p = 59
      · rw [if_pos h2]
        cases e : lneF ch fc ft k (p + 1) with
        | inl x => exact ⟨fun e2 h => (by rw [← Sum.inl.inj h]; exact lneF_neg (by omega) e), fun r h => by cases h⟩
        | inr r =>
          obtain ⟨a1, a2, a3⟩ := lneF_ok e
          have a4 := lneF_up e
          exact rpF_ok m (k + 1) _ _ (by omega) (ho.up a2 a1)
      · rw [if_neg h2]; exact ⟨fun e h => (by rw [← Sum.inl.inj h]; exact flt_neg (c := 1) (by decide) (by decide) (by omega)), fun r h => by cases h⟩
/-- the class's lines -/
def AC (u : Wd) (k : Nat) (A : LNS) : Prop := u 80 5 = nI k ∧ ∀ i, i < k → u 81 i = nI (A i).1 ∧ u 82 i = nI (A i).2.1 ∧ u 83 i = kI (A i).2.2
def GC (w u : Wd) : Prop := ∀ a, a ≠ 1 → a ≠ 80 → a ≠ 81 → a ≠ 82 → a ≠ 83 → u a = w a
def EC (w u : Wd) (x : Int32) (r : Int32 ⊕ (Nat × LNS)) : Prop := GC w u ∧ u 1 1 = kI 0 ∧ (match r with
  | .inl e => x = e
  | .inr y => x = kI 0 ∧ AC u y.1 y.2)
theorem AC.up {ch : Nat → Nat} {n k : Nat} {w u : Wd} {x : Int32} {A : LNS} {r : Nat × Nat × Int × Nat} (h : AC w k A) (hL : LneC ch n k w u x (.inr r)) : AC u (k + 1) (upA A k (r.1, r.2.1, r.2.2.1)) := by
  obtain ⟨-, -, -, -, l1, l2, l3, l4, l5⟩ := hL
  refine ⟨l1, fun i hi => ?_⟩
  unfold upA
  by_cases e : i = k
  · subst e
    rw [if_pos rfl]
    exact ⟨l2, l3, l4⟩
  · rw [if_neg e, (l5 i (by omega)).1, (l5 i (by omega)).2.1, (l5 i (by omega)).2.2]
    exact h.2 i (by omega)
theorem l_85 {X : Scr} {d n : Nat} {v1 : Int32} {w : Wd} {ch : Nat → Nat} {fc ft : Nat → Bool} (hn : n ≤ 120) (hfc : ∀ c, c < 6 → (F_51_3 (nI c) w = 0 ↔ fc c = false)) (hft : ∀ c, c < 6 → (F_52_3 (nI c) w = 0 ↔ ft c = false)) : ∀ (m i k p : Nat) (A : LNS) (u : Wd), i + m = 120 → i ≤ p → GC w u → TXC u ch n p → u 1 4 = kI 0 → k ≤ 20 → AC u k A → EI X (d + 8) 85 (20, [some (.ref 80), some (.int v1), some (.int (kI 1)), some (.int (nI i))], [], SH, u) (fun x u2 => EC w u2 x (rpF ch fc ft m k A p)) := by
  intro m
  have fin : ∀ (u : Wd) (e : Int32) (i : Nat), GC w u → u 1 4 = e → EI X (d + 8) 85 (20, [some (.ref 80), some (.int v1), some (.int (kI 0)), some (.int (nI i))], [], SH, u) (fun x u2 => EC w u2 x (.inl e)) := by
    intro u e i hG h4
    have g : EC w (G_108_1 u) (F_108_1 u) (.inl e) := ⟨fun a h1 h2 h3 h5 h6 => by show up2 u 1 1 _ a = _; rw [up2_ne h1]; exact hG a h1 h2 h3 h5 h6, by show up2 u 1 1 _ 1 1 = _; rw [up2_at, if_pos rfl], h4⟩
    refine t85_80_at20 (d := d + 5) u _ _ _ ?_
    by_cases hi : kI 120 ≤ nI i
    · rw [if_pos hi]; exact g
    · rw [if_neg hi, if_pos (show kI 0 = 0 from rfl)]; exact g
  have good : ∀ (u : Wd) (k : Nat) (A : LNS), GC w u → u 1 4 = kI 0 → AC u k A → EC w (G_108_1 u) (F_108_1 u) (.inr (k, A)) := by
    intro u k A hG h4 hA
    refine ⟨fun a h1 h2 h3 h5 h6 => by show up2 u 1 1 _ a = _; rw [up2_ne h1]; exact hG a h1 h2 h3 h5 h6, by show up2 u 1 1 _ 1 1 = _; rw [up2_at, if_pos rfl], h4, ?_⟩
    show AC (up2 u 1 1 _) k A
    unfold AC
    rw [up2_ne (by decide), up2_ne (by decide), up2_ne (by decide), up2_ne (by decide)]
    exact hA
  induction m with
  | zero =>
    intro i k p A u hi hip hG hT h4 hk hA
    refine t85_80_at20 (d := d + 5) u _ _ _ ?_
    rw [if_pos (show kI 120 ≤ nI i from nI_le (a := 120) (by omega) (by omega))]
    exact good u k A hG h4 hA
  | succ m ih =>
    intro i k p A u hi hip hG hT h4 hk hA
    have hpn := hT.2.2.2.1
    have e3 : u 3 = w 3 := hG 3 (by decide) (by decide) (by decide) (by decide) (by decide)
    refine t85_80_at20 (d := d + 5) u _ _ _ ?_
    rw [if_neg (lt_120 i (by omega)), if_neg (show ¬ kI 1 = 0 by decide)]
    unfold rpF
    have e109 : F_109_1 u = if p < n then kI 0 else kI 1 := by
      unfold F_109_1
      rw [hT.2.1, hT.1]
      by_cases h : p < n
      · rw [if_pos (nI_lt h (by omega)), if_pos h]
      · rw [if_neg (nI_nlt (by omega) (by omega)), if_neg h]
    by_cases h256 : ch p = 256
    · rw [e109, if_neg (show ¬ p < n from fun h => by have := hT.end.mpr h256; omega), if_neg (show ¬ kI 1 = 0 by decide)]
      simp only [if_pos h256]
      exact good u k A hG h4 hA
    · have hlt : p < n := Nat.lt_of_not_le (fun h => h256 (hT.end.mp h))
      have hle := hT.le
      rw [e109, if_pos hlt, if_pos (show kI 0 = 0 from rfl)]
      simp only [if_neg h256]
      refine ⟨hT.ix, ?_⟩
      by_cases h59 : ch p = 59
      · have es : F_110_1 u = kI 59 := by rw [hT.sg]; exact (enC_eq (k := 59) (by decide)).mpr h59
        have eF : F_113_1 (kI 59) u = kI 1 := by unfold F_113_1; rw [if_pos es]
        have eG : G_113_1 (kI 59) u = up2 u 1 3 ((u 1 3) + (kI 1)) := by unfold G_113_1; rw [if_pos es]
        rw [eF, if_neg (show ¬ kI 1 = 0 by decide), eG, k1]
        simp only [if_pos h59]
        have hT1 := hT.step (by omega)
        have hF1 : FT u (up2 u 1 3 ((u 1 3) + (kI 1))) := FT.p (Or.inl rfl)
        have hA1 : AC (up2 u 1 3 ((u 1 3) + (kI 1))) k A := by
          unfold AC
          rw [hF1.1 80 (by decide), hF1.1 81 (by decide), hF1.1 82 (by decide), hF1.1 83 (by decide)]
          exact hA
        refine CI.mono (c_87 (d := d + 1) (k := k) (fc := fc) (ft := ft) hk hT1 hA1.1 (fun c hc => by rw [f51_cg (w := w) (by rw [hF1.1 3 (by decide), e3])]; exact hfc c hc) (fun c hc => by rw [f52_cg (w := w) (by rw [hF1.1 3 (by decide), e3])]; exact hft c hc)) ?_
        intro x u2 hL
        have hG2 : GC w u2 := fun a h1 h2 h3 h5 h6 => by rw [hL.1.1 a h1 h2 h3 h5 h6, hF1.1 a h1]; exact hG a h1 h2 h3 h5 h6
        cases er : lneF ch fc ft k (p + 1) with
        | inl e =>
          rw [er] at hL
          rw [if_pos (show x = 0 from hL.2.1)]
          exact fin u2 e (i + 1) hG2 hL.2.2
        | inr r =>
          rw [er] at hL
          obtain ⟨a1, a2, a3⟩ := lneF_ok er
          rw [if_neg (show ¬ x = 0 by rw [hL.2.1]; decide)]
          have h14 : u2 1 4 = kI 0 := by
            rw [hL.2.2.2.1, up2_at, if_neg (by decide)]
            exact h4
          exact ih (i + 1) (k + 1) r.2.2.2 _ u2 (by omega) (by omega) hG2 hL.2.2.1 h14 (by omega) (hA1.up hL)
      · have es : ¬ F_110_1 u = kI 59 := by rw [hT.sg]; exact fun e => h59 ((enC_eq (k := 59) (by decide)).mp e)
        have eF : F_113_1 (kI 59) u = kI 0 := by unfold F_113_1; rw [if_neg es]; rfl
        have eG : G_113_1 (kI 59) u = up2 u 1 4 (flt (kI 1) p) := by unfold G_113_1; rw [if_neg es, hT.fail]
        rw [eF, if_pos (show kI 0 = 0 from rfl), eG, k1]
        simp only [if_neg h59]
        exact fin _ _ (i + 1) (fun a h1 h2 h3 h5 h6 => by rw [up2_ne h1]; exact hG a h1 h2 h3 h5 h6) (by rw [up2_at, if_pos rfl])
/-! what they change -/
def enF (A : LNS) : Nat → Nat → (Nat → Int32) → Nat → Int32
  | 0, _, n => n
  | m + 1, i, n => enF A m (i + 1) (upd n (6 * (A i).1 + (A i).2.1) (nI (clN (((n (6 * (A i).1 + (A i).2.1)).toNatClampNeg : Int) + (A i).2.2))))
theorem l_86 {X : Scr} {d k : Nat} {w : Wd} {A : LNS} {fc : Nat → Bool} (hA : AC w k A) (hok : OKA fc k A) : ∀ (m i : Nat) (u : Wd) (n : Nat → Int32), i + m = k → BK 7 u n → CT n → (∀ a, a ≠ 8 → a ≠ 9 → u a = w a) → EU X (d + 2) 86 (2, [some (.ref 80), some (.ref 7), some (.int (nI i))], [], SH, u) (fun u2 => BK 7 u2 (enF A m i n) ∧ ∀ a, a ≠ 8 → a ≠ 9 → u2 a = w a) := by
  intro m
  have hk20 := hok.1
  induction m with
  | zero =>
    intro i u n h hB hC hF
    refine t86_80_7_at2 u _ ?_
    rw [hF 80 (by decide) (by decide), hA.1, if_pos (nI_le (by omega) (by omega))]
    exact ⟨hB, hF⟩
  | succ m ih =>
    intro i u n h hB hC hF
    obtain ⟨o1, o2, o3, o4, o5⟩ := hok.2 i (by omega)
    obtain ⟨a1, a2, a3⟩ := hA.2 i (by omega)
    obtain ⟨x, hx, ex⟩ := hC (6 * (A i).1 + (A i).2.1) (by omega)
    refine t86_80_7_at2 u _ ?_
    rw [hF 80 (by decide) (by decide), hA.1, if_neg (nI_ge (by omega) (by omega)), if_neg (lt_20 i (by omega)), nI_clamp (by omega), hF 81 (by decide) (by decide), hF 82 (by decide) (by decide), hF 83 (by decide) (by decide), a1, a2, a3, k1]
    obtain ⟨c1, c2⟩ := ch_7z (c := (A i).1) (f := (A i).2.1) (x := x) (z := (A i).2.2) hB hC o1 o2 ex hx o4 o5
    refine ⟨inB_nI (by omega) (by decide), inB_nI (by omega) (by decide), inB_nI (by omega) (by decide), ?_⟩
    have g := ih (i + 1) _ _ (by omega) c1 (fun j hj => ?_) (fun a h1 h2 => by rw [c2 a h1 h2]; exact hF a h1 h2)
    · unfold enF
      rw [ex, nI_clamp (by omega)]
      exact g
    · unfold upd
      by_cases e : j = 6 * (A i).1 + (A i).2.1
      · rw [if_pos e]; exact ⟨_, clN_le _, rfl⟩
      · rw [if_neg e]; exact hC j hj
theorem enF_nv {fc : Nat → Bool} {k : Nat} {A : LNS} (hok : OKA fc k A) : ∀ (m i : Nat) (n : Nat → Int32), i + m = k → NVn n → ZR fc n → NVn (enF A m i n) ∧ ZR fc (enF A m i n)
  | 0, _, _, _, h1, h2 => ⟨h1, h2⟩
  | m + 1, i, n, h, h1, h2 => by
    obtain ⟨o1, o2, o3, o4, o5⟩ := hok.2 i (by omega)
    refine enF_nv hok m (i + 1) _ (by omega) ?_ ?_
    · obtain ⟨n1, n2, n3, n4, n5, n6⟩ := h1
      refine ⟨fun j hj => ?_, fun j hj => ?_, ?_, ?_, ?_, ?_⟩
      · unfold upd
        by_cases e : j = 6 * (A i).1 + (A i).2.1
        · rw [if_pos e]; exact ⟨_, clN_le _, rfl⟩
        · rw [if_neg e]; exact n1 j hj
      · unfold upd; rw [if_neg (by omega)]; exact n2 j hj
      · unfold upd; rw [if_neg (by omega)]; exact n3
      · unfold upd; rw [if_neg (by omega)]; exact n4
      · unfold upd; rw [if_neg (by omega)]; exact n5
      · unfold upd; rw [if_neg (by omega)]; exact n6
    · intro c g hc hg hz
      unfold upd
      have : c ≠ (A i).1 := fun e => by rw [e, o3] at hz; cases hz
      rw [if_neg (by omega)]
      exact h2 c g hc hg hz
/-! the reference -/
def AR (u : Wd) (k : Nat) (A : LNS) : Prop := u 110 35 = nI k ∧ ∀ i, i < k → u 131 i = nI (6 * (A i).1 + (A i).2.1) ∧ u 132 i = kI (A i).2.2
theorem AR.up {ch : Nat → Nat} {n k : Nat} {w u : Wd} {x : Int32} {A : LNS} {r : Nat × Nat × Int × Nat} (h : AR w k A) (hL : LneR ch n k w u x (.inr r)) : AR u (k + 1) (upA A k (r.1, r.2.1, r.2.2.1)) := by
  obtain ⟨-, -, -, l1, l2, l3, l5⟩ := hL
  refine ⟨l1, fun i hi => ?_⟩
  unfold upA
  by_cases e : i = k
  · subst e
    rw [if_pos rfl]
    exact ⟨l2, l3⟩
  · rw [if_neg e, (l5 i (by omega)).1, (l5 i (by omega)).2]
    exact h.2 i (by omega)
def GR (w u : Wd) : Prop := (∀ a, a ≠ 110 → a ≠ 131 → a ≠ 132 → u a = w a) ∧ ∀ j, j ≠ 10 → j ≠ 11 → j ≠ 13 → j ≠ 35 → u 110 j = w 110 j
theorem l_203 {X : Scr} {d n : Nat} {v1 : Int32} {w : Wd} {ch : Nat → Nat} {fc ft : Nat → Bool} {Q : Int32 → Wd → Prop} (hn : n ≤ 120) (hfc : ∀ c, c < 6 → (F_164_110 (nI c) w = 0 ↔ fc c = false)) (hft : ∀ c, c < 6 → (F_165_110 (nI c) w = 0 ↔ ft c = false))
    (kno : ∀ (u : Wd) (e : Int32), GR w u → u 110 10 = kI 0 → Q e u → Q e u) :
    ∀ (m k p : Nat) (A : LNS) (u : Wd), n ≤ p + m → GR w u → TXR u ch n p → k ≤ 20 → AR u k A → (∀ e, rpF ch fc ft m k A p = .inl e → ∀ u2, GR w u2 → u2 110 10 = kI 0 → Q e u2) → (∀ r, rpF ch fc ft m k A p = .inr r → ∀ u2, GR w u2 → u2 110 10 = kI 0 → AR u2 r.1 r.2 → EI X (d + 4) 203 (91, [some (.ref 110), some (.int v1), some (.int (kI 1)), some (.int (kI 0))], [], SH, u2) Q) → EI X (d + 4) 203 (35, [some (.ref 110), some (.int v1), some (.int (kI 1)), none], [], SH, u) Q := by
  intro m
  have fin : ∀ (u : Wd) (e : Int32), GR w u → u 110 13 = e → (∀ u2, GR w u2 → u2 110 10 = kI 0 → Q e u2) → EI X (d + 4) 203 (35, [some (.ref 110), some (.int v1), some (.int (kI 0)), none], [], SH, u) Q := by
    intro u e hG h13 q
    refine t203_110_at35 (d := d + 2) u _ _ ?_
    rw [if_pos (show kI 0 = 0 from rfl), h13]
    refine q _ ⟨fun a h1 h2 h3 => by rw [up2_ne h1]; exact hG.1 a h1 h2 h3, fun j h1 h2 h3 h4 => by rw [up2_at, if_neg h1]; exact hG.2 j h1 h2 h3 h4⟩ (by rw [up2_at, if_pos rfl])
  have good : ∀ (u : Wd) (k p : Nat) (A : LNS), ch p = 256 → GR w u → TXR u ch n p → AR u k A → (∀ u2, GR w u2 → u2 110 10 = kI 0 → AR u2 k A → EI X (d + 4) 203 (91, [some (.ref 110), some (.int v1), some (.int (kI 1)), some (.int (kI 0))], [], SH, u2) Q) → EI X (d + 4) 203 (35, [some (.ref 110), some (.int v1), some (.int (kI 1)), none], [], SH, u) Q := by
    intro u k p A h256 hG hT hA q
    have hpn := hT.2.2.2.1
    refine t203_110_at35 (d := d + 2) u _ _ ?_
    rw [if_neg (show ¬ kI 1 = 0 by decide), hT.1, hT.2.1, if_pos (nI_le (hT.end.mpr h256) (by omega))]
    refine q _ ⟨fun a h1 h2 h3 => by rw [up2_ne h1]; exact hG.1 a h1 h2 h3, fun j h1 h2 h3 h4 => by rw [up2_at, if_neg h1]; exact hG.2 j h1 h2 h3 h4⟩ (by rw [up2_at, if_pos rfl]) ?_
    unfold AR
    rw [up2_at, if_neg (by decide), up2_ne (by decide), up2_ne (by decide)]
    exact hA
  induction m with
  | zero =>
    intro k p A u hm hG hT hk hA q1 q2
    exact good u k p A (hT.end.mp (by omega)) hG hT hA (q2 (k, A) rfl)
  | succ m ih =>
    intro k p A u hm hG hT hk hA q1 q2
    have hpn := hT.2.2.2.1
    unfold rpF at q1 q2
    by_cases h256 : ch p = 256
    · simp only [if_pos h256] at q1 q2
      exact good u k p A h256 hG hT hA (q2 (k, A) rfl)
    · have hlt : p < n := Nat.lt_of_not_le (fun h => h256 (hT.end.mp h))
      have hle := hT.le
      simp only [if_neg h256] at q1 q2
      refine t203_110_at35 (d := d + 2) u _ _ ?_
      rw [if_neg (show ¬ kI 1 = 0 by decide), if_neg (show ¬ u 110 12 ≤ u 110 11 by rw [hT.1, hT.2.1]; exact nI_ge hlt (by omega))]
      refine ⟨hT.ix, ?_⟩
      by_cases h59 : ch p = 59
      · have es : F_175_110 u = kI 59 := by rw [hT.sg]; exact (enC_eq (k := 59) (by decide)).mpr h59
        have eF : F_178_110 (kI 59) u = kI 1 := by unfold F_178_110; rw [if_pos es]
        have eG : G_178_110 (kI 59) u = up2 u 110 11 (nI (p + 1)) := by unfold G_178_110; rw [if_pos es, hT.2.1, k1]
        rw [eF, if_neg (show ¬ kI 1 = 0 by decide), eG]
        simp only [if_pos h59] at q1 q2
        have hT1 := hT.sN (by omega)
        have hF1 : FLR u (up2 u 110 11 (nI (p + 1))) := FLR.q (Or.inl rfl)
        have hA1 : AR (up2 u 110 11 (nI (p + 1))) k A := by
          unfold AR
          rw [up2_at, if_neg (by decide), up2_ne (by decide), up2_ne (by decide)]
          exact hA
        refine CI.mono (c_202 (d := d + 1) (k := k) (fc := fc) (ft := ft) hk hT1 hA1.1 (fun c hc => by rw [c164 (w := w) (by rw [up2_at, if_neg (by decide)]; exact hG.2 6 (by decide) (by decide) (by decide) (by decide))]; exact hfc c hc) (fun c hc => by rw [c165 (w := w) (by rw [up2_at, if_neg (by decide)]; exact hG.2 7 (by decide) (by decide) (by decide) (by decide))]; exact hft c hc)) ?_
        intro x u2 hL
        have hG2 : GR w u2 := ⟨fun a h1 h2 h3 => by rw [hL.1.1 a h1 h2 h3, hF1.1 a h1 h2 h3]; exact hG.1 a h1 h2 h3, fun j h1 h2 h3 h4 => by rw [hL.1.2 j h2 h3 h4, hF1.2 j h2 h3 h4]; exact hG.2 j h1 h2 h3 h4⟩
        cases er : lneF ch fc ft k (p + 1) with
        | inl e =>
          rw [er] at hL q1
          rw [if_pos (show x = 0 from hL.2.1)]
          exact fin u2 e hG2 hL.2.2 (q1 e rfl)
        | inr r =>
          rw [er] at hL q1 q2
          obtain ⟨a1, a2, a3⟩ := lneF_ok er
          rw [if_neg (show ¬ x = 0 by rw [hL.2.1]; decide)]
          exact ih (k + 1) r.2.2.2 _ u2 (by omega) hG2 hL.2.2.1 (by omega) (hA1.up hL) q1 q2
      · have es : ¬ F_175_110 u = kI 59 := by rw [hT.sg]; exact fun e => h59 ((enC_eq (k := 59) (by decide)).mp e)
        have eF : F_178_110 (kI 59) u = kI 0 := by unfold F_178_110; rw [if_neg es]; rfl
        have eG : G_178_110 (kI 59) u = up2 u 110 13 (flt (kI 1) p) := by unfold G_178_110; rw [if_neg es, hT.fail]
        rw [eF, if_pos (show kI 0 = 0 from rfl), eG]
        simp only [if_neg h59] at q1
        exact fin _ _ ⟨fun a h1 h2 h3 => by rw [up2_ne h1]; exact hG.1 a h1 h2 h3, fun j h1 h2 h3 h4 => by rw [up2_at, if_neg h3]; exact hG.2 j h1 h2 h3 h4⟩ (by rw [up2_at, if_pos rfl]) (q1 _ rfl)
theorem l_203e {X : Scr} {d k : Nat} {v1 v2 : Int32} {w : Wd} {A : LNS} {fc : Nat → Bool} (hA : AR w k A) (hok : OKA fc k A) : ∀ (m i : Nat) (u : Wd) (n : Nat → Int32), i + m = k → u 111 = n → CT n → (∀ a, a ≠ 111 → u a = w a) → EI X (d + 4) 203 (91, [some (.ref 110), some (.int v1), some (.int v2), some (.int (nI i))], [], SH, u) (fun x u2 => x = nI k ∧ u2 111 = enF A m i n ∧ ∀ a, a ≠ 111 → u2 a = w a) := by
  intro m
  have hk20 := hok.1
  induction m with
  | zero =>
    intro i u n h hn hC hF
    refine t203_110_at91 (d := d + 2) u _ _ _ ?_
    rw [hF 110 (by decide), hA.1, if_pos (nI_le (by omega) (by omega))]
    exact ⟨rfl, hn, hF⟩
  | succ m ih =>
    intro i u n h hn hC hF
    obtain ⟨o1, o2, o3, o4, o5⟩ := hok.2 i (by omega)
    obtain ⟨a1, a2⟩ := hA.2 i (by omega)
    obtain ⟨x, hx, ex⟩ := hC (6 * (A i).1 + (A i).2.1) (by omega)
    refine t203_110_at91 (d := d + 2) u _ _ _ ?_
    rw [hF 110 (by decide), hA.1, if_neg (nI_ge (by omega) (by omega)), nI_clamp (by omega), hF 131 (by decide), hF 132 (by decide), a1, a2, nI_clamp (by omega), hn, ex, show nI x + kI (A i).2.2 = kI (x + (A i).2.2) by rw [← kI_of, kI_a], cl_r (by omega) (by omega), k1]
    refine ⟨inB_nI (by omega) (by decide), inB_nI (by omega) (by decide), inB_nI (by omega) (by decide), inB_nI (by omega) (by decide), inB_nI (by omega) (by decide), ?_⟩
    have g := ih (i + 1) (up2 u 111 (6 * (A i).1 + (A i).2.1) (nI (clN (x + (A i).2.2)))) (upd n (6 * (A i).1 + (A i).2.1) (nI (clN (x + (A i).2.2)))) (by omega) (by rw [up2_self, hn]) (fun j hj => ?_) (fun a ha => by rw [up2_ne ha]; exact hF a ha)
    · unfold enF
      rw [ex, nI_clamp (by omega)]
      exact g
    · unfold upd
      by_cases e : j = 6 * (A i).1 + (A i).2.1
      · rw [if_pos e]; exact ⟨_, clN_le _, rfl⟩
      · rw [if_neg e]; exact hC j hj
/-! the text on the tape -/
theorem txt_of {w : Wd} {n sz : Nat} (hT : IT w) (hs : w 1 1 = nI sz) (hn : n ≤ sz) (hz : sz ≤ 260) : ∃ ch : Nat → Nat, (∀ i, i < n → w 2 i = nI (ch i) ∧ ch i < 256 ∧ w 117 i &&& kI 255 = nI (ch i)) ∧ ∀ i, n ≤ i → ch i = 256 := by
  refine ⟨fun i => if i < n then (w 117 i).toBitVec.toNat % 256 else 256, fun i hi => ?_, fun i hi => ?_⟩
  · have h1 := hT.2.2 i (by omega) (by rw [hs]; exact nI_lt (by omega) (by omega))
    have h2 : w 117 i &&& kI 255 = nI ((w 117 i).toBitVec.toNat % 256) := pk_and (w 117 i) 8 (by decide)
    dsimp only
    rw [if_pos hi, h1, h2]
    exact ⟨rfl, Nat.mod_lt _ (by decide), rfl⟩
  · dsimp only
    rw [if_neg (by omega)]
theorem II.txt {w u : Wd} (h : II w) (s0 : ∀ a, stC a = true → a ≠ 8 → a ≠ 9 → a ≠ 111 → u a = w a) (b : IB u) (t1 : u 1 1 = kI 0) (t2 : u 110 10 = kI 0) (s1 : u 0 16 = w 0 16) (s2 : u 0 17 = w 0 17) (s4 : u 102 6 = w 102 6) (sj : ∀ j, (j = 6 ∨ j = 7 ∨ j = 8 ∨ j = 19 ∨ j = 56 ∨ j = 57 ∨ j = 64) → u 110 j = w 110 j) : II u := by
  obtain ⟨h1, h2, h3, h4, h5, h6, h7⟩ := h
  have e3 := s0 3 rfl (by decide) (by decide) (by decide)
  have e33 : u 3 3 = w 3 3 := by rw [e3]
  refine ⟨h1.cg e3 (s0 4 rfl (by decide) (by decide) (by decide)) (s0 5 rfl (by decide) (by decide) (by decide)) (s0 6 rfl (by decide) (by decide) (by decide)) (s0 114 rfl (by decide) (by decide) (by decide)) (s0 115 rfl (by decide) (by decide) (by decide)) (s0 116 rfl (by decide) (by decide) (by decide)) (sj 6 (by decide)) (sj 7 (by decide)) (sj 8 (by decide)), b,
    h3.cg e33 (s0 113 rfl (by decide) (by decide) (by decide)) s2 (sj 64 (by decide)) (s0 12 rfl (by decide) (by decide) (by decide)) (s0 13 rfl (by decide) (by decide) (by decide)) (s0 14 rfl (by decide) (by decide) (by decide)) (s0 15 rfl (by decide) (by decide) (by decide)) (s0 16 rfl (by decide) (by decide) (by decide)),
    ⟨by rw [t1, t2], by rw [t1]; exact ⟨0, by decide, rfl⟩, fun i hi hlt => ?_⟩,
    h5.cg (s0 22 rfl (by decide) (by decide) (by decide)) (s0 23 rfl (by decide) (by decide) (by decide)) (s0 24 rfl (by decide) (by decide) (by decide)) (s0 25 rfl (by decide) (by decide) (by decide)) (s0 26 rfl (by decide) (by decide) (by decide)) (s0 27 rfl (by decide) (by decide) (by decide)) (s0 28 rfl (by decide) (by decide) (by decide)) (s0 124 rfl (by decide) (by decide) (by decide)) (s0 125 rfl (by decide) (by decide) (by decide)) (s0 126 rfl (by decide) (by decide) (by decide)) (s0 127 rfl (by decide) (by decide) (by decide)) (s0 128 rfl (by decide) (by decide) (by decide)) (sj 19 (by decide)),
    h6.cg s1 (sj 57 (by decide)) (fun a h1 h2 => s0 a (by simp [stC]; omega) (by omega) (by omega) (by omega)) (s0 144 rfl (by decide) (by decide) (by decide)) (s0 145 rfl (by decide) (by decide) (by decide)),
    h7.cg (s0 103 rfl (by decide) (by decide) (by decide)) (s0 104 rfl (by decide) (by decide) (by decide)) (s0 105 rfl (by decide) (by decide) (by decide)) (s0 106 rfl (by decide) (by decide) (by decide)) (s0 140 rfl (by decide) (by decide) (by decide)) (s0 141 rfl (by decide) (by decide) (by decide)) (s0 142 rfl (by decide) (by decide) (by decide)) (s0 143 rfl (by decide) (by decide) (by decide)) s4 (sj 56 (by decide))⟩
  rw [t1] at hlt
  exact absurd hlt (nI_nlt (b := 0) (by omega) (by omega))
end REPORT3
