/-! halves, part 3: the reference -/
section MATCHR
theorem ad_eq {w : Wd} {r e : Nat} (hR : IR w) (hr : r < 20) (he : e < 20) : F_246_110 (nI r) (nI e) w = F_8_102 (nI r) (nI e) w := by
  obtain ⟨r1, -, r3⟩ := hR
  obtain ⟨a1, a2, a3, a4, -⟩ := r3 r hr
  obtain ⟨b1, b2, b3, b4, -⟩ := r3 e he
  unfold F_246_110 F_8_102 F_160
  rw [if_neg (in19 hr), if_neg (in19 he), nI_clamp (by omega), nI_clamp (by omega), r1, a1, a2, a3, a4, b1, b2, b3, b4, Int32.zero_sub]
  by_cases t1 : F_154 (w 102 6) (nI r) w = 0
  · rw [if_pos t1, if_pos (show F_161 (w 102 6) (nI r) w = 0 from t1)]
  rw [if_neg t1, if_neg (show ¬ F_161 (w 102 6) (nI r) w = 0 from t1)]
  by_cases t2 : F_154 (w 102 6) (nI e) w = 0
  · rw [if_pos t2, if_pos (show F_161 (w 102 6) (nI e) w = 0 from t2)]
  rw [if_neg t2, if_neg (show ¬ F_161 (w 102 6) (nI e) w = 0 from t2)]
  by_cases c1 : w 103 r = w 103 e
  · by_cases c2 : w 106 r = w 106 e
    · by_cases c3 : w 104 r = w 104 e
      · simp only [if_pos c1, if_pos c2, if_pos c3]
      · simp only [if_pos c1, if_pos c2, if_neg c3, ite_self]
    · simp only [if_pos c1, if_neg c2, ite_self]
  · simp only [if_neg c1, ite_self]
/-- a two has an even and an odd hour -/
theorem ad_par {w : Wd} {r e : Nat} (hR : IR w) (hr : r < 20) (he : e < 20) (h : adF w r e = true) : evF2 w r = !evF2 w e := by
  obtain ⟨n, hn, en⟩ := (hR.2.2 r hr).2.2.2.2.2.2.1
  obtain ⟨m, hm, em⟩ := (hR.2.2 e he).2.2.2.2.2.2.1
  have h1 : ¬ F_8_102 (nI r) (nI e) w = 0 := by
    unfold adF at h
    simpa using h
  have hd : dst n m = 1 ∨ dst n m = 23 := by
    unfold F_8_102 at h1
    rw [if_neg (in19 hr), if_neg (in19 he), nI_clamp (by omega), nI_clamp (by omega), en, em, abs_sub (by omega) (by omega)] at h1
    have hb : dst n m ≤ 23 := dst_le hn hm
    by_cases t1 : F_154 (w 102 6) (nI r) w = 0
    · rw [if_pos t1] at h1; exact absurd rfl h1
    rw [if_neg t1] at h1
    by_cases t2 : F_154 (w 102 6) (nI e) w = 0
    · rw [if_pos t2] at h1; exact absurd rfl h1
    rw [if_neg t2] at h1
    by_cases t3 : nI (dst n m) = kI 1
    · exact Or.inl (nI_inj (a := dst n m) (b := 1) (by omega) (by decide) t3)
    rw [if_neg t3] at h1
    by_cases t4 : nI (dst n m) = kI 23
    · exact Or.inr (nI_inj (a := dst n m) (b := 23) (by omega) (by decide) t4)
    rw [if_neg t4] at h1
    exact absurd rfl h1
  unfold evF2
  have e1 : (nI n - nI n / kI 2 * kI 2) = nI (n % 2) := pk_rem (d := 2) (by omega) (by decide) (by decide)
  have e2 : (nI m - nI m / kI 2 * kI 2) = nI (m % 2) := pk_rem (d := 2) (by omega) (by decide) (by decide)
  rw [en, em, e1, e2]
  unfold dst at hd
  by_cases p : n % 2 = 0
  · rw [decide_eq_true (by rw [p]; rfl), decide_eq_false (by rw [nI_z (by omega)]; omega)]
    rfl
  · rw [decide_eq_false (by rw [nI_z (by omega)]; omega), decide_eq_true (by rw [show m % 2 = 0 by omega]; rfl)]
    rfl
def PRt (ev : Nat → Bool) (T : Nat → Option Nat) : Nat → Option Nat := fun e => if ev e then none else T e
def TM (adj : Nat → Nat → Bool) (ev : Nat → Bool) (T : Nat → Option Nat) (L : Nat → Bool) : Prop := (∀ e l, e < 20 → ev e = false → T e = some l → l < 20 ∧ ev l = true ∧ adj l e = true ∧ T l = some e) ∧ (∀ l e, l < 20 → ev l = true → T l = some e → e < 20 ∧ ev e = false ∧ T e = some l) ∧ CN (PRt ev T) L
theorem TM.hasno {adj : Nat → Nat → Bool} {ev : Nat → Bool} {T : Nat → Option Nat} {L : Nat → Bool} (h : TM adj ev T L) {r : Nat} (hr : r < 20) (he : ev r = true) (hL : L r = false) : T r = none := by
  cases e : T r with
  | none => rfl
  | some x =>
    obtain ⟨a1, a2, a3⟩ := h.2.1 r x hr he e
    have h1 : PRt ev T x = some r := by unfold PRt; rw [a2]; exact a3
    have h2 := cnP_pos h1 20 a1
    have h3 := h.2.2 r
    rw [hL] at h3
    have : Bool.toNat false = 0 := rfl
    omega
theorem TM.vm {adj : Nat → Nat → Bool} {ev : Nat → Bool} {T : Nat → Option Nat} {L : Nat → Bool} (h : TM adj ev T L) : VMt adj (PRt ev T) := by
  intro e l he hl
  unfold PRt at hl
  cases hv : ev e with
  | true => rw [hv] at hl; cases hl
  | false =>
    rw [hv] at hl
    have := h.1 e l he hv hl
    exact ⟨this.1, this.2.2.1⟩
theorem upO_at {T : Nat → Option Nat} {e : Nat} {v : Option Nat} : upO T e v e = v := if_pos rfl
theorem upO_ne {T : Nat → Option Nat} {e i : Nat} {v : Option Nat} (h : i ≠ e) : upO T e v i = T i := if_neg h
/-- l gets the free e, where l had none -/
theorem TM.add {adj : Nat → Nat → Bool} {ev : Nat → Bool} {T : Nat → Option Nat} {L : Nat → Bool} {r e : Nat} (h : TM adj ev T L) (hr : r < 20) (he : e < 20) (hvr : ev r = true) (hve : ev e = false) (ha : adj r e = true) (h1 : T e = none) (hL : L r = false) : TM adj ev (upO (upO T r (some e)) e (some r)) (addL L r) := by
  have hTr := h.hasno hr hvr hL
  have hne : r ≠ e := fun x => by rw [x, hve] at hvr; cases hvr
  refine ⟨fun x l hx hvx hl => ?_, fun l x hl2 hvl hx => ?_, fun l => ?_⟩
  · by_cases e1 : x = e
    · rw [e1, upO_at] at hl
      have e2 := Option.some.inj hl
      rw [← e2, e1]
      exact ⟨hr, hvr, ha, by rw [upO_ne hne, upO_at]⟩
    · have e2 : x ≠ r := fun z => by rw [z, hvr] at hvx; cases hvx
      rw [upO_ne e1, upO_ne e2] at hl
      obtain ⟨a1, a2, a3, a4⟩ := h.1 x l hx hvx hl
      have e3 : l ≠ e := fun z => by rw [z, hve] at a2; cases a2
      have e4 : l ≠ r := fun z => by rw [z, hTr] at a4; cases a4
      exact ⟨a1, a2, a3, by rw [upO_ne e3, upO_ne e4]; exact a4⟩
  · have e3 : l ≠ e := fun z => by rw [z, hve] at hvl; cases hvl
    rw [upO_ne e3] at hx
    by_cases e4 : l = r
    · rw [e4, upO_at] at hx
      have e2 := Option.some.inj hx
      rw [← e2, e4]
      exact ⟨he, hve, upO_at⟩
    · rw [upO_ne e4] at hx
      obtain ⟨a1, a2, a3⟩ := h.2.1 l x hl2 hvl hx
      have e5 : x ≠ e := fun z => by rw [z, h1] at a3; cases a3
      have e6 : x ≠ r := fun z => by rw [z, hvr] at a2; cases a2
      exact ⟨a1, a2, by rw [upO_ne e5, upO_ne e6]; exact a3⟩
  · have eq : ∀ x, x < 20 → PRt ev (upO (upO T r (some e)) e (some r)) x = upO (PRt ev T) e (some r) x := by
      intro x _
      unfold PRt
      by_cases e1 : x = e
      · rw [e1, upO_at, upO_at, hve]; rfl
      · rw [upO_ne e1, upO_ne e1]
        cases hvx : ev x with
        | true => rfl
        | false =>
          have e2 : x ≠ r := fun z => by rw [z, hvr] at hvx; cases hvx
          rw [upO_ne e2]
    rw [cnP_cg 20 eq]
    have h2 := cnP_up (P := PRt ev T) (e := e) (l := l) (v := some r) 20 he
    have h3 := h.2.2 l
    have h4 : PRt ev T e = none := by unfold PRt; rw [hve]; exact h1
    rw [h4, if_neg (show ¬ (none : Option Nat) = some l by intro z; cases z)] at h2
    unfold addL
    by_cases e1 : l = r
    · rw [if_pos (by rw [e1])] at h2
      rw [e1, hL] at h3
      rw [e1, hL, decide_eq_true rfl]
      rw [e1] at h2
      have : Bool.toNat false = 0 := rfl
      have h5 : Bool.toNat (false || true) = 1 := rfl
      omega
    · rw [if_neg (fun z => e1 (Option.some.inj z).symm)] at h2
      rw [decide_eq_false e1, Bool.or_false]
      omega
/-- a moves from f to the free e -/
theorem TM.mv {adj : Nat → Nat → Bool} {ev : Nat → Bool} {T : Nat → Option Nat} {L : Nat → Bool} {a e f : Nat} (h : TM adj ev T L) (ha : a < 20) (he : e < 20) (hf : f < 20) (hva : ev a = true) (hve : ev e = false) (hvf : ev f = false) (had : adj a e = true) (h1 : T e = none) (h2 : T f = some a) (h3 : T a = some f) : TM adj ev (upO (upO (upO T a (some e)) e (some a)) f none) L := by
  have hae : a ≠ e := fun x => by rw [x, hve] at hva; cases hva
  have haf : a ≠ f := fun x => by rw [x, hvf] at hva; cases hva
  have hef : e ≠ f := fun x => by rw [x, h2] at h1; cases h1
  refine ⟨fun x l hx hvx hl => ?_, fun l x hl2 hvl hx => ?_, fun l => ?_⟩
  · by_cases e0 : x = f
    · rw [e0, upO_at] at hl; cases hl
    · rw [upO_ne e0] at hl
      by_cases e1 : x = e
      · rw [e1, upO_at] at hl
        have e2 := Option.some.inj hl
        rw [← e2, e1]
        exact ⟨ha, hva, had, by rw [upO_ne haf, upO_ne hae, upO_at]⟩
      · have e2 : x ≠ a := fun z => by rw [z, hva] at hvx; cases hvx
        rw [upO_ne e1, upO_ne e2] at hl
        obtain ⟨a1, a2, a3, a4⟩ := h.1 x l hx hvx hl
        have e3 : l ≠ e := fun z => by rw [z, hve] at a2; cases a2
        have e5 : l ≠ f := fun z => by rw [z, hvf] at a2; cases a2
        have e4 : l ≠ a := fun z => by rw [z, h3] at a4; exact e0 (Option.some.inj a4).symm
        exact ⟨a1, a2, a3, by rw [upO_ne e5, upO_ne e3, upO_ne e4]; exact a4⟩
  · have e3 : l ≠ e := fun z => by rw [z, hve] at hvl; cases hvl
    have e5 : l ≠ f := fun z => by rw [z, hvf] at hvl; cases hvl
    rw [upO_ne e5, upO_ne e3] at hx
    by_cases e4 : l = a
    · rw [e4, upO_at] at hx
      have e2 := Option.some.inj hx
      rw [← e2, e4]
      exact ⟨he, hve, by rw [upO_ne hef, upO_at]⟩
    · rw [upO_ne e4] at hx
      obtain ⟨a1, a2, a3⟩ := h.2.1 l x hl2 hvl hx
      have e6 : x ≠ e := fun z => by rw [z, h1] at a3; cases a3
      have e7 : x ≠ a := fun z => by rw [z, hva] at a2; cases a2
      have e8 : x ≠ f := fun z => by rw [z, h2] at a3; exact e4 (Option.some.inj a3).symm
      exact ⟨a1, a2, by rw [upO_ne e8, upO_ne e6, upO_ne e7]; exact a3⟩
  · have eq : ∀ x, x < 20 → PRt ev (upO (upO (upO T a (some e)) e (some a)) f none) x = upO (upO (PRt ev T) e (some a)) f none x := by
      intro x _
      unfold PRt
      by_cases e0 : x = f
      · rw [e0, upO_at, upO_at, hvf]; rfl
      · rw [upO_ne e0, upO_ne e0]
        by_cases e1 : x = e
        · rw [e1, upO_at, upO_at, hve]; rfl
        · rw [upO_ne e1, upO_ne e1]
          cases hvx : ev x with
          | true => rfl
          | false =>
            have e2 : x ≠ a := fun z => by rw [z, hva] at hvx; cases hvx
            rw [upO_ne e2]
    rw [cnP_cg 20 eq]
    have k1 := cnP_up (P := PRt ev T) (e := e) (l := l) (v := some a) 20 he
    have k2 := cnP_up (P := upO (PRt ev T) e (some a)) (e := f) (l := l) (v := none) 20 hf
    have h4 : PRt ev T e = none := by unfold PRt; rw [hve]; exact h1
    have h5 : upO (PRt ev T) e (some a) f = some a := by rw [upO_ne (fun z => hef z.symm)]; unfold PRt; rw [hvf]; exact h2
    rw [h4, if_neg (show ¬ (none : Option Nat) = some l by intro z; cases z)] at k1
    rw [h5, if_neg (show ¬ (none : Option Nat) = some l by intro z; cases z)] at k2
    have := h.2.2 l
    omega
/-! changesTwos -/
def PRm (w u : Wd) (T B : Nat → Option Nat) : Prop := (∀ a, a ≠ 148 → a ≠ 149 → u a = w a) ∧ (∀ i, i < 20 → u 148 i = enO (T i)) ∧ ∀ i, i < 20 → u 149 i = enO (B i)
def CHn (adj : Nat → Nat → Bool) (ev : Nat → Bool) (r : Nat) (S : Nat → Bool) (rk : Nat → Nat) (B T0 : Nat → Option Nat) : Prop := ∀ e, e < 20 → S e = true → ev e = false ∧ ∃ a, B e = some a ∧ a < 20 ∧ ev a = true ∧ adj a e = true ∧ (a = r ∨ ∃ f, f < 20 ∧ S f = true ∧ rk f < rk e ∧ T0 f = some a)
theorem l_248 {X : Scr} {d r : Nat} {v1 : Int32} {w : Wd} {adj : Nat → Nat → Bool} {ev : Nat → Bool} {L S : Nat → Bool} {rk : Nat → Nat} {B T0 : Nat → Option Nat} (hr : r < 20) (hvr : ev r = true) (hL : L r = false) (hCH : CHn adj ev r S rk B T0) (hT0 : TM adj ev T0 L) : ∀ (m e : Nat) (T : Nat → Option Nat) (u : Wd), rk e < m → e < 20 → S e = true → PRm w u T B → TM adj ev (upO T e none) L → (∀ f, f < 20 → S f = true → rk f < rk e → ∀ l, T0 f = some l → T f = some l ∧ T l = some f) → EU X (d + 1) 248 (2, [some (.ref 110), some (.int v1), some (.int (nI e)), none, none], [], SH, u) (fun u2 => ∃ T2, PRm w u2 T2 B ∧ TM adj ev T2 (addL L r)) := by
  intro m
  induction m with
  | zero => intro e T u h; omega
  | succ m ih =>
    intro e T u hm he hS hP hM hU
    obtain ⟨hve, a, hB, ha, hva, had, hch⟩ := hCH e he hS
    have hae : a ≠ e := fun x => by rw [x, hve] at hva; cases hva
    refine t248_110_at2 u _ _ ?_
    rw [if_neg (nI_m1 (by omega)), nI_clamp (by omega), hP.2.2 e he, hB, show enO (some a) = nI a from rfl, nI_clamp (by omega), hP.2.1 a ha]
    refine ⟨inB_nI he (by decide), inB_nI ha (by decide), inB_nI ha (by decide), inB_nI he (by decide), ?_⟩
    have hP2 : PRm w (up2 (up2 u 148 a (nI e)) 148 e (nI a)) (upO (upO T a (some e)) e (some a)) B := by
      refine ⟨fun b h1 h2 => by rw [up2_ne h1, up2_ne h1]; exact hP.1 b h1 h2, fun i hi => ?_, fun i hi => by rw [up2_ne (by decide), up2_ne (by decide)]; exact hP.2.2 i hi⟩
      rw [up2_at]
      unfold upO
      by_cases e1 : i = e
      · rw [if_pos e1, if_pos e1]; rfl
      · rw [if_neg e1, if_neg e1, up2_at]
        by_cases e2 : i = a
        · rw [if_pos e2, if_pos e2]; rfl
        · rw [if_neg e2, if_neg e2]; exact hP.2.1 i hi
    have nn : ∀ U : Nat → Option Nat, upO (upO U a (some e)) e (some a) = upO (upO (upO U e none) a (some e)) e (some a) := by
      intro U
      funext i
      unfold upO
      by_cases e1 : i = e
      · rw [if_pos e1, if_pos e1]
      · rw [if_neg e1, if_neg e1]
        by_cases e2 : i = a
        · rw [if_pos e2, if_pos e2]
        · rw [if_neg e2, if_neg e2, if_neg e1]
    by_cases har : a = r
    · have hTr : T a = none := by
        have := hM.hasno ha hva (by rw [har]; exact hL)
        rw [upO_ne hae] at this
        exact this
      rw [hTr]
      refine t248_110_at2 _ _ _ ?_
      rw [if_pos (show enO none = kI (-1) from rfl)]
      refine ⟨_, hP2, ?_⟩
      rw [nn, har]
      exact hM.add hr he hvr hve (by rw [← har]; exact had) upO_at hL
    · rcases hch with hch | ⟨f, hf, hSf, hrk, hT0f⟩
      · exact absurd hch har
      · obtain ⟨u1, u2⟩ := hU f hf hSf hrk a hT0f
        have hvf := (hCH f hf hSf).1
        have hef : f ≠ e := fun x => by rw [x] at hrk; omega
        have haf : a ≠ f := fun x => by rw [x, hvf] at hva; cases hva
        rw [u2, show enO (some f) = nI f from rfl]
        refine ih f _ _ (by omega) hf hSf hP2 ?_ (fun g hg hSg hrg l hl => ?_)
        · rw [nn]
          exact hM.mv ha he hf hva hve hvf had upO_at (by rw [upO_ne hef]; exact u1) (by rw [upO_ne hae]; exact u2)
        · obtain ⟨v1, v2⟩ := hU g hg hSg (by omega) l hl
          have hvg := (hCH g hg hSg).1
          obtain ⟨b1, b2, b3, b4⟩ := hT0.1 g l hg hvg hl
          obtain ⟨c1, c2, c3, c4⟩ := hT0.1 f a hf hvf hT0f
          have hla : l ≠ a := fun x => by
            rw [x, c4] at b4
            have := Option.some.inj b4
            rw [this] at hrg
            omega
          have hle : l ≠ e := fun x => by rw [x, hve] at b2; cases b2
          have hga : g ≠ a := fun x => by rw [x, hva] at hvg; cases hvg
          have hge : g ≠ e := fun x => by rw [x] at hrg; omega
          exact ⟨by rw [upO_ne hge, upO_ne hga]; exact v1, by rw [upO_ne hle, upO_ne hla]; exact v2⟩
end MATCHR
