/-! months, part 10: monthGoes, monthsGo of the reference -/
section MONTHS10
variable {op ar : Nat → Nat} {lt : Nat → Int32} {la lm lb : Nat → Nat} {cnt len : Nat} {fc ft : Nat → Bool}
abbrev ST5 : Type := (Nat → Int32) × Int32 × Int32 × Int32 × Int32
/-- behind what happened (q) the end of the month -/
def mnE (fc ft : Nat → Bool) (AK : (Nat → Int32) → Int32) (T Pp : Nat → Int32) (sd : Int32) (q : (Nat → Int32) × Int32) (p : ST5) : ST5 :=
  if q.1 157 = kI 11 then (yeN ft T sd (stA fc ft AK T Pp 6 0 (q.1, p.2.2.2.1, p.2.2.2.2)).1, q.2, caF ft T (stA fc ft AK T Pp 6 0 (q.1, p.2.2.2.1, p.2.2.2.2)).1 6 0 p.2.2.1, (stA fc ft AK T Pp 6 0 (q.1, p.2.2.2.1, p.2.2.2.2)).2.1, (stA fc ft AK T Pp 6 0 (q.1, p.2.2.2.1, p.2.2.2.2)).2.2)
  else (upd q.1 157 (q.1 157 + kI 1), q.2, p.2.2.1, p.2.2.2.1, p.2.2.2.2)
def mnF (fc ft : Nat → Bool) (AN AD XL AK : (Nat → Int32) → Int32) (T Pp : Nat → Int32) (sd : Int32) (p : ST5) : ST5 := mnE fc ft AK T Pp sd (mcF (letL AN AD XL T Pp ft) fc 6 0 (p.1, p.2.1)) p
def msF (fc ft : Nat → Bool) (AN AD XL AK : (Nat → Int32) → Int32) (T Pp : Nat → Int32) (sd : Int32) : Nat → ST5 → ST5
  | 0, p => p
  | m + 1, p => if kI 999 ≤ p.1 158 then p else msF fc ft AN AD XL AK T Pp sd m (mnF fc ft AN AD XL AK T Pp sd p)
def RSt (fc : Nat → Bool) (w u : Wd) (p : ST5) : Prop := u 111 = p.1 ∧ NVn p.1 ∧ ZR fc p.1 ∧ u 110 36 = p.2.1 ∧ u 110 37 = p.2.2.1 ∧ u 110 38 = p.2.2.2.1 ∧ u 110 39 = p.2.2.2.2 ∧ (∀ j, j ≠ 36 → j ≠ 37 → j ≠ 38 → j ≠ 39 → j ≠ 40 → u 110 j = w 110 j) ∧ ∀ a, a ≠ 110 → a ≠ 111 → a ≠ 129 → a ≠ 130 → u a = w a
theorem NVn.mo {n : Nat → Int32} (h : NVn n) (hm : ¬ n 157 = kI 11) : NVn (upd n 157 (n 157 + kI 1)) := by
  obtain ⟨h1, h2, ⟨mo, hmo, e⟩, h4, h5, h6⟩ := h
  have hne : mo ≠ 11 := fun e2 => hm (by rw [e, e2]; rfl)
  refine ⟨fun i hi => ?_, fun i hi => ?_, ?_, ?_, ?_, ?_⟩
  · unfold upd; rw [if_neg (by omega)]; exact h1 i hi
  · unfold upd; rw [if_neg (by omega)]; exact h2 i hi
  · unfold upd; rw [if_pos rfl, e]; exact ⟨mo + 1, by omega, k1 mo⟩
  · unfold upd; rw [if_neg (by omega)]; exact h4
  · unfold upd; rw [if_neg (by omega)]; exact h5
  · unfold upd; rw [if_neg (by omega)]; exact h6
theorem y998 {x : Int32} (h : nn x 999) (h2 : ¬ kI 999 ≤ x) : nn x 998 := by
  obtain ⟨y, hy, rfl⟩ := h
  refine ⟨y, ?_, rfl⟩
  have : ¬ 999 ≤ y := fun e => h2 (nI_le (a := 999) e (by omega))
  omega
/-- stA leaves the year -/
theorem stG_158 {AK : (Nat → Int32) → Int32} {T Pp : Nat → Int32} {f : Nat} (hf : f < 6) : ∀ (m : Nat) (p : ST3), (stG fc AK T Pp f m p).1 158 = p.1 158
  | 0, _ => rfl
  | m + 1, p => by
    unfold stG
    split
    · rfl
    · have hlt := chF_lt (fc := fc) (K := fun c => AK (Vof p.1 T Pp c f (kI 11))) 6 0 (none, 0) (fun b hb => by cases hb)
      split
      · rfl
      · rename_i c hc
        split
        · rfl
        · have := hlt c hc
          rw [stG_158 hf m]
          show upd (upd p.1 159 _) (6 * c + f) _ 158 = p.1 158
          unfold upd
          rw [if_neg (by omega), if_neg (by omega)]
theorem stA_158 {AK : (Nat → Int32) → Int32} {T Pp : Nat → Int32} : ∀ (m f : Nat) (p : ST3), f + m = 6 → (stA fc ft AK T Pp m f p).1 158 = p.1 158
  | 0, _, _, _ => rfl
  | m + 1, f, p, h => by
    unfold stA
    rw [stA_158 m (f + 1) _ (by omega)]
    split
    · exact stG_158 (by omega) 200 p
    · rfl
theorem hap_158 {AN AD XL : (Nat → Int32) → Int32} {T Pp : Nat → Int32} {c f : Nat} {n : Nat → Int32} (hc : c < 6) (hf : f < 6) (hm : nn (n 157) 11) : hapN AN AD XL T Pp c f n 158 = n 158 := by
  obtain ⟨mo, hmo, e⟩ := hm
  unfold hapN
  rw [e, nI_clamp (by omega)]
  split
  · unfold upd; rw [if_neg (by omega), if_neg (by omega), if_neg (by omega)]
  · unfold upd; rw [if_neg (by omega)]
theorem l2_210 {X : Scr} {d : Nat} {w : Wd} {Q : Wd → Prop} (hL : LWR w op ar lt la lm lb cnt len) (hY : LWV op ar lt la lm lb cnt len) (hfc : ∀ c, c < 6 → (F_164_110 (nI c) w = 0 ↔ fc c = false)) (hft : ∀ f, f < 6 → (F_165_110 (nI f) w = 0 ↔ ft f = false)) : ∀ (m c : Nat) (u : Wd) (q : (Nat → Int32) × Int32), c + m = 6 → MRi fc w u q → (∀ u2, MRi fc w u2 (mcF (letL (lawA op ar lt la lm lb cnt (kI 110) 99) (lawA op ar lt la lm lb cnt (kI 100) 10) (lawX op ar lt lm lb cnt) (w 116) (w 114) ft) fc m c q) → EU X (d + 8) 210 (2, [some (.ref 110), some (.int (nI 6)), none], [], SH, u2) Q) → EU X (d + 8) 210 (2, [some (.ref 110), some (.int (nI c)), none], [], SH, u) Q := by
  intro m
  induction m with
  | zero =>
    intro c u q h hI kk
    have hc : c = 6 := by omega
    subst hc
    exact kk u hI
  | succ m ih =>
    intro c u q h hI kk
    have hc : c < 6 := by omega
    refine t210_110_at2 (d := d + 6) u _ ?_
    rw [if_neg (lt_6 c hc)]
    exact l10_210 (d := d) hc hL hY hfc hft 6 0 u q rfl hI (fun u2 h2 => ih (c + 1) u2 _ (by omega) h2 kk)
/-- monthGoes -/
theorem c_210 {X : Scr} {d : Nat} {w u : Wd} {p : ST5} (hL : LWR w op ar lt la lm lb cnt len) (hY : LWV op ar lt la lm lb cnt len) (hfc : ∀ c, c < 6 → (F_164_110 (nI c) w = 0 ↔ fc c = false)) (hft : ∀ f, f < 6 → (F_165_110 (nI f) w = 0 ↔ ft f = false)) (hsd : nn (w 110 8) 9999) (hI : RSt fc w u p) (hyr : ¬ kI 999 ≤ p.1 158) (h158 : (mcF (letL (lawA op ar lt la lm lb cnt (kI 110) 99) (lawA op ar lt la lm lb cnt (kI 100) 10) (lawX op ar lt lm lb cnt) (w 116) (w 114) ft) fc 6 0 (p.1, p.2.1)).1 158 = p.1 158) : CU X (d + 9) 210 [.ref 110] u (fun u2 => RSt fc w u2 (mnF fc ft (lawA op ar lt la lm lb cnt (kI 110) 99) (lawA op ar lt la lm lb cnt (kI 100) 10) (lawX op ar lt lm lb cnt) (lawA op ar lt la lm lb cnt (kI 107) 99) (w 116) (w 114) (w 110 8) p)) := by
  obtain ⟨i1, i2, i3, i4, i5, i6, i7, i8, i9⟩ := hI
  have eL : LWR u op ar lt la lm lb cnt len := hL.cg2 (i8 19 (by decide) (by decide) (by decide) (by decide) (by decide)) (fun a h1 h2 => i9 a (by omega) (by omega) (by omega) (by omega))
  have e6 : u 110 6 = w 110 6 := i8 6 (by decide) (by decide) (by decide) (by decide) (by decide)
  have e7 : u 110 7 = w 110 7 := i8 7 (by decide) (by decide) (by decide) (by decide) (by decide)
  have e8 : u 110 8 = w 110 8 := i8 8 (by decide) (by decide) (by decide) (by decide) (by decide)
  have e116 : u 116 = w 116 := i9 116 (by decide) (by decide) (by decide) (by decide)
  have e114 : u 114 = w 114 := i9 114 (by decide) (by decide) (by decide) (by decide)
  have hfu : ∀ c, c < 6 → (F_164_110 (nI c) u = 0 ↔ fc c = false) := fun c hc => by rw [c164 e6]; exact hfc c hc
  have hgu : ∀ f, f < 6 → (F_165_110 (nI f) u = 0 ↔ ft f = false) := fun f hf => by rw [c165 e7]; exact hft f hf
  refine CU.of rfl (t210_110_at0 (d := d + 6) u ?_)
  refine l2_210 (d := d) eL hY hfu hgu 6 0 u (p.1, p.2.1) rfl ⟨i1, i2, i3, i4, fun _ _ => rfl, fun _ _ _ _ _ => rfl⟩ ?_
  intro ua hA
  rw [e116, e114] at hA
  unfold mnF
  generalize mcF (letL (lawA op ar lt la lm lb cnt (kI 110) 99) (lawA op ar lt la lm lb cnt (kI 100) 10) (lawX op ar lt lm lb cnt) (w 116) (w 114) ft) fc 6 0 (p.1, p.2.1) = q at hA h158
  obtain ⟨a1, a2, a3, a4, a5, a6⟩ := hA
  refine t210_110_at2 (d := d + 6) ua _ ?_
  have k157 : (kI 157).toNatClampNeg = 157 := rfl
  rw [if_pos (by decide), k157, a1]
  unfold mnE
  have f6 : ua 110 6 = u 110 6 := a5 6 (by decide)
  have f7 : ua 110 7 = u 110 7 := a5 7 (by decide)
  by_cases hm : q.1 157 = kI 11
  · rw [if_pos hm, if_pos hm]
    have La : LWR ua op ar lt la lm lb cnt len := eL.cg2 (a5 19 (by decide)) (fun a h1 h2 => a6 a (by omega) (by omega) (by omega) (by omega))
    refine CU.mono (c_209 (d := d) (fc := fc) (ft := ft) La hY (fun c hc => by rw [c164 f6]; exact hfu c hc) (fun f hf => by rw [c165 f7]; exact hgu f hf) (by rw [a1]; exact a2) (by rw [a1]; exact a3)) ?_
    intro ub hB
    unfold YD at hB
    have g116 : ua 116 = w 116 := by rw [a6 116 (by decide) (by decide) (by decide) (by decide), e116]
    have g114 : ua 114 = w 114 := by rw [a6 114 (by decide) (by decide) (by decide) (by decide), e114]
    rw [g116, g114, a1, a5 8 (by decide), e8, a5 37 (by decide), i5, a5 38 (by decide), i6, a5 39 (by decide), i7] at hB
    obtain ⟨b1, b2, b3, b4, b5, b6, b7⟩ := hB
    have s158 : (stA fc ft (lawA op ar lt la lm lb cnt (kI 107) 99) (w 116) (w 114) 6 0 (q.1, p.2.2.2.1, p.2.2.2.2)).1 158 = p.1 158 := by rw [stA_158 6 0 _ rfl]; exact h158
    refine ⟨b1, b2.ye hsd (by rw [s158]; exact y998 i2.2.2.2.1 hyr), ?_, ?_, b5, b3, b4, fun j h1 h2 h3 h4 h5 => ?_, fun a h1 h2 h3 h4 => ?_⟩
    · intro c g hc hg _
      exact yeN_low (by omega)
    · rw [b6 36 (by decide) (by decide) (by decide) (by decide)]; exact a4
    · rw [b6 j h2 h3 h4 h5, a5 j h1]; exact i8 j h1 h2 h3 h4 h5
    · rw [b7 a h1 h2 h3 h4, a6 a h1 h2 h3 h4]; exact i9 a h1 h2 h3 h4
  · rw [if_neg hm, if_neg hm]
    refine ⟨?_, a2.mo hm, ?_, ?_, ?_, ?_, ?_, fun j h1 h2 h3 h4 h5 => ?_, fun a h1 h2 h3 h4 => ?_⟩
    · rw [up2_self, a1]
    · intro c g hc hg hz
      show upd q.1 157 _ (6 * c + g) = 0
      unfold upd
      rw [if_neg (by omega)]
      exact a3 c g hc hg hz
    · rw [up2_ne (by decide)]; exact a4
    · rw [up2_ne (by decide), a5 37 (by decide)]; exact i5
    · rw [up2_ne (by decide), a5 38 (by decide)]; exact i6
    · rw [up2_ne (by decide), a5 39 (by decide)]; exact i7
    · rw [up2_ne (by decide), a5 j h1]; exact i8 j h1 h2 h3 h4 h5
    · rw [up2_ne h2, a6 a h1 h2 h3 h4]; exact i9 a h1 h2 h3 h4
/-- what happens leaves the year -/
theorem letF_158 {AN AD XL : (Nat → Int32) → Int32} {T Pp : Nat → Int32} {c : Nat} (hc : c < 6) (hA : ∀ V, nn (AN V) 99) : ∀ (m f : Nat) (p : (Nat → Int32) × Int32), f + m = 6 → NVn p.1 → NVn (letF (hapN AN AD XL T Pp c) (hapH AN AD T Pp c) ft m f p).1 ∧ (letF (hapN AN AD XL T Pp c) (hapH AN AD T Pp c) ft m f p).1 158 = p.1 158
  | 0, _, p, _, h => ⟨h, rfl⟩
  | m + 1, f, p, h, hN => by
    unfold letF
    by_cases hf : ft f = true
    · rw [if_pos hf]
      obtain ⟨r1, r2⟩ := letF_158 (AN := AN) (AD := AD) (XL := XL) (T := T) (Pp := Pp) hc hA m (f + 1) (hapN AN AD XL T Pp c f p.1, p.2 + hapH AN AD T Pp c f p.1) (by omega) (hN.hap hc (by omega) hA)
      exact ⟨r1, by rw [r2]; exact hap_158 hc (by omega) hN.2.2.1⟩
    · rw [if_neg hf]
      exact letF_158 hc hA m (f + 1) p (by omega) hN
theorem mcF_158 {AN AD XL : (Nat → Int32) → Int32} {T Pp : Nat → Int32} (hA : ∀ V, nn (AN V) 99) : ∀ (m c : Nat) (p : (Nat → Int32) × Int32), c + m = 6 → NVn p.1 → NVn (mcF (letL AN AD XL T Pp ft) fc m c p).1 ∧ (mcF (letL AN AD XL T Pp ft) fc m c p).1 158 = p.1 158
  | 0, _, p, _, h => ⟨h, rfl⟩
  | m + 1, c, p, h, hN => by
    unfold mcF
    by_cases hf : fc c = true
    · rw [if_pos hf]
      obtain ⟨q1, q2⟩ := letF_158 (ft := ft) (AN := AN) (AD := AD) (XL := XL) (T := T) (Pp := Pp) (c := c) (by omega) hA 6 0 p rfl hN
      obtain ⟨r1, r2⟩ := mcF_158 (AN := AN) (AD := AD) (XL := XL) (T := T) (Pp := Pp) hA m (c + 1) (letL AN AD XL T Pp ft c p) (by omega) q1
      exact ⟨r1, by rw [r2]; exact q2⟩
    · rw [if_neg hf]
      exact mcF_158 hA m (c + 1) p (by omega) hN
theorem l_211 {X : Scr} {d n : Nat} {w : Wd} (hn : n ≤ 60) (hL : LWR w op ar lt la lm lb cnt len) (hY : LWV op ar lt la lm lb cnt len) (hfc : ∀ c, c < 6 → (F_164_110 (nI c) w = 0 ↔ fc c = false)) (hft : ∀ f, f < 6 → (F_165_110 (nI f) w = 0 ↔ ft f = false)) (hsd : nn (w 110 8) 9999) : ∀ (m k : Nat) (u : Wd) (p : ST5), k + m = n → RSt fc w u p → EU X (d + 9) 211 (22, [some (.ref 110), some (.int (nI n)), some (.int (nI k))], [], SH, u) (fun u2 => RSt fc w u2 (msF fc ft (lawA op ar lt la lm lb cnt (kI 110) 99) (lawA op ar lt la lm lb cnt (kI 100) 10) (lawX op ar lt lm lb cnt) (lawA op ar lt la lm lb cnt (kI 107) 99) (w 116) (w 114) (w 110 8) m p)) := by
  intro m
  induction m with
  | zero =>
    intro k u p h hI
    have hk : k = n := by omega
    subst hk
    refine t211_110_at22 (d := d + 8) u _ _ ?_
    rw [if_pos (Int32.le_refl _)]
    exact hI
  | succ m ih =>
    intro k u p h hI
    have k158 : (kI 158).toNatClampNeg = 158 := rfl
    refine t211_110_at22 (d := d + 8) u _ _ ?_
    rw [if_neg (nI_ge (by omega) (by omega)), k158, hI.1, k1]
    unfold msF
    by_cases hy : kI 999 ≤ p.1 158
    · rw [if_pos hy, if_pos hy]; exact hI
    · rw [if_neg hy, if_neg hy]
      have h158 := (mcF_158 (fc := fc) (ft := ft) (AN := lawA op ar lt la lm lb cnt (kI 110) 99) (AD := lawA op ar lt la lm lb cnt (kI 100) 10) (XL := lawX op ar lt lm lb cnt) (T := w 116) (Pp := w 114) (fun V => by unfold lawA; exact askF_nn (by decide) _ _) 6 0 (p.1, p.2.1) rfl hI.2.1).2
      exact CU.mono (c_210 (d := d) hL hY hfc hft hsd hI hy h158) (fun u2 h2 => ih (k + 1) u2 _ (by omega) h2)
/-- monthsGo -/
theorem c_211 {X : Scr} {d n : Nat} {w : Wd} (hn : n ≤ 60) (hL : LWR w op ar lt la lm lb cnt len) (hY : LWV op ar lt la lm lb cnt len) (hfc : ∀ c, c < 6 → (F_164_110 (nI c) w = 0 ↔ fc c = false)) (hft : ∀ f, f < 6 → (F_165_110 (nI f) w = 0 ↔ ft f = false)) (hsd : nn (w 110 8) 9999) (hN : NVn (w 111)) (hZ : ZR fc (w 111)) : CU X (d + 10) 211 [.ref 110, .int (nI n)] w (fun u2 => RSt fc w u2 (msF fc ft (lawA op ar lt la lm lb cnt (kI 110) 99) (lawA op ar lt la lm lb cnt (kI 100) 10) (lawX op ar lt lm lb cnt) (lawA op ar lt la lm lb cnt (kI 107) 99) (w 116) (w 114) (w 110 8) n (w 111, kI 0, kI 0, kI 0, kI 0))) := by
  refine CU.of rfl (t211_110_at0 (d := d + 8) w _ ?_)
  refine l_211 hn hL hY hfc hft hsd n 0 _ (w 111, kI 0, kI 0, kI 0, kI 0) (Nat.zero_add _) ⟨?_, hN, hZ, rfl, rfl, rfl, rfl, fun j h1 h2 h3 h4 h5 => ?_, fun a h1 h2 h3 h4 => ?_⟩
  · rw [up2_ne (by decide), up2_ne (by decide), up2_ne (by decide), up2_ne (by decide)]
  · rw [up2_at, if_neg h4, up2_at, if_neg h3, up2_at, if_neg h2, up2_at, if_neg h1]
  · rw [up2_ne h1, up2_ne h1, up2_ne h1, up2_ne h1]
end MONTHS10
