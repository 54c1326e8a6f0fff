/-! rules, part 3: the reference's readsRule and the rules of law -/
section RULES3
def RU2 (u : Wd) (rl : Nat → Ru) (i : Nat) : Prop := u 120 i = nI (rl i).1 ∧ u 121 i = nI (rl i).2.1 ∧ u 122 i = nI (rl i).2.2.1 ∧ u 123 i = nI (rl i).2.2.2
def GRr (w u : Wd) : Prop := (∀ a, a ≠ 110 → (a < 118 ∨ 123 < a) → u a = w a) ∧ ∀ j, (j < 11 ∨ j = 12 ∨ 18 < j) → u 110 j = w 110 j
theorem GRr.refl (w : Wd) : GRr w w := ⟨fun _ _ _ => rfl, fun _ _ => rfl⟩
theorem GRr.trans {w u v : Wd} (h : GRr w u) (g : GRr u v) : GRr w v := ⟨fun a h1 h2 => (g.1 a h1 h2).trans (h.1 a h1 h2), fun j hj => (g.2 j hj).trans (h.2 j hj)⟩
theorem GRr.gp {w u : Wd} (h : GPr w u) : GRr w u := ⟨fun a h1 h2 => h.1 a h1 (by omega) (by omega), fun j hj => h.2 j (by omega)⟩
theorem GRr.p {w u : Wd} {a k : Nat} {v : Int32} (h : GRr w u) (ha : 118 ≤ a ∧ a ≤ 123) : GRr w (up2 u a k v) := ⟨fun b h1 h2 => by rw [up2_ne (by omega)]; exact h.1 b h1 h2, fun j hj => by rw [up2_ne (by omega)]; exact h.2 j hj⟩
theorem GRr.q {w u : Wd} {k : Nat} {v : Int32} (h : GRr w u) (hk : ¬ (k < 11 ∨ k = 12 ∨ 18 < k)) : GRr w (up2 u 110 k v) := ⟨fun b h1 h2 => by rw [up2_ne h1]; exact h.1 b h1 h2, fun j hj => by rw [up2_at, if_neg (fun e => hk (by rw [← e]; exact hj))]; exact h.2 j hj⟩
def RSr (w u : Wd) (ch : Nat → Nat) (n : Nat) (x : RuS) : Prop := GRr w u ∧ TXR u ch n x.1.1 ∧ CDR u x.1.2 ∧ x.1.2.2.2 ≤ x.1.1 ∧ n ≤ 240 ∧ u 110 18 = nI x.2.2 ∧ x.2.2 ≤ 16 ∧ ∀ i, i < x.2.2 → RU2 u x.2.1 i
def RSq (w u : Wd) (ch : Nat → Nat) (n : Nat) (t : PSs) (rl : Nat → Ru) (m z a : Nat) : Prop := GRr w u ∧ TXR u ch n t.1 ∧ CDR u t.2 ∧ t.2.2.2 ≤ t.1 ∧ n ≤ 240 ∧ u 110 18 = nI m ∧ m < 16 ∧ (∀ i, i < m → RU2 u rl i) ∧ u 120 m = nI z ∧ u 121 m = nI a
theorem rb_r {X : Scr} {e n m z a : Nat} {w u : Wd} {ch : Nat → Nat} {t : PSs} {rl : Nat → Ru} {Q : Int32 → Wd → Prop} (h : RSq w u ch n t rl m z a) (q0 : ∀ r, bkF ch 6 t = .inl r → ∀ v, GRr w v → v 110 13 = r → Q (kI 0) v) (q1 : ∀ q, bkF ch 6 t = .inr q → ∀ v, RSr w v ch n (q, updR rl m (z, a, t.2.2.2, q.2.2.2), m + 1) → Q (kI 1) v) : CI X (e + 7) 193 [.ref 110] (up2 u 122 m (nI t.2.2.2)) (fun x3 w3 => (if x3 = 0 then Q (kI 0) w3 else (inB (w3 110 18) 16 = true ∧ Q (kI 1) (up2 (up2 w3 123 (w3 110 18).toNatClampNeg (w3 110 16)) 110 18 ((w3 110 18) + (kI 1)))))) := by
  obtain ⟨h1, h2, h3, h5, h6, h7, h8, h9, h10, h11⟩ := h
  have hG0 : GRr w (up2 u 122 m (nI t.2.2.2)) := h1.p (by decide)
  refine c_193 (e := e) (w := up2 u 122 m (nI t.2.2.2)) (GPr.refl _) (h2.cg (by rw [up2_ne (by decide)]) (by rw [up2_ne (by decide)]) (up2_ne (by decide))) (h3.cg (by rw [up2_ne (by decide)]) (up2_ne (by decide))) h5 h6 (fun r er v g1 g2 => ?_) (fun q er v hv => ?_)
  · rw [if_pos (by decide)]
    exact q0 r er v (hG0.trans (GRr.gp g1)) g2
  · rw [if_neg (by decide)]
    obtain ⟨g1, s2, s3, s4, s5, s6, s7, s8, s9, s10⟩ := hv
    have hb : q.2.2.2 + 0 ≤ q.1 := s8
    have f18 : v 110 18 = nI m := by rw [g1.2 18 (by omega), up2_ne (by decide)]; exact h7
    have f120 : v 120 = u 120 := by rw [g1.1 120 (by decide) (by decide) (by decide), up2_ne (by decide)]
    have f121 : v 121 = u 121 := by rw [g1.1 121 (by decide) (by decide) (by decide), up2_ne (by decide)]
    have f122 : ∀ i, v 122 i = if i = m then nI t.2.2.2 else u 122 i := by intro i; rw [g1.1 122 (by decide) (by decide) (by decide), up2_at]
    have f123 : v 123 = u 123 := by rw [g1.1 123 (by decide) (by decide) (by decide), up2_ne (by decide)]
    refine ⟨by rw [f18]; exact inB_nI h8 (by decide), ?_⟩
    rw [f18, nI_clamp (by omega), s3.1, k1]
    refine q1 q er _ ⟨((hG0.trans (GRr.gp g1)).p (by decide)).q (by omega), s2.cg (by rw [up2_at, if_neg (by decide), up2_ne (by decide)]) (by rw [up2_at, if_neg (by decide), up2_ne (by decide)]) (by rw [up2_ne (by decide), up2_ne (by decide)]), s3.cg (by rw [up2_at, if_neg (by decide), up2_ne (by decide)]) (by rw [up2_ne (by decide), up2_ne (by decide)]), by show q.2.2.2 ≤ q.1; omega, h6, by rw [up2_at, if_pos rfl], by show m + 1 ≤ 16; omega, fun i hi => ?_⟩
    have hi2 : i < m + 1 := hi
    unfold RU2 updR
    dsimp only
    rw [up2_ne (by decide), up2_ne (by decide), up2_ne (by decide), up2_ne (by decide), up2_ne (by decide), up2_ne (by decide), up2_ne (by decide), up2_at, f120, f121, f122 i, f123]
    by_cases ee : i = m
    · rw [if_pos ee, if_pos ee, if_pos ee, ee]
      exact ⟨h10, h11, rfl, rfl⟩
    · rw [if_neg ee, if_neg ee, if_neg ee]
      exact h9 i (by omega)
theorem re_r {X : Scr} {e n m z a : Nat} {w u : Wd} {ch : Nat → Nat} {s : PSs} {rl : Nat → Ru} {Q : Int32 → Wd → Prop} (h : RSq w u ch n s rl m z a) (h15 : u 110 15 = nI 0) (h17 : u 110 17 = nI 0) (q0 : ∀ r, eF ch 6 s = .inl r → ∀ v, GRr w v → v 110 13 = r → Q (kI 0) v) (q1 : ∀ t, eF ch 6 s = .inr t → (∀ r, bkF ch 6 t = .inl r → ∀ v, GRr w v → v 110 13 = r → Q (kI 0) v) ∧ (∀ q, bkF ch 6 t = .inr q → ∀ v, RSr w v ch n (q, updR rl m (z, a, t.2.2.2, q.2.2.2), m + 1) → Q (kI 1) v)) : CI X (e + 7) 188 [.ref 110] u (fun x2 w2 => (if x2 = 0 then Q (kI 0) w2 else (inB (w2 110 18) 16 = true ∧ CI X (e + 7) 193 [.ref 110] (up2 w2 122 (w2 110 18).toNatClampNeg (w2 110 16)) (fun x3 w3 => (if x3 = 0 then Q (kI 0) w3 else (inB (w3 110 18) 16 = true ∧ Q (kI 1) (up2 (up2 w3 123 (w3 110 18).toNatClampNeg (w3 110 16)) 110 18 ((w3 110 18) + (kI 1))))))))) := by
  obtain ⟨h1, h2, h3, h5, h6, h7, h8, h9, h10, h11⟩ := h
  have hs : STr u u ch n s.1 s.2 [] (6 - 6) := ⟨GPr.refl _, h2, h3, h17, trivial, h15, by omega, by show s.2.2.2 + 0 ≤ s.1; omega, Nat.zero_le _, h6⟩
  refine c_188 (e := e + 2) (w := u) (k := 6) (by omega) (fun x t ee => by cases ee) hs (fun r er v g1 g2 => ?_) (fun t er v hv => ?_)
  · rw [if_pos (by decide)]
    exact q0 r er v (h1.trans (GRr.gp g1)) g2
  · rw [if_neg (by decide)]
    obtain ⟨g1, s2, s3, s4, s5, s6, s7, s8, s9, s10⟩ := hv
    have hb : t.2.2.2 + 0 ≤ t.1 := s8
    have f18 : v 110 18 = nI m := by rw [g1.2 18 (by omega)]; exact h7
    have f120 : v 120 = u 120 := g1.1 120 (by decide) (by decide) (by decide)
    have f121 : v 121 = u 121 := g1.1 121 (by decide) (by decide) (by decide)
    have f122 : v 122 = u 122 := g1.1 122 (by decide) (by decide) (by decide)
    have f123 : v 123 = u 123 := g1.1 123 (by decide) (by decide) (by decide)
    refine ⟨by rw [f18]; exact inB_nI h8 (by decide), ?_⟩
    rw [f18, nI_clamp (by omega), s3.1]
    refine rb_r (e := e) (w := w) (rl := rl) (m := m) (z := z) (a := a) (n := n) (ch := ch) (t := t) ⟨h1.trans (GRr.gp g1), s2, s3, by omega, h6, f18, h8, fun i hi => ?_, by rw [f120]; exact h10, by rw [f121]; exact h11⟩ (q1 t er).1 (q1 t er).2
    unfold RU2
    rw [f120, f121, f122, f123]
    exact h9 i hi
theorem RSr.begin {w u : Wd} {ch : Nat → Nat} {n : Nat} {x : RuS} (h : RSr w u ch n x) (hz : ch x.1.1 < 256) (hm : x.2.2 < 16) : RSq w (up2 (up2 (up2 (up2 (up2 u 120 x.2.2 (nI (ch x.1.1))) 110 11 ((u 110 11) + (kI 1))) 121 x.2.2 (nI x.1.2.2.2)) 110 15 (kI 0)) 110 17 (kI 0)) ch n (x.1.1 + 1, x.1.2) x.2.1 x.2.2 (ch x.1.1) x.1.2.2.2 := by
  obtain ⟨h1, h2, h3, h5, h6, h7, h8, h9⟩ := h
  have t1 : TXR (up2 u 120 x.2.2 (nI (ch x.1.1))) ch n x.1.1 := h2.cg (by rw [up2_ne (by decide)]) (by rw [up2_ne (by decide)]) (up2_ne (by decide))
  have t2 := t1.step hz
  rw [up2_ne (by decide)] at t2
  refine ⟨((((h1.p (by decide)).q (by omega)).p (by decide)).q (by omega)).q (by omega), t2.cg ?_ ?_ ?_, h3.cg ?_ ?_, by show x.1.2.2.2 ≤ x.1.1 + 1; omega, h6, ?_, hm, fun i hi => ?_, ?_, ?_⟩
  · rw [up2_at, if_neg (by decide), up2_at, if_neg (by decide), up2_ne (by decide)]
  · rw [up2_at, if_neg (by decide), up2_at, if_neg (by decide), up2_ne (by decide)]
  · rw [up2_ne (by decide), up2_ne (by decide), up2_ne (by decide)]
  · rw [up2_at, if_neg (by decide), up2_at, if_neg (by decide), up2_ne (by decide), up2_at, if_neg (by decide), up2_ne (by decide)]
  · rw [up2_ne (by decide), up2_ne (by decide), up2_ne (by decide), up2_ne (by decide), up2_ne (by decide)]
  · rw [up2_at, if_neg (by decide), up2_at, if_neg (by decide), up2_ne (by decide), up2_at, if_neg (by decide), up2_ne (by decide)]
    exact h7
  · have e120 : (up2 (up2 (up2 (up2 (up2 u 120 x.2.2 (nI (ch x.1.1))) 110 11 ((u 110 11) + (kI 1))) 121 x.2.2 (nI x.1.2.2.2)) 110 15 (kI 0)) 110 17 (kI 0)) 120 i = u 120 i := by
      rw [up2_ne (by decide), up2_ne (by decide), up2_ne (by decide), up2_ne (by decide), up2_at, if_neg (by omega)]
    have e121 : (up2 (up2 (up2 (up2 (up2 u 120 x.2.2 (nI (ch x.1.1))) 110 11 ((u 110 11) + (kI 1))) 121 x.2.2 (nI x.1.2.2.2)) 110 15 (kI 0)) 110 17 (kI 0)) 121 i = u 121 i := by
      rw [up2_ne (by decide), up2_ne (by decide), up2_at, if_neg (by omega), up2_ne (by decide), up2_ne (by decide)]
    have e122 : (up2 (up2 (up2 (up2 (up2 u 120 x.2.2 (nI (ch x.1.1))) 110 11 ((u 110 11) + (kI 1))) 121 x.2.2 (nI x.1.2.2.2)) 110 15 (kI 0)) 110 17 (kI 0)) 122 = u 122 := by
      rw [up2_ne (by decide), up2_ne (by decide), up2_ne (by decide), up2_ne (by decide), up2_ne (by decide)]
    have e123 : (up2 (up2 (up2 (up2 (up2 u 120 x.2.2 (nI (ch x.1.1))) 110 11 ((u 110 11) + (kI 1))) 121 x.2.2 (nI x.1.2.2.2)) 110 15 (kI 0)) 110 17 (kI 0)) 123 = u 123 := by
      rw [up2_ne (by decide), up2_ne (by decide), up2_ne (by decide), up2_ne (by decide), up2_ne (by decide)]
    unfold RU2
    rw [e120, e121, e122, e123]
    exact h9 i hi
  · rw [up2_ne (by decide), up2_ne (by decide), up2_ne (by decide), up2_ne (by decide), up2_at, if_pos rfl]
  · rw [up2_ne (by decide), up2_ne (by decide), up2_at, if_pos rfl]
theorem TXR.bad {w u : Wd} {ch : Nat → Nat} {n p : Nat} (h : TXR u ch n p) (hG : GRr w u) (k : Int32) : GRr w (G_177_110 k (u 110 11) u) ∧ (G_177_110 k (u 110 11) u) 110 13 = flt k p := by
  rw [h.fail]
  exact ⟨hG.q (by omega), by rw [up2_at, if_pos rfl]⟩
/-- readsRule -/
theorem c_194 {X : Scr} {e n : Nat} {w u : Wd} {ch : Nat → Nat} {x : RuS} {Q : Int32 → Wd → Prop} (h : RSr w u ch n x) (q0 : ∀ r, ruF ch x = .inl r → ∀ v, GRr w v → v 110 13 = r → Q (kI 0) v) (q1 : ∀ y, ruF ch x = .inr y → ∀ v, RSr w v ch n y → Q (kI 1) v) : CI X (e + 8) 194 [.ref 110] u Q := by
  have h0 := h
  obtain ⟨h1, h2, h3, h5, h6, h7, h8, h9⟩ := h
  have his : ∀ z, z < 256 → (F_175_110 u = nI z ↔ ch x.1.1 = z) := fun z hz => by rw [h2.sg]; exact enC_eq hz
  have i110 : F_175_110 u = kI 110 ↔ ch x.1.1 = 110 := his 110 (by decide)
  have i100 : F_175_110 u = kI 100 ↔ ch x.1.1 = 100 := his 100 (by decide)
  have i107 : F_175_110 u = kI 107 ↔ ch x.1.1 = 107 := his 107 (by decide)
  have i120 : F_175_110 u = kI 120 ↔ ch x.1.1 = 120 := his 120 (by decide)
  refine CI.of rfl (t194_110_at0 (d := e + 6) u ⟨h2.ix, ?_⟩)
  unfold ruF at q0 q1
  by_cases hok : okLe (ch x.1.1)
  · rw [if_pos hok] at q0 q1
    have hok2 : ch x.1.1 = 110 ∨ ch x.1.1 = 100 ∨ ch x.1.1 = 107 ∨ ch x.1.1 = 120 := hok
    have hz : ch x.1.1 < 256 := by omega
    by_cases hm : x.2.2 = 16
    · rw [if_pos hm] at q0
      have hlt : u 110 18 = kI 16 := by rw [h7, hm]; rfl
      have hq : Q (F_177_110 (kI 4) (u 110 11) u) (G_177_110 (kI 4) (u 110 11) u) := q0 _ rfl _ (h2.bad h1 _).1 (h2.bad h1 _).2
      simp only [if_pos hlt]
      by_cases e1 : ch x.1.1 = 110
      · rw [if_pos (i110.mpr e1)]; exact hq
      rw [if_neg (fun e => e1 (i110.mp e))]
      by_cases e2 : ch x.1.1 = 100
      · rw [if_pos (i100.mpr e2)]; exact hq
      rw [if_neg (fun e => e2 (i100.mp e))]
      by_cases e3 : ch x.1.1 = 107
      · rw [if_pos (i107.mpr e3)]; exact hq
      rw [if_neg (fun e => e3 (i107.mp e)), if_pos (i120.mpr (by omega))]
      exact hq
    · rw [if_neg hm] at q0 q1
      have hm2 : x.2.2 < 16 := by omega
      have hlt : ¬ u 110 18 = kI 16 := by rw [h7]; exact ne_nI (b := 16) (by omega) (by decide) hm
      have hi : inB (u 110 18) 16 = true := by rw [h7]; exact inB_nI hm2 (by decide)
      have hb := h0.begin hz hm2
      simp only [if_neg hlt]
      unfold hdF at q0 q1
      have core : ch x.1.1 ≠ 120 → CI X (e + 7) 188 [.ref 110] (up2 (up2 (up2 (up2 (up2 u 120 (u 110 18).toNatClampNeg (F_175_110 u)) 110 11 ((u 110 11) + (kI 1))) 121 (u 110 18).toNatClampNeg (u 110 16)) 110 15 (kI 0)) 110 17 (kI 0)) (fun x2 w2 => (if x2 = 0 then Q (kI 0) w2 else (inB (w2 110 18) 16 = true ∧ CI X (e + 7) 193 [.ref 110] (up2 w2 122 (w2 110 18).toNatClampNeg (w2 110 16)) (fun x3 w3 => (if x3 = 0 then Q (kI 0) w3 else (inB (w3 110 18) 16 = true ∧ Q (kI 1) (up2 (up2 w3 123 (w3 110 18).toNatClampNeg (w3 110 16)) 110 18 ((w3 110 18) + (kI 1))))))))) := by
        intro h120
        rw [if_neg h120] at q0 q1
        rw [h7, nI_clamp (by omega), h3.1, h2.sg, enC_lt hz]
        refine re_r (e := e) hb (by rw [up2_at, if_neg (by decide), up2_at, if_pos rfl]; rfl) (by rw [up2_at, if_pos rfl]; rfl) (fun r er v g1 g2 => ?_) (fun t er => ⟨fun r er2 v g1 g2 => ?_, fun q er2 v g1 => ?_⟩)
        · rw [er] at q0; exact q0 r rfl v g1 g2
        · rw [er] at q0; dsimp only at q0; rw [er2] at q0; exact q0 r rfl v g1 g2
        · rw [er] at q1; dsimp only at q1; rw [er2] at q1; exact q1 _ rfl v g1
      by_cases e1 : ch x.1.1 = 110
      · rw [if_pos (i110.mpr e1)]
        refine ⟨hi, hi, ?_⟩
        rw [if_neg (fun e => by have := i120.mp e; omega)]
        exact core (by omega)
      rw [if_neg (fun e => e1 (i110.mp e))]
      by_cases e2 : ch x.1.1 = 100
      · rw [if_pos (i100.mpr e2)]
        refine ⟨hi, hi, ?_⟩
        rw [if_neg (fun e => by have := i120.mp e; omega)]
        exact core (by omega)
      rw [if_neg (fun e => e2 (i100.mp e))]
      by_cases e3 : ch x.1.1 = 107
      · rw [if_pos (i107.mpr e3)]
        refine ⟨hi, hi, ?_⟩
        rw [if_neg (fun e => by have := i120.mp e; omega)]
        exact core (by omega)
      have e4 : ch x.1.1 = 120 := by omega
      rw [if_neg (fun e => e3 (i107.mp e)), if_pos (i120.mpr e4)]
      rw [if_pos e4] at q0 q1
      dsimp only at q0 q1
      refine ⟨hi, hi, hi, ?_⟩
      rw [h7, nI_clamp (by omega), h3.1, h2.sg, enC_lt hz]
      refine rb_r (e := e) (t := (x.1.1 + 1, x.1.2)) hb (fun r er v g1 g2 => ?_) (fun q er v g1 => ?_)
      · rw [er] at q0; exact q0 r rfl v g1 g2
      · rw [er] at q1; exact q1 _ rfl v g1
  · rw [if_neg hok] at q0
    have hok2 : ¬ (ch x.1.1 = 110 ∨ ch x.1.1 = 100 ∨ ch x.1.1 = 107 ∨ ch x.1.1 = 120) := hok
    rw [if_neg (fun e => by have := i110.mp e; omega), if_neg (fun e => by have := i100.mp e; omega), if_neg (fun e => by have := i107.mp e; omega), if_neg (fun e => by have := i120.mp e; omega)]
    exact q0 _ rfl _ (h2.bad h1 _).1 (h2.bad h1 _).2
end RULES3
