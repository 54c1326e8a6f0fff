/-! THE INVARIANT between two calls: the class (cells 0 to 109) and the reference (110 to 151) hold the same state -/
section INV
/-- told counties, figures, staff, people, targets, neighbours -/
def IOf (w : Wd) : Prop := w 110 6 = w 3 3 ∧ w 110 7 = w 3 4 ∧ w 110 8 = w 3 5 ∧ nn (w 3 3) 63 ∧ nn (w 3 4) 63 ∧ nn (w 3 5) 9999 ∧
  ∀ c, c < 6 → w 114 c = w 4 c ∧ w 116 c = w 5 c ∧ w 115 c = w 6 c ∧ nn (w 4 c) 9999 ∧ nn (w 5 c) 9999 ∧ nn (w 6 c) 63 ∧ (F_154 (w 3 3) (nI c) w = 0 → w 4 c = 0)
def sum6 (n : Nat → Int32) (f : Nat) : Int32 := n f + n (6 + f) + n (12 + f) + n (18 + f) + n (24 + f) + n (30 + f)
/-- the Books at cell b hold n (the reference's row of 162) -/
def BK (b : Nat) (w : Wd) (n : Nat → Int32) : Prop := (∀ i, i < 36 → w (b + 1) i = n i) ∧ (∀ f, f < 6 → w (b + 2) f = sum6 n f) ∧ (∀ i, i < 72 → w (b + 3) i = n (36 + i)) ∧
  (∀ f k, f < 6 → k < 8 → w (b + 4) (6 * k + f) = n (108 + 8 * f + k)) ∧ w b 4 = n 157 ∧ w b 5 = n 158 ∧ w b 6 = n 159 ∧ w b 7 = n 160 ∧ w b 8 = n 161
/-- such rows as there can be, where s are the told counties -/
def NV (s : Int32) (n : Nat → Int32) : Prop := (∀ i, i < 36 → nn (n i) 9999) ∧ (∀ c f, c < 6 → f < 6 → F_154 s (nI c) (fun _ _ => 0) = 0 → n (6 * c + f) = 0) ∧ (∀ i, i < 72 → nn (n (36 + i)) 9999) ∧ nn (n 157) 11 ∧ nn (n 158) 999 ∧ nn (n 159) 9999 ∧ nn (n 161) 65535
def IB (w : Wd) : Prop := BK 7 w (w 111) ∧ NV (w 3 3) (w 111)
def IK (w : Wd) : Prop := w 110 64 = w 0 17 ∧ (w 0 17 = 0 ∨ w 0 17 = 1) ∧ (w 0 17 = 1 → BK 12 w (w 113) ∧ NV (w 3 3) (w 113))
def IT (w : Wd) : Prop := w 110 10 = w 1 1 ∧ nn (w 1 1) 260 ∧ ∀ i, i < 260 → nI i < w 1 1 → w 2 i = w 117 i &&& kI 255
/-- the sign of the class's step for the reference's operator -/
def opS (o : Nat) : Int := [1, 2, 43, 45, 42, 47, 37, 60, 62, 61, 33, 38, 124].getD o 0
def CRel (st ar cd : Int32) (o v : Nat) : Prop := o ≤ 12 ∧ v < 100000 ∧ cd = nI (1048576 * o + v) ∧ st = kI (opS o) ∧ ar = nI v
/-- one step of a code keeps heights and kinds (tb: what is on top is 0 or 1) -/
def stOK (op ar ht : Nat → Nat) (tb : Nat → Bool) (b k : Nat) : Prop :=
  if op k ≤ 1 then ht (k + 1) = ht k + 1 ∧ ht k < 60 ∧ tb (k + 1) = false ∧ (op k = 1 → ar k < 12)
  else if op k ≤ 6 then 2 ≤ ht k ∧ ht (k + 1) + 1 = ht k ∧ tb (k + 1) = false
  else if op k ≤ 9 then 2 ≤ ht k ∧ ht (k + 1) + 1 = ht k
  else if op k = 10 then 1 ≤ ht k ∧ ht (k + 1) = ht k ∧ tb k = true
  else 1 ≤ ht k ∧ ht (k + 1) + 1 = ht k ∧ tb k = true ∧ tb (k + 1) = false ∧ k < ar k ∧ ar k ≤ b ∧ ht (ar k) = ht k
def SEGW (op ar : Nat → Nat) (a b : Nat) (isC : Bool) : Prop := ∃ (ht : Nat → Nat) (tb : Nat → Bool), ht a = 0 ∧ ht b = 1 ∧ (isC = true → tb b = true) ∧ tb a = false ∧ ∀ k, a ≤ k → k < b → stOK op ar ht tb b k
/-- rows of one rule -/
def RULE (op ar : Nat → Nat) (len : Nat) (l e c z : Int32) : Prop := ∃ a m b : Nat, e = nI a ∧ c = nI m ∧ z = nI b ∧ a ≤ m ∧ m ≤ b ∧ b ≤ len ∧ (¬ l = kI 120 → SEGW op ar a m false) ∧ SEGW op ar m b true
def IL (w : Wd) : Prop := w 110 19 = w 22 7 ∧ nn (w 22 7) 16 ∧ ∃ (op ar : Nat → Nat) (len : Nat), len ≤ 240 ∧ (∀ k, k < len → CRel (w 23 k) (w 24 k) (w 124 k) (op k) (ar k)) ∧
  ∀ q, q < 16 → nI q < w 22 7 → w 125 q = w 25 q ∧ w 126 q = w 26 q ∧ w 127 q = w 27 q ∧ w 128 q = w 28 q ∧ RULE op ar len (w 25 q) (w 26 q) (w 27 q) (w 28 q)
def DEFI (w : Wd) (d : Nat) : Prop := ∃ (op ar : Nat → Nat) (len : Nat), len ≤ 80 ∧ (∀ k, k < len → CRel (w (38 + 7 * d) k) (w (39 + 7 * d) k) (w 144 (260 * d + k)) (op k) (ar k)) ∧ w 145 d = nI len ∧ w (37 + 7 * d) 7 = 1 ∧ w (42 + 7 * d) 0 = 0 ∧ w (43 + 7 * d) 0 = nI len ∧ SEGW op ar 0 len true
def ID (w : Wd) : Prop := w 110 57 = w 0 16 ∧ nn (w 0 16) 63 ∧ ∀ d, d < 6 → ¬ F_154 (w 0 16) (nI d) w = 0 → DEFI w d
def IR (w : Wd) : Prop := w 110 56 = w 102 6 ∧ nn (w 102 6) 1048575 ∧ ∀ r, r < 20 → w 140 r = w 103 r ∧ w 141 r = w 104 r ∧ w 142 r = w 105 r ∧ w 143 r = w 106 r ∧ nn (w 103 r) 5 ∧ nn (w 104 r) 99 ∧ nn (w 105 r) 23 ∧ nn (w 106 r) 9
def II (w : Wd) : Prop := IOf w ∧ IB w ∧ IK w ∧ IT w ∧ IL w ∧ ID w ∧ IR w
/-- cells that hold the state -/
def stC (a : Nat) : Bool := (2 ≤ a && a ≤ 16) || (22 ≤ a && a ≤ 28) || (37 ≤ a && a ≤ 78) || (103 ≤ a && a ≤ 106) || a == 111 || (113 ≤ a && a ≤ 117) || (124 ≤ a && a ≤ 128) || (140 ≤ a && a ≤ 145)
/-- the state is the same: only what a call works with has changed -/
def SS (w u : Wd) : Prop := (∀ a, stC a = true → u a = w a) ∧ u 0 16 = w 0 16 ∧ u 0 17 = w 0 17 ∧ u 1 1 = w 1 1 ∧ u 102 6 = w 102 6 ∧ u 110 6 = w 110 6 ∧ u 110 7 = w 110 7 ∧ u 110 8 = w 110 8 ∧ u 110 10 = w 110 10 ∧ u 110 19 = w 110 19 ∧ u 110 56 = w 110 56 ∧ u 110 57 = w 110 57 ∧ u 110 64 = w 110 64
theorem SS.refl (w : Wd) : SS w w := ⟨fun _ _ => rfl, rfl, rfl, rfl, rfl, rfl, rfl, rfl, rfl, rfl, rfl, rfl, rfl⟩
theorem SS.trans {w u v : Wd} (h : SS w u) (g : SS u v) : SS w v := by
  obtain ⟨h0, h1, h2, h3, h4, h5, h6, h7, h8, h9, h10, h11, h12⟩ := h
  obtain ⟨g0, g1, g2, g3, g4, g5, g6, g7, g8, g9, g10, g11, g12⟩ := g
  exact ⟨fun a ha => (g0 a ha).trans (h0 a ha), g1.trans h1, g2.trans h2, g3.trans h3, g4.trans h4, g5.trans h5, g6.trans h6, g7.trans h7, g8.trans h8, g9.trans h9, g10.trans h10, g11.trans h11, g12.trans h12⟩
/-- how one cell was changed: cells out of S, or as SS allows -/
theorem SS.of {w u : Wd} (S : List Nat) (hS : ∀ a, a ∉ S → u a = w a) (hc : S.all (fun a => !stC a && !(a == 0 || a == 1 || a == 102 || a == 110)) = true) : SS w u := by
  have h1 : ∀ a, stC a = true → u a = w a := fun a ha => hS a (fun hm => by
    have := List.all_eq_true.mp hc a hm
    rw [ha] at this
    simp at this)
  have h2 : ∀ a, (a == 0 || a == 1 || a == 102 || a == 110) = true → u a = w a := fun a ha => hS a (fun hm => by
    have := List.all_eq_true.mp hc a hm
    rw [ha] at this
    simp at this)
  have e0 := h2 0 rfl
  have e1 := h2 1 rfl
  have e2 := h2 102 rfl
  have e3 := h2 110 rfl
  exact ⟨h1, by rw [e0], by rw [e0], by rw [e1], by rw [e2], by rw [e3], by rw [e3], by rw [e3], by rw [e3], by rw [e3], by rw [e3], by rw [e3], by rw [e3]⟩
theorem BK.congr {b : Nat} {w u : Wd} {n : Nat → Int32} (h : BK b w n) (e0 : u b = w b) (e1 : u (b + 1) = w (b + 1)) (e2 : u (b + 2) = w (b + 2)) (e3 : u (b + 3) = w (b + 3)) (e4 : u (b + 4) = w (b + 4)) : BK b u n := by
  unfold BK at h ⊢
  rw [e0, e1, e2, e3, e4]
  exact h
theorem IOf.cg {w u : Wd} (h : IOf w) (e3 : u 3 = w 3) (e4 : u 4 = w 4) (e5 : u 5 = w 5) (e6 : u 6 = w 6) (f4 : u 114 = w 114) (f5 : u 115 = w 115) (f6 : u 116 = w 116) (s5 : u 110 6 = w 110 6) (s6 : u 110 7 = w 110 7) (s7 : u 110 8 = w 110 8) : IOf u := by
  unfold IOf at h ⊢
  rw [e3, e4, e5, e6, f4, f5, f6, s5, s6, s7]
  exact h
theorem IB.cg {w u : Wd} (h : IB w) (e3 : u 3 3 = w 3 3) (e111 : u 111 = w 111) (e7 : u 7 = w 7) (e8 : u 8 = w 8) (e9 : u 9 = w 9) (e10 : u 10 = w 10) (e11 : u 11 = w 11) : IB u := by
  unfold IB at h ⊢
  rw [e3, e111]
  exact ⟨h.1.congr e7 e8 e9 e10 e11, h.2⟩
theorem IK.cg {w u : Wd} (h : IK w) (e3 : u 3 3 = w 3 3) (e113 : u 113 = w 113) (s2 : u 0 17 = w 0 17) (s12 : u 110 64 = w 110 64) (e12 : u 12 = w 12) (e13 : u 13 = w 13) (e14 : u 14 = w 14) (e15 : u 15 = w 15) (e16 : u 16 = w 16) : IK u := by
  unfold IK at h ⊢
  rw [e3, e113, s2, s12]
  exact ⟨h.1, h.2.1, fun e => ⟨(h.2.2 e).1.congr e12 e13 e14 e15 e16, (h.2.2 e).2⟩⟩
theorem IT.cg {w u : Wd} (h : IT w) (e2 : u 2 = w 2) (e117 : u 117 = w 117) (s3 : u 1 1 = w 1 1) (s8 : u 110 10 = w 110 10) : IT u := by
  unfold IT at h ⊢
  rw [e2, e117, s3, s8]
  exact h
theorem IL.cg {w u : Wd} (h : IL w) (e22 : u 22 = w 22) (e23 : u 23 = w 23) (e24 : u 24 = w 24) (e25 : u 25 = w 25) (e26 : u 26 = w 26) (e27 : u 27 = w 27) (e28 : u 28 = w 28) (f4 : u 124 = w 124) (f5 : u 125 = w 125) (f6 : u 126 = w 126) (f7 : u 127 = w 127) (f8 : u 128 = w 128) (s9 : u 110 19 = w 110 19) : IL u := by
  unfold IL at h ⊢
  rw [e22, e23, e24, e25, e26, e27, e28, f4, f5, f6, f7, f8, s9]
  exact h
theorem DEFI.congr {w u : Wd} {d : Nat} (h : DEFI w d) (hd : d < 6) (e : ∀ a, 37 ≤ a → a ≤ 78 → u a = w a) (e1 : u 144 = w 144) (e2 : u 145 = w 145) : DEFI u d := by
  unfold DEFI at h ⊢
  rw [e1, e2, e (37 + 7 * d) (by omega) (by omega), e (38 + 7 * d) (by omega) (by omega), e (39 + 7 * d) (by omega) (by omega), e (42 + 7 * d) (by omega) (by omega), e (43 + 7 * d) (by omega) (by omega)]
  exact h
theorem ID.cg {w u : Wd} (h : ID w) (s1 : u 0 16 = w 0 16) (s11 : u 110 57 = w 110 57) (e : ∀ a, 37 ≤ a → a ≤ 78 → u a = w a) (e1 : u 144 = w 144) (e2 : u 145 = w 145) : ID u := by
  unfold ID at h ⊢
  rw [s1, s11]
  exact ⟨h.1, h.2.1, fun d hd hb => (h.2.2 d hd hb).congr hd e e1 e2⟩
theorem IR.cg {w u : Wd} (h : IR w) (e3 : u 103 = w 103) (e4 : u 104 = w 104) (e5 : u 105 = w 105) (e6 : u 106 = w 106) (f0 : u 140 = w 140) (f1 : u 141 = w 141) (f2 : u 142 = w 142) (f3 : u 143 = w 143) (s4 : u 102 6 = w 102 6) (s10 : u 110 56 = w 110 56) : IR u := by
  unfold IR at h ⊢
  rw [e3, e4, e5, e6, f0, f1, f2, f3, s4, s10]
  exact h
theorem II.ss {w u : Wd} (h : II w) (s : SS w u) : II u := by
  obtain ⟨h1, h2, h3, h4, h5, h6, h7⟩ := h
  obtain ⟨s0, s1, s2, s3, s4, s5, s6, s7, s8, s9, s10, s11, s12⟩ := s
  have e3 := s0 3 rfl
  have e33 : u 3 3 = w 3 3 := by rw [e3]
  exact ⟨h1.cg e3 (s0 4 rfl) (s0 5 rfl) (s0 6 rfl) (s0 114 rfl) (s0 115 rfl) (s0 116 rfl) s5 s6 s7,
    h2.cg e33 (s0 111 rfl) (s0 7 rfl) (s0 8 rfl) (s0 9 rfl) (s0 10 rfl) (s0 11 rfl),
    h3.cg e33 (s0 113 rfl) s2 s12 (s0 12 rfl) (s0 13 rfl) (s0 14 rfl) (s0 15 rfl) (s0 16 rfl),
    h4.cg (s0 2 rfl) (s0 117 rfl) s3 s8,
    h5.cg (s0 22 rfl) (s0 23 rfl) (s0 24 rfl) (s0 25 rfl) (s0 26 rfl) (s0 27 rfl) (s0 28 rfl) (s0 124 rfl) (s0 125 rfl) (s0 126 rfl) (s0 127 rfl) (s0 128 rfl) s9,
    h6.cg s1 s11 (fun a h1 h2 => s0 a (by simp [stC]; omega)) (s0 144 rfl) (s0 145 rfl),
    h7.cg (s0 103 rfl) (s0 104 rfl) (s0 105 rfl) (s0 106 rfl) (s0 140 rfl) (s0 141 rfl) (s0 142 rfl) (s0 143 rfl) s4 s10⟩
theorem up2_at {w : Wd} {a k : Nat} {v : Int32} (j : Nat) : up2 w a k v a j = if j = k then v else w a j := by
  simp [up2, upd]
/-- the two calls, of the class and of the reference, one behind the other: they answer alike, and the invariant holds again -/
def JJ (X : Scr) (kc kr : Nat) (a : List Value) (w : Wd) : Prop := CI X 60 kc (.ref 0 :: a) w (fun x w1 => CI X 60 kr (.ref 110 :: a) w1 (fun y w2 => y = x ∧ II w2))
theorem JJ.ofFG {X : Scr} {kc kr : Nat} {a : List Value} {w w1 w2 : Wd} {x y : Int32} (h1 : CV X 60 kc (.ref 0 :: a) SH w (fun r s1 u => r = some (.int x) ∧ s1 = SH ∧ u = w1)) (h2 : CV X 60 kr (.ref 110 :: a) SH w1 (fun r s1 u => r = some (.int y) ∧ s1 = SH ∧ u = w2)) (e : y = x) (i : II w2) : JJ X kc kr a w := by
  refine CI.mono (CI.ofF h1) ?_
  intro x1 u1 e1
  obtain ⟨rfl, rfl⟩ := e1
  refine CI.mono (CI.ofF h2) ?_
  intro y1 u2 e2
  obtain ⟨rfl, rfl⟩ := e2
  exact ⟨e, i⟩
end INV
