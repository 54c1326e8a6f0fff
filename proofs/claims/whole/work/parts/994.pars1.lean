/-! parsers, part 1: expressions and conditions as functions; how far they go -/
section PARS1
abbrev Cd : Type := (Nat → Nat) × (Nat → Nat) × Nat
abbrev PSs : Type := Nat × Cd
abbrev PRs : Type := Int32 ⊕ PSs
def updN (f : Nat → Nat) (k v : Nat) : Nat → Nat := fun i => if i = k then v else f i
def emit (c : Cd) (o v : Nat) : Cd := (updN c.1 c.2.2 o, updN c.2.1 c.2.2 v, c.2.2 + 1)
def land (c : Cd) (j : Nat) : Cd := (c.1, updN c.2.1 j c.2.2, c.2.2)
/-- the letters of the texts -/
def lix (z : Nat) : Nat := if z = 99 then 0 else if z = 102 then 1 else if z = 97 then 2 else if z = 115 then 3 else if z = 116 then 4 else if z = 112 then 5 else if z = 109 then 6 else if z = 121 then 7 else if z = 114 then 8 else if z = 103 then 9 else if z = 104 then 10 else if z = 113 then 11 else 12
def osg (z : Nat) : Nat := if z = 43 then 2 else if z = 45 then 3 else if z = 42 then 4 else if z = 47 then 5 else if z = 37 then 6 else 0
def csg (z : Nat) : Nat := if z = 60 then 7 else if z = 62 then 8 else if z = 61 then 9 else 0
theorem lix_ref : ∀ z, z < 257 → F_183 (enC z) (fun _ _ => 0) = if lix z = 12 then kI (-1) else nI (lix z) := by decide +kernel
theorem lix_cls : ∀ z, z < 256 → idxOf ((enC z).toUInt32 % 65536).toInt32 = if lix z = 12 then kI (-1) else nI (lix z) := by decide +kernel
theorem osg_ref : ∀ z, z < 257 → F_184 (enC z) (fun _ _ => 0) = if osg z = 0 then kI (-1) else nI (osg z) := by decide +kernel
theorem osg_sum : ∀ z, z < 257 → (F_73 (enC z) (fun _ _ => 0) = 0 ↔ ¬ (osg z = 2 ∨ osg z = 3)) := by decide +kernel
theorem osg_prd : ∀ z, z < 257 → (F_74 (enC z) (fun _ _ => 0) = 0 ↔ ¬ 4 ≤ osg z) := by decide +kernel
theorem osg_sign : ∀ z, z < 257 → osg z ≠ 0 → z < 256 ∧ osg z ≤ 6 ∧ enC z = kI (opS (osg z)) := by decide +kernel
theorem csg_sign : ∀ z, z < 257 → csg z ≠ 0 → z < 256 ∧ 7 ≤ csg z ∧ csg z ≤ 9 ∧ enC z = kI (opS (csg z)) := by decide +kernel
theorem lix_lt : ∀ z, z < 257 → lix z ≤ 12 ∧ (lix z ≠ 12 → z < 256 ∧ isD z = false ∧ z ≠ 91) := by decide +kernel
def facF (ch : Nat → Nat) (br : PSs → PRs) (s : PSs) : PRs :=
  if ch s.1 = 91 then br s
  else if isD (ch s.1) then (match rdN ch 5 s.1 0 with
    | .inl q => .inl (flt (kI 2) q)
    | .inr x => .inr (x.2, emit s.2 0 x.1))
  else if lix (ch s.1) = 12 then .inl (flt (kI 1) s.1) else .inr (s.1 + 1, emit s.2 1 (lix (ch s.1)))
def trL (ch : Nat → Nat) (fac : PSs → PRs) : Nat → PSs → PRs
  | 0, s => .inr s
  | m + 1, s => if 4 ≤ osg (ch s.1) then (match fac (s.1 + 1, s.2) with
    | .inl e => .inl e
    | .inr t => trL ch fac m (t.1, emit t.2 (osg (ch s.1)) 0)) else .inr s
def trmF (ch : Nat → Nat) (fac : PSs → PRs) (s : PSs) : PRs := match fac s with
  | .inl e => .inl e
  | .inr t => trL ch fac 240 t
def exL (ch : Nat → Nat) (trm : PSs → PRs) : Nat → PSs → PRs
  | 0, s => .inr s
  | m + 1, s => if osg (ch s.1) = 2 ∨ osg (ch s.1) = 3 then (match trm (s.1 + 1, s.2) with
    | .inl e => .inl e
    | .inr t => exL ch trm m (t.1, emit t.2 (osg (ch s.1)) 0)) else .inr s
def expF (ch : Nat → Nat) (trm : PSs → PRs) (s : PSs) : PRs := match trm s with
  | .inl e => .inl e
  | .inr t => exL ch trm 240 t
/-- behind an opening sign: what stands inside, then the closing sign -/
def inF (ch : Nat → Nat) (f : PSs → PRs) (z : Nat) (s : PSs) : PRs := match f (s.1 + 1, s.2) with
  | .inl e => .inl e
  | .inr t => if ch t.1 = z then .inr (t.1 + 1, t.2) else .inl (flt (kI 1) t.1)
def deep (s : PSs) : PRs := .inl (flt (kI 5) s.1)
def brE (ch : Nat → Nat) (eF : Nat → PSs → PRs) : Nat → PSs → PRs
  | 0 => deep
  | k + 1 => inF ch (eF k) 93
/-- an expression with k brackets left to open -/
def eF (ch : Nat → Nat) : Nat → PSs → PRs
  | 0 => expF ch (trmF ch (facF ch deep))
  | k + 1 => expF ch (trmF ch (facF ch (inF ch (eF ch k) 93)))
def faE (ch : Nat → Nat) (k : Nat) : PSs → PRs := facF ch (match k with
  | 0 => deep
  | k + 1 => inF ch (eF ch k) 93)
theorem eF_eq (ch : Nat → Nat) (k : Nat) : eF ch k = expF ch (trmF ch (faE ch k)) := by
  cases k <;> rfl
/-! conditions -/
def cmF (ch : Nat → Nat) (e : PSs → PRs) (s : PSs) : PRs := match e s with
  | .inl x => .inl x
  | .inr t => if csg (ch t.1) = 0 then .inl (flt (kI 1) t.1) else (match e (t.1 + 1, t.2) with
    | .inl x => .inl x
    | .inr q => .inr (q.1, emit q.2 (csg (ch t.1)) 0))
def ntF (f : PSs → PRs) (s : PSs) : PRs := match f (s.1 + 1, s.2) with
  | .inl x => .inl x
  | .inr t => .inr (t.1, emit t.2 10 0)
def teF (ch : Nat → Nat) (br nt e : PSs → PRs) (s : PSs) : PRs := if ch s.1 = 40 then br s else if ch s.1 = 33 then nt s else cmF ch e s
/-- tests one behind another, with a jump between them -/
def jmL (ch : Nat → Nat) (z o : Nat) (t : PSs → PRs) : Nat → PSs → PRs
  | 0, s => .inr s
  | m + 1, s => if ch s.1 = z then (match t (s.1 + 1, emit s.2 o 0) with
    | .inl e => .inl e
    | .inr q => jmL ch z o t m (q.1, land q.2 s.2.2.2)) else .inr s
def jmF (ch : Nat → Nat) (z o : Nat) (t : PSs → PRs) (s : PSs) : PRs := match t s with
  | .inl e => .inl e
  | .inr q => jmL ch z o t 240 q
def cdF (ch : Nat → Nat) (t : PSs → PRs) : PSs → PRs := jmF ch 124 12 (jmF ch 38 11 t)
/-- a test with k brackets or nots left to open -/
def tF (ch : Nat → Nat) : Nat → PSs → PRs
  | 0 => teF ch deep deep (eF ch 0)
  | k + 1 => teF ch (inF ch (cdF ch (tF ch k)) 41) (ntF (tF ch k)) (eF ch (k + 1))
/-! how far: codes no faster than places, places go on -/
def GRW (f : PSs → PRs) (n : Nat) : Prop := ∀ s t, s.1 ≤ n → f s = .inr t → s.1 < t.1 ∧ t.1 ≤ n ∧ s.2.2.2 < t.2.2.2 ∧ t.2.2.2 + s.1 ≤ s.2.2.2 + t.1
def GRL (f : PSs → PRs) (n : Nat) : Prop := ∀ s t, s.1 ≤ n → f s = .inr t → s.1 ≤ t.1 ∧ t.1 ≤ n ∧ s.2.2.2 ≤ t.2.2.2 ∧ t.2.2.2 + s.1 ≤ s.2.2.2 + t.1
def CHn256 (ch : Nat → Nat) (n : Nat) : Prop := (∀ i, ch i ≤ 256) ∧ (∀ i, n ≤ i → ch i = 256) ∧ ∀ i, i < n → ch i < 256
theorem CHn256.lt {ch : Nat → Nat} {n p : Nat} (h : CHn256 ch n) (hp : ch p < 256) : p < n := Nat.lt_of_not_le (fun e => by have := h.2.1 p e; omega)
theorem rdN_n {ch : Nat → Nat} {n : Nat} (h : CHn256 ch n) : ∀ m p v x q, p ≤ n → rdN ch m p v = .inr (x, q) → q ≤ n
  | 0, p, v, x, q, hp, e => by
    unfold rdN at e
    split at e
    · cases e
    · cases e; exact hp
  | m + 1, p, v, x, q, hp, e => by
    unfold rdN at e
    split at e
    · rename_i hd
      have hd2 := isD_iff.mp hd
      exact rdN_n h m (p + 1) _ x q (h.lt (by omega)) e
    · cases e; exact hp
def GRB (f : PSs → PRs) (n : Nat) : Prop := ∀ s t, s.1 < n → f s = .inr t → s.1 < t.1 ∧ t.1 ≤ n ∧ s.2.2.2 < t.2.2.2 ∧ t.2.2.2 + s.1 ≤ s.2.2.2 + t.1
theorem fac_grw {ch : Nat → Nat} {br : PSs → PRs} {n : Nat} (h : CHn256 ch n) (hb : GRB br n) : GRW (facF ch br) n := by
  intro s t hs e
  unfold facF at e
  by_cases h1 : ch s.1 = 91
  · rw [if_pos h1] at e; exact hb s t (h.lt (by omega)) e
  · rw [if_neg h1] at e
    cases hd : isD (ch s.1) with
    | true =>
      rw [hd, if_pos rfl] at e
      cases er : rdN ch 5 s.1 0 with
      | inl q => rw [er] at e; cases e
      | inr x =>
        rw [er] at e
        obtain ⟨a1, a2, a3⟩ := rdN_le 5 s.1 0 x.1 x.2 er
        have a4 := rdN_n h 5 s.1 0 x.1 x.2 hs er
        have a5 : s.1 < x.2 := by
          have e2 : rdN ch 5 s.1 0 = rdN ch 4 (s.1 + 1) (0 * 10 + (ch s.1 - 48)) := by
            show (if isD (ch s.1) then _ else _) = _
            rw [hd, if_pos rfl]
          rw [e2] at er
          have := (rdN_le 4 (s.1 + 1) _ x.1 x.2 er).1
          omega
        cases e
        dsimp only [emit]
        omega
    | false =>
      rw [hd, if_neg (by decide)] at e
      by_cases h2 : lix (ch s.1) = 12
      · rw [if_pos h2] at e; cases e
      · rw [if_neg h2] at e
        have hl := (lix_lt (ch s.1) (by have := h.1 s.1; omega)).2 h2
        have := h.lt hl.1
        cases e
        dsimp only [emit]
        omega
theorem trL_grl {ch : Nat → Nat} {fac : PSs → PRs} {n : Nat} (h : CHn256 ch n) (hf : GRW fac n) : ∀ m, GRL (trL ch fac m) n
  | 0, s, t, hs, e => by cases e; exact ⟨Nat.le_refl _, hs, Nat.le_refl _, by omega⟩
  | m + 1, s, t, hs, e => by
    unfold trL at e
    by_cases h1 : 4 ≤ osg (ch s.1)
    · rw [if_pos h1] at e
      have hz := (osg_sign (ch s.1) (by have := h.1 s.1; omega) (by omega)).1
      have hlt := h.lt hz
      cases er : fac (s.1 + 1, s.2) with
      | inl x => rw [er] at e; cases e
      | inr q =>
        rw [er] at e
        obtain ⟨a1, a2, a3, a4⟩ := hf (s.1 + 1, s.2) q hlt er
        obtain ⟨b1, b2, b3, b4⟩ := trL_grl h hf m (q.1, emit q.2 (osg (ch s.1)) 0) t a2 e
        dsimp only [emit] at a1 a3 a4 b1 b3 b4
        omega
    · rw [if_neg h1] at e; cases e; exact ⟨Nat.le_refl _, hs, Nat.le_refl _, by omega⟩
theorem trm_grw {ch : Nat → Nat} {fac : PSs → PRs} {n : Nat} (h : CHn256 ch n) (hf : GRW fac n) : GRW (trmF ch fac) n := by
  intro s t hs e
  unfold trmF at e
  cases er : fac s with
  | inl x => rw [er] at e; cases e
  | inr q =>
    rw [er] at e
    obtain ⟨a1, a2, a3, a4⟩ := hf s q hs er
    obtain ⟨b1, b2, b3, b4⟩ := trL_grl h hf 240 q t a2 e
    omega
theorem exL_grl {ch : Nat → Nat} {trm : PSs → PRs} {n : Nat} (h : CHn256 ch n) (hf : GRW trm n) : ∀ m, GRL (exL ch trm m) n
  | 0, s, t, hs, e => by cases e; exact ⟨Nat.le_refl _, hs, Nat.le_refl _, by omega⟩
  | m + 1, s, t, hs, e => by
    unfold exL at e
    by_cases h1 : osg (ch s.1) = 2 ∨ osg (ch s.1) = 3
    · rw [if_pos h1] at e
      have hz := (osg_sign (ch s.1) (by have := h.1 s.1; omega) (by omega)).1
      have hlt := h.lt hz
      cases er : trm (s.1 + 1, s.2) with
      | inl x => rw [er] at e; cases e
      | inr q =>
        rw [er] at e
        obtain ⟨a1, a2, a3, a4⟩ := hf (s.1 + 1, s.2) q hlt er
        obtain ⟨b1, b2, b3, b4⟩ := exL_grl h hf m (q.1, emit q.2 (osg (ch s.1)) 0) t a2 e
        dsimp only [emit] at a1 a3 a4 b1 b3 b4
        omega
    · rw [if_neg h1] at e; cases e; exact ⟨Nat.le_refl _, hs, Nat.le_refl _, by omega⟩
theorem exp_grw {ch : Nat → Nat} {trm : PSs → PRs} {n : Nat} (h : CHn256 ch n) (hf : GRW trm n) : GRW (expF ch trm) n := by
  intro s t hs e
  unfold expF at e
  cases er : trm s with
  | inl x => rw [er] at e; cases e
  | inr q =>
    rw [er] at e
    obtain ⟨a1, a2, a3, a4⟩ := hf s q hs er
    obtain ⟨b1, b2, b3, b4⟩ := exL_grl h hf 240 q t a2 e
    omega
theorem in_grw {ch : Nat → Nat} {f : PSs → PRs} {n z : Nat} (h : CHn256 ch n) (hz : z < 256) (hf : GRW f n) : GRB (inF ch f z) n := by
  intro s t hs e
  unfold inF at e
  cases er : f (s.1 + 1, s.2) with
  | inl x => rw [er] at e; cases e
  | inr q =>
    rw [er] at e
    obtain ⟨a1, a2, a3, a4⟩ := hf (s.1 + 1, s.2) q hs er
    dsimp only at a1 a3 a4 e
    by_cases h1 : ch q.1 = z
    · rw [if_pos h1] at e
      have := h.lt (show ch q.1 < 256 by omega)
      cases e
      dsimp only
      omega
    · rw [if_neg h1] at e; cases e
theorem deep_grb {n : Nat} : GRB deep n := fun s t _ e => by cases e
theorem eF_grw {ch : Nat → Nat} {n : Nat} (h : CHn256 ch n) : ∀ k, GRW (eF ch k) n
  | 0 => exp_grw h (trm_grw h (fac_grw h deep_grb))
  | k + 1 => exp_grw h (trm_grw h (fac_grw h (in_grw h (by decide) (eF_grw h k))))
theorem faE_grw {ch : Nat → Nat} {n : Nat} (h : CHn256 ch n) (k : Nat) : GRW (faE ch k) n := by
  cases k with
  | zero => exact fac_grw h deep_grb
  | succ k => exact fac_grw h (in_grw h (by decide) (eF_grw h k))
theorem cm_grw {ch : Nat → Nat} {f : PSs → PRs} {n : Nat} (h : CHn256 ch n) (hf : GRW f n) : GRW (cmF ch f) n := by
  intro s t hs e
  unfold cmF at e
  cases er : f s with
  | inl x => rw [er] at e; cases e
  | inr q =>
    rw [er] at e
    dsimp only at e
    obtain ⟨a1, a2, a3, a4⟩ := hf s q hs er
    by_cases h1 : csg (ch q.1) = 0
    · rw [if_pos h1] at e; cases e
    · rw [if_neg h1] at e
      have hz := (csg_sign (ch q.1) (by have := h.1 q.1; omega) h1).1
      cases er2 : f (q.1 + 1, q.2) with
      | inl x => rw [er2] at e; cases e
      | inr v =>
        rw [er2] at e
        obtain ⟨b1, b2, b3, b4⟩ := hf (q.1 + 1, q.2) v (h.lt hz) er2
        dsimp only at b1 b3 b4
        cases e
        dsimp only [emit]
        omega
theorem nt_grb {ch : Nat → Nat} {f : PSs → PRs} {n : Nat} (hf : GRW f n) : GRB (ntF f) n := by
  intro s t hs e
  unfold ntF at e
  cases er : f (s.1 + 1, s.2) with
  | inl x => rw [er] at e; cases e
  | inr q =>
    rw [er] at e
    obtain ⟨a1, a2, a3, a4⟩ := hf (s.1 + 1, s.2) q hs er
    dsimp only at a1 a3 a4
    cases e
    dsimp only [emit]
    omega
theorem te_grw {ch : Nat → Nat} {br nt f : PSs → PRs} {n : Nat} (h : CHn256 ch n) (hb : GRB br n) (hn : GRB nt n) (hf : GRW f n) : GRW (teF ch br nt f) n := by
  intro s t hs e
  unfold teF at e
  by_cases h1 : ch s.1 = 40
  · rw [if_pos h1] at e; exact hb s t (h.lt (by omega)) e
  · rw [if_neg h1] at e
    by_cases h2 : ch s.1 = 33
    · rw [if_pos h2] at e; exact hn s t (h.lt (by omega)) e
    · rw [if_neg h2] at e; exact cm_grw h hf s t hs e
theorem jmL_grl {ch : Nat → Nat} {z o : Nat} {f : PSs → PRs} {n : Nat} (h : CHn256 ch n) (hz : z < 256) (hf : GRW f n) : ∀ m, GRL (jmL ch z o f m) n
  | 0, s, t, hs, e => by cases e; exact ⟨Nat.le_refl _, hs, Nat.le_refl _, by omega⟩
  | m + 1, s, t, hs, e => by
    unfold jmL at e
    by_cases h1 : ch s.1 = z
    · rw [if_pos h1] at e
      have hlt := h.lt (show ch s.1 < 256 by omega)
      cases er : f (s.1 + 1, emit s.2 o 0) with
      | inl x => rw [er] at e; cases e
      | inr q =>
        rw [er] at e
        obtain ⟨a1, a2, a3, a4⟩ := hf (s.1 + 1, emit s.2 o 0) q hlt er
        obtain ⟨b1, b2, b3, b4⟩ := jmL_grl h hz hf m (q.1, land q.2 s.2.2.2) t a2 e
        dsimp only [emit, land] at a1 a3 a4 b1 b3 b4
        omega
    · rw [if_neg h1] at e; cases e; exact ⟨Nat.le_refl _, hs, Nat.le_refl _, by omega⟩
theorem jm_grw {ch : Nat → Nat} {z o : Nat} {f : PSs → PRs} {n : Nat} (h : CHn256 ch n) (hz : z < 256) (hf : GRW f n) : GRW (jmF ch z o f) n := by
  intro s t hs e
  unfold jmF at e
  cases er : f s with
  | inl x => rw [er] at e; cases e
  | inr q =>
    rw [er] at e
    obtain ⟨a1, a2, a3, a4⟩ := hf s q hs er
    obtain ⟨b1, b2, b3, b4⟩ := jmL_grl h hz hf 240 q t a2 e
    omega
theorem cd_grw {ch : Nat → Nat} {f : PSs → PRs} {n : Nat} (h : CHn256 ch n) (hf : GRW f n) : GRW (cdF ch f) n := jm_grw h (by decide) (jm_grw h (by decide) hf)
theorem tF_grw {ch : Nat → Nat} {n : Nat} (h : CHn256 ch n) : ∀ k, GRW (tF ch k) n
  | 0 => te_grw h deep_grb deep_grb (eF_grw h 0)
  | k + 1 => te_grw h (in_grw h (by decide) (cd_grw h (tF_grw h k))) (nt_grb (ch := ch) (tF_grw h k)) (eF_grw h (k + 1))
end PARS1
