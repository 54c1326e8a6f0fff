/-! halves, part 1: matchings -/
section MATCH
theorem pg : ∀ (n : Nat) (x : Nat → Nat), (∀ i, i ≤ n → x i < n) → ∃ i j, i < j ∧ j ≤ n ∧ x i = x j
  | 0, x, h => by have := h 0 (Nat.le_refl _); omega
  | n + 1, x, h => by
    by_cases hx : ∃ i, i ≤ n ∧ x i = x (n + 1)
    · obtain ⟨i, hi, e⟩ := hx
      exact ⟨i, n + 1, by omega, Nat.le_refl _, e⟩
    · have hv := h (n + 1) (Nat.le_refl _)
      have ne : ∀ i, i ≤ n → x i ≠ x (n + 1) := fun i hi e => hx ⟨i, hi, e⟩
      obtain ⟨i, j, hij, hj, e⟩ := pg n (fun i => if x i = n then x (n + 1) else x i) (fun i hi => by
        have h1 := h i (by omega)
        have h2 := ne i hi
        split <;> omega)
      have ni := ne i (by omega)
      have nj := ne j (by omega)
      refine ⟨i, j, hij, by omega, ?_⟩
      by_cases e1 : x i = n
      · rw [if_pos e1] at e
        by_cases e2 : x j = n
        · omega
        · rw [if_neg e2] at e; omega
      · rw [if_neg e1] at e
        by_cases e2 : x j = n
        · rw [if_pos e2] at e; omega
        · rw [if_neg e2] at e; exact e
/-- of how many to the right is l the partner -/
def cnP (P : Nat → Option Nat) (l : Nat) : Nat → Nat
  | 0 => 0
  | n + 1 => cnP P l n + (if P n = some l then 1 else 0)
def upO (P : Nat → Option Nat) (e : Nat) (v : Option Nat) : Nat → Option Nat := fun i => if i = e then v else P i
theorem cnP_cg {P R : Nat → Option Nat} {l : Nat} : ∀ n, (∀ e, e < n → P e = R e) → cnP P l n = cnP R l n
  | 0, _ => rfl
  | n + 1, h => by
    show cnP P l n + (if P n = some l then 1 else 0) = cnP R l n + (if R n = some l then 1 else 0)
    rw [cnP_cg n (fun e he => h e (by omega)), h n (by omega)]
theorem cnP_up {P : Nat → Option Nat} {e l : Nat} {v : Option Nat} : ∀ n, e < n → cnP (upO P e v) l n + (if P e = some l then 1 else 0) = cnP P l n + (if v = some l then 1 else 0)
  | 0, h => by omega
  | n + 1, h => by
    show cnP (upO P e v) l n + (if upO P e v n = some l then 1 else 0) + _ = cnP P l n + (if P n = some l then 1 else 0) + _
    by_cases he : e = n
    · subst he
      have h1 : cnP (upO P e v) l e = cnP P l e := cnP_cg e (fun i hi => by unfold upO; rw [if_neg (by omega)])
      have h2 : upO P e v e = v := by unfold upO; rw [if_pos rfl]
      rw [h1, h2]
      omega
    · have ih := cnP_up (P := P) (e := e) (l := l) (v := v) n (by omega)
      have h2 : upO P e v n = P n := by unfold upO; rw [if_neg (by omega)]
      rw [h2]
      omega
theorem cnP_ex {P : Nat → Option Nat} {l : Nat} : ∀ n, 1 ≤ cnP P l n → ∃ e, e < n ∧ P e = some l
  | 0, h => by
    have : cnP P l 0 = 0 := rfl
    omega
  | n + 1, h => by
    by_cases hn : P n = some l
    · exact ⟨n, by omega, hn⟩
    · have h1 : cnP P l (n + 1) = cnP P l n + (if P n = some l then 1 else 0) := rfl
      rw [if_neg hn] at h1
      obtain ⟨e, he, ee⟩ := cnP_ex (P := P) (l := l) n (by omega)
      exact ⟨e, by omega, ee⟩
theorem cnP_pos {P : Nat → Option Nat} {l e : Nat} (h : P e = some l) : ∀ n, e < n → 1 ≤ cnP P l n
  | 0, he => by omega
  | n + 1, he => by
    have h1 : cnP P l (n + 1) = cnP P l n + (if P n = some l then 1 else 0) := rfl
    by_cases hn : e = n
    · rw [← hn] at h1
      rw [if_pos h] at h1
      rw [← hn]
      omega
    · have := cnP_pos h n (by omega)
      omega
theorem cnP_two {P : Nat → Option Nat} {l e f : Nat} (he : P e = some l) (hf : P f = some l) (hef : e < f) : ∀ n, f < n → 2 ≤ cnP P l n
  | 0, h => by omega
  | n + 1, h => by
    have h1 : cnP P l (n + 1) = cnP P l n + (if P n = some l then 1 else 0) := rfl
    by_cases hn : f = n
    · rw [← hn] at h1
      rw [if_pos hf] at h1
      have := cnP_pos he f hef
      rw [← hn]
      omega
    · have := cnP_two he hf hef n (by omega)
      omega
theorem cnP_inj {P : Nat → Option Nat} {l e f n : Nat} (h : cnP P l n ≤ 1) (he : P e = some l) (hf : P f = some l) (h1 : e < n) (h2 : f < n) : e = f := by
  rcases Nat.lt_trichotomy e f with h3 | h3 | h3
  · have := cnP_two he hf h3 n h2; omega
  · exact h3
  · have := cnP_two hf he h3 n h1; omega
/-- those of L can all have a partner -/
def Mt (adj : Nat → Nat → Bool) (L : Nat → Bool) : Prop := ∃ g : Nat → Nat, (∀ l, l < 20 → L l = true → g l < 20 ∧ adj l (g l) = true) ∧ ∀ l m, l < 20 → m < 20 → L l = true → L m = true → g l = g m → l = m
def CN (P : Nat → Option Nat) (L : Nat → Bool) : Prop := ∀ l, cnP P l 20 = (L l).toNat
def VMt (adj : Nat → Nat → Bool) (P : Nat → Option Nat) : Prop := ∀ e l, e < 20 → P e = some l → l < 20 ∧ adj l e = true
theorem mt_of {adj : Nat → Nat → Bool} {P : Nat → Option Nat} {L : Nat → Bool} (hC : CN P L) (hV : VMt adj P) : Mt adj L := by
  have hx : ∀ l, ∃ e, L l = true → e < 20 ∧ P e = some l := by
    intro l
    cases hl : L l with
    | false => exact ⟨0, fun e => by cases e⟩
    | true =>
      have := hC l
      rw [hl] at this
      have h1 : Bool.toNat true = 1 := rfl
      obtain ⟨e, he, ee⟩ := cnP_ex (P := P) (l := l) 20 (by omega)
      exact ⟨e, fun _ => ⟨he, ee⟩⟩
  refine ⟨fun l => Classical.choose (hx l), fun l hl hL => ?_, fun l m hl hm hL hM e => ?_⟩
  · have := Classical.choose_spec (hx l) hL
    exact ⟨this.1, (hV _ l this.1 this.2).2⟩
  · have h1 := Classical.choose_spec (hx l) hL
    have h2 := Classical.choose_spec (hx m) hM
    dsimp only at e
    rw [e, h2.2] at h1
    exact (Option.some.inj h1.2).symm
def addL (L : Nat → Bool) (r : Nat) : Nat → Bool := fun l => L l || decide (l = r)
theorem no_mt {adj : Nat → Nat → Bool} {P : Nat → Option Nat} {L : Nat → Bool} {r : Nat} {S : Nat → Bool} (hr : r < 20) (hLr : L r = false) (hC : CN P L) (hV : VMt adj P) (h1 : ∀ e, e < 20 → adj r e = true → S e = true) (h2 : ∀ e, e < 20 → S e = true → ∃ l, P e = some l ∧ ∀ f, f < 20 → adj l f = true → S f = true) : ¬ Mt adj (addL L r) := by
  rintro ⟨g, g1, g2⟩
  have hrL : addL L r r = true := by unfold addL; simp
  have hPL : ∀ e l, e < 20 → P e = some l → l < 20 ∧ L l = true ∧ addL L r l = true := by
    intro e l he ee
    have a1 := cnP_pos ee 20 he
    have a2 := hC l
    have a3 : L l = true := by
      cases hl : L l with
      | true => rfl
      | false =>
        rw [hl] at a2
        have : Bool.toNat false = 0 := rfl
        omega
    exact ⟨(hV e l he ee).1, a3, by unfold addL; rw [a3]; rfl⟩
  let f : Nat → Nat := fun x => match P x with
    | none => 0
    | some l => g l
  have fS : ∀ x, x < 20 → S x = true → f x < 20 ∧ S (f x) = true := by
    intro x hx hs
    obtain ⟨l, el, cl⟩ := h2 x hx hs
    obtain ⟨b1, b2, b3⟩ := hPL x l hx el
    have e : f x = g l := by show (match P x with | none => 0 | some l => g l) = g l; rw [el]
    rw [e]
    exact ⟨(g1 l b1 b3).1, cl _ (g1 l b1 b3).1 (g1 l b1 b3).2⟩
  have fI : ∀ x y, x < 20 → y < 20 → S x = true → S y = true → f x = f y → x = y := by
    intro x y hx hy sx sy e
    obtain ⟨l, el, -⟩ := h2 x hx sx
    obtain ⟨m, em, -⟩ := h2 y hy sy
    obtain ⟨b1, b2, b3⟩ := hPL x l hx el
    obtain ⟨c1, c2, c3⟩ := hPL y m hy em
    have e1 : f x = g l := by show (match P x with | none => 0 | some l => g l) = g l; rw [el]
    have e2 : f y = g m := by show (match P y with | none => 0 | some l => g l) = g m; rw [em]
    rw [e1, e2] at e
    have e3 := g2 l m b1 c1 b3 c3 e
    subst e3
    have a2 := hC l
    have : (L l).toNat ≤ 1 := Bool.toNat_le _
    exact cnP_inj (by omega) el em hx hy
  have f0 : ∀ x, x < 20 → S x = true → f x ≠ g r := by
    intro x hx sx e
    obtain ⟨l, el, -⟩ := h2 x hx sx
    obtain ⟨b1, b2, b3⟩ := hPL x l hx el
    have e1 : f x = g l := by show (match P x with | none => 0 | some l => g l) = g l; rw [el]
    rw [e1] at e
    have e3 := g2 l r b1 hr b3 hrL e
    rw [e3, hLr] at b2
    cases b2
  let s : Nat → Nat := fun n => Nat.rec (g r) (fun _ x => f x) n
  have s0 : s 0 = g r := rfl
  have ss : ∀ n, s (n + 1) = f (s n) := fun n => rfl
  have sS : ∀ n, s n < 20 ∧ S (s n) = true := by
    intro n
    induction n with
    | zero => rw [s0]; exact ⟨(g1 r hr hrL).1, h1 _ (g1 r hr hrL).1 (g1 r hr hrL).2⟩
    | succ n ih => rw [ss]; exact fS _ ih.1 ih.2
  have sD : ∀ i j, s i ≠ s (i + j + 1) := by
    intro i
    induction i with
    | zero =>
      intro j e
      rw [Nat.zero_add, s0, ss] at e
      exact f0 _ (sS j).1 (sS j).2 e.symm
    | succ i ih =>
      intro j e
      rw [show i + 1 + j + 1 = (i + j + 1) + 1 by omega, ss i, ss (i + j + 1)] at e
      exact ih j (fI _ _ (sS i).1 (sS (i + j + 1)).1 (sS i).2 (sS (i + j + 1)).2 e)
  obtain ⟨i, j, hij, -, e⟩ := pg 20 s (fun i _ => (sS i).1)
  have := sD i (j - i - 1)
  rw [show i + (j - i - 1) + 1 = j by omega] at this
  exact this e
/-! who gets a partner, one by one -/
noncomputable def gdL (adj : Nat → Nat → Bool) (ev : Nat → Bool) : Nat → Nat → Bool
  | 0, _ => false
  | r + 1, l => gdL adj ev r l || (decide (l = r) && ev r && @decide (Mt adj (addL (gdL adj ev r) r)) (Classical.propDecidable _))
noncomputable def ctL (adj : Nat → Nat → Bool) (ev : Nat → Bool) : Nat → Nat
  | 0 => 0
  | r + 1 => ctL adj ev r + (gdL adj ev (r + 1) r).toNat
theorem gd_lt {adj : Nat → Nat → Bool} {ev : Nat → Bool} : ∀ r l, gdL adj ev r l = true → l < r ∧ ev l = true
  | 0, l, h => by cases h
  | r + 1, l, h => by
    unfold gdL at h
    rw [Bool.or_eq_true] at h
    rcases h with h | h
    · have := gd_lt r l h
      exact ⟨by omega, this.2⟩
    · rw [Bool.and_eq_true, Bool.and_eq_true, decide_eq_true_iff] at h
      obtain ⟨⟨h1, h2⟩, h3⟩ := h
      subst h1
      exact ⟨by omega, h2⟩
theorem gd_r {adj : Nat → Nat → Bool} {ev : Nat → Bool} (r : Nat) : gdL adj ev r r = false := by
  cases h : gdL adj ev r r with
  | false => rfl
  | true => have := (gd_lt r r h).1; omega
theorem gd_yes {adj : Nat → Nat → Bool} {ev : Nat → Bool} {r : Nat} (he : ev r = true) (hM : Mt adj (addL (gdL adj ev r) r)) : (∀ l, gdL adj ev (r + 1) l = addL (gdL adj ev r) r l) ∧ ctL adj ev (r + 1) = ctL adj ev r + 1 := by
  have h1 : ∀ l, gdL adj ev (r + 1) l = addL (gdL adj ev r) r l := by
    intro l
    show (gdL adj ev r l || (decide (l = r) && ev r && @decide (Mt adj (addL (gdL adj ev r) r)) (Classical.propDecidable _))) = _
    rw [he, @decide_eq_true _ (Classical.propDecidable _) hM, Bool.and_true, Bool.and_true]
    rfl
  refine ⟨h1, ?_⟩
  show ctL adj ev r + (gdL adj ev (r + 1) r).toNat = _
  rw [h1 r]
  unfold addL
  simp
theorem gd_no {adj : Nat → Nat → Bool} {ev : Nat → Bool} {r : Nat} (h : ev r = false ∨ ¬ Mt adj (addL (gdL adj ev r) r)) : (∀ l, gdL adj ev (r + 1) l = gdL adj ev r l) ∧ ctL adj ev (r + 1) = ctL adj ev r := by
  have h1 : ∀ l, gdL adj ev (r + 1) l = gdL adj ev r l := by
    intro l
    show (gdL adj ev r l || (decide (l = r) && ev r && @decide (Mt adj (addL (gdL adj ev r) r)) (Classical.propDecidable _))) = _
    rcases h with h | h
    · rw [h, Bool.and_false, Bool.false_and, Bool.or_false]
    · rw [@decide_eq_false _ (Classical.propDecidable _) h, Bool.and_false, Bool.or_false]
  refine ⟨h1, ?_⟩
  show ctL adj ev r + (gdL adj ev (r + 1) r).toNat = _
  rw [h1 r, gd_r]
  rfl
theorem ctL_le {adj : Nat → Nat → Bool} {ev : Nat → Bool} : ∀ r, ctL adj ev r ≤ r
  | 0 => Nat.le_refl _
  | r + 1 => by
    have := ctL_le (adj := adj) (ev := ev) r
    have h2 : (gdL adj ev (r + 1) r).toNat ≤ 1 := Bool.toNat_le _
    show ctL adj ev r + (gdL adj ev (r + 1) r).toNat ≤ r + 1
    omega
end MATCH
