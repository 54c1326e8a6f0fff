/-! months depend on targets and people of 0 to 5 alone -/
section MONTHSCG
variable {fc ft : Nat → Bool} {AN AD XL AK : (Nat → Int32) → Int32} {T T2 Pp P2 : Nat → Int32}
theorem Vof_cg {n : Nat → Int32} {c f : Nat} {mo : Int32} (h1 : T2 f = T f) (h2 : P2 c = Pp c) : Vof n T2 P2 c f mo = Vof n T Pp c f mo := by
  unfold Vof
  rw [h1, h2]
theorem hapN_cg {n : Nat → Int32} {c f : Nat} (h1 : T2 f = T f) (h2 : P2 c = Pp c) : hapN AN AD XL T2 P2 c f n = hapN AN AD XL T Pp c f n := by
  unfold hapN
  rw [Vof_cg h1 h2]
theorem hapH_cg {n : Nat → Int32} {c f : Nat} (h1 : T2 f = T f) (h2 : P2 c = Pp c) : hapH AN AD T2 P2 c f n = hapH AN AD T Pp c f n := by
  unfold hapH
  rw [Vof_cg h1 h2]
theorem letF_cg {c : Nat} (h1 : ∀ f, f < 6 → T2 f = T f) (h2 : P2 c = Pp c) : ∀ (m f : Nat) (p : (Nat → Int32) × Int32), f + m = 6 → letF (hapN AN AD XL T2 P2 c) (hapH AN AD T2 P2 c) ft m f p = letF (hapN AN AD XL T Pp c) (hapH AN AD T Pp c) ft m f p := by
  intro m
  induction m with
  | zero => intro f p _; simp only [letF]
  | succ m ih =>
    intro f p h
    simp only [letF]
    rw [hapN_cg (h1 f (by omega)) h2, hapH_cg (h1 f (by omega)) h2]
    exact ih (f + 1) _ (by omega)
theorem mcF_cg (h1 : ∀ f, f < 6 → T2 f = T f) (h2 : ∀ c, c < 6 → P2 c = Pp c) : ∀ (m c : Nat) (p : (Nat → Int32) × Int32), c + m = 6 → mcF (letL AN AD XL T2 P2 ft) fc m c p = mcF (letL AN AD XL T Pp ft) fc m c p := by
  intro m
  induction m with
  | zero => intro c p _; simp only [mcF]
  | succ m ih =>
    intro c p h
    have e : letL AN AD XL T2 P2 ft c p = letL AN AD XL T Pp ft c p := by
      unfold letL
      exact letF_cg h1 (h2 c (by omega)) 6 0 p rfl
    simp only [mcF]
    rw [e]
    exact ih (c + 1) _ (by omega)
theorem chF_cg {K K2 : Nat → Int32} (hK : ∀ c, c < 6 → K2 c = K c) : ∀ (m c : Nat) (p : Option Nat × Int32), c + m = 6 → chF fc K2 m c p = chF fc K m c p := by
  intro m
  induction m with
  | zero => intro c p _; simp only [chF]
  | succ m ih =>
    intro c p h
    have e : chS K2 c p = chS K c p := by unfold chS; rw [hK c (by omega)]
    simp only [chF]
    rw [e]
    exact ih (c + 1) _ (by omega)
theorem stG_cg {f : Nat} (h1 : T2 f = T f) (h2 : ∀ c, c < 6 → P2 c = Pp c) : ∀ (m : Nat) (p : ST3), stG fc AK T2 P2 f m p = stG fc AK T Pp f m p := by
  intro m
  induction m with
  | zero => intro p; simp only [stG]
  | succ m ih =>
    intro p
    have e : chF fc (fun c => AK (Vof p.1 T2 P2 c f (kI 11))) 6 0 (none, 0) = chF fc (fun c => AK (Vof p.1 T Pp c f (kI 11))) 6 0 (none, 0) := chF_cg (fun c hc => by rw [Vof_cg h1 (h2 c hc)]) 6 0 _ rfl
    unfold stG
    rw [h1, e]
    by_cases ht : T f ≤ sum6 p.1 f
    · rw [if_pos ht, if_pos ht]
    · rw [if_neg ht, if_neg ht]
      generalize chF fc (fun c => AK (Vof p.1 T Pp c f (kI 11))) 6 0 (none, 0) = R
      obtain ⟨o, k⟩ := R
      cases o with
      | none => rfl
      | some c =>
        dsimp only
        by_cases hd : p.1 159 < k
        · rw [if_pos hd, if_pos hd]
        · rw [if_neg hd, if_neg hd]
          exact ih _
theorem stA_cg (h1 : ∀ f, f < 6 → T2 f = T f) (h2 : ∀ c, c < 6 → P2 c = Pp c) : ∀ (m f : Nat) (p : ST3), f + m = 6 → stA fc ft AK T2 P2 m f p = stA fc ft AK T Pp m f p := by
  intro m
  induction m with
  | zero => intro f p _; simp only [stA]
  | succ m ih =>
    intro f p h
    simp only [stA]
    rw [stG_cg (h1 f (by omega)) h2 200 p]
    exact ih (f + 1) _ (by omega)
theorem caF_cg {n : Nat → Int32} (h1 : ∀ f, f < 6 → T2 f = T f) : ∀ (m f : Nat) (a : Int32), f + m = 6 → caF ft T2 n m f a = caF ft T n m f a := by
  intro m
  induction m with
  | zero => intro f a _; simp only [caF]
  | succ m ih =>
    intro f a h
    simp only [caF]
    rw [h1 f (by omega)]
    exact ih (f + 1) _ (by omega)
theorem yeN_cg {n : Nat → Int32} {sd : Int32} (h1 : ∀ f, f < 6 → T2 f = T f) : yeN ft T2 sd n = yeN ft T sd n := by
  unfold yeN
  rw [caF_cg h1 6 0 _ rfl]
theorem mnF_cg {sd : Int32} (h1 : ∀ f, f < 6 → T2 f = T f) (h2 : ∀ c, c < 6 → P2 c = Pp c) (p : ST5) : mnF fc ft AN AD XL AK T2 P2 sd p = mnF fc ft AN AD XL AK T Pp sd p := by
  unfold mnF mnE
  rw [mcF_cg h1 h2 6 0 _ rfl, stA_cg h1 h2 6 0 _ rfl, yeN_cg h1, caF_cg h1 6 0 _ rfl]
theorem msF_cg {sd : Int32} (h1 : ∀ f, f < 6 → T2 f = T f) (h2 : ∀ c, c < 6 → P2 c = Pp c) : ∀ (m : Nat) (p : ST5), msF fc ft AN AD XL AK T2 P2 sd m p = msF fc ft AN AD XL AK T Pp sd m p := by
  intro m
  induction m with
  | zero => intro p; simp only [msF]
  | succ m ih =>
    intro p
    unfold msF
    rw [mnF_cg h1 h2 p]
    by_cases hy : kI 999 ≤ p.1 158
    · rw [if_pos hy, if_pos hy]
    · rw [if_neg hy, if_neg hy]
      exact ih _
end MONTHSCG
