/-! FLOWS OVER MINUTES: conservation is said by test functions; a cut shows that there is no flow of all -/
def fsum : Nat → (Nat → Int) → Int
  | 0, _ => 0
  | n + 1, f => fsum n f + f n
theorem fsum_cong {n : Nat} {f g : Nat → Int} (h : ∀ i, i < n → f i = g i) : fsum n f = fsum n g := by
  induction n with
  | zero => rfl
  | succ n ih => rw [fsum, fsum, ih (fun i hi => h i (by omega)), h n (by omega)]
theorem fsum_le {n : Nat} {f g : Nat → Int} (h : ∀ i, i < n → f i ≤ g i) : fsum n f ≤ fsum n g := by
  induction n with
  | zero => exact Int.le_refl _
  | succ n ih => have h1 := ih (fun i hi => h i (by omega)); have h2 := h n (by omega); simp only [fsum]; omega
theorem fsum_0 (n : Nat) : fsum n (fun _ => 0) = 0 := by
  induction n with
  | zero => rfl
  | succ n ih => simp only [fsum, ih]; rfl
theorem fsum_add (n : Nat) (f g : Nat → Int) : fsum n (fun i => f i + g i) = fsum n f + fsum n g := by
  induction n with
  | zero => rfl
  | succ n ih => simp only [fsum, ih]; omega
theorem fsum_sub (n : Nat) (f g : Nat → Int) : fsum n (fun i => f i - g i) = fsum n f - fsum n g := by
  induction n with
  | zero => rfl
  | succ n ih => simp only [fsum, ih]; omega
theorem fsum_nn {n : Nat} {f : Nat → Int} (h : ∀ i, i < n → 0 ≤ f i) : 0 ≤ fsum n f := by
  have := fsum_le (f := fun _ => 0) (g := f) h
  rw [fsum_0] at this; exact this
theorem fsum_np {n : Nat} {f : Nat → Int} (h : ∀ i, i < n → f i ≤ 0) : fsum n f ≤ 0 := by
  have := fsum_le (f := f) (g := fun _ => 0) h
  rw [fsum_0] at this; exact this
theorem fsum_part {n : Nat} {f : Nat → Int} (h : ∀ i, i < n → 0 ≤ f i) {i : Nat} (hi : i < n) : f i ≤ fsum n f := by
  induction n with
  | zero => omega
  | succ n ih =>
    simp only [fsum]
    have h0 := fsum_nn (n := n) (f := f) (fun j hj => h j (by omega))
    by_cases e : i = n
    · subst e; omega
    · have := ih (fun j hj => h j (by omega)) (by omega)
      have := h n (by omega)
      omega
/-- one place changed -/
def iup (f : Nat → Int) (k : Nat) (v : Int) : Nat → Int := fun j => if j = k then v else f j
def iup2 (f : Nat → Nat → Int) (k m : Nat) (v : Int) : Nat → Nat → Int := fun j i => if j = k ∧ i = m then v else f j i
theorem fsum_up {n : Nat} {f g : Nat → Int} {k : Nat} (hk : k < n) (h : ∀ i, i ≠ k → g i = f i) : fsum n g = fsum n f + (g k - f k) := by
  induction n with
  | zero => omega
  | succ n ih =>
    simp only [fsum]
    by_cases e : k = n
    · subst e
      rw [fsum_cong (f := g) (g := f) (fun i hi => h i (by omega))]
      omega
    · rw [ih (by omega), h n (by omega)]
      omega
section FLOW
variable (K : Nat) (fr tt ln : Nat → Nat) (wd : Nat → Int) (cr : Nat → Int) (ra : Nat → Int)
/-- what a flow says of a test function -/
def FL (s : Nat → Int) (g w o : Nat → Nat → Int) (φ : Nat → Nat → Int) : Int :=
  fsum 8 (fun p => s p * φ p 0) + fsum 28 (fun k => fsum 40 (fun m => g k m * (φ (tt k) (m + ln k) - φ (fr k) m))) + fsum 8 (fun p => fsum 40 (fun m => w p m * (φ p (m + 1) - φ p m))) - fsum 8 (fun p => fsum 40 (fun m => o p m * φ p m))
/-- a flow in T minutes: s start, g begin an arc, w wait, o go out; ra: what a gate lets out (0: none) -/
def FOK (T : Nat) (s : Nat → Int) (g w o : Nat → Nat → Int) : Prop :=
  (∀ k m, k < 28 → m < 40 → 0 ≤ g k m ∧ (k < K → g k m ≤ wd k) ∧ (g k m ≠ 0 → k < K ∧ m + ln k < T)) ∧ (∀ p m, p < 8 → m < 40 → 0 ≤ w p m ∧ (w p m ≠ 0 → m + 1 < T)) ∧ (∀ p m, p < 8 → m < 40 → 0 ≤ o p m ∧ o p m ≤ ra p ∧ (o p m ≠ 0 → m < T)) ∧ ∀ φ, FL fr tt ln s g w o φ = 0
/-- all can be out in T minutes -/
def Feas (T : Nat) : Prop := ∃ g w o, FOK K fr tt ln wd ra T cr g w o
/-- a set of spots that no further person leaves -/
def FCut (T : Nat) (u : Nat → Int) (g w o : Nat → Nat → Int) (C : Nat → Nat → Prop) : Prop :=
  (∀ p, p < 8 → 0 < u p → C p 0) ∧ (∀ p m, p < 8 → m + 1 < T → C p m → C p (m + 1)) ∧ (∀ p m, p < 8 → m + 1 < T → C p (m + 1) → 0 < w p m → C p m) ∧ (∀ k m, k < K → m + ln k < T → C (fr k) m → g k m < wd k → C (tt k) (m + ln k)) ∧ (∀ k m, k < K → m + ln k < T → C (tt k) (m + ln k) → 0 < g k m → C (fr k) m) ∧ (∀ p m, p < 8 → m < T → C p m → o p m = ra p)
variable {K fr tt ln wd cr ra}
theorem cut_no {T : Nat} {u : Nat → Int} {g w o : Nat → Nat → Int} {C : Nat → Nat → Prop} (hT : T ≤ 40) (hK : K ≤ 28) (hF : FOK K fr tt ln wd ra T (fun p => cr p - u p) g w o) (hu : ∀ p, p < 8 → 0 ≤ u p) (hC : FCut K fr tt ln wd ra T u g w o C) (hl : 0 < fsum 8 u) : ¬ Feas K fr tt ln wd cr ra T := by
  intro ⟨g', w', o', hF'⟩
  obtain ⟨a1, a2, a3, a4⟩ := hF
  obtain ⟨b1, b2, b3, b4⟩ := hF'
  obtain ⟨c1, c2, c3, c4, c5, c6⟩ := hC
  classical
  let φ : Nat → Nat → Int := fun p m => if C p m then 1 else 0
  have e1 := a4 φ
  have e2 := b4 φ
  have hs : fsum 8 (fun p => u p) ≤ fsum 8 (fun p => cr p * φ p 0 - (cr p - u p) * φ p 0) := by
    apply fsum_le
    intro p hp
    by_cases hc : C p 0
    · simp only [φ, hc, if_true]; omega
    · have : ¬ 0 < u p := fun q => hc (c1 p hp q)
      have := hu p hp
      simp only [φ, hc, if_false]; omega
  have hg : 0 ≤ fsum 28 (fun k => fsum 40 (fun m => g' k m * (φ (tt k) (m + ln k) - φ (fr k) m)) - fsum 40 (fun m => g k m * (φ (tt k) (m + ln k) - φ (fr k) m))) := by
    apply fsum_nn
    intro k hk
    rw [← fsum_sub]
    apply fsum_nn
    intro m hm
    obtain ⟨x1, x2, x3⟩ := a1 k m hk hm
    obtain ⟨y1, y2, y3⟩ := b1 k m hk hm
    by_cases hin : k < K ∧ m + ln k < T
    · replace x2 := x2 hin.1
      replace y2 := y2 hin.1
      by_cases h1 : C (tt k) (m + ln k)
      · by_cases h2 : C (fr k) m
        · simp only [φ, h1, h2, if_true]; omega
        · have : ¬ 0 < g k m := fun q => h2 (c5 k m hin.1 hin.2 h1 q)
          simp only [φ, h1, h2, if_true, if_false]; omega
      · by_cases h2 : C (fr k) m
        · have : ¬ g k m < wd k := fun q => h1 (c4 k m hin.1 hin.2 h2 q)
          simp only [φ, h1, h2, if_true, if_false]; omega
        · simp only [φ, h1, h2, if_false]; omega
    · have z1 : g k m = 0 := Classical.byContradiction fun q => hin (x3 q)
      have z2 : g' k m = 0 := Classical.byContradiction fun q => hin (y3 q)
      rw [z1, z2]; omega
  have hw : 0 ≤ fsum 8 (fun p => fsum 40 (fun m => w' p m * (φ p (m + 1) - φ p m)) - fsum 40 (fun m => w p m * (φ p (m + 1) - φ p m))) := by
    apply fsum_nn
    intro p hp
    rw [← fsum_sub]
    apply fsum_nn
    intro m hm
    obtain ⟨x1, x3⟩ := a2 p m hp hm
    obtain ⟨y1, y3⟩ := b2 p m hp hm
    by_cases hin : m + 1 < T
    · by_cases h1 : C p (m + 1)
      · by_cases h2 : C p m
        · simp only [φ, h1, h2, if_true]; omega
        · have : ¬ 0 < w p m := fun q => h2 (c3 p m hp hin h1 q)
          simp only [φ, h1, h2, if_true, if_false]; omega
      · have h2 : ¬ C p m := fun q => h1 (c2 p m hp hin q)
        simp only [φ, h1, h2, if_false]; omega
    · have z1 : w p m = 0 := Classical.byContradiction fun q => hin (x3 q)
      have z2 : w' p m = 0 := Classical.byContradiction fun q => hin (y3 q)
      rw [z1, z2]; omega
  have ho : fsum 8 (fun p => fsum 40 (fun m => o' p m * φ p m) - fsum 40 (fun m => o p m * φ p m)) ≤ 0 := by
    apply fsum_np
    intro p hp
    rw [← fsum_sub]
    apply fsum_np
    intro m hm
    obtain ⟨x1, x2, x3⟩ := a3 p m hp hm
    obtain ⟨y1, y2, y3⟩ := b3 p m hp hm
    by_cases hin : m < T
    · by_cases h1 : C p m
      · have := c6 p m hp hin h1
        simp only [φ, h1, if_true]; omega
      · simp only [φ, h1, if_false]; omega
    · have z1 : o p m = 0 := Classical.byContradiction fun q => hin (x3 q)
      have z2 : o' p m = 0 := Classical.byContradiction fun q => hin (y3 q)
      rw [z1, z2]; omega
  rw [fsum_sub] at hs hg hw ho
  simp only [FL] at e1 e2
  have hl' : 0 < fsum 8 (fun p => u p) := hl
  omega
end FLOW
