/-! FLOWS: what one change does -/
section FLOW2
variable {fr tt ln : Nat → Nat} {s s' : Nat → Int} {g g' w w' o o' : Nat → Nat → Int} {φ : Nat → Nat → Int} {n : Int}
theorem fsum2_up {A B : Nat} {f f' : Nat → Nat → Int} {k m : Nat} {v : Int} (hk : k < A) (hm : m < B) (h : ∀ i j, i < A → j < B → ¬ (i = k ∧ j = m) → f' i j = f i j) (e : f' k m = f k m + v) : fsum A (fun i => fsum B (fun j => f' i j)) = fsum A (fun i => fsum B (fun j => f i j)) + v := by
  have h1 : fsum B (fun j => f' k j) = fsum B (fun j => f k j) + v := by
    let q : Nat → Int := fun j => if j < B then f' k j else f k j
    have e1 : fsum B (fun j => f' k j) = fsum B q := fsum_cong (fun i hi => by simp [q, hi])
    rw [e1, fsum_up (f := fun j => f k j) (g := q) (k := m) hm (fun i hi => ?_)]
    · simp only [q, hm, if_true]; omega
    · simp only [q]
      split
      · rename_i hq; exact h k i hk hq (fun x => hi x.2)
      · rfl
  let q : Nat → Int := fun i => if i < A then fsum B (fun j => f' i j) else fsum B (fun j => f i j)
  have e1 : fsum A (fun i => fsum B (fun j => f' i j)) = fsum A q := fsum_cong (fun i hi => by simp [q, hi])
  rw [e1, fsum_up (f := fun i => fsum B (fun j => f i j)) (g := q) (k := k) hk (fun i hi => ?_)]
  · simp only [q, hk, if_true]; omega
  · simp only [q]
    split
    · rename_i hq; exact fsum_cong (fun j hj => h i j hq hj (fun x => hi x.1))
    · rfl
theorem FL_cong (hs : ∀ p, p < 8 → s' p = s p) (hg : ∀ k m, k < 28 → m < 40 → g' k m = g k m) (hw : ∀ p m, p < 8 → m < 40 → w' p m = w p m) (ho : ∀ p m, p < 8 → m < 40 → o' p m = o p m) : FL fr tt ln s' g' w' o' φ = FL fr tt ln s g w o φ := by
  unfold FL
  rw [fsum_cong (n := 8) (f := fun p => s' p * φ p 0) (g := fun p => s p * φ p 0) (fun p hp => by rw [hs p hp]), fsum_cong (n := 28) (f := fun k => fsum 40 (fun m => g' k m * (φ (tt k) (m + ln k) - φ (fr k) m))) (g := fun k => fsum 40 (fun m => g k m * (φ (tt k) (m + ln k) - φ (fr k) m))) (fun k hk => fsum_cong (fun m hm => by rw [hg k m hk hm])), fsum_cong (n := 8) (f := fun p => fsum 40 (fun m => w' p m * (φ p (m + 1) - φ p m))) (g := fun p => fsum 40 (fun m => w p m * (φ p (m + 1) - φ p m))) (fun k hk => fsum_cong (fun m hm => by rw [hw k m hk hm])), fsum_cong (n := 8) (f := fun p => fsum 40 (fun m => o' p m * φ p m)) (g := fun p => fsum 40 (fun m => o p m * φ p m)) (fun k hk => fsum_cong (fun m hm => by rw [ho k m hk hm]))]
theorem FL_s {p : Nat} (hp : p < 8) (e : s' p = s p + n) (h : ∀ q, q < 8 → q ≠ p → s' q = s q) : FL fr tt ln s' g w o φ = FL fr tt ln s g w o φ + n * φ p 0 := by
  unfold FL
  have : fsum 8 (fun p => s' p * φ p 0) = fsum 8 (fun p => s p * φ p 0) + n * φ p 0 := by
    let q : Nat → Int := fun i => if i < 8 then s' i * φ i 0 else s i * φ i 0
    have e1 : fsum 8 (fun i => s' i * φ i 0) = fsum 8 q := fsum_cong (fun i hi => by simp [q, hi])
    rw [e1, fsum_up (f := fun i => s i * φ i 0) (g := q) (k := p) hp (fun i hi => ?_)]
    · simp only [q, hp, if_true, e, Int.add_mul]; omega
    · simp only [q]
      split
      · rename_i hq; rw [h i hq hi]
      · rfl
  omega
theorem FL_g {k m : Nat} (hk : k < 28) (hm : m < 40) (e : g' k m = g k m + n) (h : ∀ i j, i < 28 → j < 40 → ¬ (i = k ∧ j = m) → g' i j = g i j) : FL fr tt ln s g' w o φ = FL fr tt ln s g w o φ + n * (φ (tt k) (m + ln k) - φ (fr k) m) := by
  unfold FL
  have := fsum2_up (f := fun k m => g k m * (φ (tt k) (m + ln k) - φ (fr k) m)) (f' := fun k m => g' k m * (φ (tt k) (m + ln k) - φ (fr k) m)) (v := n * (φ (tt k) (m + ln k) - φ (fr k) m)) hk hm (fun i j hi hj c => by rw [h i j hi hj c]) (by simp only [e, Int.add_mul])
  omega
theorem FL_w {p m : Nat} (hp : p < 8) (hm : m < 40) (e : w' p m = w p m + n) (h : ∀ i j, i < 8 → j < 40 → ¬ (i = p ∧ j = m) → w' i j = w i j) : FL fr tt ln s g w' o φ = FL fr tt ln s g w o φ + n * (φ p (m + 1) - φ p m) := by
  unfold FL
  have := fsum2_up (f := fun p m => w p m * (φ p (m + 1) - φ p m)) (f' := fun p m => w' p m * (φ p (m + 1) - φ p m)) (v := n * (φ p (m + 1) - φ p m)) hp hm (fun i j hi hj c => by rw [h i j hi hj c]) (by simp only [e, Int.add_mul])
  omega
theorem FL_o {p m : Nat} (hp : p < 8) (hm : m < 40) (e : o' p m = o p m + n) (h : ∀ i j, i < 8 → j < 40 → ¬ (i = p ∧ j = m) → o' i j = o i j) : FL fr tt ln s g w o' φ = FL fr tt ln s g w o φ - n * φ p m := by
  unfold FL
  have := fsum2_up (f := fun p m => o p m * φ p m) (f' := fun p m => o' p m * φ p m) (v := n * φ p m) hp hm (fun i j hi hj c => by rw [h i j hi hj c]) (by simp only [e, Int.add_mul])
  omega
/-- n more wait at p from a to b -/
theorem FL_ww {p a b : Nat} (hp : p < 8) (hab : a ≤ b) (hb : b ≤ 40) (e : ∀ m, a ≤ m → m < b → w' p m = w p m + n) (h : ∀ i j, i < 8 → j < 40 → ¬ (i = p ∧ a ≤ j ∧ j < b) → w' i j = w i j) : FL fr tt ln s g w' o φ = FL fr tt ln s g w o φ + n * (φ p b - φ p a) := by
  induction b generalizing w' with
  | zero =>
    have : a = 0 := by omega
    subst this
    rw [FL_cong (fun _ _ => rfl) (fun _ _ _ _ => rfl) (fun i j hi hj => h i j hi hj (by omega)) (fun _ _ _ _ => rfl)]
    simp
  | succ b ih =>
    by_cases hq : a = b + 1
    · subst hq
      rw [FL_cong (fun _ _ => rfl) (fun _ _ _ _ => rfl) (fun i j hi hj => h i j hi hj (by omega)) (fun _ _ _ _ => rfl)]
      simp
    · have h1 := ih (w' := fun i j => if i = p ∧ j = b then w i j else w' i j) (by omega) (by omega) (fun m h1 h2 => by
        show (if p = p ∧ m = b then w p m else w' p m) = w p m + n
        rw [if_neg (by omega)]; exact e m h1 (by omega)) (fun i j hi hj c => by
        show (if i = p ∧ j = b then w i j else w' i j) = w i j
        split
        · rfl
        · exact h i j hi hj (by omega))
      have h2 := FL_w (fr := fr) (tt := tt) (ln := ln) (s := s) (g := g) (o := o) (φ := φ) (w := fun i j => if i = p ∧ j = b then w i j else w' i j) (w' := w') (p := p) (m := b) (n := n) hp (by omega) (by
        show w' p b = (if p = p ∧ b = b then w p b else w' p b) + n
        rw [if_pos ⟨rfl, rfl⟩]; exact e b (by omega) (by omega)) (fun i j hi hj c => by
        show w' i j = (if i = p ∧ j = b then w i j else w' i j)
        rw [if_neg c])
      rw [h2, h1]
      simp only [Int.mul_sub]
      omega
end FLOW2
