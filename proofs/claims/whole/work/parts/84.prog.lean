/-! THE PROGRAMME: sums, what is sent above WIDE counted in two ways, codes of shifts -/
def nsum : Nat → (Nat → Nat) → Nat
  | 0, _ => 0
  | n + 1, f => nsum n f + f n
theorem nsum_cong {n : Nat} {f g : Nat → Nat} (h : ∀ i, i < n → f i = g i) : nsum n f = nsum n g := by
  induction n with
  | zero => rfl
  | succ n ih => rw [nsum, nsum, ih (fun i hi => h i (by omega)), h n (by omega)]
theorem nsum_0 (n : Nat) : nsum n (fun _ => 0) = 0 := by
  induction n with
  | zero => rfl
  | succ n ih => rw [nsum, ih]
theorem nsum_add (n : Nat) (f g : Nat → Nat) : nsum n (fun i => f i + g i) = nsum n f + nsum n g := by
  induction n with
  | zero => rfl
  | succ n ih => rw [nsum, nsum, nsum, ih]; omega
theorem nsum_swap (n m : Nat) (f : Nat → Nat → Nat) : nsum n (fun i => nsum m (fun k => f i k)) = nsum m (fun k => nsum n (fun i => f i k)) := by
  induction n with
  | zero => simp only [nsum]; rw [nsum_0]
  | succ n ih => simp only [nsum]; rw [ih, nsum_add]
theorem nsum_up {n k d : Nat} {f g : Nat → Nat} (hk : k < n) (h : ∀ i, i < n → i ≠ k → g i = f i) (hd : g k = f k + d) : nsum n g = nsum n f + d := by
  induction n with
  | zero => omega
  | succ n ih =>
    rw [nsum, nsum]
    by_cases e : k = n
    · subst e
      rw [nsum_cong (f := g) (g := f) (fun i hi => h i (by omega) (by omega)), hd]
      omega
    · rw [ih (by omega) (fun i hi hne => h i (by omega) hne), h n (by omega) (by omega)]
      omega
theorem nsum_bd {n c : Nat} {f : Nat → Nat} (h : ∀ i, i < n → f i ≤ c) : nsum n f ≤ n * c := by
  induction n with
  | zero => rw [nsum]; omega
  | succ n ih =>
    have := ih (fun i hi => h i (by omega))
    have := h n (by omega)
    rw [nsum, Nat.succ_mul]
    omega
theorem nsum_mono {n m : Nat} {f : Nat → Nat} (h : n ≤ m) : nsum n f ≤ nsum m f := by
  induction m with
  | zero => rw [show n = 0 by omega]; exact Nat.le_refl _
  | succ m ih =>
    by_cases e : n = m + 1
    · rw [e]; exact Nat.le_refl _
    · have := ih (by omega)
      rw [nsum]
      omega
theorem nsum_win {N B : Nat} (h : Nat → Nat) : ∀ {K : Nat}, B + K ≤ N → nsum N (fun t => if B ≤ t ∧ t < B + K then h t else 0) = nsum K (fun m => h (B + m)) := by
  induction N with
  | zero =>
    intro K hK
    rw [show K = 0 by omega]; rfl
  | succ N ih =>
    intro K hK
    rw [nsum]
    by_cases c : B + K ≤ N
    · rw [ih c, if_neg (by omega)]; rfl
    · cases K with
      | zero =>
        rw [if_neg (by omega), nsum_cong (g := fun _ => 0) (fun i hi => if_neg (by omega)), nsum_0]; rfl
      | succ K =>
        rw [if_pos (by omega), nsum_cong (g := fun t => if B ≤ t ∧ t < B + K then h t else 0) (fun i hi => by
          by_cases q : B ≤ i
          · rw [if_pos ⟨q, by omega⟩, if_pos ⟨q, by omega⟩]
          · rw [if_neg (by omega), if_neg (by omega)]), ih (by omega), nsum, show N = B + K by omega]
theorem first_ex {P : Nat → Prop} (n : Nat) : P n → ∃ k, k ≤ n ∧ P k ∧ ∀ j, j < k → ¬ P j := by
  induction n using Nat.strongRecOn with
  | ind n ih =>
    intro h
    by_cases c : ∃ j, j < n ∧ P j
    · obtain ⟨j, hj, hp⟩ := c
      obtain ⟨k, h1, h2, h3⟩ := ih j hj hp
      exact ⟨k, by omega, h2, h3⟩
    · exact ⟨n, Nat.le_refl _, h, fun j hj q => c ⟨j, hj, q⟩⟩
section PROG
variable (A : Nat → Int32) (W P E f : Nat → Nat)
def sbf (a t j : Nat) : Nat := nsum j (fun k => if A k = A a ∧ E k + 10 * f k ≤ t ∧ t < E k + 10 * f k + 10 then P k else 0)
def gO (a t : Nat) : Nat := P a - (W a - sbf A P E f a t a)
def AO (a : Nat) : Nat := nsum 10 (fun m => gO A W P E f a (E a + 10 * f a + m))
def VC (n : Nat) : Nat := nsum n (fun a => AO A W P E f a)
def eb (a t : Nat) : Prop := ∃ k, k < a ∧ A k = A a ∧ E k + 10 * f k ≤ t ∧ t < E k + 10 * f k + 10
noncomputable def abv (n a t : Nat) : Nat := if dc (eb A E f a t) then 0 else sbf A P E f a t n - W a
noncomputable def mAl (n : Nat) : Nat := nsum n (fun a => nsum 10 (fun m => abv A W P E f n a (E a + 10 * f a + m)))
def sSh (n : Nat) : Nat := nsum n (fun i => 10 * f i)
variable {A W P E f}
theorem sbf_cong {a b t j : Nat} (h : A a = A b) : sbf A P E f a t j = sbf A P E f b t j := by unfold sbf; rw [h]
theorem sbf_T {a t j : Nat} (h : A j = A a ∧ E j + 10 * f j ≤ t ∧ t < E j + 10 * f j + 10) : sbf A P E f a t (j + 1) = sbf A P E f a t j + P j := by
  unfold sbf; rw [nsum, if_pos h]
theorem sbf_F {a t j : Nat} (h : ¬ (A j = A a ∧ E j + 10 * f j ≤ t ∧ t < E j + 10 * f j + 10)) : sbf A P E f a t (j + 1) = sbf A P E f a t j := by
  unfold sbf; rw [nsum, if_neg h]; rfl
theorem abv_T {n a t : Nat} (h : eb A E f a t) : abv A W P E f n a t = 0 := by unfold abv; rw [dc_T h]; rfl
theorem abv_F {n a t : Nat} (h : ¬ eb A E f a t) : abv A W P E f n a t = sbf A P E f a t n - W a := by unfold abv; rw [dc_F h]; rfl
theorem pt_eq {n : Nat} (hW : ∀ a b, a < n → b < n → A a = A b → W a = W b) (t : Nat) : nsum n (fun a => if E a + 10 * f a ≤ t ∧ t < E a + 10 * f a + 10 then abv A W P E f n a t else 0) = nsum n (fun a => if E a + 10 * f a ≤ t ∧ t < E a + 10 * f a + 10 then gO A W P E f a t else 0) := by
  have step : ∀ j, j ≤ n → nsum n (fun a => if E a + 10 * f a ≤ t ∧ t < E a + 10 * f a + 10 then (if dc (eb A E f a t) then 0 else sbf A P E f a t j - W a) else 0) = nsum j (fun a => if E a + 10 * f a ≤ t ∧ t < E a + 10 * f a + 10 then gO A W P E f a t else 0) := by
    intro j
    induction j with
    | zero =>
      intro _
      rw [nsum_cong (g := fun _ => 0) (fun i hi => ?_), nsum_0]
      · rfl
      · show (if _ then (if _ then 0 else 0 - W i) else 0) = 0
        rw [Nat.zero_sub]
        split
        · split <;> rfl
        · rfl
    | succ j ih =>
      intro hj
      rw [nsum, ← ih (by omega)]
      by_cases c : E j + 10 * f j ≤ t ∧ t < E j + 10 * f j + 10
      · rw [if_pos c]
        obtain ⟨a0, h1, h2, h3⟩ := first_ex (P := fun k => A k = A j ∧ E k + 10 * f k ≤ t ∧ t < E k + 10 * f k + 10) j ⟨rfl, c⟩
        refine nsum_up (k := a0) (by omega) (fun a ha hne => ?_) ?_
        · by_cases ca : E a + 10 * f a ≤ t ∧ t < E a + 10 * f a + 10
          · rw [if_pos ca, if_pos ca]
            by_cases ce : eb A E f a t
            · rw [dc_T ce]; rfl
            · rw [dc_F ce]
              have : ¬ A j = A a := fun q => by
                rcases Nat.lt_trichotomy a a0 with d | d | d
                · exact h3 a d ⟨q.symm, ca⟩
                · exact hne d
                · exact ce ⟨a0, d, h2.1.trans q, h2.2⟩
              rw [sbf_F (fun q => this q.1)]
          · rw [if_neg ca, if_neg ca]
        · have he : ¬ eb A E f a0 t := fun ⟨k, k1, k2, k3⟩ => h3 k k1 ⟨k2.trans h2.1, k3⟩
          rw [if_pos h2.2, if_pos h2.2, dc_F he, sbf_T ⟨h2.1.symm, c⟩]
          show sbf A P E f a0 t j + P j - W a0 = (sbf A P E f a0 t j - W a0) + gO A W P E f j t
          unfold gO
          rw [sbf_cong (a := j) (b := a0) h2.1.symm, hW j a0 (by omega) (by omega) h2.1.symm]
          omega
      · rw [if_neg c, Nat.add_zero]
        refine nsum_cong (fun a ha => ?_)
        rw [sbf_F (fun q => c q.2)]
  exact step n (Nat.le_refl _)
theorem MA_VC {n : Nat} (hE : ∀ a, a < n → E a + 10 * f a + 10 ≤ 1030) (hW : ∀ a b, a < n → b < n → A a = A b → W a = W b) : mAl A W P E f n = VC A W P E f n := by
  unfold mAl VC AO
  rw [nsum_cong (f := fun a => nsum 10 (fun m => abv A W P E f n a (E a + 10 * f a + m))) (g := fun a => nsum 1030 (fun t => if E a + 10 * f a ≤ t ∧ t < E a + 10 * f a + 10 then abv A W P E f n a t else 0)) (fun a ha => (nsum_win (fun t => abv A W P E f n a t) (hE a ha)).symm), nsum_swap, nsum_cong (fun t _ => pt_eq hW t), nsum_swap]
  exact nsum_cong (fun a ha => nsum_win (fun t => gO A W P E f a t) (hE a ha))
end PROG
section CODES
def cd : Nat → (Nat → Nat) → Nat
  | 0, _ => 0
  | n + 1, f => 3 * cd n f + f n
def lo : Nat → Nat → Nat
  | 0, c => c
  | k + 1, c => lo k (3 * c)
def dok (n : Nat) (f : Nat → Nat) : Prop := ∀ i, i < n → f i ≤ 2
theorem lo_mono {k : Nat} : ∀ {c c' : Nat}, c ≤ c' → lo k c ≤ lo k c' := by
  induction k with
  | zero => intro c c' h; exact h
  | succ k ih => intro c c' h; exact ih (by omega)
theorem cd_lo {k : Nat} : ∀ {a : Nat} {f : Nat → Nat}, dok (a + k) f → lo k (cd a f) ≤ cd (a + k) f ∧ cd (a + k) f < lo k (cd a f + 1) := by
  induction k with
  | zero => intro a f h; exact ⟨Nat.le_refl _, Nat.lt_succ_self _⟩
  | succ k ih =>
    intro a f h
    have e : a + (k + 1) = a + 1 + k := by omega
    rw [e] at h ⊢
    have h2 := ih h
    have h3 : f a ≤ 2 := h a (by omega)
    have h4 : lo (k + 1) (cd a f) ≤ lo k (cd (a + 1) f) := lo_mono (k := k) (by rw [cd]; omega)
    have h5 : lo k (cd (a + 1) f + 1) ≤ lo (k + 1) (cd a f + 1) := lo_mono (k := k) (by rw [cd]; omega)
    omega
theorem cd_cong {n : Nat} {f g : Nat → Nat} (h : ∀ i, i < n → f i = g i) : cd n f = cd n g := by
  induction n with
  | zero => rfl
  | succ n ih => rw [cd, cd, ih (fun i hi => h i (by omega)), h n (by omega)]
theorem cd_inj {n : Nat} {f g : Nat → Nat} (hf : dok n f) (hg : dok n g) (h : cd n f = cd n g) : ∀ i, i < n → f i = g i := by
  induction n with
  | zero => intro i hi; omega
  | succ n ih =>
    rw [cd, cd] at h
    have h1 := hf n (by omega)
    have h2 := hg n (by omega)
    intro i hi
    by_cases e : i = n
    · rw [e]; omega
    · exact ih (fun i hi => hf i (by omega)) (fun i hi => hg i (by omega)) (by omega) i (by omega)
theorem cd_in {a k : Nat} {f g : Nat → Nat} (hg : dok (a + k) g) (hf : dok a f) (h1 : lo k (cd a f) ≤ cd (a + k) g) (h2 : cd (a + k) g < lo k (cd a f + 1)) : ∀ i, i < a → g i = f i := by
  have h := cd_lo hg
  refine cd_inj (fun i hi => hg i (by omega)) hf ?_
  rcases Nat.lt_trichotomy (cd a g) (cd a f) with c | c | c
  · have := lo_mono (k := k) (c := cd a g + 1) (c' := cd a f) (by omega)
    omega
  · exact c
  · have := lo_mono (k := k) (c := cd a f + 1) (c' := cd a g) (by omega)
    omega
theorem cd_2 {k : Nat} : ∀ {j : Nat} {f : Nat → Nat}, (∀ i, j ≤ i → i < j + k → f i = 2) → lo k (cd j f + 1) = cd (j + k) f + 1 := by
  induction k with
  | zero => intro j f h; rfl
  | succ k ih =>
    intro j f h
    rw [show j + (k + 1) = j + 1 + k by omega, ← ih (j := j + 1) (fun i h1 h2 => h i (by omega) (by omega))]
    show lo k (3 * (cd j f + 1)) = lo k (cd (j + 1) f + 1)
    rw [cd, h j (by omega) (by omega)]
    rfl
theorem cd_z {k : Nat} : ∀ {j : Nat} {f : Nat → Nat}, (∀ i, j ≤ i → i < j + k → f i = 0) → lo k (cd j f) = cd (j + k) f := by
  induction k with
  | zero => intro j f h; rfl
  | succ k ih =>
    intro j f h
    rw [show j + (k + 1) = j + 1 + k by omega, ← ih (j := j + 1) (fun i h1 h2 => h i (by omega) (by omega))]
    show lo k (3 * cd j f) = lo k (cd (j + 1) f)
    rw [cd, h j (by omega) (by omega)]
    rfl
def btr (v s v' s' : Nat) : Prop := v < v' ∨ (v = v' ∧ s < s')
/-- the best of those whose code is below N -/
def LB (V S : (Nat → Nat) → Nat) (n N : Nat) (f : Nat → Nat) : Prop := dok n f ∧ cd n f < N ∧ (∀ g, dok n g → cd n g < cd n f → btr (V f) (S f) (V g) (S g)) ∧ (∀ g, dok n g → cd n f < cd n g → cd n g < N → ¬ btr (V g) (S g) (V f) (S f))
variable {V S : (Nat → Nat) → Nat} {n N : Nat} {f g : Nat → Nat}
theorem LB.uniq (h : LB V S n N f) (h' : LB V S n N g) : ∀ i, i < n → f i = g i := by
  obtain ⟨a1, a2, a3, a4⟩ := h
  obtain ⟨b1, b2, b3, b4⟩ := h'
  refine cd_inj a1 b1 ?_
  rcases Nat.lt_trichotomy (cd n f) (cd n g) with c | c | c
  · exact absurd (b3 f a1 c) (a4 g b1 c b2)
  · exact c
  · exact absurd (a3 g b1 c) (b4 f a1 c a2)
theorem LB.none (h : LB V S n N g) (hV : ∀ f f', (∀ i, i < n → f i = f' i) → V f = V f' ∧ S f = S f') (hf : dok n f) (hN : cd n f < N) : ¬ btr (V f) (S f) (V g) (S g) := by
  obtain ⟨a1, a2, a3, a4⟩ := h
  rcases Nat.lt_trichotomy (cd n f) (cd n g) with c | c | c
  · have := a3 f hf c
    unfold btr at *
    omega
  · have := hV f g (cd_inj hf a1 c)
    unfold btr
    omega
  · exact a4 f hf c hN
theorem LB.ext {N' : Nat} (h : LB V S n N g) (hN : N ≤ N') (hx : ∀ f, dok n f → N ≤ cd n f → cd n f < N' → ¬ btr (V f) (S f) (V g) (S g)) : LB V S n N' g := by
  obtain ⟨a1, a2, a3, a4⟩ := h
  refine ⟨a1, by omega, a3, fun f hf h1 h2 => ?_⟩
  by_cases c : cd n f < N
  · exact a4 f hf h1 c
  · exact hx f hf (by omega) h2
theorem LB.new (h : N = 0 ∨ ∃ g, LB V S n N g ∧ btr (V f) (S f) (V g) (S g)) (hV : ∀ f f', (∀ i, i < n → f i = f' i) → V f = V f' ∧ S f = S f') (hf : dok n f) (hN : cd n f = N) : LB V S n (N + 1) f := by
  refine ⟨hf, by omega, fun g' hg' c => ?_, fun g' hg' c c2 => by omega⟩
  rcases h with h | ⟨g, h, hb⟩
  · omega
  · have := h.none hV hg' (by omega)
    unfold btr at *
    omega
end CODES
