/-! THE GATE BOOK: counting, the order of the passes -/
noncomputable def dc (p : Prop) : Bool := @decide p (Classical.propDecidable p)
theorem dc_T {p : Prop} (h : p) : dc p = true := @decide_eq_true p (Classical.propDecidable p) h
theorem dc_F {p : Prop} (h : ¬ p) : dc p = false := @decide_eq_false p (Classical.propDecidable p) h
theorem dc_iff {p q : Prop} (h : p ↔ q) : dc p = dc q := by rw [propext h]
theorem fcnt_T {p : Nat → Bool} {n : Nat} (h : p n = true) : fcnt p (n + 1) = fcnt p n + 1 := by
  show fcnt p n + (if p n then 1 else 0) = _
  rw [h]; rfl
theorem fcnt_F {p : Nat → Bool} {n : Nat} (h : p n = false) : fcnt p (n + 1) = fcnt p n := by
  show fcnt p n + (if p n then 1 else 0) = _
  rw [h]; rfl
theorem fcnt_len (p : Nat → Bool) (n : Nat) : fcnt p n ≤ n := by
  induction n with
  | zero => exact Nat.le_refl _
  | succ n ih =>
    cases h : p n with
    | false => rw [fcnt_F h]; omega
    | true => rw [fcnt_T h]; omega
theorem fcnt_gap {p : Nat → Bool} {a b : Nat} (hab : a ≤ b) (h : ∀ i, a ≤ i → i < b → p i = false) : fcnt p b = fcnt p a := by
  induction b with
  | zero => rw [show a = 0 by omega]
  | succ b ih =>
    by_cases e : a = b + 1
    · rw [e]
    · rw [fcnt_F (h b (by omega) (by omega))]
      exact ih (by omega) (fun i h1 h2 => h i h1 (by omega))
theorem fcnt_ext {p q : Nat → Bool} {n : Nat} (h : ∀ i, i < n → p i = q i) : fcnt p n = fcnt q n := by
  induction n with
  | zero => rfl
  | succ n ih =>
    show fcnt p n + (if p n then 1 else 0) = fcnt q n + (if q n then 1 else 0)
    rw [ih (fun i hi => h i (by omega)), h n (by omega)]
theorem fcnt_sum (p : Nat → Bool) (n : Nat) : (fcnt p n : Int) = fsum n (fun i => if p i then 1 else 0) := by
  induction n with
  | zero => rfl
  | succ n ih =>
    cases h : p n with
    | false => rw [fcnt_F h]; simp only [fsum, ih, h]; simp
    | true => rw [fcnt_T h]; simp only [fsum, ← ih, h]; simp
theorem fsum_swap (n m : Nat) (f : Nat → Nat → Int) : fsum n (fun i => fsum m (fun k => f i k)) = fsum m (fun k => fsum n (fun i => f i k)) := by
  induction n with
  | zero => simp only [fsum]; rw [fsum_0]
  | succ n ih => simp only [fsum]; rw [ih, fsum_add]
theorem fsum_one {n k : Nat} {f : Nat → Int} (hk : k < n) (h : ∀ i, i < n → i ≠ k → f i = 0) : fsum n f = f k := by
  have e : fsum n f = fsum n (fun i => if i = k then f k else 0) := fsum_cong (fun i hi => by
    by_cases q : i = k
    · rw [if_pos q, q]
    · rw [if_neg q, h i hi q])
  rw [e, fsum_up (f := fun _ => 0) (k := k) hk (fun i hi => by rw [if_neg hi]), fsum_0, if_pos rfl]
  omega
theorem fsum_perm {n : Nat} {o : Nat → Nat} {g : Nat → Int} (h1 : ∀ i, i < n → o i < n) (h2 : ∀ k, k < n → ∃ i, i < n ∧ o i = k) (h3 : ∀ i j, i < n → j < n → o i = o j → i = j) : fsum n (fun i => g (o i)) = fsum n g := by
  have e1 : fsum n (fun i => g (o i)) = fsum n (fun i => fsum n (fun k => if o i = k then g k else 0)) := fsum_cong (fun i hi => by
    rw [fsum_one (k := o i) (h1 i hi) (fun k _ hk => if_neg (fun q => hk q.symm)), if_pos rfl])
  have e2 : fsum n g = fsum n (fun k => fsum n (fun i => if o i = k then g k else 0)) := fsum_cong (fun k hk => by
    obtain ⟨i, hi, ei⟩ := h2 k hk
    rw [fsum_one (k := i) hi (fun j hj hne => if_neg (fun q => hne (h3 j i hj hi (q.trans ei.symm)))), if_pos ei])
  rw [e1, e2, fsum_swap]
theorem fcnt_perm {n : Nat} {o : Nat → Nat} {p : Nat → Bool} (h1 : ∀ i, i < n → o i < n) (h2 : ∀ k, k < n → ∃ i, i < n ∧ o i = k) (h3 : ∀ i j, i < n → j < n → o i = o j → i = j) : fcnt (fun i => p (o i)) n = fcnt p n := by
  have := fsum_perm (g := fun i => if p i then 1 else 0) h1 h2 h3
  rw [← fcnt_sum (fun i => p (o i)) n, ← fcnt_sum p n] at this
  omega
/-- one pass before another: band, minute, number -/
def bfr (b m : Nat → Int32) (i j : Nat) : Prop := (b i).toInt < (b j).toInt ∨ (b i = b j ∧ ((m i).toInt < (m j).toInt ∨ (m i = m j ∧ i < j)))
def lx (m : Nat → Int32) (i j : Nat) : Prop := (m i).toInt < (m j).toInt ∨ (m i = m j ∧ i < j)
def OB (n : Nat) (o : Nat → Nat) (b m : Nat → Int32) : Prop := (∀ i, i < n → o i < n) ∧ (∀ k, k < n → ∃ i, i < n ∧ o i = k) ∧ (∀ i j, i < j → j < n → bfr b m (o i) (o j))
theorem lx_irr {m : Nat → Int32} {i : Nat} (h : lx m i i) : False := by
  rcases h with h | ⟨-, h⟩ <;> omega
theorem lx_asym {m : Nat → Int32} {i j : Nat} (h : lx m i j) (h2 : lx m j i) : False := by
  rcases h with h | ⟨e, h⟩ <;> rcases h2 with h2 | ⟨e2, h2⟩
  · omega
  · rw [e2] at h; omega
  · rw [e] at h2; omega
  · omega
theorem lx_tr {m : Nat → Int32} {i j k : Nat} (h : lx m i j) (h2 : lx m j k) : lx m i k := by
  unfold lx at *
  rcases h with h | ⟨e, h⟩ <;> rcases h2 with h2 | ⟨e2, h2⟩
  · exact Or.inl (by omega)
  · exact Or.inl (by rw [← e2]; exact h)
  · exact Or.inl (by rw [e]; exact h2)
  · exact Or.inr ⟨e.trans e2, by omega⟩
theorem lx_tot {m : Nat → Int32} (i j : Nat) : lx m i j ∨ i = j ∨ lx m j i := by
  unfold lx
  by_cases h : (m i).toInt < (m j).toInt
  · exact Or.inl (Or.inl h)
  · by_cases h2 : (m j).toInt < (m i).toInt
    · exact Or.inr (Or.inr (Or.inl h2))
    · have e : m i = m j := i_eq.mpr (by omega)
      by_cases c : i < j
      · exact Or.inl (Or.inr ⟨e, c⟩)
      · by_cases c2 : i = j
        · exact Or.inr (Or.inl c2)
        · exact Or.inr (Or.inr (Or.inr ⟨e.symm, by omega⟩))
theorem bfr_lx {b m : Nat → Int32} {i j : Nat} (h : bfr b m i j) (e : b i = b j) : lx m i j := by
  rcases h with h | ⟨-, h⟩
  · rw [e] at h; omega
  · exact h
theorem bfr_le {b m : Nat → Int32} {i j : Nat} (h : bfr b m i j) : (b i).toInt ≤ (b j).toInt := by
  rcases h with h | ⟨h, -⟩
  · omega
  · rw [h]; omega
theorem bfr_irr {b m : Nat → Int32} {i : Nat} (h : bfr b m i i) : False := lx_irr (bfr_lx h rfl)
theorem OB.inj {n : Nat} {o : Nat → Nat} {b m : Nat → Int32} (h : OB n o b m) : ∀ i j, i < n → j < n → o i = o j → i = j := by
  intro i j hi hj e
  rcases Nat.lt_trichotomy i j with q | q | q
  · have := h.2.2 i j q hj; rw [e] at this; exact (bfr_irr this).elim
  · exact q
  · have := h.2.2 j i q hi; rw [e] at this; exact (bfr_irr this).elim
theorem OB.mono {n : Nat} {o : Nat → Nat} {b m : Nat → Int32} (h : OB n o b m) {i j : Nat} (hij : i ≤ j) (hj : j < n) : (b (o i)).toInt ≤ (b (o j)).toInt := by
  by_cases e : i = j
  · rw [e]; omega
  · exact bfr_le (h.2.2 i j (by omega) hj)
/-- the last one that P holds of, in the order, of the first i -/
def LI (i : Nat) (o : Nat → Nat) (P : Nat → Prop) (f : Nat → Int32) (r : Int32) : Prop := (r = 0 ∧ ∀ p, p < i → ¬ P (o p)) ∨ ∃ p, p < i ∧ P (o p) ∧ r = f (o p) ∧ ∀ q, p < q → q < i → ¬ P (o q)
theorem LI_0 {o : Nat → Nat} {P : Nat → Prop} {f : Nat → Int32} : LI 0 o P f 0 := Or.inl ⟨rfl, fun p hp => by omega⟩
theorem LI.skip {i : Nat} {o : Nat → Nat} {P : Nat → Prop} {f : Nat → Int32} {r : Int32} (h : LI i o P f r) (q : ¬ P (o i)) : LI (i + 1) o P f r := by
  rcases h with ⟨e, h⟩ | ⟨p, h1, h2, h3, h4⟩
  · refine Or.inl ⟨e, fun p hp => ?_⟩
    by_cases c : p = i
    · rw [c]; exact q
    · exact h p (by omega)
  · refine Or.inr ⟨p, by omega, h2, h3, fun p' a b => ?_⟩
    by_cases c : p' = i
    · rw [c]; exact q
    · exact h4 p' a (by omega)
theorem LI_take {i : Nat} {o : Nat → Nat} {P : Nat → Prop} {f : Nat → Int32} (q : P (o i)) : LI (i + 1) o P f (f (o i)) := Or.inr ⟨i, by omega, q, rfl, fun p' a b => by omega⟩
theorem LI.more {i n : Nat} {o : Nat → Nat} {P : Nat → Prop} {f : Nat → Int32} {r : Int32} (h : LI i o P f r) (hi : i ≤ n) (q : ∀ p, i ≤ p → p < n → ¬ P (o p)) : LI n o P f r := by
  induction n with
  | zero => rw [show i = 0 by omega] at h; exact h
  | succ n ih =>
    by_cases e : i = n + 1
    · rw [← e]; exact h
    · exact (ih (by omega) (fun p a b => q p a (by omega))).skip (q n (by omega) (by omega))
theorem LI.b {i : Nat} {o : Nat → Nat} {P : Nat → Prop} {f : Nat → Int32} {r : Int32} (h : LI i o P f r) (hf : ∀ p, p < i → f (o p) = 0 ∨ f (o p) = 1) : r = 0 ∨ r = 1 := by
  rcases h with ⟨e, h⟩ | ⟨p, h1, h2, h3, h4⟩
  · exact Or.inl e
  · rw [h3]; exact hf p h1
/-- the last one that P holds of, by minute and number -/
def IS (n : Nat) (P : Nat → Prop) (f m : Nat → Int32) (r : Int32) : Prop := (r = 0 ∧ ∀ k, k < n → ¬ P k) ∨ ∃ k, k < n ∧ P k ∧ r = f k ∧ ∀ k', k' < n → P k' → k' = k ∨ lx m k' k
theorem IS.uniq {n : Nat} {P : Nat → Prop} {f m : Nat → Int32} {r r' : Int32} (h : IS n P f m r) (h' : IS n P f m r') : r = r' := by
  rcases h with ⟨e, h⟩ | ⟨k, h1, h2, h3, h4⟩ <;> rcases h' with ⟨e', h'⟩ | ⟨k', h1', h2', h3', h4'⟩
  · rw [e, e']
  · exact absurd h2' (h k' h1')
  · exact absurd h2 (h' k h1)
  · rcases h4 k' h1' h2' with q | q
    · rw [h3, h3', q]
    · rcases h4' k h1 h2 with q' | q'
      · rw [h3, h3', q']
      · exact (lx_asym q q').elim
theorem IS.cong {n : Nat} {P P' : Nat → Prop} {f m : Nat → Int32} {r : Int32} (h : IS n P f m r) (e : ∀ k, k < n → (P k ↔ P' k)) : IS n P' f m r := by
  rcases h with ⟨e', h⟩ | ⟨k, h1, h2, h3, h4⟩
  · exact Or.inl ⟨e', fun k hk q => h k hk ((e k hk).mpr q)⟩
  · exact Or.inr ⟨k, h1, (e k h1).mp h2, h3, fun k' a b => h4 k' a ((e k' a).mpr b)⟩
theorem IS.b {n : Nat} {P : Nat → Prop} {f m : Nat → Int32} {r : Int32} (h : IS n P f m r) (hf : ∀ k, k < n → f k = 0 ∨ f k = 1) : r = 0 ∨ r = 1 := by
  rcases h with ⟨e', h⟩ | ⟨k, h1, h2, h3, h4⟩
  · exact Or.inl e'
  · rw [h3]; exact hf k h1
theorem LI_IS {n i : Nat} {o : Nat → Nat} {b m f : Nat → Int32} {P P' : Nat → Prop} {r : Int32} {B : Int32} (hO : OB n o b m) (hi : i ≤ n) (hB : ∀ k, k < n → P k → b k = B) (hP : ∀ k, k < n → (P' k ↔ ∃ p, p < i ∧ o p = k ∧ P k)) (h : LI i o P f r) : IS n P' f m r := by
  rcases h with ⟨e, h⟩ | ⟨p, h1, h2, h3, h4⟩
  · refine Or.inl ⟨e, fun k hk q => ?_⟩
    obtain ⟨p, hp, ep, q⟩ := (hP k hk).mp q
    exact h p hp (by rw [ep]; exact q)
  · have hop := hO.1 p (by omega)
    refine Or.inr ⟨o p, hop, (hP _ hop).mpr ⟨p, h1, rfl, h2⟩, h3, fun k' hk' q => ?_⟩
    obtain ⟨p', hp', ep', q⟩ := (hP k' hk').mp q
    rcases Nat.lt_trichotomy p' p with c | c | c
    · have := hO.2.2 p' p c (by omega)
      rw [ep'] at this
      exact Or.inr (bfr_lx this ((hB k' hk' q).trans (hB _ hop h2).symm))
    · left; rw [← ep', c]
    · exact absurd (by rw [ep']; exact q) (h4 p' c hp')
