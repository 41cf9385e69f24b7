/-! THE MODEL'S FLOW -/
section MFLOW
variable (P K : Nat) (fr tt ln : Nat → Nat) (wd cr ra : Nat → Int)
def MA (T : Nat) (B : Int) (σ : gS) : Prop :=
  (∀ k m, k < K → m < 40 → 0 ≤ (σ 78 (40 * k + m)).toInt ∧ (σ 78 (40 * k + m)).toInt ≤ wd k ∧ ((σ 78 (40 * k + m)).toInt ≠ 0 → m + ln k < T)) ∧ (∀ k m, K ≤ k → k < 28 → m < 40 → (σ 78 (40 * k + m)).toInt = 0) ∧ (∀ p m, p < P → m < 40 → 0 ≤ (σ 77 (40 * p + m)).toInt ∧ (σ 77 (40 * p + m)).toInt ≤ B ∧ ((σ 77 (40 * p + m)).toInt ≠ 0 → m + 1 < T)) ∧ (∀ p m, P ≤ p → p < 8 → m < 40 → (σ 77 (40 * p + m)).toInt = 0) ∧ (∀ p m, p < P → m < 40 → 0 ≤ (σ 79 (40 * p + m)).toInt ∧ (σ 79 (40 * p + m)).toInt ≤ ra p ∧ ((σ 79 (40 * p + m)).toInt ≠ 0 → m < T)) ∧ (∀ p m, P ≤ p → p < 8 → m < 40 → (σ 79 (40 * p + m)).toInt = 0) ∧ (∀ p, p < P → 0 ≤ (σ 80 p).toInt ∧ (σ 80 p).toInt ≤ cr p ∧ cr p ≤ 20000 ∧ ra p ≤ 2000)
def MS (σ : gS) (p : Nat) : Int := if p < P then cr p - (σ 80 p).toInt else 0
def ME (σ : gS) (dv : (Nat → Nat → Int) → Int) : Prop := ∀ φ, FL fr tt ln (MS P cr σ) (fun k m => (σ 78 (40 * k + m)).toInt) (fun p m => (σ 77 (40 * p + m)).toInt) (fun p m => (σ 79 (40 * p + m)).toInt) φ = dv φ
variable {P K fr tt ln wd cr ra}
theorem M_arc {T : Nat} {B : Int} {σ σ' : gS} {dv : (Nat → Nat → Int) → Int} {k m : Nat} {δ : Int} (hT : T ≤ 40) (hK : K ≤ 28) (hA : MA P K ln wd cr ra T B σ) (hE : ME P fr tt ln cr σ dv) (hk : k < K) (hl : m + ln k < T) (h0 : 0 ≤ (σ 78 (40 * k + m)).toInt + δ) (h1 : (σ 78 (40 * k + m)).toInt + δ ≤ wd k)
    (e1 : (σ' 78 (40 * k + m)).toInt = (σ 78 (40 * k + m)).toInt + δ) (e2 : ∀ i, i ≠ 40 * k + m → σ' 78 i = σ 78 i) (eo : ∀ i, i ≠ 78 → σ' i = σ i) :
    MA P K ln wd cr ra T B σ' ∧ ME P fr tt ln cr σ' (fun φ => dv φ + δ * (φ (tt k) (m + ln k) - φ (fr k) m)) := by
  obtain ⟨a1, a2, a3, a4, a5, a6, a7⟩ := hA
  have ne : ∀ i j, j < 40 → ¬ (i = k ∧ j = m) → σ' 78 (40 * i + j) = σ 78 (40 * i + j) := fun i j hj c => e2 _ (by omega)
  have e77 := eo 77 (by omega)
  have e79 := eo 79 (by omega)
  have e80 := eo 80 (by omega)
  refine ⟨⟨fun i j hi hj => ?_, fun i j hi hi2 hj => ?_, by rw [e77]; exact a3, by rw [e77]; exact a4, by rw [e79]; exact a5, by rw [e79]; exact a6, by rw [e80]; exact a7⟩, fun φ => ?_⟩
  · by_cases c : i = k ∧ j = m
    · rw [c.1, c.2, e1]; exact ⟨h0, h1, fun _ => hl⟩
    · rw [ne i j hj c]; exact a1 i j hi hj
  · rw [ne i j hj (by omega)]; exact a2 i j hi hi2 hj
  · dsimp only
    rw [← hE φ]
    have es : MS P cr σ' = MS P cr σ := by funext p; unfold MS; rw [e80]
    rw [es, e77, e79]
    exact FL_g (by omega) (by omega) e1 (fun i j hi hj c => by rw [ne i j hj c])
theorem M_wait {T : Nat} {B B' : Int} {σ σ' : gS} {dv : (Nat → Nat → Int) → Int} {p m : Nat} {δ : Int} (hT : T ≤ 40) (hP : P ≤ 8) (hA : MA P K ln wd cr ra T B σ) (hE : ME P fr tt ln cr σ dv) (hp : p < P) (hl : m + 1 < T) (h0 : 0 ≤ (σ 77 (40 * p + m)).toInt + δ) (h1 : (σ 77 (40 * p + m)).toInt + δ ≤ B') (hB : B ≤ B')
    (e1 : (σ' 77 (40 * p + m)).toInt = (σ 77 (40 * p + m)).toInt + δ) (e2 : ∀ i, i ≠ 40 * p + m → σ' 77 i = σ 77 i) (eo : ∀ i, i ≠ 77 → σ' i = σ i) :
    MA P K ln wd cr ra T B' σ' ∧ ME P fr tt ln cr σ' (fun φ => dv φ + δ * (φ p (m + 1) - φ p m)) := by
  obtain ⟨a1, a2, a3, a4, a5, a6, a7⟩ := hA
  have ne : ∀ i j, j < 40 → ¬ (i = p ∧ j = m) → σ' 77 (40 * i + j) = σ 77 (40 * i + j) := fun i j hj c => e2 _ (by omega)
  have e78 := eo 78 (by omega)
  have e79 := eo 79 (by omega)
  have e80 := eo 80 (by omega)
  refine ⟨⟨by rw [e78]; exact a1, by rw [e78]; exact a2, fun i j hi hj => ?_, fun i j hi hi2 hj => ?_, by rw [e79]; exact a5, by rw [e79]; exact a6, by rw [e80]; exact a7⟩, fun φ => ?_⟩
  · by_cases c : i = p ∧ j = m
    · rw [c.1, c.2, e1]; exact ⟨h0, h1, fun _ => hl⟩
    · rw [ne i j hj c]
      have := a3 i j hi hj
      exact ⟨this.1, by omega, this.2.2⟩
  · rw [ne i j hj (by omega)]; exact a4 i j hi hi2 hj
  · dsimp only
    rw [← hE φ]
    have es : MS P cr σ' = MS P cr σ := by funext p; unfold MS; rw [e80]
    rw [es, e78, e79]
    exact FL_w (by omega) (by omega) e1 (fun i j hi hj c => by rw [ne i j hj c])
theorem M_out {T : Nat} {B : Int} {σ σ' : gS} {dv : (Nat → Nat → Int) → Int} {p m : Nat} {n : Int} (hT : T ≤ 40) (hP : P ≤ 8) (hA : MA P K ln wd cr ra T B σ) (hE : ME P fr tt ln cr σ dv) (hp : p < P) (hl : m < T) (h0 : 0 ≤ n) (h1 : (σ 79 (40 * p + m)).toInt + n ≤ ra p)
    (e1 : (σ' 79 (40 * p + m)).toInt = (σ 79 (40 * p + m)).toInt + n) (e2 : ∀ i, i ≠ 40 * p + m → σ' 79 i = σ 79 i) (eo : ∀ i, i ≠ 79 → σ' i = σ i) :
    MA P K ln wd cr ra T B σ' ∧ ME P fr tt ln cr σ' (fun φ => dv φ - n * φ p m) := by
  obtain ⟨a1, a2, a3, a4, a5, a6, a7⟩ := hA
  have ne : ∀ i j, j < 40 → ¬ (i = p ∧ j = m) → σ' 79 (40 * i + j) = σ 79 (40 * i + j) := fun i j hj c => e2 _ (by omega)
  have e77 := eo 77 (by omega)
  have e78 := eo 78 (by omega)
  have e80 := eo 80 (by omega)
  have hpm := a5 p m hp (by omega)
  refine ⟨⟨by rw [e78]; exact a1, by rw [e78]; exact a2, by rw [e77]; exact a3, by rw [e77]; exact a4, fun i j hi hj => ?_, fun i j hi hi2 hj => ?_, by rw [e80]; exact a7⟩, fun φ => ?_⟩
  · by_cases c : i = p ∧ j = m
    · rw [c.1, c.2, e1]; exact ⟨by omega, h1, fun _ => hl⟩
    · rw [ne i j hj c]; exact a5 i j hi hj
  · rw [ne i j hj (by omega)]; exact a6 i j hi hi2 hj
  · dsimp only
    rw [← hE φ]
    have es : MS P cr σ' = MS P cr σ := by funext p; unfold MS; rw [e80]
    rw [es, e78, e77]
    exact FL_o (by omega) (by omega) e1 (fun i j hi hj c => by rw [ne i j hj c])
theorem M_left {T : Nat} {B : Int} {σ σ' : gS} {dv : (Nat → Nat → Int) → Int} {p : Nat} {n : Int} (hP : P ≤ 8) (hA : MA P K ln wd cr ra T B σ) (hE : ME P fr tt ln cr σ dv) (hp : p < P) (h0 : 0 ≤ n) (h1 : 0 ≤ (σ 80 p).toInt - n)
    (e1 : (σ' 80 p).toInt = (σ 80 p).toInt - n) (e2 : ∀ i, i ≠ p → σ' 80 i = σ 80 i) (eo : ∀ i, i ≠ 80 → σ' i = σ i) :
    MA P K ln wd cr ra T B σ' ∧ ME P fr tt ln cr σ' (fun φ => dv φ + n * φ p 0) := by
  obtain ⟨a1, a2, a3, a4, a5, a6, a7⟩ := hA
  have e77 := eo 77 (by omega)
  have e78 := eo 78 (by omega)
  have e79 := eo 79 (by omega)
  refine ⟨⟨by rw [e78]; exact a1, by rw [e78]; exact a2, by rw [e77]; exact a3, by rw [e77]; exact a4, by rw [e79]; exact a5, by rw [e79]; exact a6, fun i hi => ?_⟩, fun φ => ?_⟩
  · have := a7 i hi
    by_cases c : i = p
    · rw [c, e1]; rw [c] at this; exact ⟨h1, by omega, this.2.2⟩
    · rw [e2 i c]; exact this
  · dsimp only
    rw [← hE φ, e77, e78, e79]
    exact FL_s (by omega) (by unfold MS; rw [if_pos hp, if_pos hp, e1]; omega) (fun q hq c => by unfold MS; rw [e2 q c])
/-- the chain of a node back to its start -/
def CH (P K : Nat) (fr tt ln : Nat → Nat) (wd : Nat → Int) (T : Nat) (σ : gS) (pos : Nat → Nat) (p0 : Nat) (n : Int) : Nat → Nat → Nat → Prop
  | 0, _, _ => False
  | f + 1, p, m => (σ 81 (40 * p + m) = -5 ∧ p = p0 ∧ m = 0) ∨ ∃ q l, σ 81 (40 * p + m) = nI (40 * q + l) ∧ q < P ∧ l < T ∧ pos (40 * q + l) < pos (40 * p + m) ∧ EV K fr tt ln wd T σ (σ 82 (40 * p + m)) (σ 83 (40 * p + m)) p m q l n ∧ CH P K fr tt ln wd T σ pos p0 n f q l
theorem CH.keep {T : Nat} {σ σ' : gS} {pos : Nat → Nat} {p0 N : Nat} {n : Int} (ea : ∀ k, 81 ≤ k → k ≤ 83 → σ' k = σ k) (hk : ∀ p m q l, p < P → m < T → pos (40 * p + m) < N → EV K fr tt ln wd T σ (σ 82 (40 * p + m)) (σ 83 (40 * p + m)) p m q l n → EV K fr tt ln wd T σ' (σ 82 (40 * p + m)) (σ 83 (40 * p + m)) p m q l n) : ∀ f p m, p < P → m < T → pos (40 * p + m) < N → CH P K fr tt ln wd T σ pos p0 n f p m → CH P K fr tt ln wd T σ' pos p0 n f p m := by
  intro f
  induction f with
  | zero => intro p m _ _ _ h; exact h
  | succ f ih =>
    intro p m hp hm hN h
    unfold CH at h ⊢
    rw [ea 81 (by omega) (by omega), ea 82 (by omega) (by omega), ea 83 (by omega) (by omega)]
    rcases h with h | ⟨q, l, h1, h2, h3, h4, h5, h6⟩
    · exact Or.inl h
    · exact Or.inr ⟨q, l, h1, h2, h3, h4, hk p m q l hp hm hN h5, ih q l h2 h3 (by omega) h6⟩
theorem p_bears {Q : Int32 → gS → Prop} {T : Nat} {B : Int} {σ : gS} {p m q l : Nat} (hT : T ≤ 40) (hG : GM P K fr tt ln wd σ) (hB : B ≤ 100000000) (hA : MA P K ln wd cr ra T B σ) (hp : p < P) (hm : m < T) (hq : q < P) (hl : l < T) (e81 : σ 81 (40 * p + m) = nI (40 * q + l)) (hE : EV K fr tt ln wd T σ (σ 82 (40 * p + m)) (σ 83 (40 * p + m)) p m q l 1)
    (kk : ∀ v, 1 ≤ v.toInt → (∀ n', n' ≤ v.toInt → EV K fr tt ln wd T σ (σ 82 (40 * p + m)) (σ 83 (40 * p + m)) p m q l n') → Q v σ) : w_X9_bears Q σ (nI (40 * p + m)) := by
  obtain ⟨⟨hP, hK, e71, W, e76, hW⟩, g1, g2⟩ := id hG
  unfold w_X9_bears
  rcases hE with ⟨v1, v2, v3, v4, v5, v6⟩ | ⟨v1, v2, v3, v4, v5⟩ | ⟨k, hk, v1, v2, v3, v4, v5, v6, v7⟩ | ⟨k, hk, v1, v2, v3, v4, v5, v6⟩
  · simp (disch := omega) only [l_3, l_4, l_6, l_8, l_9, l_10, l_12, l_14, l_16, l_19, l_20, l_23, l_24, l_26, l_28, l_39, l_40, l_56, l_57, l_60, l_192, l_200, l_255, l_299, l_320, l_400, l_1120, l_2000, l_20000, l_10000, l_1000, l_1000000, nI_1, n_2mul, nI_add, pk_mul, pk_sub, sb_m1, nI_clamp, nI_clamp0, vpT, nI_leI, nI_ltI, nI_eq, nI_0le, nI_lt0, nI_le0, nI_0lt, nI_eq0, nI_eqm1, nI_m1eq, Nat.add_one_sub_one, forall_eq, true_and, and_true, true_implies, not_true_eq_false, not_false_eq_true, false_implies, implies_true, ne_eq, Nat.reduceEqDiff, Nat.reduceAdd, Nat.reduceMul, Nat.reduceLT, Nat.reduceLeDiff, and_self, e81, v1, v2]
    refine q_F (by decide) ?_
    refine kk _ (by rw [t_n (by omega)]; omega) (fun n' h => ?_)
    rw [v1, v2]
    exact Or.inl ⟨rfl, rfl, v3, v4, v5, by rw [t_n (by omega)] at h; omega⟩
  · simp (disch := omega) only [l_3, l_4, l_6, l_8, l_9, l_10, l_12, l_14, l_16, l_19, l_20, l_23, l_24, l_26, l_28, l_39, l_40, l_56, l_57, l_60, l_192, l_200, l_255, l_299, l_320, l_400, l_1120, l_2000, l_20000, l_10000, l_1000, l_1000000, nI_1, n_2mul, nI_add, pk_mul, pk_sub, sb_m1, nI_clamp, nI_clamp0, vpT, nI_leI, nI_ltI, nI_eq, nI_0le, nI_lt0, nI_le0, nI_0lt, nI_eq0, nI_eqm1, nI_m1eq, Nat.add_one_sub_one, forall_eq, true_and, and_true, true_implies, not_true_eq_false, not_false_eq_true, false_implies, implies_true, ne_eq, Nat.reduceEqDiff, Nat.reduceAdd, Nat.reduceMul, Nat.reduceLT, Nat.reduceLeDiff, and_self, e81, v1, v2]
    refine q_F (by decide) (q_F (by decide) ?_)
    refine kk _ v5 (fun n' h => ?_)
    rw [v1, v2]
    exact Or.inr (Or.inl ⟨rfl, rfl, v3, v4, h⟩)
  · have ha := hA.1 k l hk (by omega)
    have hw := (g2 k hk).2.2.2
    have hg := g1 k hk
    have es : (σ 75 k - σ 78 (40 * k + l)).toInt = wd k - (σ 78 (40 * k + l)).toInt := by rw [i_sub (by omega) (by omega), hw]
    simp (disch := omega) only [l_3, l_4, l_6, l_8, l_9, l_10, l_12, l_14, l_16, l_19, l_20, l_23, l_24, l_26, l_28, l_39, l_40, l_56, l_57, l_60, l_192, l_200, l_255, l_299, l_320, l_400, l_1120, l_2000, l_20000, l_10000, l_1000, l_1000000, nI_1, n_2mul, nI_add, pk_mul, pk_sub, sb_m1, nI_clamp, nI_clamp0, vpT, nI_leI, nI_ltI, nI_eq, nI_0le, nI_lt0, nI_le0, nI_0lt, nI_eq0, nI_eqm1, nI_m1eq, Nat.add_one_sub_one, forall_eq, true_and, and_true, true_implies, not_true_eq_false, not_false_eq_true, false_implies, implies_true, ne_eq, Nat.reduceEqDiff, Nat.reduceAdd, Nat.reduceMul, Nat.reduceLT, Nat.reduceLeDiff, and_self, e81, v1, v2, pk_div, d40, s40]
    refine kk _ (by rw [es]; exact v7) (fun n' h => ?_)
    rw [v1, v2]
    exact Or.inr (Or.inr (Or.inl ⟨k, hk, rfl, rfl, v3, v4, v5, v6, by rw [es] at h; exact h⟩))
  · have hg := g1 k hk
    simp (disch := omega) only [l_3, l_4, l_6, l_8, l_9, l_10, l_12, l_14, l_16, l_19, l_20, l_23, l_24, l_26, l_28, l_39, l_40, l_56, l_57, l_60, l_192, l_200, l_255, l_299, l_320, l_400, l_1120, l_2000, l_20000, l_10000, l_1000, l_1000000, nI_1, n_2mul, nI_add, pk_mul, pk_sub, sb_m1, nI_clamp, nI_clamp0, vpT, nI_leI, nI_ltI, nI_eq, nI_0le, nI_lt0, nI_le0, nI_0lt, nI_eq0, nI_eqm1, nI_m1eq, Nat.add_one_sub_one, forall_eq, true_and, and_true, true_implies, not_true_eq_false, not_false_eq_true, false_implies, implies_true, ne_eq, Nat.reduceEqDiff, Nat.reduceAdd, Nat.reduceMul, Nat.reduceLT, Nat.reduceLeDiff, and_self, e81, v1, v2, pk_div, d40, s40]
    refine q_F (by decide) ?_
    refine kk _ v6 (fun n' h => ?_)
    rw [v1, v2]
    exact Or.inr (Or.inr (Or.inr ⟨k, hk, rfl, rfl, v3, v4, v5, h⟩))
end MFLOW
