/-! ESCAPE: what is sent -/
def kF (k : Nat) : Prop := 37 ≤ k ∧ k ≤ 41
section SEND
variable (P K : Nat) (fr tt ln : Nat → Nat) (wd cr ra : Nat → Int)
/-- the class's arrays as a flow up to the minute M -/
def FA (M : Nat) (B : Int) (σ : gS) : Prop :=
  (∀ k m, k < K → m < 40 → 0 ≤ (σ 37 (40 * k + m)).toInt ∧ (σ 37 (40 * k + m)).toInt ≤ wd k ∧ ((σ 37 (40 * k + m)).toInt ≠ 0 → m + ln k ≤ M)) ∧ (∀ k m, K ≤ k → k < 28 → m < 40 → (σ 37 (40 * k + m)).toInt = 0) ∧ (∀ p m, p < P → m < 40 → 0 ≤ (σ 38 (40 * p + m)).toInt ∧ (σ 38 (40 * p + m)).toInt ≤ B ∧ ((σ 38 (40 * p + m)).toInt ≠ 0 → m + 1 ≤ M)) ∧ (∀ p m, P ≤ p → p < 8 → m < 40 → (σ 38 (40 * p + m)).toInt = 0) ∧ (∀ k, k < K → (σ 39 k).toInt = fsum 40 (fun m => (σ 37 (40 * k + m)).toInt)) ∧ (∀ p, p < P → 0 ≤ (σ 40 p).toInt ∧ (σ 40 p).toInt ≤ cr p ∧ cr p ≤ 20000 ∧ 0 ≤ (σ 41 p).toInt ∧ (σ 41 p).toInt ≤ ra p ∧ ra p ≤ 2000)
/-- who went out -/
def OO (M : Nat) (oh : Nat → Nat → Int) (σ : gS) (p m : Nat) : Int := if m = M then (if p < P then ra p - (σ 41 p).toInt else 0) else oh p m
def SS (σ : gS) (p : Nat) : Int := if p < P then cr p - (σ 40 p).toInt else 0
def FE (M : Nat) (oh : Nat → Nat → Int) (σ : gS) (dv : (Nat → Nat → Int) → Int) : Prop :=
  ∀ φ, FL fr tt ln (SS P cr σ) (fun k m => (σ 37 (40 * k + m)).toInt) (fun p m => (σ 38 (40 * p + m)).toInt) (OO P ra M oh σ) φ = dv φ
def CC (M : Nat) (oh : Nat → Nat → Int) (C : Nat → Nat → Prop) (σ : gS) : Prop :=
  (∀ p, p < P → 0 < (σ 40 p).toInt → C p 0) ∧ (∀ p m, p < P → m + 1 ≤ M → C p m → C p (m + 1)) ∧ (∀ p m, p < P → m + 1 ≤ M → C p (m + 1) → 0 < (σ 38 (40 * p + m)).toInt → C p m) ∧ (∀ k m, k < K → m + ln k ≤ M → C (fr k) m → (σ 37 (40 * k + m)).toInt < wd k → C (tt k) (m + ln k)) ∧ (∀ k m, k < K → m + ln k ≤ M → C (tt k) (m + ln k) → 0 < (σ 37 (40 * k + m)).toInt → C (fr k) m) ∧ (∀ p m, p < P → m < M → C p m → oh p m = ra p)
variable {P K fr tt ln wd cr ra}
theorem p_letWait {Q : gS → Prop} {σ : gS} {p a b : Nat} {x : Int32} {n : Int} (hp : p < 8) (hab : a ≤ b) (hb : b ≤ 40) (hn : x.toInt = n) (hn0 : 0 ≤ n ∧ n ≤ 20000) (hw : ∀ m, a ≤ m → m < b → 0 ≤ (σ 38 (40 * p + m)).toInt ∧ (σ 38 (40 * p + m)).toInt ≤ 100000000)
    (k : ∀ σ', ag (fun k => k = 38) σ σ' → (∀ i, (∀ m, a ≤ m → m < b → i ≠ 40 * p + m) → σ' 38 i = σ 38 i) → (∀ m, a ≤ m → m < b → (σ' 38 (40 * p + m)).toInt = (σ 38 (40 * p + m)).toInt + n) → Q σ') : w_X0_letWait Q σ (nI p) (nI a) (nI b) x := by
  unfold w_X0_letWait
  have key : ∀ (d j : Nat) (s : gS), j + d = b → a ≤ j → ag (fun k => k = 38) σ s → (∀ i, (∀ m, a ≤ m → m < j → i ≠ 40 * p + m) → s 38 i = σ 38 i) → (∀ m, a ≤ m → m < j → (s 38 (40 * p + m)).toInt = (σ 38 (40 * p + m)).toInt + n) → w_X0_letWait_3 Q (d + 1) (nI p) (nI b) x (nI j) s := by
    intro d
    induction d with
    | zero =>
      intro j s hd hj ha h1 h2
      have : j = b := by omega
      subst this
      unfold w_X0_letWait_3
      exact q_T (nI_le (by omega) (by omega)) (k s ha h1 h2)
    | succ d ih =>
      intro j s hd hj ha h1 h2
      unfold w_X0_letWait_3
      simp (disch := omega) only [l_3, l_4, l_6, l_8, l_9, l_10, l_12, l_14, l_16, l_19, l_20, l_23, l_24, l_26, l_28, l_39, l_40, l_56, l_57, l_60, l_192, l_200, l_255, l_299, l_320, l_400, l_1120, l_2000, l_20000, l_10000, l_1000, l_1000000, nI_1, n_2mul, nI_add, pk_mul, pk_sub, sb_m1, nI_clamp, nI_clamp0, vpT, nI_leI, nI_ltI, nI_eq, nI_0le, nI_lt0, nI_le0, nI_0lt, nI_eq0, nI_eqm1, nI_m1eq, Nat.add_one_sub_one, forall_eq, true_and, and_true, true_implies, not_true_eq_false, not_false_eq_true, false_implies, implies_true, ne_eq, Nat.reduceEqDiff, Nat.reduceAdd, Nat.reduceMul, Nat.reduceLT, Nat.reduceLeDiff, and_self]
      refine q_F (by omega) ?_
      have e := h1 (40 * p + j) (fun m _ _ => by omega)
      have hwj := hw j (by omega) (by omega)
      refine ih (j + 1) _ (by omega) (by omega) (ag_gu' rfl ha) (fun i hi => ?_) (fun m m1 m2 => ?_)
      · rw [gu_ne2 (hi j hj (by omega))]
        exact h1 i (fun m m1 m2 => hi m m1 (by omega))
      · by_cases e' : m = j
        · subst e'
          rw [gu_eq, e, i_add (by omega) (by omega), hn]
        · rw [gu_ne2 (by omega)]
          exact h2 m m1 (by omega)
  exact ⟨(b - a) + 1, key (b - a) a σ (by omega) (by omega) ag_rf (fun _ _ => rfl) (fun m m1 m2 => by omega)⟩
/-- one arc's change -/
theorem F_arc {M : Nat} {B : Int} {oh : Nat → Nat → Int} {C : Nat → Nat → Prop} {σ σ' : gS} {dv : (Nat → Nat → Int) → Int} {k m : Nat} {δ : Int} (hM : M < 40) (hK : K ≤ 28) (hA : FA P K ln wd cr ra M B σ) (hE : FE P fr tt ln cr ra M oh σ dv) (hC : CC P K fr tt ln wd ra M oh C σ) (hk : k < K) (hm : m < 40) (hl : m + ln k ≤ M) (h0 : 0 ≤ (σ 37 (40 * k + m)).toInt + δ) (h1 : (σ 37 (40 * k + m)).toInt + δ ≤ wd k) (c1 : C (fr k) m) (c2 : C (tt k) (m + ln k))
    (e1 : (σ' 37 (40 * k + m)).toInt = (σ 37 (40 * k + m)).toInt + δ) (e2 : ∀ i, i ≠ 40 * k + m → σ' 37 i = σ 37 i) (e3 : (σ' 39 k).toInt = (σ 39 k).toInt + δ) (e4 : ∀ i, i ≠ k → σ' 39 i = σ 39 i) (eo : ∀ i, i ≠ 37 → i ≠ 39 → σ' i = σ i) :
    FA P K ln wd cr ra M B σ' ∧ FE P fr tt ln cr ra M oh σ' (fun φ => dv φ + δ * (φ (tt k) (m + ln k) - φ (fr k) m)) ∧ CC P K fr tt ln wd ra M oh C σ' := by
  obtain ⟨a1, a2, a3, a4, a5, a6⟩ := hA
  obtain ⟨b1, b2, b3, b4, b5, b6⟩ := hC
  have ne : ∀ i j, j < 40 → ¬ (i = k ∧ j = m) → σ' 37 (40 * i + j) = σ 37 (40 * i + j) := fun i j hj c => e2 _ (by omega)
  have e38 := eo 38 (by omega) (by omega)
  have e40 := eo 40 (by omega) (by omega)
  have e41 := eo 41 (by omega) (by omega)
  refine ⟨⟨fun i j hi hj => ?_, fun i j hi hi2 hj => ?_, ?_, ?_, fun i hi => ?_, ?_⟩, fun φ => ?_, ?_, b2, ?_, fun i j hi hj c3 c4 => ?_, fun i j hi hj c3 c4 => ?_, b6⟩
  · by_cases c : i = k ∧ j = m
    · rw [c.1, c.2, e1]; exact ⟨h0, h1, fun _ => hl⟩
    · rw [ne i j hj c]; exact a1 i j hi hj
  · rw [ne i j hj (by omega)]; exact a2 i j hi hi2 hj
  · rw [e38]; exact a3
  · rw [e38]; exact a4
  · by_cases c : i = k
    · rw [c, e3, a5 k hk]
      have := fsum_up (n := 40) (f := fun j => (σ 37 (40 * k + j)).toInt) (g := fun j => if j < 40 then (σ' 37 (40 * k + j)).toInt else (σ 37 (40 * k + j)).toInt) (k := m) hm (fun j hj => by
        by_cases q : j < 40
        · rw [if_pos q, ne k j q (by omega)]
        · rw [if_neg q])
      rw [if_pos hm, e1] at this
      rw [fsum_cong (f := fun j => (σ' 37 (40 * k + j)).toInt) (g := fun j => if j < 40 then (σ' 37 (40 * k + j)).toInt else (σ 37 (40 * k + j)).toInt) (fun j hj => by rw [if_pos hj]), this]
      omega
    · rw [e4 i c, a5 i hi]
      exact fsum_cong (fun j hj => by rw [ne i j hj (by omega)])
  · rw [e40, e41]; exact a6
  · dsimp only
    rw [← hE φ]
    have es : SS P cr σ' = SS P cr σ := by funext p; unfold SS; rw [e40]
    have eo' : OO P ra M oh σ' = OO P ra M oh σ := by funext p j; unfold OO; rw [e41]
    rw [es, eo', e38]
    exact FL_g (by omega) hm e1 (fun i j hi hj c => by rw [ne i j hj c])
  · rw [e40]; exact b1
  · rw [e38]; exact b3
  · by_cases c : i = k ∧ j = m
    · rw [c.1, c.2]; exact c2
    · rw [ne i j (by omega) c] at c4; exact b4 i j hi hj c3 c4
  · by_cases c : i = k ∧ j = m
    · rw [c.1, c.2]; exact c1
    · rw [ne i j (by omega) c] at c4; exact b5 i j hi hj c3 c4
/-- a change of who waits at p from a to b -/
theorem F_wait {M : Nat} {B B' : Int} {oh : Nat → Nat → Int} {C : Nat → Nat → Prop} {σ σ' : gS} {dv : (Nat → Nat → Int) → Int} {p a b : Nat} {δ : Int} (hM : M < 40) (hP : P ≤ 8) (hA : FA P K ln wd cr ra M B σ) (hE : FE P fr tt ln cr ra M oh σ dv) (hC : CC P K fr tt ln wd ra M oh C σ) (hp : p < P) (hab : a ≤ b) (hb : b ≤ M) (h0 : ∀ m, a ≤ m → m < b → 0 ≤ (σ 38 (40 * p + m)).toInt + δ ∧ (σ 38 (40 * p + m)).toInt + δ ≤ B') (hB : B ≤ B') (c1 : ∀ m, a ≤ m → m ≤ b → C p m)
    (e1 : ∀ m, a ≤ m → m < b → (σ' 38 (40 * p + m)).toInt = (σ 38 (40 * p + m)).toInt + δ) (e2 : ∀ i, (∀ m, a ≤ m → m < b → i ≠ 40 * p + m) → σ' 38 i = σ 38 i) (eo : ∀ i, i ≠ 38 → σ' i = σ i) :
    FA P K ln wd cr ra M B' σ' ∧ FE P fr tt ln cr ra M oh σ' (fun φ => dv φ + δ * (φ p b - φ p a)) ∧ CC P K fr tt ln wd ra M oh C σ' := by
  obtain ⟨a1, a2, a3, a4, a5, a6⟩ := hA
  obtain ⟨b1, b2, b3, b4, b5, b6⟩ := hC
  have ne : ∀ i j, j < 40 → ¬ (i = p ∧ a ≤ j ∧ j < b) → σ' 38 (40 * i + j) = σ 38 (40 * i + j) := fun i j hj c => e2 _ (fun m m1 m2 => by omega)
  have e37 := eo 37 (by omega)
  have e39 := eo 39 (by omega)
  have e40 := eo 40 (by omega)
  have e41 := eo 41 (by omega)
  refine ⟨⟨?_, ?_, fun i j hi hj => ?_, fun i j hi hi2 hj => ?_, ?_, ?_⟩, fun φ => ?_, ?_, b2, fun i j hi hj c3 c4 => ?_, ?_, ?_, b6⟩
  · rw [e37]; exact a1
  · rw [e37]; exact a2
  · by_cases c : i = p ∧ a ≤ j ∧ j < b
    · rw [c.1, e1 j c.2.1 c.2.2]
      have := h0 j c.2.1 c.2.2
      exact ⟨this.1, this.2, fun _ => by omega⟩
    · rw [ne i j hj c]
      have := a3 i j hi hj
      exact ⟨this.1, by omega, this.2.2⟩
  · rw [ne i j hj (by omega)]; exact a4 i j hi hi2 hj
  · rw [e39, e37]; exact a5
  · rw [e40, e41]; exact a6
  · dsimp only
    rw [← hE φ]
    have es : SS P cr σ' = SS P cr σ := by funext p; unfold SS; rw [e40]
    have eo' : OO P ra M oh σ' = OO P ra M oh σ := by funext p j; unfold OO; rw [e41]
    rw [es, eo', e37]
    exact FL_ww (by omega) hab (by omega) e1 (fun i j hi hj c => by rw [ne i j hj c])
  · rw [e40]; exact b1
  · by_cases c : i = p ∧ a ≤ j ∧ j < b
    · rw [c.1]; exact c1 j c.2.1 (by omega)
    · rw [ne i j (by omega) c] at c4; exact b3 i j hi hj c3 c4
  · rw [e37]; exact b4
  · rw [e37]; exact b5
/-- some start, or go out -/
theorem F_start {M : Nat} {B : Int} {oh : Nat → Nat → Int} {C : Nat → Nat → Prop} {σ σ' : gS} {dv : (Nat → Nat → Int) → Int} {p : Nat} {n : Int} (hP : P ≤ 8) (hA : FA P K ln wd cr ra M B σ) (hE : FE P fr tt ln cr ra M oh σ dv) (hC : CC P K fr tt ln wd ra M oh C σ) (hp : p < P) (h0 : 0 ≤ (σ 40 p).toInt - n) (h1 : 0 ≤ n)
    (e1 : (σ' 40 p).toInt = (σ 40 p).toInt - n) (e2 : ∀ i, i ≠ p → σ' 40 i = σ 40 i) (eo : ∀ i, i ≠ 40 → σ' i = σ i) :
    FA P K ln wd cr ra M B σ' ∧ FE P fr tt ln cr ra M oh σ' (fun φ => dv φ + n * φ p 0) ∧ CC P K fr tt ln wd ra M oh C σ' := by
  obtain ⟨a1, a2, a3, a4, a5, a6⟩ := hA
  obtain ⟨b1, b2, b3, b4, b5, b6⟩ := hC
  have e37 := eo 37 (by omega)
  have e38 := eo 38 (by omega)
  have e39 := eo 39 (by omega)
  have e41 := eo 41 (by omega)
  refine ⟨⟨by rw [e37]; exact a1, by rw [e37]; exact a2, by rw [e38]; exact a3, by rw [e38]; exact a4, by rw [e39, e37]; exact a5, fun i hi => ?_⟩, fun φ => ?_, fun i hi c => ?_, b2, by rw [e38]; exact b3, by rw [e37]; exact b4, by rw [e37]; exact b5, b6⟩
  · rw [e41]
    have := a6 i hi
    by_cases c : i = p
    · rw [c, e1]; rw [c] at this; exact ⟨h0, by omega, this.2.2⟩
    · rw [e2 i c]; exact this
  · dsimp only
    rw [← hE φ]
    have eo' : OO P ra M oh σ' = OO P ra M oh σ := by funext p j; unfold OO; rw [e41]
    rw [eo', e37, e38]
    exact FL_s (by omega) (by unfold SS; rw [if_pos hp, if_pos hp, e1]; omega) (fun q hq c => by unfold SS; rw [e2 q c])
  · by_cases c' : i = p
    · rw [c', e1] at c; rw [c']; exact b1 p hp (by omega)
    · rw [e2 i c'] at c; exact b1 i hi c
theorem F_out {M : Nat} {B : Int} {oh : Nat → Nat → Int} {C : Nat → Nat → Prop} {σ σ' : gS} {dv : (Nat → Nat → Int) → Int} {p : Nat} {n : Int} (hM : M < 40) (hP : P ≤ 8) (hA : FA P K ln wd cr ra M B σ) (hE : FE P fr tt ln cr ra M oh σ dv) (hC : CC P K fr tt ln wd ra M oh C σ) (hp : p < P) (h0 : 0 ≤ (σ 41 p).toInt - n) (h1 : 0 ≤ n)
    (e1 : (σ' 41 p).toInt = (σ 41 p).toInt - n) (e2 : ∀ i, i ≠ p → σ' 41 i = σ 41 i) (eo : ∀ i, i ≠ 41 → σ' i = σ i) :
    FA P K ln wd cr ra M B σ' ∧ FE P fr tt ln cr ra M oh σ' (fun φ => dv φ - n * φ p M) ∧ CC P K fr tt ln wd ra M oh C σ' := by
  obtain ⟨a1, a2, a3, a4, a5, a6⟩ := hA
  obtain ⟨b1, b2, b3, b4, b5, b6⟩ := hC
  have e37 := eo 37 (by omega)
  have e38 := eo 38 (by omega)
  have e39 := eo 39 (by omega)
  have e40 := eo 40 (by omega)
  refine ⟨⟨by rw [e37]; exact a1, by rw [e37]; exact a2, by rw [e38]; exact a3, by rw [e38]; exact a4, by rw [e39, e37]; exact a5, fun i hi => ?_⟩, fun φ => ?_, by rw [e40]; exact b1, b2, by rw [e38]; exact b3, by rw [e37]; exact b4, by rw [e37]; exact b5, b6⟩
  · rw [e40]
    have := a6 i hi
    by_cases c : i = p
    · rw [c, e1]; rw [c] at this; exact ⟨this.1, this.2.1, this.2.2.1, h0, by omega, this.2.2.2.2.2⟩
    · rw [e2 i c]; exact this
  · dsimp only
    rw [← hE φ]
    have es : SS P cr σ' = SS P cr σ := by funext p; unfold SS; rw [e40]
    rw [es, e37, e38]
    exact FL_o (by omega) hM (by unfold OO; rw [if_pos rfl, if_pos rfl, if_pos hp, if_pos hp, e1]; omega) (fun i j hi hj c => by
      unfold OO
      by_cases c' : j = M
      · rw [if_pos c', if_pos c', e2 i (by omega)]
      · rw [if_neg c', if_neg c'])
end SEND
