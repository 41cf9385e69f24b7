/-! ESCAPE: fewestMinutes -/
theorem fsum_if {n P : Nat} {f : Nat → Int} (h : P ≤ n) : fsum n (fun p => if p < P then f p else 0) = fsum P f := by
  induction n with
  | zero => have : P = 0 := by omega
            subst this; rfl
  | succ n ih =>
    by_cases e : P = n + 1
    · subst e; exact fsum_cong (fun i hi => if_pos hi)
    · rw [fsum, ih (by omega), if_neg (by omega)]; omega
theorem fsum_zero {n : Nat} {f : Nat → Int} (h : ∀ i, i < n → 0 ≤ f i) (hs : fsum n f ≤ 0) : ∀ i, i < n → f i = 0 := fun i hi => by
  have := fsum_part h hi
  have := h i hi
  omega
def kE (k : Nat) : Prop := 36 ≤ k ∧ k ≤ 46
section FEW2
variable (P K : Nat) (fr tt ln : Nat → Nat) (wd cr ra : Nat → Int)
def UU (σ : gS) (p : Nat) : Int := if p < P then (σ 40 p).toInt else 0
def FMin (r : Int32) : Prop := (∃ T : Nat, T ≤ 40 ∧ r = nI T ∧ Feas K fr tt ln wd cr ra T ∧ ∀ T', T' < T → ¬ Feas K fr tt ln wd cr ra T') ∨ (r = -1 ∧ ∀ T, T ≤ 40 → ¬ Feas K fr tt ln wd cr ra T)
def HC : Prop := (∀ p, P ≤ p → cr p = 0 ∧ ra p = 0) ∧ ∀ p, p < P → 0 ≤ cr p ∧ cr p ≤ 20000 ∧ 0 ≤ ra p ∧ ra p ≤ 2000
def IV (M : Nat) (B : Int) (oh : Nat → Nat → Int) (C : Nat → Nat → Prop) (σ : gS) : Prop :=
  FOK K fr tt ln wd ra M (fun p => cr p - UU P σ p) (fun k m => (σ 37 (40 * k + m)).toInt) (fun p m => (σ 38 (40 * p + m)).toInt) oh ∧ FCut K fr tt ln wd ra M (UU P σ) (fun k m => (σ 37 (40 * k + m)).toInt) (fun p m => (σ 38 (40 * p + m)).toInt) oh C ∧ (∀ p m, p < P → m < 40 → (σ 38 (40 * p + m)).toInt ≤ B) ∧ (∀ p m, P ≤ p → p < 8 → m < 40 → (σ 38 (40 * p + m)).toInt = 0) ∧ (∀ k, k < K → (σ 39 k).toInt = fsum 40 (fun m => (σ 37 (40 * k + m)).toInt)) ∧ (∀ p, p < P → 0 ≤ (σ 40 p).toInt ∧ (σ 40 p).toInt ≤ cr p)
variable {P K fr tt ln wd cr ra}
theorem SS_UU {σ : gS} (hH : HC P cr ra) : SS P cr σ = fun p => cr p - UU P σ p := by
  funext p
  unfold SS UU
  split
  · rfl
  · have := (hH.1 p (by omega)).1; omega
theorem iv_no {M : Nat} {B : Int} {oh : Nat → Nat → Int} {C : Nat → Nat → Prop} {σ : gS} (hM : M ≤ 40) (hK : K ≤ 28) (hP : P ≤ 8) (h : IV P K fr tt ln wd cr ra M B oh C σ) (hl : 0 < fsum P (fun p => (σ 40 p).toInt)) : ¬ Feas K fr tt ln wd cr ra M := by
  obtain ⟨h1, h2, h3, h4, h5, h6⟩ := h
  refine cut_no (u := UU P σ) hM hK h1 (fun p hp => ?_) h2 ?_
  · unfold UU
    split
    · rename_i q; exact (h6 p q).1
    · exact Int.le_refl _
  · unfold UU
    rw [fsum_if (f := fun p => (σ 40 p).toInt) hP]; exact hl
theorem iv_open {M : Nat} {B : Int} {oh : Nat → Nat → Int} {C : Nat → Nat → Prop} {σ σ' : gS} (hM : M < 40) (hK : K ≤ 28) (hP : P ≤ 8) (hl : ∀ k, k < K → fr k < P ∧ tt k < P ∧ 1 ≤ ln k) (hH : HC P cr ra) (h : IV P K fr tt ln wd cr ra M B oh C σ) (hg : ∀ p, p < P → (σ' 41 p).toInt = ra p) (e : ∀ k, 37 ≤ k → k ≤ 40 → σ' k = σ k) :
    FA P K ln wd cr ra M B σ' ∧ FE P fr tt ln cr ra M oh σ' (fun _ => 0) ∧ CC P K fr tt ln wd ra M oh (fun p m => C p m ∨ m = M) σ' := by
  obtain ⟨⟨a1, a2, a3, a4⟩, ⟨c1, c2, c3, c4, c5, c6⟩, h3, h4, h5, h6⟩ := h
  have e37 := e 37 (by omega) (by omega)
  have e38 := e 38 (by omega) (by omega)
  have e39 := e 39 (by omega) (by omega)
  have e40 := e 40 (by omega) (by omega)
  refine ⟨⟨?_, ?_, ?_, ?_, ?_, ?_⟩, ?_, ?_, ?_, ?_, ?_, ?_, ?_⟩
  · intro k m hk hm
    rw [e37]
    have := a1 k m (by omega) hm
    exact ⟨this.1, this.2.1 hk, fun q => by have := (this.2.2 q).2; omega⟩
  · intro k m hk hk2 hm
    rw [e37]
    have := a1 k m hk2 hm
    apply Classical.byContradiction
    intro q
    have := (this.2.2 q).1
    omega
  · intro p m hp hm
    rw [e38]
    have := a2 p m (by omega) hm
    exact ⟨this.1, h3 p m hp hm, fun q => by have := this.2 q; omega⟩
  · intro p m hp hp2 hm
    rw [e38]; exact h4 p m hp hp2 hm
  · rw [e39, e37]; exact h5
  · intro p hp
    have := hH.2 p hp
    rw [e40, hg p hp]
    exact ⟨(h6 p hp).1, (h6 p hp).2, by omega, by omega, by omega, by omega⟩
  · intro φ
    rw [← a4 φ, e37, e38]
    refine FL_cong (fun p hp => ?_) (fun _ _ _ _ => rfl) (fun _ _ _ _ => rfl) (fun p m hp hm => ?_)
    · rw [SS_UU hH]; unfold UU; rw [e40]
    · unfold OO
      split
      · rename_i q
        subst q
        have := (a3 p m hp hm).2.2
        have z : oh p m = 0 := Classical.byContradiction fun q => by have := this q; omega
        rw [z]
        split
        · rename_i q; rw [hg p q]; omega
        · rfl
      · rfl
  · intro p hp hu
    rw [e40] at hu
    exact Or.inl (c1 p (by omega) (by unfold UU; rw [if_pos hp]; exact hu))
  · intro p m hp hm hc
    rcases hc with hc | hc
    · by_cases q : m + 1 = M
      · exact Or.inr q
      · exact Or.inl (c2 p m (by omega) (by omega) hc)
    · omega
  · intro p m hp hm hc hw
    rw [e38] at hw
    have := (a2 p m (by omega) (by omega)).2 (by dsimp only; omega)
    rcases hc with hc | hc
    · exact Or.inl (c3 p m (by omega) (by omega) hc hw)
    · omega
  · intro k m hk hm hc hb
    rw [e37] at hb
    have hl := hl k hk
    rcases hc with hc | hc
    · by_cases q : m + ln k = M
      · exact Or.inr q
      · exact Or.inl (c4 k m hk (by omega) hc hb)
    · omega
  · intro k m hk hm hc hb
    rw [e37] at hb
    have := (a1 k m (by omega) (by omega)).2.2 (by dsimp only; omega)
    rcases hc with hc | hc
    · exact Or.inl (c5 k m hk (by omega) hc hb)
    · omega
  · intro p m hp hm hc
    rcases hc with hc | hc
    · exact c6 p m (by omega) hm hc
    · omega
def HO (ra : Nat → Int) (M : Nat) (oh : Nat → Nat → Int) : Prop := ∀ p m, p < 8 → m < 40 → 0 ≤ oh p m ∧ oh p m ≤ ra p ∧ (oh p m ≠ 0 → m < M)
theorem fok_of {M : Nat} {B : Int} {oh : Nat → Nat → Int} {σ : gS} (hM : M < 40) (hK : K ≤ 28) (hP : P ≤ 8) (hH : HC P cr ra) (ho : HO ra M oh) (hA : FA P K ln wd cr ra M B σ) (hE : FE P fr tt ln cr ra M oh σ (fun _ => 0)) :
    FOK K fr tt ln wd ra (M + 1) (fun p => cr p - UU P σ p) (fun k m => (σ 37 (40 * k + m)).toInt) (fun p m => (σ 38 (40 * p + m)).toInt) (OO P ra M oh σ) := by
  obtain ⟨a1, a2, a3, a4, a5, a6⟩ := hA
  refine ⟨fun k m hk hm => ?_, fun p m hp hm => ?_, fun p m hp hm => ?_, fun φ => ?_⟩
  · by_cases q : k < K
    · have := a1 k m q hm
      exact ⟨this.1, fun _ => this.2.1, fun x => ⟨q, by have := this.2.2 x; omega⟩⟩
    · have := a2 k m (by omega) hk hm
      dsimp only
      rw [this]
      exact ⟨by omega, fun x => by omega, fun x => absurd rfl x⟩
  · by_cases q : p < P
    · have := a3 p m q hm
      exact ⟨this.1, fun x => by have := this.2.2 x; omega⟩
    · have := a4 p m (by omega) hp hm
      dsimp only
      rw [this]
      exact ⟨by omega, fun x => absurd rfl x⟩
  · unfold OO
    have h1 := ho p m hp hm
    split
    · split
      · rename_i q q2
        have := a6 p q2
        exact ⟨by omega, by omega, fun _ => by omega⟩
      · rename_i q q2
        have := hH.1 p (by omega)
        exact ⟨by omega, by omega, fun _ => by omega⟩
    · exact ⟨h1.1, h1.2.1, fun x => by have := h1.2.2 x; omega⟩
  · have := hE φ
    rw [SS_UU hH] at this
    exact this
theorem iv_close {M : Nat} {B : Int} {oh : Nat → Nat → Int} {C : Nat → Nat → Prop} {σ : gS} (hM : M < 40) (hG : GC P K fr tt ln wd σ) (hH : HC P cr ra) (ho : HO ra M oh) (hA : FA P K ln wd cr ra M B σ) (hE : FE P fr tt ln cr ra M oh σ (fun _ => 0)) (hC : CC P K fr tt ln wd ra M oh C σ) (hT : GT P M σ) (hU : US P σ) (hD : ∀ p, p < P → DN K fr tt ln wd M σ p) :
    IV P K fr tt ln wd cr ra (M + 1) B (OO P ra M oh σ) (fun p m => p < P ∧ C p m ∧ (σ 42 p).toInt < m) σ := by
  obtain ⟨⟨hP, hK, e35, e26⟩, g1, g2, g3, g4⟩ := id hG
  have hF := fok_of hM hK hP hH ho hA hE
  obtain ⟨a1, a2, a3, a4, a5, a6⟩ := hA
  obtain ⟨c1, c2, c3, c4, c5, c6⟩ := hC
  refine ⟨hF, ⟨?_, ?_, ?_, ?_, ?_, ?_⟩, fun p m hp hm => (a3 p m hp hm).2.1, a4, a5, fun p hp => ⟨(a6 p hp).1, (a6 p hp).2.1⟩⟩
  · intro p hp hu
    unfold UU at hu
    split at hu
    · rename_i q
      refine ⟨q, c1 p q hu, ?_⟩
      apply Classical.byContradiction
      intro x
      have := hU p q (by omega)
      omega
    · omega
  · intro p m hp hm ⟨q, hc, hl⟩
    exact ⟨q, c2 p m q (by omega) hc, by push_cast; omega⟩
  · intro p m hp hm ⟨q, hc, hl⟩ hw
    dsimp only at hw
    refine ⟨q, c3 p m q (by omega) hc hw, ?_⟩
    apply Classical.byContradiction
    intro x
    have := (hD p q).1 m (by push_cast at hl; omega) (by omega)
    omega
  · intro k m hk hm ⟨q, hc, hl⟩ hb
    dsimp only at hb
    obtain ⟨x1, x2, x3, x4, x5, x6, x7⟩ := g1 k hk
    obtain ⟨r1, r2, r3, r4, r5⟩ := g3 k hk
    refine ⟨x2, c4 k m hk (by omega) hc hb, ?_⟩
    apply Classical.byContradiction
    intro x
    have := ((hD (tt k) x2).2 (rv k) r1 r2).1 m (by rw [r3]; exact hl) (by rw [r2, r4]; push_cast at x; omega)
    rw [rv_rv, r5] at this
    omega
  · intro k m hk hm ⟨q, hc, hl⟩ hb
    dsimp only at hb
    obtain ⟨x1, x2, x3, x4, x5, x6, x7⟩ := g1 k hk
    refine ⟨x1, c5 k m hk (by omega) hc hb, ?_⟩
    apply Classical.byContradiction
    intro x
    have := ((hD (fr k) x1).2 k hk rfl).2 m (by omega) (by omega) (by push_cast at hl; omega)
    omega
  · intro p m hp hm ⟨q, hc, hl⟩
    unfold OO
    by_cases e : m = M
    · rw [if_pos e, if_pos q]
      have := a6 p q
      have : ¬ 0 < (σ 41 p).toInt := fun x => by have := hT p q x; omega
      omega
    · rw [if_neg e]; exact c6 p m q (by omega) hc
end FEW2
