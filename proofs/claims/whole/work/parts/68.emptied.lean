/-! THE MODEL: emptied is the least number of minutes -/
def kX (k : Nat) : Prop := 77 ≤ k ∧ k ≤ 86
section EMPT
variable {P K : Nat} {fr tt ln : Nat → Nat} {wd cr ra : Nat → Int}
theorem MA.up {T : Nat} {B : Int} {σ : gS} (h : MA P K ln wd cr ra T B σ) : MA P K ln wd cr ra (T + 1) B σ := by
  obtain ⟨a1, a2, a3, a4, a5, a6, a7⟩ := h
  refine ⟨fun k m hk hm => ?_, a2, fun p m hp hm => ?_, a4, fun p m hp hm => ?_, a6, a7⟩
  · have := a1 k m hk hm; exact ⟨this.1, this.2.1, fun x => by have := this.2.2 x; omega⟩
  · have := a3 p m hp hm; exact ⟨this.1, this.2.1, fun x => by have := this.2.2 x; omega⟩
  · have := a5 p m hp hm; exact ⟨this.1, this.2.1, fun x => by have := this.2.2 x; omega⟩
theorem MA.agB {T : Nat} {B : Int} {σ σ' : gS} (h : MA P K ln wd cr ra T B σ) (ha : ag kB σ σ') : MA P K ln wd cr ra T B σ' := by
  unfold MA at *
  rw [ag_kB ha (k := 77) (by omega), ag_kB ha (k := 78) (by omega), ag_kB ha (k := 79) (by omega), ag_kB ha (k := 80) (by omega)]
  exact h
theorem ME.agB {σ σ' : gS} {dv : (Nat → Nat → Int) → Int} (h : ME P fr tt ln cr σ dv) (ha : ag kB σ σ') : ME P fr tt ln cr σ' dv := by
  unfold ME MS at *
  rw [ag_kB ha (k := 77) (by omega), ag_kB ha (k := 78) (by omega), ag_kB ha (k := 79) (by omega), ag_kB ha (k := 80) (by omega)]
  exact h
theorem fok_m {T : Nat} {B : Int} {σ : gS} (hP : P ≤ 8) (hH : HC P cr ra) (hA : MA P K ln wd cr ra T B σ) (hE : ME P fr tt ln cr σ (fun _ => 0)) :
    FOK K fr tt ln wd ra T (fun p => cr p - MU P σ p) (fun k m => (σ 78 (40 * k + m)).toInt) (fun p m => (σ 77 (40 * p + m)).toInt) (fun p m => (σ 79 (40 * p + m)).toInt) := by
  obtain ⟨a1, a2, a3, a4, a5, a6, a7⟩ := hA
  refine ⟨fun k m hk hm => ?_, fun p m hp hm => ?_, fun p m hp hm => ?_, fun φ => ?_⟩
  · dsimp only
    by_cases q : k < K
    · have := a1 k m q hm
      exact ⟨this.1, fun _ => this.2.1, fun x => ⟨q, this.2.2 x⟩⟩
    · rw [a2 k m (by omega) hk hm]
      exact ⟨Int.le_refl 0, fun x => absurd x q, fun x => absurd rfl x⟩
  · dsimp only
    by_cases q : p < P
    · have := a3 p m q hm
      exact ⟨this.1, this.2.2⟩
    · rw [a4 p m (by omega) hp hm]
      exact ⟨Int.le_refl 0, fun x => absurd rfl x⟩
  · dsimp only
    by_cases q : p < P
    · exact a5 p m q hm
    · rw [a6 p m (by omega) hp hm]
      have := (hH.1 p (by omega)).2
      exact ⟨Int.le_refl 0, by omega, fun x => absurd rfl x⟩
  · have := hE φ
    have e : MS P cr σ = fun p => cr p - MU P σ p := by
      funext p
      unfold MS MU
      split
      · rfl
      · have := (hH.1 p (by omega)).1; omega
    rw [e] at this
    exact this
theorem feas_m {T : Nat} {B : Int} {σ : gS} (hP : P ≤ 8) (hH : HC P cr ra) (hA : MA P K ln wd cr ra T B σ) (hE : ME P fr tt ln cr σ (fun _ => 0)) (hz : fsum P (fun p => (σ 80 p).toInt) ≤ 0) : Feas K fr tt ln wd cr ra T := by
  have F := fok_m hP hH hA hE
  have hz : ∀ p, p < P → (σ 80 p).toInt = 0 := fsum_zero (f := fun p => (σ 80 p).toInt) (fun p hp => (hA.2.2.2.2.2.2 p hp).1) hz
  have : (fun p => cr p - MU P σ p) = cr := by
    funext p
    unfold MU
    split
    · rename_i q; rw [hz p q]; omega
    · omega
  rw [this] at F
  exact ⟨_, _, _, F⟩
theorem nfeas_m {T : Nat} {B : Int} {σ : gS} {C : Nat → Nat → Prop} (hT : T ≤ 40) (hK : K ≤ 28) (hP : P ≤ 8) (hH : HC P cr ra) (hA : MA P K ln wd cr ra T B σ) (hE : ME P fr tt ln cr σ (fun _ => 0)) (hC : FCut K fr tt ln wd ra T (MU P σ) (fun k m => (σ 78 (40 * k + m)).toInt) (fun p m => (σ 77 (40 * p + m)).toInt) (fun p m => (σ 79 (40 * p + m)).toInt) C) (hl : 0 < fsum P (fun p => (σ 80 p).toInt)) : ¬ Feas K fr tt ln wd cr ra T := by
  refine cut_no (u := MU P σ) hT hK (fok_m hP hH hA hE) (fun p hp => ?_) hC ?_
  · unfold MU
    split
    · rename_i q; exact (hA.2.2.2.2.2.2 p q).1
    · exact Int.le_refl _
  · unfold MU
    rw [fsum_if (f := fun p => (σ 80 p).toInt) hP]; exact hl
theorem p_emp118 {Q : Int32 → gS → Prop} {k92 : Int32 → Int32 → Int32 → gS → Prop} {T : Nat} {CR : Int} {a : Int32} {σ : gS} (hT0 : 0 < T) (hT : T ≤ 40) (hG : GM P K fr tt ln wd σ) (hr : ∀ p, p < P → 0 ≤ (σ 69 p).toInt ∧ (σ 69 p).toInt ≤ 2000) (hH : HC P cr (rA P (σ 69) (σ 70) a)) (hCR : 0 ≤ CR ∧ CR ≤ 160000)
    (k0 : ∀ s x2, ag kX σ s → x2.toInt = fsum P (fun p => (s 80 p).toInt) → 0 < x2.toInt → x2.toInt ≤ CR → MA P K ln wd cr (rA P (σ 69) (σ 70) a) T (321 * (CR - x2.toInt)) s → ME P fr tt ln cr s (fun _ => 0) → ¬ Feas K fr tt ln wd cr (rA P (σ 69) (σ 70) a) T → k92 a x2 (nI (T + 1)) s)
    (k1 : ∀ s, ag kX σ s → Feas K fr tt ln wd cr (rA P (σ 69) (σ 70) a) T → Q (nI T) s) :
    ∀ (f : Nat) (s : gS) (x2 x4 : Int32) (S : Int), ag kX σ s → S = fsum P (fun p => (s 80 p).toInt) → 0 ≤ S → S ≤ CR → MA P K ln wd cr (rA P (σ 69) (σ 70) a) T (321 * (CR - S)) s → ME P fr tt ln cr s (fun _ => 0) → ((x4 = 0 ∧ x2.toInt = S ∧ (0 < S → ¬ Feas K fr tt ln wd cr (rA P (σ 69) (σ 70) a) T) ∧ 1 ≤ f) ∨ (1 ≤ x4.toInt ∧ x4.toInt ≤ CR ∧ x2.toInt - x4.toInt = S ∧ x2.toInt ≤ CR ∧ S + 2 ≤ f)) → w_X9_emptied_118 Q k92 f a x2 (nI T) x4 s := by
  obtain ⟨⟨hP, hK, e71, W, e76, hW⟩, g1, g2⟩ := id hG
  intro f
  induction f with
  | zero => intro s x2 x4 S ha hS h0 h1 hA hE h; omega
  | succ f ih =>
    intro s x2 x4 S ha hS h0 h1 hA hE h
    have e69 : s 69 = σ 69 := ha 69 (by unfold kX; omega)
    have e70 : s 70 = σ 70 := ha 70 (by unfold kX; omega)
    unfold w_X9_emptied_118
    simp (disch := omega) only [l_3, l_4, l_6, l_8, l_9, l_10, l_12, l_14, l_16, l_19, l_20, l_23, l_24, l_26, l_28, l_39, l_40, l_56, l_57, l_60, l_192, l_200, l_255, l_299, l_320, l_400, l_1120, l_2000, l_20000, l_10000, l_1000, l_1000000, nI_1, n_2mul, nI_add, pk_mul, pk_sub, sb_m1, nI_clamp, nI_clamp0, vpT, nI_leI, nI_ltI, nI_eq, nI_0le, nI_lt0, nI_le0, nI_0lt, nI_eq0, nI_eqm1, nI_m1eq, Nat.add_one_sub_one, forall_eq, true_and, and_true, true_implies, not_true_eq_false, not_false_eq_true, false_implies, implies_true, ne_eq, Nat.reduceEqDiff, Nat.reduceAdd, Nat.reduceMul, Nat.reduceLT, Nat.reduceLeDiff, and_self]
    rcases h with ⟨rfl, h2, h3, -⟩ | ⟨h2, h3, h4, h5, h6⟩
    · refine q_T (by decide) (q_ne (fun c => ?_) (fun c => ?_))
      · rw [t_0] at c
        exact k1 s ha (feas_m hP hH hA hE (by omega))
      · rw [t_0] at c
        exact k0 s x2 ha (by omega) (by omega) (by omega) (by rw [h2]; exact hA) hE (h3 (by omega))
    · refine q_F (by rw [i_le, t_0]; omega) ?_
      have es : (x2 - x4).toInt = S := by rw [i_sub (by omega) (by omega), h4]
      refine q_ne (fun c => ?_) (fun c => ?_)
      · rw [t_0, es] at c
        exact ih s _ 0 S ha hS h0 h1 hA hE (Or.inl ⟨rfl, es, fun q => by omega, by omega⟩)
      · rw [t_0, es] at c
        rw [← e69, ← e70] at hA
        refine p_more (a := a) hT0 hT (hG.cong (fun k h1 h2 => ha k (by unfold kX; omega))) (by omega) (fun p hp => by rw [e69]; exact hr p hp) hA hE (fun s2 a2 hC => ?_) (fun xn n p0 s2 hn n1 a2 hp0 hu hu' hA2 hE2 => ?_)
        · refine ih s2 _ 0 S (ag_tr ha (ag_mono a2 (fun k hk => by unfold kB at hk; unfold kX; omega))) (by rw [ag_kB a2 (by omega)]; exact hS) h0 h1 ?_ (hE.agB a2) (Or.inl ⟨rfl, es, fun _ => ?_, by omega⟩)
          · rw [e69, e70] at hA; exact hA.agB a2
          · rw [e69, e70] at hA hC
            exact nfeas_m hT hK hP hH hA hE hC (by omega)
        · rw [e69, e70] at hA2 hA
          have hS2 : fsum P (fun p => (s2 80 p).toInt) = S - n := by
            rw [fsum_up (f := fun p => (s 80 p).toInt) (g := fun p => (s2 80 p).toInt) (k := p0) hp0 (fun p hp => by rw [hu' p hp]), ← hS, hu]; omega
          have hnn : 0 ≤ fsum P (fun p => (s2 80 p).toInt) := fsum_nn (fun p hp => (hA2.2.2.2.2.2.2 p hp).1)
          refine ih s2 _ xn (S - n) (ag_tr ha (ag_mono a2 (fun k hk => by unfold kB kL at hk; unfold kX; omega))) hS2.symm (by omega) (by omega) ?_ hE2 (Or.inr ⟨by omega, by omega, by omega, by omega, by omega⟩)
          rw [show 321 * (CR - (S - n)) = 321 * (CR - S) + 321 * n by omega]
          exact hA2
theorem p_emp92 {Q : Int32 → gS → Prop} {CR : Int} {a : Int32} {σ : gS} (hG : GM P K fr tt ln wd σ) (hr : ∀ p, p < P → 0 ≤ (σ 69 p).toInt ∧ (σ 69 p).toInt ≤ 2000) (hH : HC P cr (rA P (σ 69) (σ 70) a)) (hCR : 0 ≤ CR ∧ CR ≤ 160000)
    (kk : ∀ r s, ag kX σ s → FMin K fr tt ln wd cr (rA P (σ 69) (σ 70) a) r → Q r s) :
    ∀ (d t : Nat) (s : gS) (x2 : Int32), t + d = 40 → ag kX σ s → x2.toInt = fsum P (fun p => (s 80 p).toInt) → 0 < x2.toInt → x2.toInt ≤ CR → MA P K ln wd cr (rA P (σ 69) (σ 70) a) t (321 * (CR - x2.toInt)) s → ME P fr tt ln cr s (fun _ => 0) → (∀ T, T ≤ t → ¬ Feas K fr tt ln wd cr (rA P (σ 69) (σ 70) a) T) → w_X9_emptied_92 Q (d + 1) a x2 (nI (t + 1)) s := by
  obtain ⟨⟨hP, hK, e71, W, e76, hW⟩, g1, g2⟩ := id hG
  intro d
  induction d with
  | zero =>
    intro t s x2 hd ha hx h0 h1 hA hE hF
    unfold w_X9_emptied_92
    simp (disch := omega) only [l_3, l_4, l_6, l_8, l_9, l_10, l_12, l_14, l_16, l_19, l_20, l_23, l_24, l_26, l_28, l_39, l_40, l_56, l_57, l_60, l_192, l_200, l_255, l_299, l_320, l_400, l_1120, l_2000, l_20000, l_10000, l_1000, l_1000000, nI_1, n_2mul, nI_add, pk_mul, pk_sub, sb_m1, nI_clamp, nI_clamp0, vpT, nI_leI, nI_ltI, nI_eq, nI_0le, nI_lt0, nI_le0, nI_0lt, nI_eq0, nI_eqm1, nI_m1eq, Nat.add_one_sub_one, forall_eq, true_and, and_true, true_implies, not_true_eq_false, not_false_eq_true, false_implies, implies_true, ne_eq, Nat.reduceEqDiff, Nat.reduceAdd, Nat.reduceMul, Nat.reduceLT, Nat.reduceLeDiff, and_self]
    exact q_T (by omega) (kk _ s ha (Or.inr ⟨rfl, fun T hT => hF T (by omega)⟩))
  | succ d ih =>
    intro t s x2 hd ha hx h0 h1 hA hE hF
    have e69 : s 69 = σ 69 := ha 69 (by unfold kX; omega)
    have e70 : s 70 = σ 70 := ha 70 (by unfold kX; omega)
    unfold w_X9_emptied_92 w_X9_emptied_116
    simp (disch := omega) only [l_3, l_4, l_6, l_8, l_9, l_10, l_12, l_14, l_16, l_19, l_20, l_23, l_24, l_26, l_28, l_39, l_40, l_56, l_57, l_60, l_192, l_200, l_255, l_299, l_320, l_400, l_1120, l_2000, l_20000, l_10000, l_1000, l_1000000, nI_1, n_2mul, nI_add, pk_mul, pk_sub, sb_m1, nI_clamp, nI_clamp0, vpT, nI_leI, nI_ltI, nI_eq, nI_0le, nI_lt0, nI_le0, nI_0lt, nI_eq0, nI_eqm1, nI_m1eq, Nat.add_one_sub_one, forall_eq, true_and, and_true, true_implies, not_true_eq_false, not_false_eq_true, false_implies, implies_true, ne_eq, Nat.reduceEqDiff, Nat.reduceAdd, Nat.reduceMul, Nat.reduceLT, Nat.reduceLeDiff, and_self]
    refine q_F (by omega) (q_nF (fun q => by rw [i_eq, t_0] at q; omega) ?_)
    have hAu := hA.up
    have inner := p_emp118 (Q := Q) (k92 := w_X9_emptied_92 Q (d + 1)) (T := t + 1) (CR := CR) (a := a) (σ := σ) (cr := cr) (by omega) (by omega) hG hr hH hCR (fun s2 x2' a2 hx2 h02 h12 hA2 hE2 hF2 => ih (t + 1) s2 x2' (by omega) a2 hx2 h02 h12 hA2 hE2 (fun T hT => by
      by_cases e : T = t + 1
      · rw [e]; exact hF2
      · exact hF T (by omega))) (fun s2 a2 hF2 => kk _ s2 a2 (Or.inl ⟨t + 1, by omega, rfl, hF2, fun T hT => hF T (by omega)⟩))
    have hA' := hAu
    rw [← e69, ← e70] at hA'
    refine p_more (a := a) (by omega) (by omega) (hG.cong (fun k h1 h2 => ha k (by unfold kX; omega))) (by omega) (fun p hp => by rw [e69]; exact hr p hp) hA' hE (fun s2 a2 hC => ⟨1, ?_⟩) (fun xn n p0 s2 hn n1 a2 hp0 hu hu' hA2 hE2 => ⟨x2.toInt.toNat + 2, ?_⟩)
    · rw [e69, e70] at hC
      exact inner 1 s2 x2 0 x2.toInt (ag_tr ha (ag_mono a2 (fun k hk => by unfold kB at hk; unfold kX; omega))) (by rw [ag_kB a2 (by omega)]; exact hx) (by omega) h1 (hAu.agB a2) (hE.agB a2) (Or.inl ⟨rfl, rfl, fun _ => nfeas_m (by omega) hK hP hH hAu hE hC (by omega), by omega⟩)
    · rw [e69, e70] at hA2
      have hS2 : fsum P (fun p => (s2 80 p).toInt) = x2.toInt - n := by
        rw [fsum_up (f := fun p => (s 80 p).toInt) (g := fun p => (s2 80 p).toInt) (k := p0) hp0 (fun p hp => by rw [hu' p hp]), ← hx, hu]; omega
      have hnn : 0 ≤ fsum P (fun p => (s2 80 p).toInt) := fsum_nn (fun p hp => (hA2.2.2.2.2.2.2 p hp).1)
      refine inner _ s2 x2 xn (x2.toInt - n) (ag_tr ha (ag_mono a2 (fun k hk => by unfold kB kL at hk; unfold kX; omega))) hS2.symm (by omega) (by omega) ?_ hE2 (Or.inr ⟨by omega, by omega, by omega, h1, by omega⟩)
      rw [show 321 * (CR - (x2.toInt - n)) = 321 * (CR - x2.toInt) + 321 * n by omega]
      exact hA2
theorem p_emptied {Q : Int32 → gS → Prop} {σ : gS} {a : Int32} (hG : GM P K fr tt ln wd σ) (hc : ∀ p, p < P → 0 ≤ (σ 68 p).toInt ∧ (σ 68 p).toInt ≤ 20000) (hr : ∀ p, p < P → 0 ≤ (σ 69 p).toInt ∧ (σ 69 p).toInt ≤ 2000)
    (kk : ∀ r s, ag kX σ s → FMin K fr tt ln wd (cC P (σ 68)) (rA P (σ 69) (σ 70) a) r → Q r s) : w_X9_emptied Q σ a := by
  obtain ⟨⟨hP, hK, e71, W, e76, hW⟩, g1, g2⟩ := id hG
  have hH := HC_of (g := σ 70) (a := a) hc hr
  have hsr := sum_rng hc
  have hra8 : ∀ p, 0 ≤ rA P (σ 69) (σ 70) a p := fun p => (rA_rng hr p).1
  have hwd0 : ∀ k, k < K → 0 ≤ wd k := fun k hk => by have := g1 k hk; omega
  have hbd : ∀ j, j ≤ P → 0 ≤ fsum j (fun p => (σ 68 p).toInt) ∧ fsum j (fun p => (σ 68 p).toInt) ≤ 20000 * j := by
    intro j hj
    exact sum_rng (fun p hp => hc p (by omega))
  have k55 : ∀ (d j : Nat) (s : gS) (x2 : Int32), j + d = P → ag kX σ s → (∀ i, i < 320 → s 77 i = 0 ∧ s 79 i = 0) → (∀ i, i < 1120 → s 78 i = 0) → (∀ p, p < j → s 80 p = σ 68 p) → x2.toInt = fsum j (fun p => (σ 68 p).toInt) → w_X9_emptied_55 Q (d + 1) a x2 (nI j) s := by
    intro d
    induction d with
    | zero =>
      intro j s x2 hd ha h1 h2 h3 hx
      have : j = P := by omega
      subst this
      unfold w_X9_emptied_55
      rw [ha 71 (by unfold kX; omega), e71]
      refine q_T (nI_le (by omega) (by omega)) ⟨41 + 1, ?_⟩
      have zg : ∀ k m, k < 28 → m < 40 → (s 78 (40 * k + m)).toInt = 0 := fun k m hk hm => by rw [h2 _ (by omega)]; rfl
      have zw : ∀ p m, p < 8 → m < 40 → (s 77 (40 * p + m)).toInt = 0 := fun p m hp hm => by rw [(h1 _ (by omega)).1]; rfl
      have zo : ∀ p m, p < 8 → m < 40 → (s 79 (40 * p + m)).toInt = 0 := fun p m hp hm => by rw [(h1 _ (by omega)).2]; rfl
      have hun : ∀ p, p < j → (s 80 p).toInt = (σ 68 p).toInt := fun p hp => by rw [h3 p hp]
      have hS : x2.toInt = fsum j (fun p => (s 80 p).toInt) := by rw [hx]; exact fsum_cong (fun p hp => (hun p hp).symm)
      have hA : MA j K ln wd (cC j (σ 68)) (rA j (σ 69) (σ 70) a) 0 (321 * (x2.toInt - x2.toInt)) s := by
        refine ⟨fun k m hk hm => ?_, fun k m hk hk2 hm => zg k m hk2 hm, fun p m hp hm => ?_, fun p m hp hp2 hm => zw p m hp2 hm, fun p m hp hm => ?_, fun p m hp hp2 hm => zo p m hp2 hm, fun p hp => ?_⟩
        · rw [zg k m (by omega) hm]; exact ⟨Int.le_refl 0, hwd0 k hk, fun x => absurd rfl x⟩
        · rw [zw p m (by omega) hm]; exact ⟨Int.le_refl 0, by omega, fun x => absurd rfl x⟩
        · rw [zo p m (by omega) hm]; exact ⟨Int.le_refl 0, hra8 p, fun x => absurd rfl x⟩
        · rw [hun p hp]
          unfold cC
          rw [if_pos hp]
          have := hc p hp
          exact ⟨by omega, by omega, by omega, (rA_rng hr p).2⟩
      have hE : ME j fr tt ln (cC j (σ 68)) s (fun _ => 0) := fun φ => by
        rw [FL_cong (s := fun _ => 0) (g := fun _ _ => 0) (w := fun _ _ => 0) (o := fun _ _ => 0) (fun p hp => ?_) (fun k m hk hm => zg k m hk hm) (fun p m hp hm => zw p m hp hm) (fun p m hp hm => zo p m hp hm)]
        · exact FL_zero
        · unfold MS cC
          split
          · rename_i q; rw [hun p q]; omega
          · rfl
      unfold w_X9_emptied_92 w_X9_emptied_116
      refine q_F (by decide) (q_T rfl ⟨1, ?_⟩)
      unfold w_X9_emptied_118
      refine q_T (by decide) (q_ne (fun c => ?_) (fun c => ?_))
      · rw [t_0] at c
        exact kk _ s ha (Or.inl ⟨0, by omega, rfl, feas_m hP hH hA hE (by omega), fun T hT => by omega⟩)
      · rw [t_0] at c
        intro y hy
        have : y = nI (0 + 1) := by rw [hy]; rfl
        rw [this]
        refine p_emp92 hG hr hH (by omega) kk 40 0 s x2 (by omega) ha hS (by omega) (Int.le_refl _) hA hE (fun T hT => ?_)
        have : T = 0 := by omega
        rw [this]
        exact nfeas_m (C := fun _ _ => True) (by omega) hK hP hH hA hE ⟨fun _ _ _ => trivial, fun _ _ _ _ _ => trivial, fun _ _ _ _ _ _ => trivial, fun _ _ _ _ _ _ => trivial, fun _ _ _ _ _ _ => trivial, fun p m hp hm => by omega⟩ (by omega)
    | succ d ih =>
      intro j s x2 hd ha h1 h2 h3 hx
      have e68 : s 68 = σ 68 := ha 68 (by unfold kX; omega)
      unfold w_X9_emptied_55
      rw [ha 71 (by unfold kX; omega), e71]
      simp (disch := omega) only [l_3, l_4, l_6, l_8, l_9, l_10, l_12, l_14, l_16, l_19, l_20, l_23, l_24, l_26, l_28, l_39, l_40, l_56, l_57, l_60, l_192, l_200, l_255, l_299, l_320, l_400, l_1120, l_2000, l_20000, l_10000, l_1000, l_1000000, nI_1, n_2mul, nI_add, pk_mul, pk_sub, sb_m1, nI_clamp, nI_clamp0, vpT, nI_leI, nI_ltI, nI_eq, nI_0le, nI_lt0, nI_le0, nI_0lt, nI_eq0, nI_eqm1, nI_m1eq, Nat.add_one_sub_one, forall_eq, true_and, and_true, true_implies, not_true_eq_false, not_false_eq_true, false_implies, implies_true, ne_eq, Nat.reduceEqDiff, Nat.reduceAdd, Nat.reduceMul, Nat.reduceLT, Nat.reduceLeDiff, and_self, gu_eq, gu_ne, gu_ne2, e68]
      refine q_F (by omega) ?_
      have b1 := hbd j (by omega)
      have b2 := hc j (by omega)
      refine ih (j + 1) _ _ (by omega) (ag_gu' (by unfold kX; omega) ha) (fun i hi => by rw [gu_ne (by omega), gu_ne (by omega)]; exact h1 i hi) (fun i hi => by rw [gu_ne (by omega)]; exact h2 i hi) (fun p hp => ?_) ?_
      · by_cases e : p = j
        · rw [e, gu_eq]
        · rw [gu_ne2 e]; exact h3 p (by omega)
      · rw [i_add (by omega) (by omega), hx]; rfl
  have k31 : ∀ (d j : Nat) (s : gS), j + d = 1120 → ag kX σ s → (∀ i, i < 320 → s 77 i = 0 ∧ s 79 i = 0) → (∀ i, i < j → s 78 i = 0) → w_X9_emptied_31 Q (d + 1) a (nI j) s := by
    intro d
    induction d with
    | zero =>
      intro j s hd ha h1 h2
      unfold w_X9_emptied_31
      simp (disch := omega) only [l_3, l_4, l_6, l_8, l_9, l_10, l_12, l_14, l_16, l_19, l_20, l_23, l_24, l_26, l_28, l_39, l_40, l_56, l_57, l_60, l_192, l_200, l_255, l_299, l_320, l_400, l_1120, l_2000, l_20000, l_10000, l_1000, l_1000000, nI_1, n_2mul, nI_add, pk_mul, pk_sub, sb_m1, nI_clamp, nI_clamp0, vpT, nI_leI, nI_ltI, nI_eq, nI_0le, nI_lt0, nI_le0, nI_0lt, nI_eq0, nI_eqm1, nI_m1eq, Nat.add_one_sub_one, forall_eq, true_and, and_true, true_implies, not_true_eq_false, not_false_eq_true, false_implies, implies_true, ne_eq, Nat.reduceEqDiff, Nat.reduceAdd, Nat.reduceMul, Nat.reduceLT, Nat.reduceLeDiff, and_self]
      refine q_T (by omega) ⟨P + 1, ?_⟩
      rw [← nI_0]
      exact k55 P 0 s _ (by omega) ha h1 (fun i hi => h2 i (by omega)) (fun p hp => by omega) (t_n (by omega))
    | succ d ih =>
      intro j s hd ha h1 h2
      unfold w_X9_emptied_31
      simp (disch := omega) only [l_3, l_4, l_6, l_8, l_9, l_10, l_12, l_14, l_16, l_19, l_20, l_23, l_24, l_26, l_28, l_39, l_40, l_56, l_57, l_60, l_192, l_200, l_255, l_299, l_320, l_400, l_1120, l_2000, l_20000, l_10000, l_1000, l_1000000, nI_1, n_2mul, nI_add, pk_mul, pk_sub, sb_m1, nI_clamp, nI_clamp0, vpT, nI_leI, nI_ltI, nI_eq, nI_0le, nI_lt0, nI_le0, nI_0lt, nI_eq0, nI_eqm1, nI_m1eq, Nat.add_one_sub_one, forall_eq, true_and, and_true, true_implies, not_true_eq_false, not_false_eq_true, false_implies, implies_true, ne_eq, Nat.reduceEqDiff, Nat.reduceAdd, Nat.reduceMul, Nat.reduceLT, Nat.reduceLeDiff, and_self]
      refine q_F (by omega) (ih (j + 1) _ (by omega) (ag_gu' (by unfold kX; omega) ha) (fun i hi => by rw [gu_ne (by omega), gu_ne (by omega)]; exact h1 i hi) (fun i hi => ?_))
      by_cases e : i = j
      · rw [e, gu_eq]
      · rw [gu_ne2 e]; exact h2 i (by omega)
  have k2 : ∀ (d j : Nat) (s : gS), j + d = 320 → ag kX σ s → (∀ i, i < j → s 77 i = 0 ∧ s 79 i = 0) → w_X9_emptied_2 Q (d + 1) a (nI j) s := by
    intro d
    induction d with
    | zero =>
      intro j s hd ha h1
      unfold w_X9_emptied_2
      simp (disch := omega) only [l_3, l_4, l_6, l_8, l_9, l_10, l_12, l_14, l_16, l_19, l_20, l_23, l_24, l_26, l_28, l_39, l_40, l_56, l_57, l_60, l_192, l_200, l_255, l_299, l_320, l_400, l_1120, l_2000, l_20000, l_10000, l_1000, l_1000000, nI_1, n_2mul, nI_add, pk_mul, pk_sub, sb_m1, nI_clamp, nI_clamp0, vpT, nI_leI, nI_ltI, nI_eq, nI_0le, nI_lt0, nI_le0, nI_0lt, nI_eq0, nI_eqm1, nI_m1eq, Nat.add_one_sub_one, forall_eq, true_and, and_true, true_implies, not_true_eq_false, not_false_eq_true, false_implies, implies_true, ne_eq, Nat.reduceEqDiff, Nat.reduceAdd, Nat.reduceMul, Nat.reduceLT, Nat.reduceLeDiff, and_self]
      refine q_T (by omega) ⟨1121, ?_⟩
      rw [← nI_0]
      exact k31 1120 0 s (by omega) ha (fun i hi => h1 i (by omega)) (fun i hi => by omega)
    | succ d ih =>
      intro j s hd ha h1
      unfold w_X9_emptied_2
      simp (disch := omega) only [l_3, l_4, l_6, l_8, l_9, l_10, l_12, l_14, l_16, l_19, l_20, l_23, l_24, l_26, l_28, l_39, l_40, l_56, l_57, l_60, l_192, l_200, l_255, l_299, l_320, l_400, l_1120, l_2000, l_20000, l_10000, l_1000, l_1000000, nI_1, n_2mul, nI_add, pk_mul, pk_sub, sb_m1, nI_clamp, nI_clamp0, vpT, nI_leI, nI_ltI, nI_eq, nI_0le, nI_lt0, nI_le0, nI_0lt, nI_eq0, nI_eqm1, nI_m1eq, Nat.add_one_sub_one, forall_eq, true_and, and_true, true_implies, not_true_eq_false, not_false_eq_true, false_implies, implies_true, ne_eq, Nat.reduceEqDiff, Nat.reduceAdd, Nat.reduceMul, Nat.reduceLT, Nat.reduceLeDiff, and_self]
      refine q_F (by omega) (ih (j + 1) _ (by omega) (ag_gu' (by unfold kX; omega) (ag_gu' (by unfold kX; omega) ha)) (fun i hi => ?_))
      by_cases e : i = j
      · rw [e, gu_eq, gu_ne (by omega), gu_eq]; exact ⟨rfl, rfl⟩
      · rw [gu_ne2 e, gu_ne (by omega), gu_ne2 e, gu_ne (by omega)]; exact h1 i (by omega)
  unfold w_X9_emptied
  exact ⟨321, by rw [← nI_0]; exact k2 320 0 σ (by omega) ag_rf (fun i hi => by omega)⟩
end EMPT
