/-! THE MODEL: leads -/
theorem nI_eqm5 {n : Nat} (h : n < 2 ^ 31) : (nI n = -5) = False := by
  apply eq_false; intro q
  have := congrArg Int32.toInt q
  rw [nI_toInt h] at this
  have h2 : (-5 : Int32).toInt = -5 := rfl
  omega
def kW (k : Nat) : Prop := k = 77 ∨ k = 78
section LEAD
variable {P K : Nat} {fr tt ln : Nat → Nat} {wd cr ra : Nat → Int}
theorem p_lead89 {Q : Int32 → gS → Prop} {T p0 : Nat} {B n : Int} {xn : Int32} {pos : Nat → Nat} {σ : gS} (hT : T ≤ 40) (hG : GM P K fr tt ln wd σ) (hn : xn.toInt = n) (hn0 : 1 ≤ n ∧ n ≤ 20000) (hB : 0 ≤ B ∧ B + 321 * n ≤ 90000000)
    (kk : ∀ s, ag kW σ s → MA P K ln wd cr ra T (B + 321 * n) s → ME P fr tt ln cr s (fun _ => 0) → Q xn s) :
    ∀ (f i p m : Nat) (s : gS), i + f ≤ 321 → p < P → m < T → ag kW σ s → CH P K fr tt ln wd T s pos p0 n f p m → MA P K ln wd cr ra T (bd B n i) s → ME P fr tt ln cr s (fun φ => n * φ p0 0 - n * φ p m) → w_X9_leads_89 Q f xn (nI (40 * p + m)) s := by
  obtain ⟨⟨hP, hK, e71, W, e76, hW⟩, g1, g2⟩ := id hG
  intro f
  induction f with
  | zero => intro i p m s _ _ _ _ h; exact h.elim
  | succ f ih =>
    intro i p m s hi hp hm ha h hA hE
    have hbd := bd_le (B := B) (n := n) (by omega) (show i ≤ 321 by omega)
    have hbd1 := bd_le (B := B) (n := n) (by omega) (show i + 1 ≤ 321 by omega)
    have hbd' := bd_eq B n 321
    have hbs : bd B n (i + 1) = bd B n i + n := rfl
    unfold w_X9_leads_89
    unfold CH at h
    rcases h with ⟨h1, h2, h3⟩ | ⟨q, l, h1, h2, h3, h4, h5, h6⟩
    · simp (disch := omega) only [l_3, l_4, l_6, l_8, l_9, l_10, l_12, l_14, l_16, l_19, l_20, l_23, l_24, l_26, l_28, l_39, l_40, l_56, l_57, l_60, l_192, l_200, l_255, l_299, l_320, l_400, l_1120, l_2000, l_20000, l_10000, l_1000, l_1000000, nI_1, n_2mul, nI_add, pk_mul, pk_sub, sb_m1, nI_clamp, nI_clamp0, vpT, nI_leI, nI_ltI, nI_eq, nI_0le, nI_lt0, nI_le0, nI_0lt, nI_eq0, nI_eqm1, nI_m1eq, Nat.add_one_sub_one, forall_eq, true_and, and_true, true_implies, not_true_eq_false, not_false_eq_true, false_implies, implies_true, ne_eq, Nat.reduceEqDiff, Nat.reduceAdd, Nat.reduceMul, Nat.reduceLT, Nat.reduceLeDiff, and_self]
      refine q_T h1 (kk s ha ⟨hA.1, hA.2.1, fun p m hp hm => ?_, hA.2.2.2⟩ (fun φ => by rw [hE φ]; dsimp only; rw [h2, h3]; omega))
      have := hA.2.2.1 p m hp hm
      exact ⟨this.1, by omega, this.2.2⟩
    · have hx : 40 * p + m < 320 := by omega
      have hy : 40 * q + l < 320 := by omega
      have hne : ∀ p' m', pos (40 * p' + m') < pos (40 * p + m) → ¬ (p' = p ∧ m' = m) := fun p' m' hlt e => by rw [e.1, e.2] at hlt; omega
      simp (disch := omega) only [l_3, l_4, l_6, l_8, l_9, l_10, l_12, l_14, l_16, l_19, l_20, l_23, l_24, l_26, l_28, l_39, l_40, l_56, l_57, l_60, l_192, l_200, l_255, l_299, l_320, l_400, l_1120, l_2000, l_20000, l_10000, l_1000, l_1000000, nI_1, n_2mul, nI_add, pk_mul, pk_sub, sb_m1, nI_clamp, nI_clamp0, vpT, nI_leI, nI_ltI, nI_eq, nI_0le, nI_lt0, nI_le0, nI_0lt, nI_eq0, nI_eqm1, nI_m1eq, Nat.add_one_sub_one, forall_eq, true_and, and_true, true_implies, not_true_eq_false, not_false_eq_true, false_implies, implies_true, ne_eq, Nat.reduceEqDiff, Nat.reduceAdd, Nat.reduceMul, Nat.reduceLT, Nat.reduceLeDiff, and_self, h1, nI_eqm5]
      unfold w_X9_sends
      rcases id h5 with ⟨v1, v2, v3, v4, v5, v6⟩ | ⟨v1, v2, v3, v4, v5⟩ | ⟨k, hk, v1, v2, v3, v4, v5, v6, v7⟩ | ⟨k, hk, v1, v2, v3, v4, v5, v6⟩
      · subst v3 v4
        have hw := hA.2.2.1 q l hp (by omega)
        have es : (s 77 (40 * q + l) + xn).toInt = (s 77 (40 * q + l)).toInt + n := by rw [i_add (by omega) (by omega), hn]
        simp (disch := omega) only [l_3, l_4, l_6, l_8, l_9, l_10, l_12, l_14, l_16, l_19, l_20, l_23, l_24, l_26, l_28, l_39, l_40, l_56, l_57, l_60, l_192, l_200, l_255, l_299, l_320, l_400, l_1120, l_2000, l_20000, l_10000, l_1000, l_1000000, nI_1, n_2mul, nI_add, pk_mul, pk_sub, sb_m1, nI_clamp, nI_clamp0, vpT, nI_leI, nI_ltI, nI_eq, nI_0le, nI_lt0, nI_le0, nI_0lt, nI_eq0, nI_eqm1, nI_m1eq, Nat.add_one_sub_one, forall_eq, true_and, and_true, true_implies, not_true_eq_false, not_false_eq_true, false_implies, implies_true, ne_eq, Nat.reduceEqDiff, Nat.reduceAdd, Nat.reduceMul, Nat.reduceLT, Nat.reduceLeDiff, and_self, gu_eq, gu_ne, gu_ne2, h1, v1, v2]
        refine q_F (by decide) ?_
        obtain ⟨A', E'⟩ := M_wait (σ' := gu s 77 (40 * q + l) (s 77 (40 * q + l) + xn)) (B' := bd B n (i + 1)) (δ := n) hT hP hA hE hp (m := l) (by omega) (by omega) (by omega) (by omega) (by rw [gu_eq, es]) (fun i hi => gu_ne2 hi) (fun i hi => gu_ne hi)
        refine ih (i + 1) q l _ (by omega) h2 h3 (ag_gu' (Or.inl rfl) ha) (CH.keep (σ := s) (σ' := gu s 77 (40 * q + l) (s 77 (40 * q + l) + xn)) (N := pos (40 * q + (l + 1))) (fun k h1 h2 => gu_ne (by omega)) (fun p' m' q' l' hp' hm' hN h => ?_) f q l h2 h3 h4 h6) A' (fun φ => by rw [E' φ]; dsimp only; rw [Int.mul_sub]; omega)
        unfold EV at h ⊢
        rw [gu_ne (show 78 ≠ 77 by omega)]
        rcases h with h | ⟨z1, z2, z3, z4, z5⟩ | h | h
        · exact Or.inl h
        · refine Or.inr (Or.inl ⟨z1, z2, z3, z4, ?_⟩)
          rw [gu_at]
          split
          · rename_i e; rw [es, ← e]; omega
          · exact z5
        · exact Or.inr (Or.inr (Or.inl h))
        · exact Or.inr (Or.inr (Or.inr h))
      · subst v3 v4
        have hw := hA.2.2.1 q m hp (by omega)
        have es : (s 77 (40 * q + m) - xn).toInt = (s 77 (40 * q + m)).toInt - n := by rw [i_sub (by omega) (by omega), hn]
        simp (disch := omega) only [l_3, l_4, l_6, l_8, l_9, l_10, l_12, l_14, l_16, l_19, l_20, l_23, l_24, l_26, l_28, l_39, l_40, l_56, l_57, l_60, l_192, l_200, l_255, l_299, l_320, l_400, l_1120, l_2000, l_20000, l_10000, l_1000, l_1000000, nI_1, n_2mul, nI_add, pk_mul, pk_sub, sb_m1, nI_clamp, nI_clamp0, vpT, nI_leI, nI_ltI, nI_eq, nI_0le, nI_lt0, nI_le0, nI_0lt, nI_eq0, nI_eqm1, nI_m1eq, Nat.add_one_sub_one, forall_eq, true_and, and_true, true_implies, not_true_eq_false, not_false_eq_true, false_implies, implies_true, ne_eq, Nat.reduceEqDiff, Nat.reduceAdd, Nat.reduceMul, Nat.reduceLT, Nat.reduceLeDiff, and_self, gu_eq, gu_ne, gu_ne2, h1, v1, v2]
        refine q_F (by decide) (q_F (by decide) ?_)
        obtain ⟨A', E'⟩ := M_wait (σ' := gu s 77 (40 * q + m) (s 77 (40 * q + m) - xn)) (B' := bd B n (i + 1)) (δ := -n) hT hP hA hE hp (m := m) (by omega) (by omega) (by omega) (by omega) (by rw [gu_eq, es]; omega) (fun i hi => gu_ne2 hi) (fun i hi => gu_ne hi)
        refine ih (i + 1) q (m + 1) _ (by omega) h2 h3 (ag_gu' (Or.inl rfl) ha) (CH.keep (σ := s) (σ' := gu s 77 (40 * q + m) (s 77 (40 * q + m) - xn)) (N := pos (40 * q + m)) (fun k h1 h2 => gu_ne (by omega)) (fun p' m' q' l' hp' hm' hN h => ?_) f q (m + 1) h2 h3 h4 h6) A' (fun φ => by rw [E' φ]; dsimp only; rw [Int.mul_sub]; simp only [Int.neg_mul]; omega)
        have hz := hne p' m' hN
        unfold EV at h ⊢
        rw [gu_ne (show 78 ≠ 77 by omega)]
        rcases h with h | ⟨z1, z2, z3, z4, z5⟩ | h | h
        · exact Or.inl h
        · refine Or.inr (Or.inl ⟨z1, z2, z3, z4, ?_⟩)
          rw [gu_ne2 (by omega)]
          exact z5
        · exact Or.inr (Or.inr (Or.inl h))
        · exact Or.inr (Or.inr (Or.inr h))
      · have hg := g1 k hk
        have hw := hA.1 k l hk (by omega)
        have es : (s 78 (40 * k + l) + xn).toInt = (s 78 (40 * k + l)).toInt + n := by rw [i_add (by omega) (by omega), hn]
        simp (disch := omega) only [l_3, l_4, l_6, l_8, l_9, l_10, l_12, l_14, l_16, l_19, l_20, l_23, l_24, l_26, l_28, l_39, l_40, l_56, l_57, l_60, l_192, l_200, l_255, l_299, l_320, l_400, l_1120, l_2000, l_20000, l_10000, l_1000, l_1000000, nI_1, n_2mul, nI_add, pk_mul, pk_sub, sb_m1, nI_clamp, nI_clamp0, vpT, nI_leI, nI_ltI, nI_eq, nI_0le, nI_lt0, nI_le0, nI_0lt, nI_eq0, nI_eqm1, nI_m1eq, Nat.add_one_sub_one, forall_eq, true_and, and_true, true_implies, not_true_eq_false, not_false_eq_true, false_implies, implies_true, ne_eq, Nat.reduceEqDiff, Nat.reduceAdd, Nat.reduceMul, Nat.reduceLT, Nat.reduceLeDiff, and_self, gu_eq, gu_ne, gu_ne2, h1, v1, v2, pk_div, d40, s40]
        obtain ⟨A', E'⟩ := M_arc (σ' := gu s 78 (40 * k + l) (s 78 (40 * k + l) + xn)) (δ := n) hT hK hA hE hk (m := l) (by omega) (by omega) (by omega) (by rw [gu_eq, es]) (fun i hi => gu_ne2 hi) (fun i hi => gu_ne hi)
        refine ih (i + 1) q l _ (by omega) h2 h3 (ag_gu' (Or.inr rfl) ha) (CH.keep (σ := s) (σ' := gu s 78 (40 * k + l) (s 78 (40 * k + l) + xn)) (N := pos (40 * p + m)) (fun k h1 h2 => gu_ne (by omega)) (fun p' m' q' l' hp' hm' hN h => ?_) f q l h2 h3 h4 h6) ⟨A'.1, A'.2.1, fun p m hp hm => ?_, A'.2.2.2⟩ (fun φ => by rw [E' φ]; dsimp only; rw [v3, v4, ← v5, Int.mul_sub]; omega)
        · have hz := hne p' m' hN
          unfold EV at h ⊢
          rw [gu_ne (show 77 ≠ 78 by omega)]
          rcases h with h | h | ⟨k', z1, z2, z3, z4, z5, z6, z7, z8⟩ | ⟨k', z1, z2, z3, z4, z5, z6, z7⟩
          · exact Or.inl h
          · exact Or.inr (Or.inl h)
          · refine Or.inr (Or.inr (Or.inl ⟨k', z1, z2, z3, z4, z5, z6, z7, ?_⟩))
            have hg' := g1 k' z1
            rw [gu_ne2 (by
              intro e
              have e2 : k' = k ∧ l' = l := by omega
              rw [e2.1] at z4 z5 z6
              exact hz ⟨by omega, by omega⟩)]
            exact z8
          · refine Or.inr (Or.inr (Or.inr ⟨k', z1, z2, z3, z4, z5, z6, ?_⟩))
            rw [gu_at]
            split
            · rename_i e; rw [es, ← e]; omega
            · exact z7
        · have := A'.2.2.1 p m hp hm
          exact ⟨this.1, by omega, this.2.2⟩
      · have hg := g1 k hk
        have hw := hA.1 k m hk (by omega)
        have es : (s 78 (40 * k + m) - xn).toInt = (s 78 (40 * k + m)).toInt - n := by rw [i_sub (by omega) (by omega), hn]
        simp (disch := omega) only [l_3, l_4, l_6, l_8, l_9, l_10, l_12, l_14, l_16, l_19, l_20, l_23, l_24, l_26, l_28, l_39, l_40, l_56, l_57, l_60, l_192, l_200, l_255, l_299, l_320, l_400, l_1120, l_2000, l_20000, l_10000, l_1000, l_1000000, nI_1, n_2mul, nI_add, pk_mul, pk_sub, sb_m1, nI_clamp, nI_clamp0, vpT, nI_leI, nI_ltI, nI_eq, nI_0le, nI_lt0, nI_le0, nI_0lt, nI_eq0, nI_eqm1, nI_m1eq, Nat.add_one_sub_one, forall_eq, true_and, and_true, true_implies, not_true_eq_false, not_false_eq_true, false_implies, implies_true, ne_eq, Nat.reduceEqDiff, Nat.reduceAdd, Nat.reduceMul, Nat.reduceLT, Nat.reduceLeDiff, and_self, gu_eq, gu_ne, gu_ne2, h1, v1, v2, pk_div, d40, s40]
        refine q_F (by decide) ?_
        obtain ⟨A', E'⟩ := M_arc (σ' := gu s 78 (40 * k + m) (s 78 (40 * k + m) - xn)) (δ := -n) hT hK hA hE hk (m := m) (by omega) (by omega) (by omega) (by rw [gu_eq, es]; omega) (fun i hi => gu_ne2 hi) (fun i hi => gu_ne hi)
        refine ih (i + 1) q l _ (by omega) h2 h3 (ag_gu' (Or.inr rfl) ha) (CH.keep (σ := s) (σ' := gu s 78 (40 * k + m) (s 78 (40 * k + m) - xn)) (N := pos (40 * p + m)) (fun k h1 h2 => gu_ne (by omega)) (fun p' m' q' l' hp' hm' hN h => ?_) f q l h2 h3 h4 h6) ⟨A'.1, A'.2.1, fun p m hp hm => ?_, A'.2.2.2⟩ (fun φ => by rw [E' φ]; dsimp only; rw [v3, v4, ← v5, Int.mul_sub]; simp only [Int.neg_mul]; omega)
        · have hz := hne p' m' hN
          unfold EV at h ⊢
          rw [gu_ne (show 77 ≠ 78 by omega)]
          rcases h with h | h | ⟨k', z1, z2, z3, z4, z5, z6, z7, z8⟩ | ⟨k', z1, z2, z3, z4, z5, z6, z7⟩
          · exact Or.inl h
          · exact Or.inr (Or.inl h)
          · refine Or.inr (Or.inr (Or.inl ⟨k', z1, z2, z3, z4, z5, z6, z7, ?_⟩))
            rw [gu_at]
            split
            · rename_i e; rw [es]
              have e2 : k' = k := by have := g1 k' z1; omega
              rw [e2] at z8 e ⊢
              rw [e] at z8; omega
            · exact z8
          · refine Or.inr (Or.inr (Or.inr ⟨k', z1, z2, z3, z4, z5, z6, ?_⟩))
            rw [gu_ne2 (by
              intro e
              have e2 : k' = k ∧ m' = m := by omega
              rw [e2.1] at z4 z5 z6
              exact hz ⟨by omega, by omega⟩)]
            exact z7
        · have := A'.2.2.1 p m hp hm
          exact ⟨this.1, by omega, this.2.2⟩
end LEAD
