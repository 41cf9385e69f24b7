/-! THE GROUND: the model's worst, crowds, EMPTY and WORST compared -/
section GROUND2
variable {P W : Nat} {fr tt ln : Nat → Nat} {wd : Nat → Int}
theorem cC_eq {f f' : Nat → Int32} (h : ∀ p, p < P → f' p = f p) : cC P f' = cC P f := by
  funext p
  unfold cC
  split
  · rename_i q; rw [h p q]
  · rfl
theorem rA_eq {f f' g g' : Nat → Int32} {a : Int32} (h : ∀ p, p < P → f' p = f p ∧ g' p = g p) : rA P f' g' a = rA P f g a := by
  funext p
  unfold rA
  by_cases q : p < P
  · rw [(h p q).1, (h p q).2]
  · rw [if_neg (fun x => q x.1), if_neg (fun x => q x.1)]
theorem OKG.eqs {σ : gS} (hG : OKG P W fr tt ln wd σ) : P ≤ 8 ∧ cC P (σ 68) = cC P (σ 23) ∧ (∀ a, rA P (σ 69) (σ 70) a = rA P (σ 24) (σ 25) a) := by
  have hP := hG.1.1.1
  exact ⟨hP, cC_eq (fun p hp => (hG.2.2.2.1 p (by omega)).1), fun a => rA_eq (fun p hp => ⟨(hG.2.2.2.1 p (by omega)).2.1, (hG.2.2.2.1 p (by omega)).2.2.1⟩)⟩
theorem p_emptied' {Q : Int32 → gS → Prop} {σ : gS} {a : Int32} (hG : OKG P W fr tt ln wd σ) (kk : ∀ r s, ag kX σ s → FMin (2 * W) fr tt ln wd (cC P (σ 23)) (rA P (σ 24) (σ 25) a) r → Q r s) : w_X9_emptied Q σ a := by
  obtain ⟨hP, e1, e2⟩ := hG.eqs
  obtain ⟨a1, a2, a3, a4, a5, a6, a7, a8⟩ := id hG
  refine p_emptied a2 (fun p hp => by rw [(a4 p (by omega)).1]; exact (a5 p (by omega)).1) (fun p hp => by rw [(a4 p (by omega)).2.1]; exact (a5 p (by omega)).2) (fun r s h1 h2 => kk r s h1 (h2.cong e1.symm (e2 a).symm))
theorem OKG.X {σ s : gS} (hG : OKG P W fr tt ln wd σ) (ha : ag kX σ s) : OKG P W fr tt ln wd s := by
  refine hG.re (fun k hk => ha k (by unfold kX; omega)) ?_ ?_
  · rw [ha 68 (by unfold kX; omega), ha 69 (by unfold kX; omega), ha 70 (by unfold kX; omega), ha 23 (by unfold kX; omega), ha 24 (by unfold kX; omega), ha 25 (by unfold kX; omega)]
    exact hG.2.2.2.1
  · rw [ha 23 (by unfold kX; omega), ha 24 (by unfold kX; omega)]
    exact hG.2.2.2.2.1
theorem p_worstOf {Q : Int32 → gS → Prop} {σ : gS} (hG : OKG P W fr tt ln wd σ) (kk : ∀ r s, ag kX σ s → WMin P fr tt ln wd (2 * W) (cC P (σ 23)) (σ 24) (σ 25) r → Q r s) : w_X9_worstOf Q σ := by
  obtain ⟨a1, a2, a3, a4, a5, a6, a7, a8⟩ := id hG
  have hP := a1.1.1
  have e71 := a2.1.2.2.1
  have key : ∀ (d j : Nat) (v : Nat → Int32) (x1 : Int32) (s : gS), j + d = P → ag kX σ s → (∀ p, p < j → op P (σ 24) (σ 25) p → FMin (2 * W) fr tt ln wd (cC P (σ 23)) (rA P (σ 24) (σ 25) (nI p)) (v p)) → WV P (σ 24) (σ 25) v j x1 → w_X9_worstOf_4 Q (d + 1) x1 (nI j) s := by
    intro d
    induction d with
    | zero =>
      intro j v x1 s hd ha hv hw
      have : j = P := by omega
      subst this
      unfold w_X9_worstOf_4
      rw [ha 71 (by unfold kX; omega), e71]
      exact q_T (nI_le (by omega) (by omega)) (kk _ s ha ⟨v, fun p hp => hv p hp.1 hp, Or.inr hw⟩)
    | succ d ih =>
      intro j v x1 s hd ha hv hw
      have h4 := a4 j (by omega)
      have h5 := a5 j (by omega)
      have skip : ¬ op P (σ 24) (σ 25) j → w_X9_worstOf_4 Q (d + 1) x1 (nI (j + 1)) s := fun hno => by
        obtain ⟨w0, w1, w2⟩ := hw
        refine ih (j + 1) v x1 s (by omega) ha (fun p hp hq => ?_) ⟨w0, fun p hp hq => ?_, ?_⟩
        · exact hv p (by have : p ≠ j := fun e => hno (e ▸ hq); omega) hq
        · exact w1 p (by have : p ≠ j := fun e => hno (e ▸ hq); omega) hq
        · rcases w2 with w2 | ⟨p, p1, p2, p3⟩
          · exact Or.inl w2
          · exact Or.inr ⟨p, by omega, p2, p3⟩
      unfold w_X9_worstOf_4
      rw [ha 71 (by unfold kX; omega), ha 69 (by unfold kX; omega), ha 70 (by unfold kX; omega), e71]
      simp (disch := omega) only [l_3, l_4, l_6, l_8, l_9, l_10, l_12, l_14, l_16, l_19, l_20, l_23, l_24, l_26, l_28, l_39, l_40, l_56, l_57, l_60, l_192, l_200, l_255, l_299, l_320, l_400, l_1120, l_2000, l_20000, l_10000, l_1000, l_1000000, nI_1, n_2mul, nI_add, pk_mul, pk_sub, sb_m1, nI_clamp, nI_clamp0, vpT, nI_leI, nI_ltI, nI_eq, nI_0le, nI_lt0, nI_le0, nI_0lt, nI_eq0, nI_eqm1, nI_m1eq, Nat.add_one_sub_one, forall_eq, true_and, and_true, true_implies, not_true_eq_false, not_false_eq_true, false_implies, implies_true, ne_eq, Nat.reduceEqDiff, Nat.reduceAdd, Nat.reduceMul, Nat.reduceLT, Nat.reduceLeDiff, and_self]
      refine q_F (by omega) ?_
      rw [h4.2.1, h4.2.2.1]
      refine ⟨fun c => skip (fun q => by have := q.2.1; rw [c, t_0] at this; omega), fun c => ⟨fun c2 => ?_, fun c2 => skip (fun q => c2 q.2.2)⟩⟩
      have hop : op P (σ 24) (σ 25) j := ⟨by omega, by
        have : (σ 24 j).toInt ≠ 0 := fun q => c (i_eq.mpr (by rw [t_0]; exact q))
        omega, c2⟩
      refine p_emptied' (hG.X ha) (fun r s2 ha2 hF => ?_)
      rw [ha 23 (by unfold kX; omega), ha 24 (by unfold kX; omega), ha 25 (by unfold kX; omega)] at hF
      have hr := hF.rng
      refine q_le (fun c3 => ?_) (fun c3 => ?_)
      · rw [t_0] at c3
        obtain ⟨w0, w1, w2⟩ := hw
        refine ih (j + 1) (fun p => if p = j then r else v p) _ s2 (by omega) (ag_tr ha ha2) (fun p hp hq => ?_) ⟨?_, fun p hp hq => ?_, ?_⟩
        · by_cases e : p = j
          · rw [if_pos e, e]; exact hF
          · rw [if_neg e]; exact hv p (by omega) hq
        · rw [i_maxs]; omega
        · rw [i_maxs]
          dsimp only
          by_cases e : p = j
          · rw [if_pos e]; exact ⟨fun q => by rw [q, t_m1] at c3; omega, by omega⟩
          · rw [if_neg e]
            have := w1 p (by omega) hq
            exact ⟨this.1, by omega⟩
        · dsimp only
          split
          · exact Or.inr ⟨j, by omega, hop, by rw [if_pos rfl]⟩
          · rcases w2 with w2 | ⟨p, p1, p2, p3⟩
            · exact Or.inl w2
            · exact Or.inr ⟨p, by omega, p2, by rw [if_neg (by omega)]; exact p3⟩
      · rw [t_0] at c3
        refine kk _ s2 (ag_tr ha ha2) ⟨fun p => Classical.choose (FMin_ex (2 * W) fr tt ln wd (cC P (σ 23)) (rA P (σ 24) (σ 25) (nI p))), fun p _ => Classical.choose_spec (FMin_ex (2 * W) fr tt ln wd (cC P (σ 23)) (rA P (σ 24) (σ 25) (nI p))), Or.inl ⟨rfl, j, hop, ?_⟩⟩
        have h1 : r = -1 := i_eq.mpr (by rw [t_m1]; omega)
        rw [h1] at hF
        exact (Classical.choose_spec (FMin_ex (2 * W) fr tt ln wd (cC P (σ 23)) (rA P (σ 24) (σ 25) (nI j)))).uniq hF
  unfold w_X9_worstOf
  exact ⟨P + 1, by rw [← nI_0]; exact key P 0 (fun _ => 0) (-1) σ (by omega) ag_rf (fun p hp => by omega) ⟨by decide, fun p hp => by omega, Or.inl rfl⟩⟩
theorem p_allCrowd {Q : Int32 → gS → Prop} {σ : gS} (hP : P ≤ 8) (e26 : σ 26 0 = nI P) (hc : ∀ p, p < P → 0 ≤ (σ 23 p).toInt ∧ (σ 23 p).toInt ≤ 20000) (kk : ∀ r : Int32, r.toInt = fsum P (fun p => (σ 23 p).toInt) → Q r σ) : w_X2_allCrowd Q σ := by
  have key : ∀ (d j : Nat) (r : Int32), j + d = P → r.toInt = fsum j (fun p => (σ 23 p).toInt) → w_X2_allCrowd_4 Q (d + 1) r (nI j) σ := by
    intro d
    induction d with
    | zero =>
      intro j r hd hr
      have : j = P := by omega
      subst this
      unfold w_X2_allCrowd_4
      rw [e26]
      exact q_T (nI_le (by omega) (by omega)) (kk r hr)
    | succ d ih =>
      intro j r hd hr
      unfold w_X2_allCrowd_4
      rw [e26]
      simp (disch := omega) only [l_3, l_4, l_6, l_8, l_9, l_10, l_12, l_14, l_16, l_19, l_20, l_23, l_24, l_26, l_28, l_39, l_40, l_56, l_57, l_60, l_192, l_200, l_255, l_299, l_320, l_400, l_1120, l_2000, l_20000, l_10000, l_1000, l_1000000, nI_1, n_2mul, nI_add, pk_mul, pk_sub, sb_m1, nI_clamp, nI_clamp0, vpT, nI_leI, nI_ltI, nI_eq, nI_0le, nI_lt0, nI_le0, nI_0lt, nI_eq0, nI_eqm1, nI_m1eq, Nat.add_one_sub_one, forall_eq, true_and, and_true, true_implies, not_true_eq_false, not_false_eq_true, false_implies, implies_true, ne_eq, Nat.reduceEqDiff, Nat.reduceAdd, Nat.reduceMul, Nat.reduceLT, Nat.reduceLeDiff, and_self]
      have b1 := sum_rng (P := j) (fun p hp => hc p (by omega))
      have b2 := hc j (by omega)
      refine q_F (by omega) (ih (j + 1) _ (by omega) ?_)
      rw [i_add (by omega) (by omega), hr]; rfl
  unfold w_X2_allCrowd
  exact ⟨P + 1, by rw [← nI_0]; exact key P 0 (nI 0) (by omega) (t_n (by omega))⟩
theorem p_crowdOfAll {Q : Int32 → gS → Prop} {σ : gS} (hP : P ≤ 8) (e71 : σ 71 0 = nI P) (hc : ∀ p, p < P → 0 ≤ (σ 68 p).toInt ∧ (σ 68 p).toInt ≤ 20000) (kk : ∀ r : Int32, r.toInt = fsum P (fun p => (σ 68 p).toInt) → Q r σ) : w_X9_crowdOfAll Q σ := by
  have key : ∀ (d j : Nat) (r : Int32), j + d = P → r.toInt = fsum j (fun p => (σ 68 p).toInt) → w_X9_crowdOfAll_4 Q (d + 1) r (nI j) σ := by
    intro d
    induction d with
    | zero =>
      intro j r hd hr
      have : j = P := by omega
      subst this
      unfold w_X9_crowdOfAll_4
      rw [e71]
      exact q_T (nI_le (by omega) (by omega)) (kk r hr)
    | succ d ih =>
      intro j r hd hr
      unfold w_X9_crowdOfAll_4
      rw [e71]
      simp (disch := omega) only [l_3, l_4, l_6, l_8, l_9, l_10, l_12, l_14, l_16, l_19, l_20, l_23, l_24, l_26, l_28, l_39, l_40, l_56, l_57, l_60, l_192, l_200, l_255, l_299, l_320, l_400, l_1120, l_2000, l_20000, l_10000, l_1000, l_1000000, nI_1, n_2mul, nI_add, pk_mul, pk_sub, sb_m1, nI_clamp, nI_clamp0, vpT, nI_leI, nI_ltI, nI_eq, nI_0le, nI_lt0, nI_le0, nI_0lt, nI_eq0, nI_eqm1, nI_m1eq, Nat.add_one_sub_one, forall_eq, true_and, and_true, true_implies, not_true_eq_false, not_false_eq_true, false_implies, implies_true, ne_eq, Nat.reduceEqDiff, Nat.reduceAdd, Nat.reduceMul, Nat.reduceLT, Nat.reduceLeDiff, and_self]
      have b1 := sum_rng (P := j) (fun p hp => hc p (by omega))
      have b2 := hc j (by omega)
      refine q_F (by omega) (ih (j + 1) _ (by omega) ?_)
      rw [i_add (by omega) (by omega), hr]; rfl
  unfold w_X9_crowdOfAll
  exact ⟨P + 1, by rw [← nI_0]; exact key P 0 (nI 0) (by omega) (t_n (by omega))⟩
end GROUND2
def kG (k : Nat) : Prop := (23 ≤ k ∧ k ≤ 34) ∨ (68 ≤ k ∧ k ≤ 76)
theorem scr_G {k : Nat} (h : kG k) : ¬ scr k := by unfold kG at h; unfold scr; omega
theorem RG.cong {σ σ' : gS} (h : RG σ) (e : ∀ k, kG k → σ' k = σ k) : RG σ' := by
  obtain ⟨P, W, fr, tt, ln, wd, hG, h33, h34⟩ := h
  refine ⟨P, W, fr, tt, ln, wd, hG.re (fun k hk => e k (by unfold kG; omega)) ?_ ?_, ?_, ?_⟩
  · rw [e 68 (by unfold kG; omega), e 69 (by unfold kG; omega), e 70 (by unfold kG; omega), e 23 (by unfold kG; omega), e 24 (by unfold kG; omega), e 25 (by unfold kG; omega)]
    exact hG.2.2.2.1
  · rw [e 23 (by unfold kG; omega), e 24 (by unfold kG; omega)]
    exact hG.2.2.2.2.1
  · rw [e 33 (by unfold kG; omega), e 23 (by unfold kG; omega), e 24 (by unfold kG; omega), e 25 (by unfold kG; omega)]
    exact h33
  · rw [e 34 (by unfold kG; omega), e 23 (by unfold kG; omega), e 24 (by unfold kG; omega), e 25 (by unfold kG; omega)]
    exact h34
theorem RG.s {σ σ' : gS} (h : RG σ) (e : ag scr σ σ') : RG σ' := h.cong (fun k hk => e k (scr_G hk))
/-- only the caches and scratch have changed -/
def kK (k : Nat) : Prop := k = 33 ∨ k = 34 ∨ scr k
/-- least and emptied, worst and worstOf -/
theorem p_leastB {Q : Int32 → gS → Prop} {σ : gS} (hR : RG σ) (kk : ∀ r s, ag kK σ s → RG s → (∀ s' Q', ag kK s s' → RG s' → (∀ s'', ag kX s' s'' → Q' r s'') → w_X9_emptied Q' s' (-1)) → -1 ≤ r.toInt ∧ r.toInt ≤ 40 → Q r s) : w_X2_leastMinutes Q σ := by
  obtain ⟨P, W, fr, tt, ln, wd, hG, h33, h34⟩ := id hR
  refine p_least hG h33 (fun r s ha e33 hF => ?_)
  have ha' : ∀ k, 23 ≤ k → k ≤ 34 → k ≠ 33 → s k = σ k := fun k h1 h2 h3 => ha k (by omega)
  have ha2 : ∀ k, 68 ≤ k → k ≤ 76 → s k = σ k := fun k h1 h2 => ha k (by omega)
  have hGs : OKG P W fr tt ln wd s := by
    refine hG.re (fun k hk => ?_) ?_ ?_
    · rcases hk with hk | hk
      · exact ha' k (by omega) (by omega) (by omega)
      · exact ha2 k (by omega) (by omega)
    · rw [ha2 68 (by omega) (by omega), ha2 69 (by omega) (by omega), ha2 70 (by omega) (by omega), ha' 23 (by omega) (by omega) (by omega), ha' 24 (by omega) (by omega) (by omega), ha' 25 (by omega) (by omega) (by omega)]
      exact hG.2.2.2.1
    · rw [ha' 23 (by omega) (by omega) (by omega), ha' 24 (by omega) (by omega) (by omega)]
      exact hG.2.2.2.2.1
  refine kk r s (ag_mono ha (fun k hk => by unfold kK scr; omega)) ⟨P, W, fr, tt, ln, wd, hGs, Or.inr ?_, ?_⟩ (fun s' Q' a' R' k' => ?_) hF.rng
  · rw [e33, ha' 23 (by omega) (by omega) (by omega), ha' 24 (by omega) (by omega) (by omega), ha' 25 (by omega) (by omega) (by omega)]; exact hF
  · rw [ha' 34 (by omega) (by omega) (by omega), ha' 23 (by omega) (by omega) (by omega), ha' 24 (by omega) (by omega) (by omega), ha' 25 (by omega) (by omega) (by omega)]; exact h34
  · have b : ∀ k, (23 ≤ k ∧ k ≤ 32) ∨ (68 ≤ k ∧ k ≤ 76) → s' k = σ k := fun k hk => by
      rw [a' k (by unfold kK scr; omega)]
      rcases hk with hk | hk
      · exact ha' k (by omega) (by omega) (by omega)
      · exact ha2 k (by omega) (by omega)
    have hGs' : OKG P W fr tt ln wd s' := by
      refine hG.re (fun k hk => b k (by omega)) ?_ ?_
      · rw [b 68 (by omega), b 69 (by omega), b 70 (by omega), b 23 (by omega), b 24 (by omega), b 25 (by omega)]
        exact hG.2.2.2.1
      · rw [b 23 (by omega), b 24 (by omega)]
        exact hG.2.2.2.2.1
    refine p_emptied' hGs' (fun r2 s'' a'' hF2 => ?_)
    rw [b 23 (by omega), b 24 (by omega), b 25 (by omega)] at hF2
    rw [← hF.uniq hF2]
    exact k' s'' a''
theorem p_worstB {Q : Int32 → gS → Prop} {σ : gS} (hR : RG σ) (kk : ∀ r s, ag kK σ s → RG s → (∀ s' Q', ag kK s s' → RG s' → (∀ s'', ag kX s' s'' → Q' r s'') → w_X9_worstOf Q' s') → -1 ≤ r.toInt ∧ r.toInt ≤ 40 → Q r s) : w_X2_worstMinutes Q σ := by
  obtain ⟨P, W, fr, tt, ln, wd, hG, h33, h34⟩ := id hR
  refine p_worst hG h33 h34 (fun r s ha e34 hF => ?_)
  have ha' : ∀ k, 23 ≤ k → k ≤ 34 → k ≠ 34 → s k = σ k := fun k h1 h2 h3 => ha k (by omega)
  have ha2 : ∀ k, 68 ≤ k → k ≤ 76 → s k = σ k := fun k h1 h2 => ha k (by omega)
  have hGs : OKG P W fr tt ln wd s := by
    refine hG.re (fun k hk => ?_) ?_ ?_
    · rcases hk with hk | hk
      · exact ha' k (by omega) (by omega) (by omega)
      · exact ha2 k (by omega) (by omega)
    · rw [ha2 68 (by omega) (by omega), ha2 69 (by omega) (by omega), ha2 70 (by omega) (by omega), ha' 23 (by omega) (by omega) (by omega), ha' 24 (by omega) (by omega) (by omega), ha' 25 (by omega) (by omega) (by omega)]
      exact hG.2.2.2.1
    · rw [ha' 23 (by omega) (by omega) (by omega), ha' 24 (by omega) (by omega) (by omega)]
      exact hG.2.2.2.2.1
  have hrng : -1 ≤ r.toInt ∧ r.toInt ≤ 40 := by
    obtain ⟨v, v1, v2⟩ := id hF
    rcases v2 with ⟨q, -⟩ | ⟨w0, w1, w2⟩
    · rw [q]; decide
    · rcases w2 with w2 | ⟨p, p1, p2, p3⟩
      · rw [w2]; decide
      · rw [← p3]; exact (v1 p p2).rng
  refine kk r s (ag_mono ha (fun k hk => by unfold kK scr; omega)) ⟨P, W, fr, tt, ln, wd, hGs, ?_, Or.inr ?_⟩ (fun s' Q' a' R' k' => ?_) hrng
  · rw [ha' 33 (by omega) (by omega) (by omega), ha' 23 (by omega) (by omega) (by omega), ha' 24 (by omega) (by omega) (by omega), ha' 25 (by omega) (by omega) (by omega)]; exact h33
  · rw [e34, ha' 23 (by omega) (by omega) (by omega), ha' 24 (by omega) (by omega) (by omega), ha' 25 (by omega) (by omega) (by omega)]; exact hF
  · have b : ∀ k, (23 ≤ k ∧ k ≤ 32) ∨ (68 ≤ k ∧ k ≤ 76) → s' k = σ k := fun k hk => by
      rw [a' k (by unfold kK scr; omega)]
      rcases hk with hk | hk
      · exact ha' k (by omega) (by omega) (by omega)
      · exact ha2 k (by omega) (by omega)
    have hGs' : OKG P W fr tt ln wd s' := by
      refine hG.re (fun k hk => b k (by omega)) ?_ ?_
      · rw [b 68 (by omega), b 69 (by omega), b 70 (by omega), b 23 (by omega), b 24 (by omega), b 25 (by omega)]
        exact hG.2.2.2.1
      · rw [b 23 (by omega), b 24 (by omega)]
        exact hG.2.2.2.2.1
    refine p_worstOf hGs' (fun r2 s'' a'' hF2 => ?_)
    rw [b 23 (by omega), b 24 (by omega), b 25 (by omega)] at hF2
    rw [← hF.uniq hF2]
    exact k' s'' a''
section PGR
variable {Q : Unit} {LN : Nat} {xs : Nat → Int32} {k23 : Int32 → gS → Prop} {x4 : Int32} {σ : gS}
theorem kX_scr {k : Nat} (h : kX k) : scr k := by unfold kX at h; unfold scr; omega
theorem cs_empty (hR : RG σ) (K : ∀ σ', RG σ' → ag (fun k => kG k ∨ scr k) σ σ' → k23 (x4 + 6) σ') : w_L_law_871 Q LN xs k23 x4 σ := by
  unfold w_L_law_871 w_X8_empty w_X9_empty
  refine p_leastB hR (fun r s ha Rs hm _ => ?_)
  rintro _ rfl
  have a1 : ag kK s (gu s 63 0 0) := ag_gu (Or.inr (Or.inr s63))
  refine hm _ _ a1 (Rs.s (ag_gu s63)) (fun s2 a2 => tl_e rfl (K _ ((Rs.s (ag_gu s63)).s (ag_mono a2 (fun k hk => kX_scr hk))) ?_))
  refine ag_tr (ag_mono (ag_tr ha a1) (fun k hk => ?_)) (ag_mono a2 (fun k hk => Or.inr (kX_scr hk)))
  rcases hk with hk | hk | hk
  · exact Or.inl (by unfold kG; omega)
  · exact Or.inl (by unfold kG; omega)
  · exact Or.inr hk
theorem cs_worst (hR : RG σ) (K : ∀ σ', RG σ' → ag (fun k => kG k ∨ scr k) σ σ' → k23 (x4 + 6) σ') : w_L_law_884 Q LN xs k23 x4 σ := by
  unfold w_L_law_884 w_X8_worst w_X9_worst
  refine p_worstB hR (fun r s ha Rs hm _ => ?_)
  rintro _ rfl
  have a1 : ag kK s (gu s 63 0 0) := ag_gu (Or.inr (Or.inr s63))
  refine hm _ _ a1 (Rs.s (ag_gu s63)) (fun s2 a2 => tl_e rfl (K _ ((Rs.s (ag_gu s63)).s (ag_mono a2 (fun k hk => kX_scr hk))) ?_))
  refine ag_tr (ag_mono (ag_tr ha a1) (fun k hk => ?_)) (ag_mono a2 (fun k hk => Or.inr (kX_scr hk)))
  rcases hk with hk | hk | hk
  · exact Or.inl (by unfold kG; omega)
  · exact Or.inl (by unfold kG; omega)
  · exact Or.inr hk
end PGR
