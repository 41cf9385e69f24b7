/-! THE MEADOW: lane and strike cases, counts -/
section PME2
variable {Q : Unit} {LN : Nat} {xs : Nat → Int32} {k23 : Int32 → gS → Prop} {x4 : Int32} {σ : gS}
theorem cs_lane (h1 : vp_in (x4 + 1) LN) (h2 : vp_in (x4 + 2) LN) (hR : RM σ) (K : ∀ σ', RM σ' → ag (fun k => kM k ∨ scr k) σ σ' → k23 (x4 + 6) σ') : w_L_law_258 Q LN xs k23 x4 σ := by
  have KS : ∀ s, ag scr σ s → k23 (x4 + 6) s := fun s hs => K _ (hR.s hs) (ag_mono hs (fun k hk => Or.inr hk))
  have hr7' : ∀ j, j < 192 → σ 19 j = σ 64 j := by
    obtain ⟨g, t, r1, r2, r3, r4, r5, r6, r7, -⟩ := id hR
    exact r7
  unfold w_L_law_258 w_L_law_279 w_L_lane w_L_law_306
  generalize xs (x4 + 1).toNatClampNeg = a
  generalize xs (x4 + 2).toNatClampNeg = b
  have A2 : ∀ k, ag scr σ (gu (gu σ 63 0 0) 63 0 k) := fun k => ag_gu' s63 (ag_gu' s63 ag_rf)
  refine ⟨h1, h2, fun c => ?_, fun c => ?_⟩
  · skip
    refine c_lane (fun j hj ej he => q_F (by decide) ?_) (fun j hj ej hne => q_T rfl ?_) (fun q => xx1 ⟨h1, h2, q_T c (m_lane (fun j hj ej => absurd (by rw [ej, t_n (by omega)]; omega) q) (fun j hj ej => absurd (by rw [ej, t_n (by omega)]; omega) q) (fun _ => tl_z gu_eq (fun z => absurd z (by decide)) (Or.inl rfl) (KS _ (A2 _))))⟩)
    · rintro _ rfl
      subst ej
      have hj2 : (nI j).toInt = j := t_n (by omega)
      rw [nI_clamp0]
      have hr7 : σ 19 j = σ 64 j := hr7' j hj
      refine ⟨h1, h2, q_T c (m_lane (fun j' hj' ej' _ => tl_z ?_ (fun _ => ?_) (Or.inr rfl) ?_) (fun j' hj' ej' he' => absurd ?_ he') (fun q => absurd (by omega) q))⟩
      · simp only [Nat.add_one_sub_one, forall_eq, true_and, and_true, true_implies, not_true_eq_false, not_false_eq_true, false_implies, implies_true, ne_eq, Nat.reduceEqDiff, Nat.reduceAdd, Nat.reduceMul, Nat.reduceLT, Nat.reduceLeDiff, and_self, gu_eq, gu_ne, gu_ne2]
      · simp only [Nat.add_one_sub_one, forall_eq, true_and, and_true, true_implies, not_true_eq_false, not_false_eq_true, false_implies, implies_true, ne_eq, Nat.reduceEqDiff, Nat.reduceAdd, Nat.reduceMul, Nat.reduceLT, Nat.reduceLeDiff, and_self, gu_eq, gu_ne, gu_ne2]
      · have := nI_inj ej' (by omega) (by omega)
        subst this
        have hA : ag (fun k => kM k ∨ scr k) σ (gu (gu (gu (gu σ 19 j (lnA 0)) 110 0 1) 63 0 0) 64 j (lnA 0)) := by repeat (first | exact ag_rf | refine ag_gu' (by simp [scr, kM]) ?_)
        refine K _ (hR.sq (fun k hk => ?_) (fun i hi => ?_) (fun i hi => ?_)) hA
        · rw [gu_ne (by omega), gu_ne (by omega), gu_ne (by omega), gu_ne (by omega)]
        · simp only [Nat.add_one_sub_one, forall_eq, true_and, and_true, true_implies, not_true_eq_false, not_false_eq_true, false_implies, implies_true, ne_eq, Nat.reduceEqDiff, Nat.reduceAdd, Nat.reduceMul, Nat.reduceLT, Nat.reduceLeDiff, and_self, gu_eq, gu_ne, gu_ne2, gu_at]
          split
          · rfl
          · exact hr7' i hi
        · simp only [Nat.add_one_sub_one, forall_eq, true_and, and_true, true_implies, not_true_eq_false, not_false_eq_true, false_implies, implies_true, ne_eq, Nat.reduceEqDiff, Nat.reduceAdd, Nat.reduceMul, Nat.reduceLT, Nat.reduceLeDiff, and_self, gu_eq, gu_ne, gu_ne2, gu_at]
          split
          · rename_i q
            subst q
            rw [hr7] at he
            exact Or.inr ⟨by rw [he]; decide, by decide⟩
          · exact Or.inl rfl
      · have := nI_inj ej' (by omega) (by omega)
        subst this
        simp only [Nat.add_one_sub_one, forall_eq, true_and, and_true, true_implies, not_true_eq_false, not_false_eq_true, false_implies, implies_true, ne_eq, Nat.reduceEqDiff, Nat.reduceAdd, Nat.reduceMul, Nat.reduceLT, Nat.reduceLeDiff, and_self, gu_eq, gu_ne, gu_ne2]
        rw [← hr7]; exact he
    · rintro _ rfl
      subst ej
      have hj2 : (nI j).toInt = j := t_n (by omega)
      rw [nI_clamp0]
      have hr7 : σ 19 j = σ 64 j := hr7' j hj
      refine ⟨h1, h2, q_T c (m_lane (fun j' hj' ej' he' => absurd ?_ hne) (fun j' hj' ej' he' => tl_z ?_ (fun _ => ?_) (Or.inl rfl) (KS _ (ag_gu' s63 (ag_gu' s110 ag_rf)))) (fun q => absurd (by omega) q))⟩
      · have := nI_inj ej' (by omega) (by omega)
        subst this
        rw [gu_ne (by omega)] at he'
        rw [hr7]; exact he'
      · simp only [Nat.add_one_sub_one, forall_eq, true_and, and_true, true_implies, not_true_eq_false, not_false_eq_true, false_implies, implies_true, ne_eq, Nat.reduceEqDiff, Nat.reduceAdd, Nat.reduceMul, Nat.reduceLT, Nat.reduceLeDiff, and_self, gu_eq, gu_ne, gu_ne2]
      · simp only [Nat.add_one_sub_one, forall_eq, true_and, and_true, true_implies, not_true_eq_false, not_false_eq_true, false_implies, implies_true, ne_eq, Nat.reduceEqDiff, Nat.reduceAdd, Nat.reduceMul, Nat.reduceLT, Nat.reduceLeDiff, and_self, gu_eq, gu_ne, gu_ne2]
  · skip
    refine c_lane (fun j hj ej he => q_F (by decide) ?_) (fun j hj ej hne => q_T rfl ?_) (fun q => xx1 ⟨h1, h2, q_F c (m_lane (fun j hj ej => absurd (by rw [ej, t_n (by omega)]; omega) q) (fun j hj ej => absurd (by rw [ej, t_n (by omega)]; omega) q) (fun _ => tl_z gu_eq (fun z => absurd z (by decide)) (Or.inl rfl) (KS _ (A2 _))))⟩)
    · rintro _ rfl
      subst ej
      have hj2 : (nI j).toInt = j := t_n (by omega)
      rw [nI_clamp0]
      have hr7 : σ 19 j = σ 64 j := hr7' j hj
      refine ⟨h1, h2, q_F c (m_lane (fun j' hj' ej' _ => tl_z ?_ (fun _ => ?_) (Or.inr rfl) ?_) (fun j' hj' ej' he' => absurd ?_ he') (fun q => absurd (by omega) q))⟩
      · simp only [Nat.add_one_sub_one, forall_eq, true_and, and_true, true_implies, not_true_eq_false, not_false_eq_true, false_implies, implies_true, ne_eq, Nat.reduceEqDiff, Nat.reduceAdd, Nat.reduceMul, Nat.reduceLT, Nat.reduceLeDiff, and_self, gu_eq, gu_ne, gu_ne2]
      · simp only [Nat.add_one_sub_one, forall_eq, true_and, and_true, true_implies, not_true_eq_false, not_false_eq_true, false_implies, implies_true, ne_eq, Nat.reduceEqDiff, Nat.reduceAdd, Nat.reduceMul, Nat.reduceLT, Nat.reduceLeDiff, and_self, gu_eq, gu_ne, gu_ne2]
      · have := nI_inj ej' (by omega) (by omega)
        subst this
        have hA : ag (fun k => kM k ∨ scr k) σ (gu (gu (gu (gu σ 19 j (lnA 1)) 110 0 1) 63 0 0) 64 j (lnA 1)) := by repeat (first | exact ag_rf | refine ag_gu' (by simp [scr, kM]) ?_)
        refine K _ (hR.sq (fun k hk => ?_) (fun i hi => ?_) (fun i hi => ?_)) hA
        · rw [gu_ne (by omega), gu_ne (by omega), gu_ne (by omega), gu_ne (by omega)]
        · simp only [Nat.add_one_sub_one, forall_eq, true_and, and_true, true_implies, not_true_eq_false, not_false_eq_true, false_implies, implies_true, ne_eq, Nat.reduceEqDiff, Nat.reduceAdd, Nat.reduceMul, Nat.reduceLT, Nat.reduceLeDiff, and_self, gu_eq, gu_ne, gu_ne2, gu_at]
          split
          · rfl
          · exact hr7' i hi
        · simp only [Nat.add_one_sub_one, forall_eq, true_and, and_true, true_implies, not_true_eq_false, not_false_eq_true, false_implies, implies_true, ne_eq, Nat.reduceEqDiff, Nat.reduceAdd, Nat.reduceMul, Nat.reduceLT, Nat.reduceLeDiff, and_self, gu_eq, gu_ne, gu_ne2, gu_at]
          split
          · rename_i q
            subst q
            rw [hr7] at he
            exact Or.inr ⟨by rw [he]; decide, by decide⟩
          · exact Or.inl rfl
      · have := nI_inj ej' (by omega) (by omega)
        subst this
        simp only [Nat.add_one_sub_one, forall_eq, true_and, and_true, true_implies, not_true_eq_false, not_false_eq_true, false_implies, implies_true, ne_eq, Nat.reduceEqDiff, Nat.reduceAdd, Nat.reduceMul, Nat.reduceLT, Nat.reduceLeDiff, and_self, gu_eq, gu_ne, gu_ne2]
        rw [← hr7]; exact he
    · rintro _ rfl
      subst ej
      have hj2 : (nI j).toInt = j := t_n (by omega)
      rw [nI_clamp0]
      have hr7 : σ 19 j = σ 64 j := hr7' j hj
      refine ⟨h1, h2, q_F c (m_lane (fun j' hj' ej' he' => absurd ?_ hne) (fun j' hj' ej' he' => tl_z ?_ (fun _ => ?_) (Or.inl rfl) (KS _ (ag_gu' s63 (ag_gu' s110 ag_rf)))) (fun q => absurd (by omega) q))⟩
      · have := nI_inj ej' (by omega) (by omega)
        subst this
        rw [gu_ne (by omega)] at he'
        rw [hr7]; exact he'
      · simp only [Nat.add_one_sub_one, forall_eq, true_and, and_true, true_implies, not_true_eq_false, not_false_eq_true, false_implies, implies_true, ne_eq, Nat.reduceEqDiff, Nat.reduceAdd, Nat.reduceMul, Nat.reduceLT, Nat.reduceLeDiff, and_self, gu_eq, gu_ne, gu_ne2]
      · simp only [Nat.add_one_sub_one, forall_eq, true_and, and_true, true_implies, not_true_eq_false, not_false_eq_true, false_implies, implies_true, ne_eq, Nat.reduceEqDiff, Nat.reduceAdd, Nat.reduceMul, Nat.reduceLT, Nat.reduceLeDiff, and_self, gu_eq, gu_ne, gu_ne2]
theorem cs_strike (h1 : vp_in (x4 + 1) LN) (hR : RM σ) (K : ∀ σ', RM σ' → ag (fun k => kM k ∨ scr k) σ σ' → k23 (x4 + 6) σ') : w_L_law_453 Q LN xs k23 x4 σ := by
  have KS : ∀ s, ag scr σ s → k23 (x4 + 6) s := fun s hs => K _ (hR.s hs) (ag_mono hs (fun k hk => Or.inr hk))
  have A2 : ∀ k, ag scr σ (gu (gu σ 63 0 0) 63 0 k) := fun k => ag_gu' s63 (ag_gu' s63 ag_rf)
  obtain ⟨g, t, r1, r2, r3, r4, r5, r6, r7, r8, r9, r10, r11⟩ := id hR
  have ht : (nI t).toInt = t := t_n (by omega)
  have ht1 : (nI t - 1).toInt = (t : Int) - 1 := by rw [i_sub (by rw [ht, t_1]; omega) (by rw [ht, t_1]; omega), ht, t_1]
  unfold w_L_law_453 w_L_strike w_X8_strike
  generalize xs (x4 + 1).toNatClampNeg = a
  rw [r5]
  refine ⟨h1, r_ri (fun c => ?_) (fun c => xx1 ⟨h1, ?_⟩)⟩
  · rw [ht] at c
    obtain ⟨i, -, rfl, ei⟩ := i_ex c.1
    refine p_takeDown (by omega) (fun s r hs hr hq => ⟨gz_of (by rcases hs with ⟨q, -⟩ | ⟨q, -⟩ <;> simp [q]), ?_⟩)
    have hst : σ 65 i = 1 ↔ r = 1 := by
      rw [r10 i (by omega), hr]
      constructor
      · rintro ⟨j, x, y⟩; exact ⟨j, x, by rw [r7 j x]; exact y⟩
      · rintro ⟨j, x, y⟩; exact ⟨j, x, by rw [← r7 j x]; exact y⟩
    rcases hs with ⟨rfl, ha⟩ | ⟨rfl, ha, e22⟩
    · refine q_T rfl ?_
      rintro _ rfl
      refine ⟨h1, ?_⟩
      rw [nI_clamp0]
      have h65 : σ 65 i = 0 := (r9 i (by omega)).resolve_right (fun q => absurd (hst.mp q) (by decide))
      unfold w_X9_strike w_X9_strike_25
      rintro _ rfl
      have e66 : (gu (gu s 110 0 0) 63 0 0) 66 0 = nI t := by simp only [Nat.add_one_sub_one, forall_eq, true_and, and_true, true_implies, not_true_eq_false, not_false_eq_true, false_implies, implies_true, ne_eq, Nat.reduceEqDiff, Nat.reduceAdd, Nat.reduceMul, Nat.reduceLT, Nat.reduceLeDiff, and_self, gu_eq, gu_ne, gu_ne2]; rw [ha 66 (by omega)]; exact r6
      have e65 : (gu (gu s 110 0 0) 63 0 0) 65 i = 0 := by simp only [Nat.add_one_sub_one, forall_eq, true_and, and_true, true_implies, not_true_eq_false, not_false_eq_true, false_implies, implies_true, ne_eq, Nat.reduceEqDiff, Nat.reduceAdd, Nat.reduceMul, Nat.reduceLT, Nat.reduceLeDiff, and_self, gu_eq, gu_ne, gu_ne2]; rw [ha 65 (by omega)]; exact h65
      rw [e66]
      refine r_in (fun _ => q_nF (by decide) (r_t0 (q_nT rfl ⟨vp_in_nI (by omega) (by omega), q_nT ?_ (tl_z ?_ (fun _ => ?_) (Or.inl rfl) ?_)⟩))) (fun q => absurd (by rw [t_0, ht1]; omega) q)
      · rw [nI_clamp (by omega)]; exact e65
      · simp only [Nat.add_one_sub_one, forall_eq, true_and, and_true, true_implies, not_true_eq_false, not_false_eq_true, false_implies, implies_true, ne_eq, Nat.reduceEqDiff, Nat.reduceAdd, Nat.reduceMul, Nat.reduceLT, Nat.reduceLeDiff, and_self, gu_eq, gu_ne, gu_ne2]
      · simp only [Nat.add_one_sub_one, forall_eq, true_and, and_true, true_implies, not_true_eq_false, not_false_eq_true, false_implies, implies_true, ne_eq, Nat.reduceEqDiff, Nat.reduceAdd, Nat.reduceMul, Nat.reduceLT, Nat.reduceLeDiff, and_self, gu_eq, gu_ne, gu_ne2]
      · refine K _ (hR.sq (fun k hk => ?_) (fun j hj => ?_) (fun j hj => ?_)) ?_
        · rw [gu_ne (by omega), gu_ne (by omega)]; exact ha k (by omega)
        · simp only [Nat.add_one_sub_one, forall_eq, true_and, and_true, true_implies, not_true_eq_false, not_false_eq_true, false_implies, implies_true, ne_eq, Nat.reduceEqDiff, Nat.reduceAdd, Nat.reduceMul, Nat.reduceLT, Nat.reduceLeDiff, and_self, gu_eq, gu_ne, gu_ne2]
          rw [hq j hj, ha 64 (by omega), ← r7 j hj]
          split
          · rename_i q
            exact absurd (hr.mpr ⟨j, hj, q⟩) (by decide)
          · rfl
        · simp only [Nat.add_one_sub_one, forall_eq, true_and, and_true, true_implies, not_true_eq_false, not_false_eq_true, false_implies, implies_true, ne_eq, Nat.reduceEqDiff, Nat.reduceAdd, Nat.reduceMul, Nat.reduceLT, Nat.reduceLeDiff, and_self, gu_eq, gu_ne, gu_ne2]
          rw [ha 64 (by omega)]; exact Or.inl rfl
        · exact ag_gu' (Or.inr s63) (ag_gu' (Or.inr s110) (ag_mono ha (fun k hk => Or.inl (by unfold kM; omega))))
    · refine q_F (by decide) ?_
      rintro _ rfl
      refine ⟨h1, ?_⟩
      rw [nI_clamp0]
      have h65 : σ 65 i = 1 := hst.mpr rfl
      unfold w_X9_strike w_X9_strike_25
      rintro _ rfl
      have e66 : (gu (gu s 110 0 1) 63 0 0) 66 0 = nI t := by simp only [Nat.add_one_sub_one, forall_eq, true_and, and_true, true_implies, not_true_eq_false, not_false_eq_true, false_implies, implies_true, ne_eq, Nat.reduceEqDiff, Nat.reduceAdd, Nat.reduceMul, Nat.reduceLT, Nat.reduceLeDiff, and_self, gu_eq, gu_ne, gu_ne2]; rw [ha 66 (by omega)]; exact r6
      have e65 : (gu (gu s 110 0 1) 63 0 0) 65 i = 1 := by simp only [Nat.add_one_sub_one, forall_eq, true_and, and_true, true_implies, not_true_eq_false, not_false_eq_true, false_implies, implies_true, ne_eq, Nat.reduceEqDiff, Nat.reduceAdd, Nat.reduceMul, Nat.reduceLT, Nat.reduceLeDiff, and_self, gu_eq, gu_ne, gu_ne2]; rw [ha 65 (by omega)]; exact h65
      rw [e66]
      refine r_in (fun _ => q_nF (by decide) (r_t0 (q_nT rfl ⟨vp_in_nI (by omega) (by omega), q_nF ?_ ⟨vp_in_nI (by omega) (by omega), ?_⟩⟩))) (fun q => absurd (by rw [t_0, ht1]; omega) q)
      · rw [nI_clamp (by omega), e65]; decide
      rw [nI_clamp (by omega), vpn0]
      rintro _ rfl
      have e64 : ∀ j, (gu (gu (gu s 110 0 1) 63 0 0) 65 i 0) 64 j = σ 64 j := fun j => by simp only [Nat.add_one_sub_one, forall_eq, true_and, and_true, true_implies, not_true_eq_false, not_false_eq_true, false_implies, implies_true, ne_eq, Nat.reduceEqDiff, Nat.reduceAdd, Nat.reduceMul, Nat.reduceLT, Nat.reduceLeDiff, and_self, gu_eq, gu_ne, gu_ne2]; rw [ha 64 (by omega)]
      refine p_strike52 (fun s2 a2 h2 => tl_z ?_ (fun _ => ?_) (Or.inr rfl) (K _ ⟨g, t, r1, r2, ?_, ?_, ?_, ?_, fun j hj => ?_, fun j hj => ?_, fun i' hi' => ?_, fun i' hi' => ?_, ?_⟩ ?_))
      · rw [a2 63 (by omega)]; simp only [Nat.add_one_sub_one, forall_eq, true_and, and_true, true_implies, not_true_eq_false, not_false_eq_true, false_implies, implies_true, ne_eq, Nat.reduceEqDiff, Nat.reduceAdd, Nat.reduceMul, Nat.reduceLT, Nat.reduceLeDiff, and_self, gu_eq, gu_ne, gu_ne2]
      · rw [a2 110 (by omega)]; simp only [Nat.add_one_sub_one, forall_eq, true_and, and_true, true_implies, not_true_eq_false, not_false_eq_true, false_implies, implies_true, ne_eq, Nat.reduceEqDiff, Nat.reduceAdd, Nat.reduceMul, Nat.reduceLT, Nat.reduceLeDiff, and_self, gu_eq, gu_ne, gu_ne2]
      · rw [a2 20 (by omega)]; simp only [Nat.add_one_sub_one, forall_eq, true_and, and_true, true_implies, not_true_eq_false, not_false_eq_true, false_implies, implies_true, ne_eq, Nat.reduceEqDiff, Nat.reduceAdd, Nat.reduceMul, Nat.reduceLT, Nat.reduceLeDiff, and_self, gu_eq, gu_ne, gu_ne2]; rw [ha 20 (by omega)]; exact r3
      · rw [a2 67 (by omega)]; simp only [Nat.add_one_sub_one, forall_eq, true_and, and_true, true_implies, not_true_eq_false, not_false_eq_true, false_implies, implies_true, ne_eq, Nat.reduceEqDiff, Nat.reduceAdd, Nat.reduceMul, Nat.reduceLT, Nat.reduceLeDiff, and_self, gu_eq, gu_ne, gu_ne2]; rw [ha 67 (by omega)]; exact r4
      · rw [a2 21 (by omega)]; simp only [Nat.add_one_sub_one, forall_eq, true_and, and_true, true_implies, not_true_eq_false, not_false_eq_true, false_implies, implies_true, ne_eq, Nat.reduceEqDiff, Nat.reduceAdd, Nat.reduceMul, Nat.reduceLT, Nat.reduceLeDiff, and_self, gu_eq, gu_ne, gu_ne2]; rw [ha 21 (by omega)]; exact r5
      · rw [a2 66 (by omega)]; simp only [Nat.add_one_sub_one, forall_eq, true_and, and_true, true_implies, not_true_eq_false, not_false_eq_true, false_implies, implies_true, ne_eq, Nat.reduceEqDiff, Nat.reduceAdd, Nat.reduceMul, Nat.reduceLT, Nat.reduceLeDiff, and_self, gu_eq, gu_ne, gu_ne2]; rw [ha 66 (by omega)]; exact r6
      · rw [h2 j hj, a2 19 (by omega)]
        simp only [Nat.add_one_sub_one, forall_eq, true_and, and_true, true_implies, not_true_eq_false, not_false_eq_true, false_implies, implies_true, ne_eq, Nat.reduceEqDiff, Nat.reduceAdd, Nat.reduceMul, Nat.reduceLT, Nat.reduceLeDiff, and_self, gu_eq, gu_ne, gu_ne2]
        rw [hq j hj, ha 64 (by omega), r7 j hj]
      · rw [h2 j hj]
        simp only [Nat.add_one_sub_one, forall_eq, true_and, and_true, true_implies, not_true_eq_false, not_false_eq_true, false_implies, implies_true, ne_eq, Nat.reduceEqDiff, Nat.reduceAdd, Nat.reduceMul, Nat.reduceLT, Nat.reduceLeDiff, and_self, gu_eq, gu_ne, gu_ne2]
        rw [ha 64 (by omega)]
        split
        · exact Or.inl rfl
        · exact r8 j hj
      · rw [a2 65 (by omega)]
        simp only [Nat.add_one_sub_one, forall_eq, true_and, and_true, true_implies, not_true_eq_false, not_false_eq_true, false_implies, implies_true, ne_eq, Nat.reduceEqDiff, Nat.reduceAdd, Nat.reduceMul, Nat.reduceLT, Nat.reduceLeDiff, and_self, gu_eq, gu_ne, gu_ne2, gu_at]
        split
        · exact Or.inl rfl
        · rw [ha 65 (by omega)]; exact r9 i' hi'
      · rw [a2 65 (by omega)]
        simp only [Nat.add_one_sub_one, forall_eq, true_and, and_true, true_implies, not_true_eq_false, not_false_eq_true, false_implies, implies_true, ne_eq, Nat.reduceEqDiff, Nat.reduceAdd, Nat.reduceMul, Nat.reduceLT, Nat.reduceLeDiff, and_self, gu_eq, gu_ne, gu_ne2, gu_at]
        by_cases e : i' = i
        · rw [if_pos e]
          refine ⟨fun q => absurd q (by decide), fun ⟨j, hj, ej⟩ => ?_⟩
          rw [h2 j hj, e64] at ej
          split at ej
          · exact absurd ej (by rw [nI_m1eq (by omega)]; exact id)
          · rename_i q; exact absurd (e ▸ ej) q
        · rw [if_neg e, ha 65 (by omega), r10 i' hi']
          constructor
          · rintro ⟨j, hj, ej⟩
            refine ⟨j, hj, ?_⟩
            rw [h2 j hj]
            simp only [Nat.add_one_sub_one, forall_eq, true_and, and_true, true_implies, not_true_eq_false, not_false_eq_true, false_implies, implies_true, ne_eq, Nat.reduceEqDiff, Nat.reduceAdd, Nat.reduceMul, Nat.reduceLT, Nat.reduceLeDiff, and_self, gu_eq, gu_ne, gu_ne2]
            rw [ha 64 (by omega), if_neg (fun q => e (nI_inj (ej.symm.trans q) (by omega) (by omega)))]
            exact ej
          · rintro ⟨j, hj, ej⟩
            refine ⟨j, hj, ?_⟩
            rw [h2 j hj, e64] at ej
            split at ej
            · exact absurd ej (by rw [nI_m1eq (by omega)]; exact id)
            · exact ej
      · rw [a2 22 (by omega), a2 65 (by omega)]
        simp only [Nat.add_one_sub_one, forall_eq, true_and, and_true, true_implies, not_true_eq_false, not_false_eq_true, false_implies, implies_true, ne_eq, Nat.reduceEqDiff, Nat.reduceAdd, Nat.reduceMul, Nat.reduceLT, Nat.reduceLeDiff, and_self, gu_eq, gu_ne, gu_ne2]
        rw [e22, gu_eq, r11, fcnt_dn (p := fun i => decide (σ 65 i = 1)) (p' := fun i' => decide ((gu (gu (gu s 110 0 1) 63 0 0) 65 i 0) 65 i' = 1)) (x := i) (by omega) (by simp [h65]) (by simp [gu_eq]) (fun i' hi' => by simp [gu_at, hi', gu_ne, ha 65])]
        rw [nI_pred]
      · refine ag_tr ?_ (ag_mono a2 (fun k hk => Or.inl (by unfold kM; omega)))
        exact ag_gu' (Or.inl (by unfold kM; omega)) (ag_gu' (Or.inr s63) (ag_gu' (Or.inr s110) (ag_mono ha (fun k hk => Or.inl (by unfold kM; omega)))))
  · rw [ht] at c
    unfold w_X9_strike w_X9_strike_25
    rintro _ rfl
    have e66 : (gu σ 63 0 0) 66 0 = nI t := by simp only [Nat.add_one_sub_one, forall_eq, true_and, and_true, true_implies, not_true_eq_false, not_false_eq_true, false_implies, implies_true, ne_eq, Nat.reduceEqDiff, Nat.reduceAdd, Nat.reduceMul, Nat.reduceLT, Nat.reduceLeDiff, and_self, gu_eq, gu_ne, gu_ne2]; exact r6
    rw [e66]
    exact r_in (fun q => absurd (by rw [t_0, ht1] at q; omega) c) (fun _ => q_nT rfl (r_t1 (q_nF (by decide) (tl_z gu_eq (fun z => absurd z (by decide)) (Or.inl rfl) (KS _ (A2 _))))))
end PME2
