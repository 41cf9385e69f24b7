/-! THE GATE BOOK: the cases pass, inside, within -/
def kBk (k : Nat) : Prop := (57 ≤ k ∧ k ≤ 62) ∨ (94 ≤ k ∧ k ≤ 98)
def RB (σ : gS) : Prop := σ 94 = σ 57 ∧ σ 95 = σ 58 ∧ σ 96 = σ 59 ∧ σ 97 = σ 60 ∧ σ 98 0 = σ 62 0 ∧ ∃ n o, BK σ n o
theorem BK.cong {σ σ' : gS} {n : Nat} {o : Nat → Nat} (h : BK σ n o) (e : ∀ k, 57 ≤ k → k ≤ 62 → σ' k = σ k) : BK σ' n o := by
  unfold BK at *
  rw [e 57 (by omega) (by omega), e 58 (by omega) (by omega), e 59 (by omega) (by omega), e 61 (by omega) (by omega), e 62 (by omega) (by omega)]
  exact h
theorem RB.cong {σ σ' : gS} (h : RB σ) (e : ∀ k, kBk k → σ' k = σ k) : RB σ' := by
  obtain ⟨h1, h2, h3, h4, h5, n, o, h6⟩ := h
  refine ⟨?_, ?_, ?_, ?_, ?_, n, o, h6.cong (fun k a b => e k (Or.inl ⟨a, b⟩))⟩
  · rw [e 94 (by unfold kBk; omega), e 57 (by unfold kBk; omega)]; exact h1
  · rw [e 95 (by unfold kBk; omega), e 58 (by unfold kBk; omega)]; exact h2
  · rw [e 96 (by unfold kBk; omega), e 59 (by unfold kBk; omega)]; exact h3
  · rw [e 97 (by unfold kBk; omega), e 60 (by unfold kBk; omega)]; exact h4
  · rw [e 98 (by unfold kBk; omega), e 62 (by unfold kBk; omega)]; exact h5
theorem scr_B {k : Nat} (h : kBk k) : ¬ scr k := by unfold kBk at h; unfold scr; omega
theorem RB.s {σ σ' : gS} (h : RB σ) (e : ag scr σ σ') : RB σ' := h.cong (fun k hk => e k (scr_B hk))
theorem T300 : (300 : Int32).toInt = 300 := rfl
theorem m_inside {Q : Int32 → gS → Prop} {σ : gS} {n : Nat} {a m k : Int32} (hn : n ≤ 200) (e98 : σ 98 0 = nI n) (h95 : ∀ i, i < n → σ 95 i = 0 ∨ σ 95 i = 1) (ca : 0 ≤ a.toInt ∧ a.toInt < 300) (kk : ∀ r, (r = 0 ∨ r = 1) → IS n (MT (σ 94) (σ 96) (σ 97) a m k) (σ 95) (σ 96) r → Q r (gu σ 63 0 0)) : w_X9_inside Q σ a m k := by
  unfold w_X9_inside w_X9_inside_31
  rintro _ rfl
  refine r_nb (fun _ => r_t0 (q_nT rfl ?_)) (fun q => absurd ca q)
  refine p_isInM (n := n) hn (by simp only [Nat.add_one_sub_one, forall_eq, true_and, and_true, true_implies, not_true_eq_false, not_false_eq_true, false_implies, implies_true, ne_eq, Nat.reduceEqDiff, Nat.reduceAdd, Nat.reduceMul, Nat.reduceLT, Nat.reduceLeDiff, and_self, gu_eq, gu_ne, gu_ne2]; exact e98) (fun i hi => by simp only [Nat.add_one_sub_one, forall_eq, true_and, and_true, true_implies, not_true_eq_false, not_false_eq_true, false_implies, implies_true, ne_eq, Nat.reduceEqDiff, Nat.reduceAdd, Nat.reduceMul, Nat.reduceLT, Nat.reduceLeDiff, and_self, gu_eq, gu_ne, gu_ne2]; exact h95 i hi) (fun r hr hs => ?_)
  simp only [Nat.add_one_sub_one, forall_eq, true_and, and_true, true_implies, not_true_eq_false, not_false_eq_true, false_implies, implies_true, ne_eq, Nat.reduceEqDiff, Nat.reduceAdd, Nat.reduceMul, Nat.reduceLT, Nat.reduceLeDiff, and_self, gu_eq, gu_ne, gu_ne2] at hs
  have := kk r hr hs
  rcases hr with rfl | rfl
  · exact q_T rfl this
  · exact q_F (by decide) this
section PBK
variable {Q : Unit} {LN : Nat} {xs : Nat → Int32} {k23 : Int32 → gS → Prop} {x4 : Int32} {σ : gS}
theorem cs_pass (h1 : vp_in (x4 + 1) LN) (h2 : vp_in (x4 + 2) LN) (h3 : vp_in (x4 + 3) LN) (hN : RN σ) (hR : RB σ) (K : ∀ σ', RB σ' → ag (fun k => kBk k ∨ scr k) σ σ' → k23 (x4 + 6) σ') : w_L_law_1143 Q LN xs k23 x4 σ := by
  have KS : ∀ s, ag scr σ s → k23 (x4 + 6) s := fun s hs => K _ (hR.s hs) (ag_mono hs (fun k hk => Or.inr hk))
  have A2 : ∀ k, ag scr σ (gu (gu σ 63 0 0) 63 0 k) := fun k => ag_gu' s63 (ag_gu' s63 ag_rf)
  have e93 : (gu σ 63 0 0) 93 0 = σ 93 0 := by simp only [Nat.add_one_sub_one, forall_eq, true_and, and_true, true_implies, not_true_eq_false, not_false_eq_true, false_implies, implies_true, ne_eq, Nat.reduceEqDiff, Nat.reduceAdd, Nat.reduceMul, Nat.reduceLT, Nat.reduceLeDiff, and_self, gu_eq, gu_ne, gu_ne2]
  obtain ⟨e1, ⟨n0, n1⟩, -, -⟩ := id hN
  obtain ⟨e94, e95, e96, e97, e98, n, o, hB⟩ := id hR
  have main : ∀ v : Int32, (xs (x4 + 2).toNatClampNeg = 0 → v = 0) → (¬ xs (x4 + 2).toNatClampNeg = 0 → v = 1) → w_L_law_1164 Q LN xs k23 x4 v (xs (x4 + 1).toNatClampNeg) σ := by
    intro v hv0 hv1
    have hv : v = 0 ∨ v = 1 := by
      by_cases c : xs (x4 + 2).toNatClampNeg = 0
      · exact Or.inl (hv0 c)
      · exact Or.inr (hv1 c)
    have sec : ∀ x5 s, w_L_law_1197 Q LN xs k23 x4 x5 v (xs (x4 + 1).toNatClampNeg) s → vp_in (x4 + 1) LN ∧ vp_in (x4 + 2) LN ∧ (xs (x4 + 2).toNatClampNeg = 0 → w_L_law_1197 Q LN xs k23 x4 x5 0 (xs (x4 + 1).toNatClampNeg) s) ∧ (¬ xs (x4 + 2).toNatClampNeg = 0 → w_L_law_1197 Q LN xs k23 x4 x5 1 (xs (x4 + 1).toNatClampNeg) s) := fun x5 s h => ⟨h1, h2, fun c => by rw [hv0 c] at h; exact h, fun c => by rw [hv1 c] at h; exact h⟩
    unfold w_L_law_1164 w_L_pass w_X8_pass
    refine ⟨h3, r_ri (fun c => r_rn (fun c2 => ?_) (fun c2 => ?_)) (fun c => ?_)⟩
    · rw [T300] at c
      rw [t_0] at c2
      refine p_write hB hv c ⟨c2.1, by rw [e1] at c2; omega⟩ (fun hn s o' ag1 hB' => ?_) (fun hn => ?_)
      · rintro _ rfl
        refine sec _ _ ?_
        unfold w_L_law_1197
        rw [nI_clamp0]
        have z93 : (gu s 110 0 (nI n)) 93 0 = σ 93 0 := by simp only [Nat.add_one_sub_one, forall_eq, true_and, and_true, true_implies, not_true_eq_false, not_false_eq_true, false_implies, implies_true, ne_eq, Nat.reduceEqDiff, Nat.reduceAdd, Nat.reduceMul, Nat.reduceLT, Nat.reduceLeDiff, and_self, gu_eq, gu_ne, gu_ne2]; rw [ag1 93 (by omega)]; simp only [Nat.add_one_sub_one, forall_eq, true_and, and_true, true_implies, not_true_eq_false, not_false_eq_true, false_implies, implies_true, ne_eq, Nat.reduceEqDiff, Nat.reduceAdd, Nat.reduceMul, Nat.reduceLT, Nat.reduceLeDiff, and_self, gu_eq, gu_ne, gu_ne2]
        have a0 : ag (fun k => kBk k ∨ scr k) σ (gu (gu (gu (gu (gu σ 57 n (xs (x4 + 1).toNatClampNeg)) 58 n v) 59 n (xs (x4 + 3).toNatClampNeg)) 60 n (σ 13 0)) 62 0 (nI (n + 1))) := by repeat (first | exact ag_rf | refine ag_gu' (by simp [scr, kBk]) ?_)
        have a1 := ag_tr a0 (ag_mono ag1 (fun k hk => Or.inl (by unfold kBk; omega)))
        refine ⟨h3, m_pass (n := n) hB.1 (by simp only [Nat.add_one_sub_one, forall_eq, true_and, and_true, true_implies, not_true_eq_false, not_false_eq_true, false_implies, implies_true, ne_eq, Nat.reduceEqDiff, Nat.reduceAdd, Nat.reduceMul, Nat.reduceLT, Nat.reduceLeDiff, and_self, gu_eq, gu_ne, gu_ne2]; rw [ag1 98 (by omega)]; simp only [Nat.add_one_sub_one, forall_eq, true_and, and_true, true_implies, not_true_eq_false, not_false_eq_true, false_implies, implies_true, ne_eq, Nat.reduceEqDiff, Nat.reduceAdd, Nat.reduceMul, Nat.reduceLT, Nat.reduceLeDiff, and_self, gu_eq, gu_ne, gu_ne2]; rw [e98]; exact hB.2.1) hv (fun _ => tl_i ?_ (fun _ => ?_) (K _ ⟨?_, ?_, ?_, ?_, ?_, n + 1, o', hB'.cong (fun k ka kb => ?_)⟩ ?_)) (fun q => by omega) c (by rw [z93, ← e1]; exact c2)⟩
        · simp only [Nat.add_one_sub_one, forall_eq, true_and, and_true, true_implies, not_true_eq_false, not_false_eq_true, false_implies, implies_true, ne_eq, Nat.reduceEqDiff, Nat.reduceAdd, Nat.reduceMul, Nat.reduceLT, Nat.reduceLeDiff, and_self, gu_eq, gu_ne, gu_ne2]
        · simp only [Nat.add_one_sub_one, forall_eq, true_and, and_true, true_implies, not_true_eq_false, not_false_eq_true, false_implies, implies_true, ne_eq, Nat.reduceEqDiff, Nat.reduceAdd, Nat.reduceMul, Nat.reduceLT, Nat.reduceLeDiff, and_self, gu_eq, gu_ne, gu_ne2]
        · simp only [Nat.add_one_sub_one, forall_eq, true_and, and_true, true_implies, not_true_eq_false, not_false_eq_true, false_implies, implies_true, ne_eq, Nat.reduceEqDiff, Nat.reduceAdd, Nat.reduceMul, Nat.reduceLT, Nat.reduceLeDiff, and_self, gu_eq, gu_ne, gu_ne2, gu_row]; rw [ag1 94 (by omega), ag1 57 (by omega)]; simp only [Nat.add_one_sub_one, forall_eq, true_and, and_true, true_implies, not_true_eq_false, not_false_eq_true, false_implies, implies_true, ne_eq, Nat.reduceEqDiff, Nat.reduceAdd, Nat.reduceMul, Nat.reduceLT, Nat.reduceLeDiff, and_self, gu_eq, gu_ne, gu_ne2, gu_row]; rw [e94]
        · simp only [Nat.add_one_sub_one, forall_eq, true_and, and_true, true_implies, not_true_eq_false, not_false_eq_true, false_implies, implies_true, ne_eq, Nat.reduceEqDiff, Nat.reduceAdd, Nat.reduceMul, Nat.reduceLT, Nat.reduceLeDiff, and_self, gu_eq, gu_ne, gu_ne2, gu_row]; rw [ag1 95 (by omega), ag1 58 (by omega)]; simp only [Nat.add_one_sub_one, forall_eq, true_and, and_true, true_implies, not_true_eq_false, not_false_eq_true, false_implies, implies_true, ne_eq, Nat.reduceEqDiff, Nat.reduceAdd, Nat.reduceMul, Nat.reduceLT, Nat.reduceLeDiff, and_self, gu_eq, gu_ne, gu_ne2, gu_row]; rw [e95]
        · simp only [Nat.add_one_sub_one, forall_eq, true_and, and_true, true_implies, not_true_eq_false, not_false_eq_true, false_implies, implies_true, ne_eq, Nat.reduceEqDiff, Nat.reduceAdd, Nat.reduceMul, Nat.reduceLT, Nat.reduceLeDiff, and_self, gu_eq, gu_ne, gu_ne2, gu_row]; rw [ag1 96 (by omega), ag1 59 (by omega)]; simp only [Nat.add_one_sub_one, forall_eq, true_and, and_true, true_implies, not_true_eq_false, not_false_eq_true, false_implies, implies_true, ne_eq, Nat.reduceEqDiff, Nat.reduceAdd, Nat.reduceMul, Nat.reduceLT, Nat.reduceLeDiff, and_self, gu_eq, gu_ne, gu_ne2, gu_row]; rw [e96]
        · rw [z93]; simp only [Nat.add_one_sub_one, forall_eq, true_and, and_true, true_implies, not_true_eq_false, not_false_eq_true, false_implies, implies_true, ne_eq, Nat.reduceEqDiff, Nat.reduceAdd, Nat.reduceMul, Nat.reduceLT, Nat.reduceLeDiff, and_self, gu_eq, gu_ne, gu_ne2, gu_row]; rw [ag1 97 (by omega), ag1 60 (by omega)]; simp only [Nat.add_one_sub_one, forall_eq, true_and, and_true, true_implies, not_true_eq_false, not_false_eq_true, false_implies, implies_true, ne_eq, Nat.reduceEqDiff, Nat.reduceAdd, Nat.reduceMul, Nat.reduceLT, Nat.reduceLeDiff, and_self, gu_eq, gu_ne, gu_ne2, gu_row]; rw [e97, e1]
        · simp only [Nat.add_one_sub_one, forall_eq, true_and, and_true, true_implies, not_true_eq_false, not_false_eq_true, false_implies, implies_true, ne_eq, Nat.reduceEqDiff, Nat.reduceAdd, Nat.reduceMul, Nat.reduceLT, Nat.reduceLeDiff, and_self, gu_eq, gu_ne, gu_ne2]; rw [ag1 62 (by omega)]; simp only [Nat.add_one_sub_one, forall_eq, true_and, and_true, true_implies, not_true_eq_false, not_false_eq_true, false_implies, implies_true, ne_eq, Nat.reduceEqDiff, Nat.reduceAdd, Nat.reduceMul, Nat.reduceLT, Nat.reduceLeDiff, and_self, gu_eq, gu_ne, gu_ne2]
        · rw [gu_ne (by omega), gu_ne (by omega), gu_ne (by omega), gu_ne (by omega), gu_ne (by omega), gu_ne (by omega), gu_ne (by omega)]
        · repeat (first | exact a1 | refine ag_gu' (by simp [scr, kBk]) ?_)
      · rintro _ rfl
        refine sec _ _ ?_
        unfold w_L_law_1197
        rw [nI_clamp0]
        have z93 : (gu σ 110 0 (-1)) 93 0 = σ 93 0 := by simp only [Nat.add_one_sub_one, forall_eq, true_and, and_true, true_implies, not_true_eq_false, not_false_eq_true, false_implies, implies_true, ne_eq, Nat.reduceEqDiff, Nat.reduceAdd, Nat.reduceMul, Nat.reduceLT, Nat.reduceLeDiff, and_self, gu_eq, gu_ne, gu_ne2]
        exact ⟨h3, m_pass (n := n) hB.1 (by simp only [Nat.add_one_sub_one, forall_eq, true_and, and_true, true_implies, not_true_eq_false, not_false_eq_true, false_implies, implies_true, ne_eq, Nat.reduceEqDiff, Nat.reduceAdd, Nat.reduceMul, Nat.reduceLT, Nat.reduceLeDiff, and_self, gu_eq, gu_ne, gu_ne2]; rw [e98]; exact hB.2.1) hv (fun q => by omega) (fun _ => tl_i (by simp only [Nat.add_one_sub_one, forall_eq, true_and, and_true, true_implies, not_true_eq_false, not_false_eq_true, false_implies, implies_true, ne_eq, Nat.reduceEqDiff, Nat.reduceAdd, Nat.reduceMul, Nat.reduceLT, Nat.reduceLeDiff, and_self, gu_eq, gu_ne, gu_ne2]) (fun _ => by simp only [Nat.add_one_sub_one, forall_eq, true_and, and_true, true_implies, not_true_eq_false, not_false_eq_true, false_implies, implies_true, ne_eq, Nat.reduceEqDiff, Nat.reduceAdd, Nat.reduceMul, Nat.reduceLT, Nat.reduceLeDiff, and_self, gu_eq, gu_ne, gu_ne2]) (KS _ (ag_gu' s63 (ag_gu' s110 ag_rf)))) c (by rw [z93, ← e1]; exact c2)⟩
    · refine xx01_1 (sec _ _ ?_)
      unfold w_L_law_1197 w_X9_pass w_X9_pass_35
      refine ⟨h3, ?_⟩
      rintro _ rfl
      exact r_nb (fun _ => r_t0 (q_nT rfl (r_in (fun q => absurd (by rw [e93, ← e1] at q; exact q) c2) (fun _ => q_nT rfl (r_t1 (q_F (by decide) (tl_i gu_eq (fun z => absurd z (by decide)) (KS _ (A2 _))))))))) (fun q => absurd (by rw [T300] at c; exact c) q)
    · refine xx01_0 (sec _ _ ?_)
      unfold w_L_law_1197 w_X9_pass w_X9_pass_35
      refine ⟨h3, ?_⟩
      rintro _ rfl
      exact r_nb (fun q => absurd (by rw [T300]; exact q) c) (fun _ => r_t1 (q_nF (by decide) (tl_i gu_eq (fun z => absurd z (by decide)) (KS _ (A2 _)))))
  unfold w_L_law_1143
  exact ⟨h1, h2, fun c => main 0 (fun _ => rfl) (fun q => absurd c q), fun c => main 1 (fun q => absurd q c) (fun _ => rfl)⟩
theorem cs_inside (h1 : vp_in (x4 + 1) LN) (h2 : vp_in (x4 + 2) LN) (h3 : vp_in (x4 + 3) LN) (hR : RB σ) (K : ∀ σ', RB σ' → ag (fun k => kBk k ∨ scr k) σ σ' → k23 (x4 + 6) σ') : w_L_law_1239 Q LN xs k23 x4 σ := by
  have KS : ∀ s, ag scr σ s → k23 (x4 + 6) s := fun s hs => K _ (hR.s hs) (ag_mono hs (fun k hk => Or.inr hk))
  have A2 : ∀ k, ag scr σ (gu (gu σ 63 0 0) 63 0 k) := fun k => ag_gu' s63 (ag_gu' s63 ag_rf)
  obtain ⟨e94, e95, e96, e97, e98, n, o, hB⟩ := id hR
  unfold w_L_law_1239 w_L_inside w_X8_inside
  refine ⟨h1, h2, h3, r_ri (fun c => p_isIn hB (fun r hr hs => ⟨gz_of hr, fun c0 => ?_, fun c0 => ?_⟩)) (fun c => xx1 ⟨h1, h2, h3, ?_⟩)⟩
  · rintro _ rfl
    rw [nI_clamp0]
    rw [T300] at c
    refine ⟨h1, h2, h3, m_inside (n := n) hB.1 (by simp only [Nat.add_one_sub_one, forall_eq, true_and, and_true, true_implies, not_true_eq_false, not_false_eq_true, false_implies, implies_true, ne_eq, Nat.reduceEqDiff, Nat.reduceAdd, Nat.reduceMul, Nat.reduceLT, Nat.reduceLeDiff, and_self, gu_eq, gu_ne, gu_ne2]; rw [e98]; exact hB.2.1) (fun i hi => by simp only [Nat.add_one_sub_one, forall_eq, true_and, and_true, true_implies, not_true_eq_false, not_false_eq_true, false_implies, implies_true, ne_eq, Nat.reduceEqDiff, Nat.reduceAdd, Nat.reduceMul, Nat.reduceLT, Nat.reduceLeDiff, and_self, gu_eq, gu_ne, gu_ne2]; rw [e95]; exact hB.2.2.2.1 i hi) c (fun r' hr' hs' => tl_z (by simp only [Nat.add_one_sub_one, forall_eq, true_and, and_true, true_implies, not_true_eq_false, not_false_eq_true, false_implies, implies_true, ne_eq, Nat.reduceEqDiff, Nat.reduceAdd, Nat.reduceMul, Nat.reduceLT, Nat.reduceLeDiff, and_self, gu_eq, gu_ne, gu_ne2]) (fun _ => ?_) hr' (KS _ (ag_gu' s63 (ag_gu' s110 ag_rf))))⟩
    simp only [Nat.add_one_sub_one, forall_eq, true_and, and_true, true_implies, not_true_eq_false, not_false_eq_true, false_implies, implies_true, ne_eq, Nat.reduceEqDiff, Nat.reduceAdd, Nat.reduceMul, Nat.reduceLT, Nat.reduceLeDiff, and_self, gu_eq, gu_ne, gu_ne2] at hs'
    rw [e94, e95, e96, e97] at hs'
    simp only [Nat.add_one_sub_one, forall_eq, true_and, and_true, true_implies, not_true_eq_false, not_false_eq_true, false_implies, implies_true, ne_eq, Nat.reduceEqDiff, Nat.reduceAdd, Nat.reduceMul, Nat.reduceLT, Nat.reduceLeDiff, and_self, gu_eq, gu_ne, gu_ne2]
    exact c0.symm.trans (hs.uniq hs')
  · rintro _ rfl
    rw [nI_clamp0]
    rw [T300] at c
    refine ⟨h1, h2, h3, m_inside (n := n) hB.1 (by simp only [Nat.add_one_sub_one, forall_eq, true_and, and_true, true_implies, not_true_eq_false, not_false_eq_true, false_implies, implies_true, ne_eq, Nat.reduceEqDiff, Nat.reduceAdd, Nat.reduceMul, Nat.reduceLT, Nat.reduceLeDiff, and_self, gu_eq, gu_ne, gu_ne2]; rw [e98]; exact hB.2.1) (fun i hi => by simp only [Nat.add_one_sub_one, forall_eq, true_and, and_true, true_implies, not_true_eq_false, not_false_eq_true, false_implies, implies_true, ne_eq, Nat.reduceEqDiff, Nat.reduceAdd, Nat.reduceMul, Nat.reduceLT, Nat.reduceLeDiff, and_self, gu_eq, gu_ne, gu_ne2]; rw [e95]; exact hB.2.2.2.1 i hi) c (fun r' hr' hs' => tl_z (by simp only [Nat.add_one_sub_one, forall_eq, true_and, and_true, true_implies, not_true_eq_false, not_false_eq_true, false_implies, implies_true, ne_eq, Nat.reduceEqDiff, Nat.reduceAdd, Nat.reduceMul, Nat.reduceLT, Nat.reduceLeDiff, and_self, gu_eq, gu_ne, gu_ne2]) (fun _ => ?_) hr' (KS _ (ag_gu' s63 (ag_gu' s110 ag_rf))))⟩
    simp only [Nat.add_one_sub_one, forall_eq, true_and, and_true, true_implies, not_true_eq_false, not_false_eq_true, false_implies, implies_true, ne_eq, Nat.reduceEqDiff, Nat.reduceAdd, Nat.reduceMul, Nat.reduceLT, Nat.reduceLeDiff, and_self, gu_eq, gu_ne, gu_ne2] at hs'
    rw [e94, e95, e96, e97] at hs'
    simp only [Nat.add_one_sub_one, forall_eq, true_and, and_true, true_implies, not_true_eq_false, not_false_eq_true, false_implies, implies_true, ne_eq, Nat.reduceEqDiff, Nat.reduceAdd, Nat.reduceMul, Nat.reduceLT, Nat.reduceLeDiff, and_self, gu_eq, gu_ne, gu_ne2]
    exact (hr.resolve_left c0).symm.trans (hs.uniq hs')
  · unfold w_X9_inside w_X9_inside_31
    rintro _ rfl
    exact r_nb (fun q => absurd (by rw [T300]; exact q) c) (fun _ => r_t1 (q_nF (by decide) (tl_z gu_eq (fun z => absurd z (by decide)) (Or.inl rfl) (KS _ (A2 _)))))
theorem cs_within (h1 : vp_in (x4 + 1) LN) (h2 : vp_in (x4 + 2) LN) (h3 : vp_in (x4 + 3) LN) (hR : RB σ) (K : ∀ σ', RB σ' → ag (fun k => kBk k ∨ scr k) σ σ' → k23 (x4 + 6) σ') : w_L_law_1326 Q LN xs k23 x4 σ := by
  have A : ag scr σ (gu σ 63 0 0) := ag_gu' s63 ag_rf
  have K0 := K _ (hR.s A) (ag_mono A (fun k hk => Or.inr hk))
  obtain ⟨e94, e95, e96, e97, e98, n, o, hB⟩ := id hR
  unfold w_L_law_1326
  refine ⟨h1, fun c => ?_, fun c => ?_⟩
  · unfold w_L_law_1341 w_X8_within
    refine ⟨h2, h3, q_T rfl (p_bandsIn hB ⟨h1, q_T c ?_⟩)⟩
    unfold w_L_law_1371 w_X9_within
    refine ⟨h2, h3, ?_⟩
    rintro _ rfl
    refine q_nT rfl (p_within15 (n := n) hB.1 (by simp only [Nat.add_one_sub_one, forall_eq, true_and, and_true, true_implies, not_true_eq_false, not_false_eq_true, false_implies, implies_true, ne_eq, Nat.reduceEqDiff, Nat.reduceAdd, Nat.reduceMul, Nat.reduceLT, Nat.reduceLeDiff, and_self, gu_eq, gu_ne, gu_ne2]; rw [e98]; exact hB.2.1) (fun i hi => by simp only [Nat.add_one_sub_one, forall_eq, true_and, and_true, true_implies, not_true_eq_false, not_false_eq_true, false_implies, implies_true, ne_eq, Nat.reduceEqDiff, Nat.reduceAdd, Nat.reduceMul, Nat.reduceLT, Nat.reduceLeDiff, and_self, gu_eq, gu_ne, gu_ne2]; rw [e95]; exact hB.2.2.2.1 i hi) (tl_e ?_ K0))
    simp only [Nat.add_one_sub_one, forall_eq, true_and, and_true, true_implies, not_true_eq_false, not_false_eq_true, false_implies, implies_true, ne_eq, Nat.reduceEqDiff, Nat.reduceAdd, Nat.reduceMul, Nat.reduceLT, Nat.reduceLeDiff, and_self, gu_eq, gu_ne, gu_ne2]
    rw [e94, e95, e96, e97]
  · unfold w_L_law_1341 w_X8_within
    refine ⟨h2, h3, q_F (by decide) (p_odd hB ⟨h1, q_F c ?_⟩)⟩
    unfold w_L_law_1371 w_X9_within
    refine ⟨h2, h3, ?_⟩
    rintro _ rfl
    refine q_nF (by decide) (p_within56 (n := n) hB.1 (by simp only [Nat.add_one_sub_one, forall_eq, true_and, and_true, true_implies, not_true_eq_false, not_false_eq_true, false_implies, implies_true, ne_eq, Nat.reduceEqDiff, Nat.reduceAdd, Nat.reduceMul, Nat.reduceLT, Nat.reduceLeDiff, and_self, gu_eq, gu_ne, gu_ne2]; rw [e98]; exact hB.2.1) (fun i hi => by simp only [Nat.add_one_sub_one, forall_eq, true_and, and_true, true_implies, not_true_eq_false, not_false_eq_true, false_implies, implies_true, ne_eq, Nat.reduceEqDiff, Nat.reduceAdd, Nat.reduceMul, Nat.reduceLT, Nat.reduceLeDiff, and_self, gu_eq, gu_ne, gu_ne2]; rw [e95]; exact hB.2.2.2.1 i hi) (fun i hi => by simp only [Nat.add_one_sub_one, forall_eq, true_and, and_true, true_implies, not_true_eq_false, not_false_eq_true, false_implies, implies_true, ne_eq, Nat.reduceEqDiff, Nat.reduceAdd, Nat.reduceMul, Nat.reduceLT, Nat.reduceLeDiff, and_self, gu_eq, gu_ne, gu_ne2]; rw [e96]; exact (hB.2.2.2.2.2.1 i hi).2) (tl_e ?_ K0))
    simp only [Nat.add_one_sub_one, forall_eq, true_and, and_true, true_implies, not_true_eq_false, not_false_eq_true, false_implies, implies_true, ne_eq, Nat.reduceEqDiff, Nat.reduceAdd, Nat.reduceMul, Nat.reduceLT, Nat.reduceLeDiff, and_self, gu_eq, gu_ne, gu_ne2]
    rw [e94, e95, e96, e97]
end PBK
