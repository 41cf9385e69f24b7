/-! THE LICENCE: the case -/
theorem RT_BT {σ : gS} (h : RT σ) : ∃ (B : Nat → Int32) (n : Nat), BT B n ∧ CT B n σ ∧ σ 104 0 = nI n ∧ ∀ S : gS, S 106 0 = nI n → S 103 = σ 103 → MX B n S := by
  obtain ⟨n, hn, e16, e104, hb⟩ := h
  refine ⟨fun j => if j < n then σ 15 j else -1, n, ⟨hn, fun j hj => ?_, fun j hj => ?_⟩, ⟨e16, fun j hj => ?_⟩, e104, fun S h6 h3 => ⟨h6, fun j hj => ?_⟩⟩
  · have := b_and2 (hb j (by omega)).2
    dsimp only
    rw [if_pos hj, (hb j (by omega)).1]
    exact this.1
  · dsimp only
    rw [if_neg (by omega)]
  · dsimp only
    rw [if_pos hj]
  · have := b_and2 (hb j (by omega)).2
    dsimp only
    have e : (if j < n then σ 15 j else -1) = σ 103 j &&& 255 := by rw [if_pos hj]; exact (hb j (by omega)).1
    simp only [e]
    rw [h3]
    exact this.2
section PLIC
variable {Q : Unit} {LN : Nat} {xs : Nat → Int32} {k23 : Int32 → gS → Prop} {x4 : Int32} {σ : gS}
theorem cs_licence (hN : RN σ) (hT : RT σ) (hL : RLc σ) (K : ∀ σ', RN σ' → RT σ' → RLc σ' → ag (fun k => kN k ∨ kT k ∨ kLc k ∨ scr k) σ σ' → k23 (x4 + 6) σ') : w_L_law_1439 Q LN xs k23 x4 σ := by
  obtain ⟨B, n, hB, hC, e104, hMX⟩ := RT_BT hT
  obtain ⟨T0, j, j', t1, t2, t3, t4, t5, t6, t7⟩ := id hL
  have hn := hB.1
  have hj : (gtk j = 0 ∧ gtk j' = 5) ∨ (gtk j = 5 ∧ gtk j' = 0) := by rcases t2 with ⟨rfl, rfl⟩ | ⟨rfl, rfl⟩ <;> decide
  have gj : gtj (gtv j) = j := gtj_v (by omega)
  have gj' : gtj (gtv j') = j' := gtj_v (by omega)
  have bg : ∀ {s S : gS} (P : Nat → Prop), ag (kC j') σ s → ag P s S → (∀ k, P k → kN k ∨ kT k ∨ kLc k ∨ scr k) → ag (fun k => kN k ∨ kT k ∨ kLc k ∨ scr k) σ S := fun P a b h => ag_tr (ag_mono a (fun k hk => by unfold kC at hk; unfold kN kT kLc scr; omega)) (ag_mono b h)
  have RTz : ∀ {S : gS}, S 15 = σ 15 → S 103 = σ 103 → S 16 0 = 0 → S 104 0 = 0 → RT S := fun e1 e2 e3 e4 => by
    obtain ⟨n, hn, e16, e104, hb⟩ := hT
    exact ⟨0, by omega, by rw [e3]; rfl, by rw [e4]; rfl, fun i hi => by rw [e1, e2]; exact hb i hi⟩
  have RNz : ∀ {S : gS}, S 13 = σ 13 → S 93 = σ 93 → S 10 = σ 10 → S 102 = σ 102 → S 14 0 = S 108 0 → RN S := fun e1 e2 e3 e4 e5 => by
    refine ⟨by rw [e1, e2]; exact hN.1, by rw [e2]; exact hN.2.1, by rw [e3, e4]; exact hN.2.2.1, e5⟩
  unfold w_L_law_1439 w_L_licence w_X8_licence
  rw [t4, gj']
  refine p_into hB hC (fun s T h1 h2 a e4 M => ?_) (fun s b hb a M => ?_)
  · rintro _ rfl _ rfl
    refine q_T (by rw [gu_ne (by omega), gu_eq]) ?_
    have z12 : (gu (gu s 14 0 (-1)) 16 0 0) 12 0 = gtv j' := by rw [gu_ne (by omega), gu_ne (by omega), a 12 (by unfold kC; omega)]; exact t4
    have z11 : (gu (gu s 14 0 (-1)) 16 0 0) 11 0 = gtv j := by rw [gu_ne (by omega), gu_ne (by omega), a 11 (by unfold kC; omega)]; exact t3
    rw [z12, z11, gj, gj']
    rintro _ rfl _ rfl _ rfl
    have y11 : (gu (gu (gu (gu s 14 0 (-1)) 16 0 0) 11 0 (gtv j')) 12 0 (gtv j)) 11 0 = gtv j' := by rw [gu_ne (by omega), gu_eq]
    rw [y11, gj']
    have y4 : (gu (gu (gu (gu s 14 0 (-1)) 16 0 0) 11 0 (gtv j')) 12 0 (gtv j)) (gtk j' + 4) 0 = nI T := by rw [gu_ne (by omega), gu_ne (by omega), gu_ne (by omega), gu_ne (by omega)]; exact e4
    rw [y4]
    unfold w_X9_licence w_X9_readAll
    rintro _ rfl _ rfl _ rfl _ rfl
    refine ⟨13, M _ _ (hMX _ ?_ ?_) gu_eq (fun S a2 d => ?_)⟩
    · simp only [Nat.add_one_sub_one, forall_eq, true_and, and_true, true_implies, not_true_eq_false, not_false_eq_true, false_implies, implies_true, ne_eq, Nat.reduceEqDiff, Nat.reduceAdd, Nat.reduceMul, Nat.reduceLT, Nat.reduceLeDiff, and_self, gu_eq, gu_ne, gu_ne2]; rw [a 104 (by unfold kC; omega)]; exact e104
    · simp only [Nat.add_one_sub_one, forall_eq, true_and, and_true, true_implies, not_true_eq_false, not_false_eq_true, false_implies, implies_true, ne_eq, Nat.reduceEqDiff, Nat.reduceAdd, Nat.reduceMul, Nat.reduceLT, Nat.reduceLeDiff, and_self, gu_eq, gu_ne, gu_ne2]; rw [a 103 (by unfold kC; omega)]
    have v14 : S 14 0 = -1 := by rw [a2 14 (by unfold kLi; omega)]; simp only [Nat.add_one_sub_one, forall_eq, true_and, and_true, true_implies, not_true_eq_false, not_false_eq_true, false_implies, implies_true, ne_eq, Nat.reduceEqDiff, Nat.reduceAdd, Nat.reduceMul, Nat.reduceLT, Nat.reduceLeDiff, and_self, gu_eq, gu_ne, gu_ne2]
    have v16 : S 16 0 = 0 := by rw [a2 16 (by unfold kLi; omega)]; simp only [Nat.add_one_sub_one, forall_eq, true_and, and_true, true_implies, not_true_eq_false, not_false_eq_true, false_implies, implies_true, ne_eq, Nat.reduceEqDiff, Nat.reduceAdd, Nat.reduceMul, Nat.reduceLT, Nat.reduceLeDiff, and_self, gu_eq, gu_ne, gu_ne2]
    have v11 : S 11 0 = gtv j' := by rw [a2 11 (by unfold kLi; omega)]; simp only [Nat.add_one_sub_one, forall_eq, true_and, and_true, true_implies, not_true_eq_false, not_false_eq_true, false_implies, implies_true, ne_eq, Nat.reduceEqDiff, Nat.reduceAdd, Nat.reduceMul, Nat.reduceLT, Nat.reduceLeDiff, and_self, gu_eq, gu_ne, gu_ne2]
    have v12 : S 12 0 = gtv j := by rw [a2 12 (by unfold kLi; omega)]; simp only [Nat.add_one_sub_one, forall_eq, true_and, and_true, true_implies, not_true_eq_false, not_false_eq_true, false_implies, implies_true, ne_eq, Nat.reduceEqDiff, Nat.reduceAdd, Nat.reduceMul, Nat.reduceLT, Nat.reduceLeDiff, and_self, gu_eq, gu_ne, gu_ne2]
    have v63 : S 63 0 = 0 := by rw [a2 63 (by unfold kLi; omega)]; simp only [Nat.add_one_sub_one, forall_eq, true_and, and_true, true_implies, not_true_eq_false, not_false_eq_true, false_implies, implies_true, ne_eq, Nat.reduceEqDiff, Nat.reduceAdd, Nat.reduceMul, Nat.reduceLT, Nat.reduceLeDiff, and_self, gu_eq, gu_ne, gu_ne2]
    have v110 : S 110 0 = nI T := by rw [a2 110 (by unfold kLi; omega)]; simp only [Nat.add_one_sub_one, forall_eq, true_and, and_true, true_implies, not_true_eq_false, not_false_eq_true, false_implies, implies_true, ne_eq, Nat.reduceEqDiff, Nat.reduceAdd, Nat.reduceMul, Nat.reduceLT, Nat.reduceLeDiff, and_self, gu_eq, gu_ne, gu_ne2, nI_clamp0]
    have v104 : S 104 0 = 0 := by rw [a2 104 (by unfold kLi; omega)]; simp only [Nat.add_one_sub_one, forall_eq, true_and, and_true, true_implies, not_true_eq_false, not_false_eq_true, false_implies, implies_true, ne_eq, Nat.reduceEqDiff, Nat.reduceAdd, Nat.reduceMul, Nat.reduceLT, Nat.reduceLeDiff, and_self, gu_eq, gu_ne, gu_ne2]
    have vr : ∀ x, x ≤ 4 → S (gtk j' + x) = s (gtk j' + x) := fun x hx => by
      rw [a2 _ (by unfold kLi; omega), gu_ne (by omega), gu_ne (by omega), gu_ne (by omega), gu_ne (by omega), gu_ne (by omega), gu_ne (by omega), gu_ne (by omega), gu_ne (by omega), gu_ne (by omega)]
    have aS : ag (fun k => k = 14 ∨ k = 16 ∨ k = 11 ∨ k = 12 ∨ k = 110 ∨ k = 63 ∨ k = 106 ∨ k = 104 ∨ k = 105 ∨ kLi k) s S := by
      refine ag_tr ?_ (ag_mono a2 (fun k hk => by unfold kLi at hk ⊢; omega))
      repeat (first | exact ag_rf | refine ag_gu' (by omega) ?_)
    have aA : ag (fun k => kC j' k ∨ k = 14 ∨ k = 16 ∨ k = 11 ∨ k = 12 ∨ k = 110 ∨ k = 63 ∨ k = 106 ∨ k = 104 ∨ k = 105 ∨ kLi k) σ S := ag_tr (ag_mono a (fun k hk => Or.inl hk)) (ag_mono aS (fun k hk => Or.inr hk))
    unfold w_X9_licence_23 w_X9_licence_36
    refine q_T (nI_pos' (by omega)) ?_
    rintro _ rfl
    refine q_T (nI_pos' (by omega)) (r_t0 (q_T rfl ?_))
    rintro _ rfl
    refine m_copy h2 (fun F aF hF => ?_)
    have f : ∀ k, k ≠ 99 → k ≠ 101 → k ≠ 108 → F k = S k := fun k q1 q2 q3 => by rw [aF k (by omega), gu_ne q2, gu_ne q3]
    have f2 : ∀ k, k ≠ 99 → k ≠ 101 → k ≠ 108 → ¬ (kC j' k ∨ k = 14 ∨ k = 16 ∨ k = 11 ∨ k = 12 ∨ k = 110 ∨ k = 63 ∨ k = 106 ∨ k = 104 ∨ k = 105 ∨ kLi k) → F k = σ k := fun k q1 q2 q3 q4 => by rw [f k q1 q2 q3, aA k q4]
    refine tl_i (by rw [f 63 (by omega) (by omega) (by omega)]; exact v63) (fun _ => by rw [f 110 (by omega) (by omega) (by omega)]; exact v110) (K F (RNz ?_ ?_ ?_ ?_ ?_) (RTz ?_ ?_ ?_ ?_) ⟨T, j', j, h2, by omega, ?_, ?_, ?_, ?_, ?_⟩ ?_)
    · exact f2 13 (by omega) (by omega) (by omega) (by unfold kC kLi; omega)
    · exact f2 93 (by omega) (by omega) (by omega) (by unfold kC kLi; omega)
    · exact f2 10 (by omega) (by omega) (by omega) (by unfold kC kLi; omega)
    · exact f2 102 (by omega) (by omega) (by omega) (by unfold kC kLi; omega)
    · rw [f 14 (by omega) (by omega) (by omega), v14, aF 108 (by omega), gu_ne (by omega), gu_eq]
    · exact f2 15 (by omega) (by omega) (by omega) (by unfold kC kLi; omega)
    · exact f2 103 (by omega) (by omega) (by omega) (by unfold kC kLi; omega)
    · rw [f 16 (by omega) (by omega) (by omega)]; exact v16
    · rw [f 104 (by omega) (by omega) (by omega)]; exact v104
    · rw [f 11 (by omega) (by omega) (by omega)]; exact v11
    · rw [f 12 (by omega) (by omega) (by omega)]; exact v12
    · rw [f _ (by omega) (by omega) (by omega), vr 4 (by omega)]; exact e4
    · rw [aF 101 (by omega), gu_eq]
    · refine d.cong (fun x hx => ?_) (fun y hy => ?_)
      · rw [f _ (by omega) (by omega) (by omega), vr x (by omega)]
      · rw [hF y hy, gu_ne (by omega), gu_ne (by omega)]
    · refine bg (fun k => k = 99 ∨ k = 101 ∨ k = 108 ∨ (k = 14 ∨ k = 16 ∨ k = 11 ∨ k = 12 ∨ k = 110 ∨ k = 63 ∨ k = 106 ∨ k = 104 ∨ k = 105 ∨ kLi k)) a ?_ (fun k hk => by unfold kLi at hk; unfold kN kT kLc scr; omega)
      exact ag_tr (ag_mono aS (fun k hk => by unfold kLi at hk ⊢; omega)) (fun k hk => f k (by omega) (by omega) (by omega))
  · rintro _ rfl _ rfl
    refine q_F (by rw [gu_ne (by omega), gu_eq, nI_eqm1 (by omega)]; exact id) (q_T rfl ?_)
    unfold w_X9_licence w_X9_readAll
    rintro _ rfl _ rfl _ rfl _ rfl
    refine ⟨13, M _ _ (hMX _ ?_ ?_) gu_eq (fun S a2 g => ?_)⟩
    · simp only [Nat.add_one_sub_one, forall_eq, true_and, and_true, true_implies, not_true_eq_false, not_false_eq_true, false_implies, implies_true, ne_eq, Nat.reduceEqDiff, Nat.reduceAdd, Nat.reduceMul, Nat.reduceLT, Nat.reduceLeDiff, and_self, gu_eq, gu_ne, gu_ne2]; rw [a 104 (by unfold kC; omega)]; exact e104
    · simp only [Nat.add_one_sub_one, forall_eq, true_and, and_true, true_implies, not_true_eq_false, not_false_eq_true, false_implies, implies_true, ne_eq, Nat.reduceEqDiff, Nat.reduceAdd, Nat.reduceMul, Nat.reduceLT, Nat.reduceLeDiff, and_self, gu_eq, gu_ne, gu_ne2]; rw [a 103 (by unfold kC; omega)]
    have v14 : S 14 0 = nI b := by rw [a2 14 (by unfold kLi; omega)]; simp only [Nat.add_one_sub_one, forall_eq, true_and, and_true, true_implies, not_true_eq_false, not_false_eq_true, false_implies, implies_true, ne_eq, Nat.reduceEqDiff, Nat.reduceAdd, Nat.reduceMul, Nat.reduceLT, Nat.reduceLeDiff, and_self, gu_eq, gu_ne, gu_ne2]
    have v16 : S 16 0 = 0 := by rw [a2 16 (by unfold kLi; omega)]; simp only [Nat.add_one_sub_one, forall_eq, true_and, and_true, true_implies, not_true_eq_false, not_false_eq_true, false_implies, implies_true, ne_eq, Nat.reduceEqDiff, Nat.reduceAdd, Nat.reduceMul, Nat.reduceLT, Nat.reduceLeDiff, and_self, gu_eq, gu_ne, gu_ne2]
    have v104 : S 104 0 = 0 := by rw [a2 104 (by unfold kLi; omega)]; simp only [Nat.add_one_sub_one, forall_eq, true_and, and_true, true_implies, not_true_eq_false, not_false_eq_true, false_implies, implies_true, ne_eq, Nat.reduceEqDiff, Nat.reduceAdd, Nat.reduceMul, Nat.reduceLT, Nat.reduceLeDiff, and_self, gu_eq, gu_ne, gu_ne2]
    have aS : ag (fun k => k = 14 ∨ k = 16 ∨ k = 63 ∨ k = 106 ∨ k = 104 ∨ k = 105 ∨ kLi k) s S := by
      refine ag_tr ?_ (ag_mono a2 (fun k hk => by unfold kLi at hk ⊢; omega))
      repeat (first | exact ag_rf | refine ag_gu' (by omega) ?_)
    have aA : ag (fun k => kC j' k ∨ k = 14 ∨ k = 16 ∨ k = 63 ∨ k = 106 ∨ k = 104 ∨ k = 105 ∨ kLi k) σ S := ag_tr (ag_mono a (fun k hk => Or.inl hk)) (ag_mono aS (fun k hk => Or.inr hk))
    unfold w_X9_licence_23 w_X9_licence_36
    refine q_F (by decide) ?_
    rintro _ rfl
    refine q_F (by decide) (r_t1 (q_F (by decide) ?_))
    rw [g]
    have f : ∀ k, k ≠ 63 → k ≠ 108 → (gu (gu S 108 0 (nI b)) 63 0 1) k = S k := fun k q1 q2 => by rw [gu_ne q1, gu_ne q2]
    have f2 : ∀ k, k ≠ 63 → k ≠ 108 → ¬ (kC j' k ∨ k = 14 ∨ k = 16 ∨ k = 63 ∨ k = 106 ∨ k = 104 ∨ k = 105 ∨ kLi k) → (gu (gu S 108 0 (nI b)) 63 0 1) k = σ k := fun k q1 q2 q4 => by rw [f k q1 q2, aA k q4]
    refine tl_i gu_eq (fun q => absurd q (by decide)) (K _ (RNz ?_ ?_ ?_ ?_ ?_) (RTz ?_ ?_ ?_ ?_) ⟨T0, j, j', t1, t2, ?_, ?_, ?_, ?_, ?_⟩ ?_)
    · exact f2 13 (by omega) (by omega) (by unfold kC kLi; omega)
    · exact f2 93 (by omega) (by omega) (by unfold kC kLi; omega)
    · exact f2 10 (by omega) (by omega) (by unfold kC kLi; omega)
    · exact f2 102 (by omega) (by omega) (by unfold kC kLi; omega)
    · rw [f 14 (by omega) (by omega), v14, gu_ne (by omega), gu_eq]
    · exact f2 15 (by omega) (by omega) (by unfold kC kLi; omega)
    · exact f2 103 (by omega) (by omega) (by unfold kC kLi; omega)
    · rw [f 16 (by omega) (by omega)]; exact v16
    · rw [f 104 (by omega) (by omega)]; exact v104
    · rw [f2 11 (by omega) (by omega) (by unfold kC kLi; omega)]; exact t3
    · rw [f2 12 (by omega) (by omega) (by unfold kC kLi; omega)]; exact t4
    · rw [f2 _ (by omega) (by omega) (by unfold kC kLi; omega)]; exact t5
    · rw [f2 101 (by omega) (by omega) (by unfold kC kLi; omega)]; exact t6
    · refine t7.cong (fun x hx => ?_) (fun y hy => ?_)
      · rw [f2 _ (by omega) (by omega) (by unfold kC kLi; omega)]
      · rw [f2 99 (by omega) (by omega) (by unfold kC kLi; omega)]
    · refine bg (fun k => k = 108 ∨ (k = 14 ∨ k = 16 ∨ k = 63 ∨ k = 106 ∨ k = 104 ∨ k = 105 ∨ kLi k)) a ?_ (fun k hk => by unfold kLi at hk; unfold kN kT kLc scr; omega)
      exact ag_tr (ag_mono aS (fun k hk => by unfold kLi at hk ⊢; omega)) (ag_gu' (by omega) (ag_gu' (by omega) ag_rf))
end PLIC
