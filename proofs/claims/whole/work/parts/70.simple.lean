/-! SIMPLE CASES -/
theorem r_in {Q : Int32 → gS → Prop} {σ : gS} {a l h : Int32} (t : l.toInt ≤ a.toInt ∧ a.toInt ≤ h.toInt → Q 1 σ) (f : ¬ (l.toInt ≤ a.toInt ∧ a.toInt ≤ h.toInt) → Q 0 σ) : w_X9_in Q σ a l h :=
  p_in (fun c => t (by simpa only [i_le] using c)) (fun c => f (by simpa only [i_le] using c))
theorem r_rn {Q : gS → Prop} {X : Nat → gS → Prop} {σ : gS} {a l h : Int32} (t : l.toInt ≤ a.toInt ∧ a.toInt ≤ h.toInt → Q σ) (f : ¬ (l.toInt ≤ a.toInt ∧ a.toInt ≤ h.toInt) → X 1 σ) : w_X8_requireNumber Q X σ a l h :=
  p_rn (fun c => t (by simpa only [i_le] using c)) (fun c => f (by simpa only [i_le] using c))
theorem r_ri {Q : gS → Prop} {X : Nat → gS → Prop} {σ : gS} {a n : Int32} (t : 0 ≤ a.toInt ∧ a.toInt < n.toInt → Q σ) (f : ¬ (0 ≤ a.toInt ∧ a.toInt < n.toInt) → X 0 σ) : w_X8_requireIndex Q X σ a n :=
  p_ri (fun c => t (by simpa only [i_le, i_lt, t_0] using c)) (fun c => f (by simpa only [i_le, i_lt, t_0] using c))
theorem r_ns {Q : Int32 → gS → Prop} {σ : gS} {a : Int32} (t : 0 ≤ a.toInt ∧ a.toInt < 192 → Q 0 σ) (f : ¬ (0 ≤ a.toInt ∧ a.toInt < 192) → Q 1 σ) : w_X9_noSquare Q σ a := by
  unfold w_X9_noSquare
  have h1 : (191 : Int32).toInt = 191 := rfl
  exact r_in (fun c => q_nF (by decide) (t (by rw [t_0, h1] at c; omega))) (fun c => q_nT rfl (f (by rw [t_0, h1] at c; omega)))
theorem r_np {Q : Int32 → gS → Prop} {σ : gS} {a : Int32} {P : Nat} (hP : P ≤ 60) (e : σ 71 0 = nI P) (t : 0 ≤ a.toInt ∧ a.toInt < P → Q 0 σ) (f : ¬ (0 ≤ a.toInt ∧ a.toInt < P) → Q 1 σ) : w_X9_noPlace Q σ a := by
  unfold w_X9_noPlace
  have h1 : (σ 71 0 - 1).toInt = (P : Int) - 1 := by rw [e, i_sub (by rw [t_n (by omega), t_1]; omega) (by rw [t_n (by omega), t_1]; omega), t_n (by omega), t_1]
  exact r_in (fun c => q_nF (by decide) (t (by rw [t_0, h1] at c; omega))) (fun c => q_nT rfl (f (by rw [t_0, h1] at c; omega)))
theorem r_t0 {Q : Int32 → gS → Prop} {σ : gS} {k : Int32} (h : Q 0 σ) : w_X9_throwsIf Q σ 0 k := p_throwsIf (Or.inl rfl) (fun h => absurd h (by decide)) (fun _ => h)
theorem r_t1 {Q : Int32 → gS → Prop} {σ : gS} {k : Int32} (h : Q 1 (gu σ 63 0 k)) : w_X9_throwsIf Q σ 1 k := p_throwsIf (Or.inr rfl) (fun _ => h) (fun h => absurd h (by decide))
theorem s63 : scr 63 := by unfold scr; omega
theorem s110 : scr 110 := by unfold scr; omega
theorem scr_N {k : Nat} (h : kN k) : ¬ scr k := by unfold kN at h; unfold scr; omega
theorem scr_T {k : Nat} (h : kT k) : ¬ scr k := by unfold kT at h; unfold scr; omega
theorem scr_M {k : Nat} (h : kM k) : ¬ scr k := by unfold kM at h; unfold scr; omega
theorem RN.s {σ σ' : gS} (h : RN σ) (e : ag scr σ σ') : RN σ' := h.cong (fun k hk => e k (scr_N hk))
theorem RT.s {σ σ' : gS} (h : RT σ) (e : ag scr σ σ') : RT σ' := h.cong (fun k hk => e k (scr_T hk))
theorem RM.s {σ σ' : gS} (h : RM σ) (e : ag scr σ σ') : RM σ' := h.cong (fun k hk => e k (scr_M hk))
theorem tl_i0 {k23 : Int32 → gS → Prop} {x4 b : Int32} {s : gS} (e1 : s 63 0 = 0) (e2 : s 110 0 = b) (k : k23 (x4 + 6) s) : w_X9_thrown (fun (r : Int32) (s1 : gS) => (r = 0 → ((lg_cmp ((s1 110 0).toInt64) (b.toInt64)) = 0 → k23 (x4 + 6) s1) ∧ (¬ (lg_cmp ((s1 110 0).toInt64) (b.toInt64)) = 0 → False)) ∧ (¬ r = 0 → False)) s := by
  unfold w_X9_thrown
  exact ⟨fun _ => ⟨fun _ => k, fun q => q (by rw [lg_eq, e2])⟩, fun q => q e1⟩
section PSIM
variable {Q : Unit} {LN : Nat} {xs : Nat → Int32} {k23 : Int32 → gS → Prop} {x4 : Int32} {σ : gS}
theorem cs_minutes (h1 : vp_in (x4 + 1) LN) (hR : RN σ) (K : ∀ σ', RN σ' → ag (fun k => kN k ∨ scr k) σ σ' → k23 (x4 + 6) σ') : w_L_law_1087 Q LN xs k23 x4 σ := by
  unfold w_L_law_1087 w_L_minutes w_X8_minutes
  generalize xs (x4 + 1).toNatClampNeg = a
  have h2000 : (2000 : Int32).toInt = 2000 := rfl
  refine ⟨h1, r_rn (fun c => ?_) (fun c => ?_)⟩
  · rw [t_0, h2000] at c
    obtain ⟨e1, ⟨n0, n1⟩, e2, e3⟩ := hR
    rintro _ rfl _ rfl
    refine ⟨h1, ?_⟩
    unfold w_X9_minutes w_X9_minutes_22
    rintro _ rfl
    refine r_in (fun _ => q_nF (by decide) (r_t0 (q_T rfl ?_))) (fun q => absurd c (by rw [t_0, h2000] at q; exact q))
    rintro _ rfl
    have ha : (σ 93 0 + a).toInt = (σ 93 0).toInt + a.toInt := i_add (by omega) (by omega)
    have h10000 : (10000 : Int32).toInt = 10000 := rfl
    simp only [Nat.add_one_sub_one, forall_eq, true_and, and_true, true_implies, not_true_eq_false, not_false_eq_true, false_implies, implies_true, ne_eq, Nat.reduceEqDiff, Nat.reduceAdd, Nat.reduceMul, Nat.reduceLT, Nat.reduceLeDiff, and_self, gu_eq, gu_ne, gu_ne2, cl0, e1]
    have hm : (if σ 93 0 + a < 10000 then σ 93 0 + a else 10000).toInt = min ((σ 93 0).toInt + a.toInt) 10000 := by rw [i_mins, ha, h10000]
    generalize (if σ 93 0 + a < 10000 then σ 93 0 + a else 10000) = v at *
    refine tl_i0 ?_ ?_ (K _ ⟨?_, ?_, fun j hj => ?_, ?_⟩ ?_)
    · simp only [Nat.add_one_sub_one, forall_eq, true_and, and_true, true_implies, not_true_eq_false, not_false_eq_true, false_implies, implies_true, ne_eq, Nat.reduceEqDiff, Nat.reduceAdd, Nat.reduceMul, Nat.reduceLT, Nat.reduceLeDiff, and_self, gu_eq, gu_ne, gu_ne2]
    · simp only [Nat.add_one_sub_one, forall_eq, true_and, and_true, true_implies, not_true_eq_false, not_false_eq_true, false_implies, implies_true, ne_eq, Nat.reduceEqDiff, Nat.reduceAdd, Nat.reduceMul, Nat.reduceLT, Nat.reduceLeDiff, and_self, gu_eq, gu_ne, gu_ne2]
    · simp only [Nat.add_one_sub_one, forall_eq, true_and, and_true, true_implies, not_true_eq_false, not_false_eq_true, false_implies, implies_true, ne_eq, Nat.reduceEqDiff, Nat.reduceAdd, Nat.reduceMul, Nat.reduceLT, Nat.reduceLeDiff, and_self, gu_eq, gu_ne, gu_ne2]
    · simp only [Nat.add_one_sub_one, forall_eq, true_and, and_true, true_implies, not_true_eq_false, not_false_eq_true, false_implies, implies_true, ne_eq, Nat.reduceEqDiff, Nat.reduceAdd, Nat.reduceMul, Nat.reduceLT, Nat.reduceLeDiff, and_self, gu_eq, gu_ne, gu_ne2]; omega
    · simp only [Nat.add_one_sub_one, forall_eq, true_and, and_true, true_implies, not_true_eq_false, not_false_eq_true, false_implies, implies_true, ne_eq, Nat.reduceEqDiff, Nat.reduceAdd, Nat.reduceMul, Nat.reduceLT, Nat.reduceLeDiff, and_self, gu_eq, gu_ne, gu_ne2]; exact e2 j hj
    · simp only [Nat.add_one_sub_one, forall_eq, true_and, and_true, true_implies, not_true_eq_false, not_false_eq_true, false_implies, implies_true, ne_eq, Nat.reduceEqDiff, Nat.reduceAdd, Nat.reduceMul, Nat.reduceLT, Nat.reduceLeDiff, and_self, gu_eq, gu_ne, gu_ne2]; exact e3
    · repeat (first | exact ag_rf | refine ag_gu' (by simp [scr, kN]) ?_)
  · rw [t_0, h2000] at c
    refine q_T rfl ⟨h1, ?_⟩
    unfold w_X9_minutes w_X9_minutes_22
    rintro _ rfl
    refine r_in (fun q => absurd q (by rw [t_0, h2000]; exact c)) (fun _ => q_nT rfl (r_t1 (q_F (by decide) ?_)))
    have A : ag scr σ (gu (gu σ 63 0 0) 63 0 1) := ag_gu' s63 (ag_gu' s63 ag_rf)
    exact tl_i (gu_eq) (fun q => absurd q (by decide)) (K _ (hR.s A) (ag_mono A (fun k hk => Or.inr hk)))
theorem cs_noise (h1 : vp_in (x4 + 1) LN) (h2 : vp_in (x4 + 2) LN) (hR : RN σ) (K : ∀ σ', RN σ' → ag (fun k => kN k ∨ scr k) σ σ' → k23 (x4 + 6) σ') : w_L_law_1391 Q LN xs k23 x4 σ := by
  unfold w_L_law_1391 w_L_noise w_X8_noise
  generalize xs (x4 + 1).toNatClampNeg = a
  generalize xs (x4 + 2).toNatClampNeg = b
  have h23 : (23 : Int32).toInt = 23 := rfl
  have h200 : (200 : Int32).toInt = 200 := rfl
  have A : ag scr σ (gu (gu σ 63 0 0) 63 0 1) := ag_gu' s63 (ag_gu' s63 ag_rf)
  have bad : w_X9_noise_32 (fun (s403 : gS) => w_X9_thrown  (fun (r406 : Int32) (s405 : gS) => (r406 = 1 → ∀ y408 : Int32, y408 = x4 + 6 → k23 y408 s405) ∧ (¬ r406 = 1 → False)) s403) a b 1 (gu σ 63 0 0) := r_t1 (q_F (by decide) (tl_v gu_eq (K _ (hR.s A) (ag_mono A (fun k hk => Or.inr hk)))))
  refine ⟨h1, h2, r_rn (fun c => r_rn (fun c2 => ?_) (fun c2 => ?_)) (fun c => ?_)⟩
  · obtain ⟨j, -, rfl, ej⟩ := i_ex (x := a) (by rw [t_0] at c; omega)
    rw [t_0, h23] at c
    refine ⟨vp_in_nI (by omega) (by omega), ?_⟩
    rintro _ rfl
    refine ⟨h1, h2, ?_⟩
    unfold w_X9_noise
    rintro _ rfl
    refine r_in (fun _ => q_F (by decide) (r_in (fun _ => q_nF (by decide) (r_t0 (q_T rfl ⟨vp_in_nI (by omega) (by omega), ?_⟩))) (fun q => absurd c2 q))) (fun q => absurd c q)
    rintro _ rfl
    obtain ⟨e1, e4, e2, e3⟩ := hR
    refine tl_v ?_ (K _ ⟨?_, ?_, fun i hi => ?_, ?_⟩ ?_)
    · simp only [Nat.add_one_sub_one, forall_eq, true_and, and_true, true_implies, not_true_eq_false, not_false_eq_true, false_implies, implies_true, ne_eq, Nat.reduceEqDiff, Nat.reduceAdd, Nat.reduceMul, Nat.reduceLT, Nat.reduceLeDiff, and_self, gu_eq, gu_ne, gu_ne2]
    · simp only [Nat.add_one_sub_one, forall_eq, true_and, and_true, true_implies, not_true_eq_false, not_false_eq_true, false_implies, implies_true, ne_eq, Nat.reduceEqDiff, Nat.reduceAdd, Nat.reduceMul, Nat.reduceLT, Nat.reduceLeDiff, and_self, gu_eq, gu_ne, gu_ne2]; exact e1
    · simp only [Nat.add_one_sub_one, forall_eq, true_and, and_true, true_implies, not_true_eq_false, not_false_eq_true, false_implies, implies_true, ne_eq, Nat.reduceEqDiff, Nat.reduceAdd, Nat.reduceMul, Nat.reduceLT, Nat.reduceLeDiff, and_self, gu_eq, gu_ne, gu_ne2]; exact e4
    · rw [nI_clamp (by omega)]
      simp only [Nat.add_one_sub_one, forall_eq, true_and, and_true, true_implies, not_true_eq_false, not_false_eq_true, false_implies, implies_true, ne_eq, Nat.reduceEqDiff, Nat.reduceAdd, Nat.reduceMul, Nat.reduceLT, Nat.reduceLeDiff, and_self, gu_eq, gu_ne, gu_ne2, gu_at, e2 i hi]
    · simp only [Nat.add_one_sub_one, forall_eq, true_and, and_true, true_implies, not_true_eq_false, not_false_eq_true, false_implies, implies_true, ne_eq, Nat.reduceEqDiff, Nat.reduceAdd, Nat.reduceMul, Nat.reduceLT, Nat.reduceLeDiff, and_self, gu_eq, gu_ne, gu_ne2]; exact e3
    · repeat (first | exact ag_rf | refine ag_gu' (by simp [scr, kN]) ?_)
  · refine q_T rfl ⟨h1, h2, ?_⟩
    unfold w_X9_noise
    rintro _ rfl
    exact r_in (fun _ => q_F (by decide) (r_in (fun q => absurd q c2) (fun _ => q_nT rfl bad))) (fun q => absurd c q)
  · refine q_T rfl ⟨h1, h2, ?_⟩
    unfold w_X9_noise
    rintro _ rfl
    exact r_in (fun q => absurd q c) (fun _ => q_T rfl bad)
theorem cs_fault (hR : RN σ) (K : ∀ σ', RN σ' → ag (fun k => kN k ∨ scr k) σ σ' → k23 (x4 + 6) σ') : w_L_law_1483 Q LN xs k23 x4 σ := by
  unfold w_L_law_1483 w_X8_fault w_X9_fault
  rintro _ rfl
  have A : ag scr σ (gu σ 63 0 0) := ag_gu' s63 ag_rf
  refine tl_e ?_ (K _ (hR.s A) (ag_mono A (fun k hk => Or.inr hk)))
  simp only [Nat.add_one_sub_one, forall_eq, true_and, and_true, true_implies, not_true_eq_false, not_false_eq_true, false_implies, implies_true, ne_eq, Nat.reduceEqDiff, Nat.reduceAdd, Nat.reduceMul, Nat.reduceLT, Nat.reduceLeDiff, and_self, gu_eq, gu_ne, gu_ne2]
  exact hR.2.2.2
theorem cs_end (h1 : vp_in (x4 + 1) LN) (hR : RT σ) (K : ∀ σ', RT σ' → ag (fun k => kT k ∨ scr k) σ σ' → k23 (x4 + 6) σ') : w_L_law_233 Q LN xs k23 x4 σ := by
  unfold w_L_law_233 w_X8_end w_X9_end
  generalize xs (x4 + 1).toNatClampNeg = a
  obtain ⟨n, hn, e1, e2, e3⟩ := id hR
  have A : ag scr σ (gu σ 63 0 0) := ag_gu' s63 ag_rf
  have K0 := K _ (hR.s A) (ag_mono A (fun k hk => Or.inr hk))
  refine ⟨h1, ?_⟩
  simp only [Nat.add_one_sub_one, forall_eq, true_and, and_true, true_implies, not_true_eq_false, not_false_eq_true, false_implies, implies_true, ne_eq, Nat.reduceEqDiff, Nat.reduceAdd, Nat.reduceMul, Nat.reduceLT, Nat.reduceLeDiff, and_self, gu_eq, gu_ne, gu_ne2, e1, e2]
  refine ⟨fun c => ⟨h1, q_T c K0⟩, fun c => ⟨fun c2 => ⟨h1, q_F c (q_T c2 ?_)⟩, fun c2 => ⟨h1, q_F c (q_F c2 K0)⟩⟩⟩
  obtain ⟨j, hj, rfl⟩ := nI_of2 (x := a) (M := nI n) (n := n) (i_nI (by omega)) c c2
  refine K _ ⟨j, by omega, ?_, ?_, fun i hi => ?_⟩ ?_
  · simp only [Nat.add_one_sub_one, forall_eq, true_and, and_true, true_implies, not_true_eq_false, not_false_eq_true, false_implies, implies_true, ne_eq, Nat.reduceEqDiff, Nat.reduceAdd, Nat.reduceMul, Nat.reduceLT, Nat.reduceLeDiff, and_self, gu_eq, gu_ne, gu_ne2]
  · simp only [Nat.add_one_sub_one, forall_eq, true_and, and_true, true_implies, not_true_eq_false, not_false_eq_true, false_implies, implies_true, ne_eq, Nat.reduceEqDiff, Nat.reduceAdd, Nat.reduceMul, Nat.reduceLT, Nat.reduceLeDiff, and_self, gu_eq, gu_ne, gu_ne2]
  · simp only [Nat.add_one_sub_one, forall_eq, true_and, and_true, true_implies, not_true_eq_false, not_false_eq_true, false_implies, implies_true, ne_eq, Nat.reduceEqDiff, Nat.reduceAdd, Nat.reduceMul, Nat.reduceLT, Nat.reduceLeDiff, and_self, gu_eq, gu_ne, gu_ne2]; exact e3 i hi
  · repeat (first | exact ag_rf | refine ag_gu' (by simp [scr, kT]) ?_)
end PSIM
