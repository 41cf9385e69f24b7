/-! THE MEADOW: lane, gate, at, strike -/
theorem T192 : (192 : Int32).toInt = 192 := rfl
theorem nI_eqm2 {n : Nat} (h : n < 2 ^ 31) : ¬ nI n = -2 := by
  intro q
  have := congrArg Int32.toInt q
  rw [nI_toInt h, t_m2] at this
  omega
theorem RM.sq {σ σ' : gS} (h : RM σ) (e : ∀ k, k = 20 ∨ k = 21 ∨ k = 22 ∨ (65 ≤ k ∧ k ≤ 67) → σ' k = σ k) (h1 : ∀ j, j < 192 → σ' 19 j = σ' 64 j) (h2 : ∀ j, j < 192 → σ' 64 j = σ 64 j ∨ ((σ 64 j = -1 ∨ σ 64 j = -2) ∧ (σ' 64 j = -1 ∨ σ' 64 j = -2))) : RM σ' := by
  obtain ⟨g, t, r1, r2, r3, r4, r5, r6, r7, r8, r9, r10, r11⟩ := h
  refine ⟨g, t, r1, r2, ?_, ?_, ?_, ?_, h1, fun j hj => ?_, ?_, fun i hi => ?_, ?_⟩
  · rw [e 20 (by omega)]; exact r3
  · rw [e 67 (by omega)]; exact r4
  · rw [e 21 (by omega)]; exact r5
  · rw [e 66 (by omega)]; exact r6
  · rcases h2 j hj with q | q
    · rw [q]; exact r8 j hj
    · rcases q.2 with q | q
      · exact Or.inl q
      · exact Or.inr (Or.inl q)
  · rw [e 65 (by omega)]; exact r9
  · rw [e 65 (by omega), r10 i hi]
    have hi31 : i < 2 ^ 31 := by omega
    constructor
    · rintro ⟨j, hj, ej⟩
      refine ⟨j, hj, ?_⟩
      rcases h2 j hj with q | ⟨q, -⟩
      · rw [q]; exact ej
      · rcases q with q | q
        · rw [q] at ej; exact absurd ej (by rw [nI_m1eq hi31]; exact id)
        · rw [q] at ej; exact absurd ej.symm (nI_eqm2 hi31)
    · rintro ⟨j, hj, ej⟩
      refine ⟨j, hj, ?_⟩
      rcases h2 j hj with q | ⟨-, q⟩
      · rw [← q]; exact ej
      · rcases q with q | q
        · rw [q] at ej; exact absurd ej (by rw [nI_m1eq hi31]; exact id)
        · rw [q] at ej; exact absurd ej.symm (nI_eqm2 hi31)
  · rw [e 22 (by omega), e 65 (by omega)]; exact r11
def lnB (v : Int32) : Int32 := if v = 0 then -2 else -1
def lnA (v : Int32) : Int32 := if v = 0 then -1 else -2
theorem c_lane {Q : Int32 → gS → Prop} {X : Nat → gS → Prop} {σ : gS} {a v : Int32} (ok1 : ∀ j, j < 192 → a = nI j → σ 19 j = lnB v → Q 1 (gu σ 19 j (lnA v))) (ok0 : ∀ j, j < 192 → a = nI j → ¬ σ 19 j = lnB v → Q 0 σ) (x0 : ¬ (0 ≤ a.toInt ∧ a.toInt < 192) → X 0 σ) : w_X8_lane Q X σ a v := by
  unfold w_X8_lane
  refine r_ri (fun c => ?_) (fun c => x0 c)
  rw [T192] at c
  obtain ⟨j, -, rfl, ej⟩ := i_ex c.1
  have o1 := ok1 j (by omega) rfl
  have o0 := ok0 j (by omega) rfl
  unfold w_X3_setLane w_X3_setLane_10
  simp (disch := omega) only [l_3, l_4, l_6, l_8, l_9, l_10, l_12, l_14, l_16, l_19, l_20, l_23, l_24, l_26, l_28, l_39, l_40, l_56, l_57, l_60, l_192, l_200, l_255, l_299, l_320, l_400, l_1120, l_2000, l_20000, l_10000, l_1000, l_1000000, nI_1, n_2mul, nI_add, pk_mul, pk_sub, sb_m1, nI_clamp, nI_clamp0, vpT, nI_leI, nI_ltI, nI_eq, nI_0le, nI_lt0, nI_le0, nI_0lt, nI_eq0, nI_eqm1, nI_m1eq, Nat.add_one_sub_one, forall_eq, true_and, and_true, true_implies, not_true_eq_false, not_false_eq_true, false_implies, implies_true, ne_eq, Nat.reduceEqDiff, Nat.reduceAdd, Nat.reduceMul, Nat.reduceLT, Nat.reduceLeDiff, and_self, gz_0, gz_1]
  refine ⟨fun c2 => ?_, fun c2 => ?_⟩
  · unfold lnB at o1 o0
    unfold lnA at o1
    rw [if_pos c2] at o1 o0
    rw [if_pos c2] at o1
    exact ⟨fun q => q_T c2 (o1 q), o0⟩
  · unfold lnB at o1 o0
    unfold lnA at o1
    rw [if_neg c2] at o1 o0
    rw [if_neg c2] at o1
    exact ⟨fun q => q_F c2 (o1 q), o0⟩
theorem m_lane {Q : Int32 → gS → Prop} {σ : gS} {a v : Int32} (ok1 : ∀ j, j < 192 → a = nI j → σ 64 j = lnB v → Q 1 (gu (gu σ 63 0 0) 64 j (lnA v))) (ok0 : ∀ j, j < 192 → a = nI j → ¬ σ 64 j = lnB v → Q 0 (gu σ 63 0 0)) (x0 : ¬ (0 ≤ a.toInt ∧ a.toInt < 192) → Q 0 (gu (gu σ 63 0 0) 63 0 1)) : w_X9_lane Q σ a v := by
  unfold w_X9_lane
  rintro _ rfl
  refine r_ns (fun c => r_t0 (q_nT rfl ?_)) (fun c => r_t1 (q_nF (by decide) (x0 c)))
  obtain ⟨j, -, rfl, ej⟩ := i_ex c.1
  have o1 := ok1 j (by omega) rfl
  have o0 := ok0 j (by omega) rfl
  unfold w_X9_lane_33
  simp (disch := omega) only [l_3, l_4, l_6, l_8, l_9, l_10, l_12, l_14, l_16, l_19, l_20, l_23, l_24, l_26, l_28, l_39, l_40, l_56, l_57, l_60, l_192, l_200, l_255, l_299, l_320, l_400, l_1120, l_2000, l_20000, l_10000, l_1000, l_1000000, nI_1, n_2mul, nI_add, pk_mul, pk_sub, sb_m1, nI_clamp, nI_clamp0, vpT, nI_leI, nI_ltI, nI_eq, nI_0le, nI_lt0, nI_le0, nI_0lt, nI_eq0, nI_eqm1, nI_m1eq, Nat.add_one_sub_one, forall_eq, true_and, and_true, true_implies, not_true_eq_false, not_false_eq_true, false_implies, implies_true, ne_eq, Nat.reduceEqDiff, Nat.reduceAdd, Nat.reduceMul, Nat.reduceLT, Nat.reduceLeDiff, and_self, gu_eq, gu_ne, gu_ne2]
  refine ⟨fun c2 => ?_, fun c2 => ?_⟩
  · unfold lnB at o1 o0
    unfold lnA at o1
    rw [if_pos c2] at o1 o0
    rw [if_pos c2] at o1
    exact ⟨fun q => q_T c2 (o1 q), o0⟩
  · unfold lnB at o1 o0
    unfold lnA at o1
    rw [if_neg c2] at o1 o0
    rw [if_neg c2] at o1
    exact ⟨fun q => q_F c2 (o1 q), o0⟩
theorem p_takeDown {Q : Int32 → gS → Prop} {σ : gS} {i : Nat} (hi : i < 60) (kk : ∀ (s : gS) (r : Int32), (r = 0 ∧ ag (fun k => k = 19) σ s ∨ r = 1 ∧ ag (fun k => k = 19 ∨ k = 22) σ s ∧ s 22 = (gu σ 22 0 (σ 22 0 - 1)) 22) → (r = 1 ↔ ∃ j, j < 192 ∧ σ 19 j = nI i) → (∀ j, j < 192 → s 19 j = if σ 19 j = nI i then -1 else σ 19 j) → Q r s) : w_X3_takeDown Q σ (nI i) := by
  have key : ∀ (d j : Nat) (r : Int32) (s : gS), j + d = 192 → (r = 0 ∨ r = 1) → ag (fun k => k = 19) σ s → (r = 1 ↔ ∃ j', j' < j ∧ σ 19 j' = nI i) → (∀ j', j' < 192 → s 19 j' = if σ 19 j' = nI i ∧ j' < j then -1 else σ 19 j') → w_X3_takeDown_4 Q (d + 1) (nI i) r (nI j) s := by
    intro d
    induction d with
    | zero =>
      intro j r s hd hr ha h1 h2
      have : j = 192 := by omega
      subst this
      unfold w_X3_takeDown_4
      simp (disch := omega) only [l_3, l_4, l_6, l_8, l_9, l_10, l_12, l_14, l_16, l_19, l_20, l_23, l_24, l_26, l_28, l_39, l_40, l_56, l_57, l_60, l_192, l_200, l_255, l_299, l_320, l_400, l_1120, l_2000, l_20000, l_10000, l_1000, l_1000000, nI_1, n_2mul, nI_add, pk_mul, pk_sub, sb_m1, nI_clamp, nI_clamp0, vpT, nI_leI, nI_ltI, nI_eq, nI_0le, nI_lt0, nI_le0, nI_0lt, nI_eq0, nI_eqm1, nI_m1eq, Nat.add_one_sub_one, forall_eq, true_and, and_true, true_implies, not_true_eq_false, not_false_eq_true, false_implies, implies_true, ne_eq, Nat.reduceEqDiff, Nat.reduceAdd, Nat.reduceMul, Nat.reduceLT, Nat.reduceLeDiff, and_self]
      have h2' : ∀ j, j < 192 → s 19 j = if σ 19 j = nI i then -1 else σ 19 j := fun j hj => by
        rw [h2 j hj]
        by_cases q : σ 19 j = nI i
        · rw [if_pos ⟨q, hj⟩, if_pos q]
        · rw [if_neg (fun x => q x.1), if_neg q]
      refine ⟨fun c => ⟨gz_of hr, kk s r (Or.inl ⟨c, ha⟩) h1 h2'⟩, fun c => ⟨gz_of hr, kk _ r (Or.inr ⟨hr.resolve_left c, ?_, ?_⟩) h1 (fun j hj => ?_)⟩⟩
      · exact ag_gu' (Or.inr rfl) (ag_mono ha (fun k hk => Or.inl hk))
      · rw [gu_gset, gu_gset, gset_eq, gset_eq, ha 22 (by omega)]
      · rw [gu_ne (by omega)]; exact h2' j hj
    | succ d ih =>
      intro j r s hd hr ha h1 h2
      unfold w_X3_takeDown_4
      simp (disch := omega) only [l_3, l_4, l_6, l_8, l_9, l_10, l_12, l_14, l_16, l_19, l_20, l_23, l_24, l_26, l_28, l_39, l_40, l_56, l_57, l_60, l_192, l_200, l_255, l_299, l_320, l_400, l_1120, l_2000, l_20000, l_10000, l_1000, l_1000000, nI_1, n_2mul, nI_add, pk_mul, pk_sub, sb_m1, nI_clamp, nI_clamp0, vpT, nI_leI, nI_ltI, nI_eq, nI_0le, nI_lt0, nI_le0, nI_0lt, nI_eq0, nI_eqm1, nI_m1eq, Nat.add_one_sub_one, forall_eq, true_and, and_true, true_implies, not_true_eq_false, not_false_eq_true, false_implies, implies_true, ne_eq, Nat.reduceEqDiff, Nat.reduceAdd, Nat.reduceMul, Nat.reduceLT, Nat.reduceLeDiff, and_self]
      refine q_F (by omega) ?_
      have hj := h2 j (by omega)
      rw [if_neg (by omega)] at hj
      rw [hj]
      refine ⟨fun c => ih (j + 1) r s (by omega) hr ha ?_ (fun j' hj' => ?_), fun c => ih (j + 1) 1 _ (by omega) (Or.inr rfl) (ag_gu' rfl ha) ?_ (fun j' hj' => ?_)⟩
      · rw [h1]
        constructor
        · rintro ⟨j', a, b⟩; exact ⟨j', by omega, b⟩
        · rintro ⟨j', a, b⟩
          refine ⟨j', ?_, b⟩
          have : j' ≠ j := fun e => c (by rw [← e]; exact b)
          omega
      · rw [h2 j' hj']
        by_cases q : σ 19 j' = nI i ∧ j' < j
        · rw [if_pos q, if_pos ⟨q.1, by omega⟩]
        · rw [if_neg q, if_neg (fun x => q ⟨x.1, by
            have : j' ≠ j := fun e => c (by rw [← e]; exact x.1)
            have := x.2
            omega⟩)]
      · exact ⟨fun _ => ⟨j, by omega, c⟩, fun _ => rfl⟩
      · rw [gu_at]
        by_cases e : j' = j
        · rw [if_pos e, e, if_pos ⟨c, by omega⟩]
        · rw [if_neg e, h2 j' hj']
          by_cases q : σ 19 j' = nI i ∧ j' < j
          · rw [if_pos q, if_pos ⟨q.1, by omega⟩]
          · rw [if_neg q, if_neg (fun x => q ⟨x.1, by have := x.2; omega⟩)]
  unfold w_X3_takeDown
  have := key 192 0 0 σ (by omega) (Or.inl rfl) ag_rf ⟨fun q => absurd q (by decide), fun ⟨j, a, _⟩ => by omega⟩ (fun j hj => by rw [if_neg (by omega)])
  rw [nI_0] at this
  exact ⟨_, this⟩
theorem p_strike52 {Q : Int32 → gS → Prop} {σ : gS} {i : Nat} (kk : ∀ (s : gS), ag (fun k => k = 64) σ s → (∀ j, j < 192 → s 64 j = if σ 64 j = nI i then -1 else σ 64 j) → Q 1 s) : ∃ n, w_X9_strike_52 Q n (nI i) 0 σ := by
  have key : ∀ (d j : Nat) (s : gS), j + d = 192 → ag (fun k => k = 64) σ s → (∀ j', j' < 192 → s 64 j' = if σ 64 j' = nI i ∧ j' < j then -1 else σ 64 j') → w_X9_strike_52 Q (d + 1) (nI i) (nI j) s := by
    intro d
    induction d with
    | zero =>
      intro j s hd ha h2
      have : j = 192 := by omega
      subst this
      unfold w_X9_strike_52
      simp (disch := omega) only [l_3, l_4, l_6, l_8, l_9, l_10, l_12, l_14, l_16, l_19, l_20, l_23, l_24, l_26, l_28, l_39, l_40, l_56, l_57, l_60, l_192, l_200, l_255, l_299, l_320, l_400, l_1120, l_2000, l_20000, l_10000, l_1000, l_1000000, nI_1, n_2mul, nI_add, pk_mul, pk_sub, sb_m1, nI_clamp, nI_clamp0, vpT, nI_leI, nI_ltI, nI_eq, nI_0le, nI_lt0, nI_le0, nI_0lt, nI_eq0, nI_eqm1, nI_m1eq, Nat.add_one_sub_one, forall_eq, true_and, and_true, true_implies, not_true_eq_false, not_false_eq_true, false_implies, implies_true, ne_eq, Nat.reduceEqDiff, Nat.reduceAdd, Nat.reduceMul, Nat.reduceLT, Nat.reduceLeDiff, and_self]
      refine kk s ha (fun j hj => ?_)
      rw [h2 j hj]
      by_cases q : σ 64 j = nI i
      · rw [if_pos ⟨q, hj⟩, if_pos q]
      · rw [if_neg (fun x => q x.1), if_neg q]
    | succ d ih =>
      intro j s hd ha h2
      unfold w_X9_strike_52
      simp (disch := omega) only [l_3, l_4, l_6, l_8, l_9, l_10, l_12, l_14, l_16, l_19, l_20, l_23, l_24, l_26, l_28, l_39, l_40, l_56, l_57, l_60, l_192, l_200, l_255, l_299, l_320, l_400, l_1120, l_2000, l_20000, l_10000, l_1000, l_1000000, nI_1, n_2mul, nI_add, pk_mul, pk_sub, sb_m1, nI_clamp, nI_clamp0, vpT, nI_leI, nI_ltI, nI_eq, nI_0le, nI_lt0, nI_le0, nI_0lt, nI_eq0, nI_eqm1, nI_m1eq, Nat.add_one_sub_one, forall_eq, true_and, and_true, true_implies, not_true_eq_false, not_false_eq_true, false_implies, implies_true, ne_eq, Nat.reduceEqDiff, Nat.reduceAdd, Nat.reduceMul, Nat.reduceLT, Nat.reduceLeDiff, and_self]
      refine q_F (by omega) ?_
      have hj := h2 j (by omega)
      rw [if_neg (by omega)] at hj
      rw [hj]
      refine ⟨fun c => ih (j + 1) s (by omega) ha (fun j' hj' => ?_), fun c => ih (j + 1) _ (by omega) (ag_gu' rfl ha) (fun j' hj' => ?_)⟩
      · rw [h2 j' hj']
        by_cases q : σ 64 j' = nI i ∧ j' < j
        · rw [if_pos q, if_pos ⟨q.1, by omega⟩]
        · rw [if_neg q, if_neg (fun x => q ⟨x.1, by
            have : j' ≠ j := fun e => c (by rw [← e]; exact x.1)
            have := x.2
            omega⟩)]
      · rw [gu_at]
        by_cases e : j' = j
        · rw [if_pos e, e, if_pos ⟨c, by omega⟩]
        · rw [if_neg e, h2 j' hj']
          by_cases q : σ 64 j' = nI i ∧ j' < j
          · rw [if_pos q, if_pos ⟨q.1, by omega⟩]
          · rw [if_neg q, if_neg (fun x => q ⟨x.1, by have := x.2; omega⟩)]
  have := key 192 0 σ (by omega) ag_rf (fun j hj => by rw [if_neg (by omega)])
  rw [nI_0] at this
  exact ⟨_, this⟩
theorem fcnt_dn {n x : Nat} {p p' : Nat → Bool} (hx : x < n) (h : p x = true) (h' : p' x = false) (ho : ∀ i, i ≠ x → p' i = p i) : fcnt p n = fcnt p' n + 1 := fcnt_up hx h' h (fun i hi => (ho i hi).symm)
section PMEA
variable {Q : Unit} {LN : Nat} {xs : Nat → Int32} {k23 : Int32 → gS → Prop} {x4 : Int32} {σ : gS}
theorem cs_gate (h1 : vp_in (x4 + 1) LN) (hR : RM σ) (K : ∀ σ', RM σ' → ag (fun k => kM k ∨ scr k) σ σ' → k23 (x4 + 6) σ') : w_L_law_349 Q LN xs k23 x4 σ := by
  unfold w_L_law_349 w_L_gate w_X8_gate
  generalize xs (x4 + 1).toNatClampNeg = a
  refine ⟨h1, r_ri (fun c => ?_) (fun c => xx1 ⟨h1, ?_⟩)⟩
  · rw [T192] at c
    obtain ⟨j, -, rfl, ej⟩ := i_ex c.1
    rintro _ rfl
    refine ⟨h1, ?_⟩
    unfold w_X9_gate
    rintro _ rfl
    refine r_ns (fun _ => r_t0 (q_T rfl ?_)) (fun q => absurd c q)
    rintro _ rfl
    obtain ⟨g, t, r1, r2, r3, r4, r5, r6, r7, r8, r9, r10, r11⟩ := hR
    refine tl_v ?_ (K _ ⟨j, t, by omega, r2, ?_, ?_, ?_, ?_, ?_, ?_, ?_, ?_, ?_⟩ ?_)
    · simp only [Nat.add_one_sub_one, forall_eq, true_and, and_true, true_implies, not_true_eq_false, not_false_eq_true, false_implies, implies_true, ne_eq, Nat.reduceEqDiff, Nat.reduceAdd, Nat.reduceMul, Nat.reduceLT, Nat.reduceLeDiff, and_self, gu_eq, gu_ne, gu_ne2]
    · simp only [Nat.add_one_sub_one, forall_eq, true_and, and_true, true_implies, not_true_eq_false, not_false_eq_true, false_implies, implies_true, ne_eq, Nat.reduceEqDiff, Nat.reduceAdd, Nat.reduceMul, Nat.reduceLT, Nat.reduceLeDiff, and_self, gu_eq, gu_ne, gu_ne2]
    · simp only [Nat.add_one_sub_one, forall_eq, true_and, and_true, true_implies, not_true_eq_false, not_false_eq_true, false_implies, implies_true, ne_eq, Nat.reduceEqDiff, Nat.reduceAdd, Nat.reduceMul, Nat.reduceLT, Nat.reduceLeDiff, and_self, gu_eq, gu_ne, gu_ne2]
    · simp only [Nat.add_one_sub_one, forall_eq, true_and, and_true, true_implies, not_true_eq_false, not_false_eq_true, false_implies, implies_true, ne_eq, Nat.reduceEqDiff, Nat.reduceAdd, Nat.reduceMul, Nat.reduceLT, Nat.reduceLeDiff, and_self, gu_eq, gu_ne, gu_ne2]; exact r5
    · simp only [Nat.add_one_sub_one, forall_eq, true_and, and_true, true_implies, not_true_eq_false, not_false_eq_true, false_implies, implies_true, ne_eq, Nat.reduceEqDiff, Nat.reduceAdd, Nat.reduceMul, Nat.reduceLT, Nat.reduceLeDiff, and_self, gu_eq, gu_ne, gu_ne2]; exact r6
    · simp only [Nat.add_one_sub_one, forall_eq, true_and, and_true, true_implies, not_true_eq_false, not_false_eq_true, false_implies, implies_true, ne_eq, Nat.reduceEqDiff, Nat.reduceAdd, Nat.reduceMul, Nat.reduceLT, Nat.reduceLeDiff, and_self, gu_eq, gu_ne, gu_ne2]; exact r7
    · simp only [Nat.add_one_sub_one, forall_eq, true_and, and_true, true_implies, not_true_eq_false, not_false_eq_true, false_implies, implies_true, ne_eq, Nat.reduceEqDiff, Nat.reduceAdd, Nat.reduceMul, Nat.reduceLT, Nat.reduceLeDiff, and_self, gu_eq, gu_ne, gu_ne2]; exact r8
    · simp only [Nat.add_one_sub_one, forall_eq, true_and, and_true, true_implies, not_true_eq_false, not_false_eq_true, false_implies, implies_true, ne_eq, Nat.reduceEqDiff, Nat.reduceAdd, Nat.reduceMul, Nat.reduceLT, Nat.reduceLeDiff, and_self, gu_eq, gu_ne, gu_ne2]; exact r9
    · simp only [Nat.add_one_sub_one, forall_eq, true_and, and_true, true_implies, not_true_eq_false, not_false_eq_true, false_implies, implies_true, ne_eq, Nat.reduceEqDiff, Nat.reduceAdd, Nat.reduceMul, Nat.reduceLT, Nat.reduceLeDiff, and_self, gu_eq, gu_ne, gu_ne2]; exact r10
    · simp only [Nat.add_one_sub_one, forall_eq, true_and, and_true, true_implies, not_true_eq_false, not_false_eq_true, false_implies, implies_true, ne_eq, Nat.reduceEqDiff, Nat.reduceAdd, Nat.reduceMul, Nat.reduceLT, Nat.reduceLeDiff, and_self, gu_eq, gu_ne, gu_ne2]; exact r11
    · repeat (first | exact ag_rf | refine ag_gu' (by simp [scr, kM]) ?_)
  · unfold w_X9_gate
    rintro _ rfl
    have A : ag scr σ (gu (gu σ 63 0 0) 63 0 1) := ag_gu' s63 (ag_gu' s63 ag_rf)
    exact r_ns (fun q => absurd q (by rw [T192] at c; exact c)) (fun _ => r_t1 (q_F (by decide) (tl_v gu_eq (K _ (hR.s A) (ag_mono A (fun k hk => Or.inr hk))))))
theorem cs_at (h1 : vp_in (x4 + 1) LN) (hR : RM σ) (K : ∀ σ', RM σ' → ag (fun k => kM k ∨ scr k) σ σ' → k23 (x4 + 6) σ') : w_L_law_516 Q LN xs k23 x4 σ := by
  unfold w_L_law_516 w_L_at w_X8_at
  generalize xs (x4 + 1).toNatClampNeg = a
  refine ⟨h1, r_ri (fun c => ?_) (fun c => xx1 ⟨h1, ?_⟩)⟩
  · rw [T192] at c
    obtain ⟨j, -, rfl, ej⟩ := i_ex c.1
    refine ⟨vp_in_nI (by omega) (by omega), ?_⟩
    rintro _ rfl
    refine ⟨h1, ?_⟩
    unfold w_X9_at
    rintro _ rfl
    have A : ag scr σ (gu (gu σ 110 (0 : Int32).toNatClampNeg (σ 19 (nI j).toNatClampNeg)) 63 0 0) := ag_gu' s63 (ag_gu' s110 ag_rf)
    refine r_ns (fun _ => r_t0 (q_T rfl ⟨vp_in_nI (by omega) (by omega), tl_i ?_ (fun _ => ?_) (K _ (hR.s A) (ag_mono A (fun k hk => Or.inr hk)))⟩)) (fun q => absurd c q)
    · simp only [Nat.add_one_sub_one, forall_eq, true_and, and_true, true_implies, not_true_eq_false, not_false_eq_true, false_implies, implies_true, ne_eq, Nat.reduceEqDiff, Nat.reduceAdd, Nat.reduceMul, Nat.reduceLT, Nat.reduceLeDiff, and_self, gu_eq, gu_ne, gu_ne2]
    · obtain ⟨g, t, r1, r2, r3, r4, r5, r6, r7, r8, r9, r10, r11⟩ := hR
      rw [nI_clamp (by omega)]
      simp only [Nat.add_one_sub_one, forall_eq, true_and, and_true, true_implies, not_true_eq_false, not_false_eq_true, false_implies, implies_true, ne_eq, Nat.reduceEqDiff, Nat.reduceAdd, Nat.reduceMul, Nat.reduceLT, Nat.reduceLeDiff, and_self, gu_eq, gu_ne, gu_ne2, cl0]
      exact r7 j (by omega)
  · unfold w_X9_at
    rintro _ rfl
    have A : ag scr σ (gu (gu σ 63 0 0) 63 0 1) := ag_gu' s63 (ag_gu' s63 ag_rf)
    exact r_ns (fun q => absurd q (by rw [T192] at c; exact c)) (fun _ => r_t1 (q_F (by decide) (tl_i gu_eq (fun z => absurd z (by decide)) (K _ (hR.s A) (ag_mono A (fun k hk => Or.inr hk))))))
end PMEA
