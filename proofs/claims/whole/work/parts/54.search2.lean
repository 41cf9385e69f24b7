/-! ESCAPE: the search by arcs -/
section SEARCH2
variable {P K : Nat} {fr tt ln : Nat → Nat} {wd : Nat → Int}
theorem p_arc {Q : gS → Prop} {M : Nat} {σ : gS} {rs : Nat → Nat → Prop} {ts : Nat → Nat → Nat} {c p q k : Nat} (hM : M < 40) (hG : GC P K fr tt ln wd σ) (hF : HF K wd σ) (h : SI K fr tt ln wd P M σ rs ts c) (hk : k < K) (hq : fr k = q) (hp : tt k = p)
    (kk : ∀ σ' rs' ts' c', SI K fr tt ln wd P M σ' rs' ts' c' → Ext P σ σ' → (∀ r, r ≠ q → σ' 42 r = σ 42 r) → (∀ m : Nat, (σ' 42 q).toInt < m → (m : Int) + ln k ≤ (σ 42 p).toInt → wd k ≤ (σ' 37 (40 * k + m)).toInt) → Q σ') : w_X0_reachByArc Q σ (nI p) (nI q) (nI k) := by
  obtain ⟨⟨hP, hK, e35, e26⟩, g1, g2, g3, g4⟩ := hG
  obtain ⟨a1, a2, a3, a4, a5, a6, a7⟩ := g1 k hk
  obtain ⟨b1, b2, b3⟩ := g2 k hk
  obtain ⟨h1, h2, h3, h4, h5⟩ := id h
  have lp := h1 p (by omega)
  have lq := h1 q (by omega)
  have hpq : p ≠ q := by omega
  have kn : (nI (ln k)).toInt = ln k := t_n (by omega)
  unfold w_X0_reachByArc
  simp (disch := omega) only [l_3, l_4, l_6, l_8, l_9, l_10, l_12, l_14, l_16, l_19, l_20, l_23, l_24, l_26, l_28, l_39, l_40, l_56, l_57, l_60, l_192, l_200, l_255, l_299, l_320, l_400, l_1120, l_2000, l_20000, l_10000, l_1000, l_1000000, nI_1, n_2mul, nI_add, pk_mul, pk_sub, sb_m1, nI_clamp, nI_clamp0, vpT, nI_leI, nI_ltI, nI_eq, nI_0le, nI_lt0, nI_le0, nI_0lt, nI_eq0, nI_eqm1, nI_m1eq, Nat.add_one_sub_one, forall_eq, true_and, and_true, true_implies, not_true_eq_false, not_false_eq_true, false_implies, implies_true, ne_eq, Nat.reduceEqDiff, Nat.reduceAdd, Nat.reduceMul, Nat.reduceLT, Nat.reduceLeDiff, and_self, e35, b2]
  have key : ∀ (d : Nat) (z : Int), z ≤ (d : Int) - 1 → -100 ≤ z → z + ln k ≤ (σ 42 p).toInt → (∀ m : Nat, z < m → (m : Int) + ln k ≤ (σ 42 p).toInt → wd k ≤ (σ 37 (40 * k + m)).toInt) → w_X0_reachByArc_33 Q (d + 1) (nI p) (nI q) (nI k) (nI (ln k)) (σ 29 k) (iI z) σ := by
    intro d
    induction d with
    | zero =>
      intro z hz hz2 hz3 hf
      unfold w_X0_reachByArc_33
      simp (disch := omega) only [l_3, l_4, l_6, l_8, l_9, l_10, l_12, l_14, l_16, l_19, l_20, l_23, l_24, l_26, l_28, l_39, l_40, l_56, l_57, l_60, l_192, l_200, l_255, l_299, l_320, l_400, l_1120, l_2000, l_20000, l_10000, l_1000, l_1000000, nI_1, n_2mul, nI_add, pk_mul, pk_sub, sb_m1, nI_clamp, nI_clamp0, vpT, nI_leI, nI_ltI, nI_eq, nI_0le, nI_lt0, nI_le0, nI_0lt, nI_eq0, nI_eqm1, nI_m1eq, Nat.add_one_sub_one, forall_eq, true_and, and_true, true_implies, not_true_eq_false, not_false_eq_true, false_implies, implies_true, ne_eq, Nat.reduceEqDiff, Nat.reduceAdd, Nat.reduceMul, Nat.reduceLT, Nat.reduceLeDiff, and_self]
      exact q_T (by rw [i_le, iI_toInt (by omega) (by omega)]; omega) (kk _ _ _ _ h Ext.rf (fun _ _ => rfl) (fun m e1 e2 => hf m (by omega) e2))
    | succ d ih =>
      intro z hz hz2 hz3 hf
      unfold w_X0_reachByArc_33
      simp (disch := omega) only [l_3, l_4, l_6, l_8, l_9, l_10, l_12, l_14, l_16, l_19, l_20, l_23, l_24, l_26, l_28, l_39, l_40, l_56, l_57, l_60, l_192, l_200, l_255, l_299, l_320, l_400, l_1120, l_2000, l_20000, l_10000, l_1000, l_1000000, nI_1, n_2mul, nI_add, pk_mul, pk_sub, sb_m1, nI_clamp, nI_clamp0, vpT, nI_leI, nI_ltI, nI_eq, nI_0le, nI_lt0, nI_le0, nI_0lt, nI_eq0, nI_eqm1, nI_m1eq, Nat.add_one_sub_one, forall_eq, true_and, and_true, true_implies, not_true_eq_false, not_false_eq_true, false_implies, implies_true, ne_eq, Nat.reduceEqDiff, Nat.reduceAdd, Nat.reduceMul, Nat.reduceLT, Nat.reduceLeDiff, and_self]
      refine q_le (fun c1 => kk _ _ _ _ h Ext.rf (fun _ _ => rfl) (fun m e1 e2 => hf m (by rw [iI_toInt (by omega) (by omega)] at c1; omega) e2)) (fun c1 => ?_)
      rw [iI_toInt (by omega) (by omega)] at c1
      obtain ⟨m, rfl⟩ : ∃ m : Nat, z = m := ⟨z.toNat, by omega⟩
      rw [iI_m1, iI_nat]
      simp (disch := omega) only [l_3, l_4, l_6, l_8, l_9, l_10, l_12, l_14, l_16, l_19, l_20, l_23, l_24, l_26, l_28, l_39, l_40, l_56, l_57, l_60, l_192, l_200, l_255, l_299, l_320, l_400, l_1120, l_2000, l_20000, l_10000, l_1000, l_1000000, nI_1, n_2mul, nI_add, pk_mul, pk_sub, sb_m1, nI_clamp, nI_clamp0, vpT, nI_leI, nI_ltI, nI_eq, nI_0le, nI_lt0, nI_le0, nI_0lt, nI_eq0, nI_eqm1, nI_m1eq, Nat.add_one_sub_one, forall_eq, true_and, and_true, true_implies, not_true_eq_false, not_false_eq_true, false_implies, implies_true, ne_eq, Nat.reduceEqDiff, Nat.reduceAdd, Nat.reduceMul, Nat.reduceLT, Nat.reduceLeDiff, and_self]
      have hb := hF.1 k m hk (by omega)
      have es : (σ 29 k - σ 37 (40 * k + m)).toInt = wd k - (σ 37 (40 * k + m)).toInt := by rw [i_sub (by omega) (by omega), b3]
      refine q_le (fun c2 => ?_) (fun c2 => ?_)
      · rw [es, t_0] at c2
        refine ih (m - 1) (by omega) (by omega) (by omega) (fun i e1 e2 => ?_)
        by_cases hi : i = m
        · subst hi; omega
        · exact hf i (by omega) e2
      · rw [es, t_0] at c2
        refine p_goesOn hM hK hP h (by omega) (by push_cast; omega) (fun g r1 r2 r3 => ?_)
        simp (disch := omega) only [l_3, l_4, l_6, l_8, l_9, l_10, l_12, l_14, l_16, l_19, l_20, l_23, l_24, l_26, l_28, l_39, l_40, l_56, l_57, l_60, l_192, l_200, l_255, l_299, l_320, l_400, l_1120, l_2000, l_20000, l_10000, l_1000, l_1000000, nI_1, n_2mul, nI_add, pk_mul, pk_sub, sb_m1, nI_clamp, nI_clamp0, vpT, nI_leI, nI_ltI, nI_eq, nI_0le, nI_lt0, nI_le0, nI_0lt, nI_eq0, nI_eqm1, nI_m1eq, Nat.add_one_sub_one, forall_eq, true_and, and_true, true_implies, not_true_eq_false, not_false_eq_true, false_implies, implies_true, ne_eq, Nat.reduceEqDiff, Nat.reduceAdd, Nat.reduceMul, Nat.reduceLT, Nat.reduceLeDiff, and_self]
        refine p_reach (by omega) (by omega) ?_
        have S := SI_reach (st := nI k) (nx := nI g) (rm := if (σ 46 (40 * p + g)) < σ 29 k - (σ 37 (40 * k + m)) then (σ 46 (40 * p + g)) else σ 29 k - (σ 37 (40 * k + m))) hM h (p := q) (m := m) (by omega) (by omega) (by omega) ?_
        · refine kk _ _ _ _ S (Ext.rch (by omega) (by omega)) (fun r hr => by rw [rch_42, if_neg hr]) (fun i e1 e2 => ?_)
          rw [rch_42, if_pos rfl, t_n (by omega)] at e1
          rw [rch_ne (by omega)]
          exact hf i (by omega) e2
        · have e0 : 40 * tt k + g ≠ 40 * q + m := by omega
          have hr := (h4 p g r1).1
          unfold VS
          rw [rch_46, if_pos rfl, i_mins, es]
          refine ⟨by omega, Or.inr (Or.inr (Or.inl ⟨k, g, hk, hq, by rw [rch_44, if_pos rfl], by rw [rch_45, if_pos rfl], r2, Or.inl (by rw [hp]; exact r1), ?_, ?_, ?_⟩))⟩
          · rw [tsU_eq, tsU_ne (by omega), hp]; exact (h2 p g r1).2.2
          · rw [rch_ne (by omega)]; omega
          · rw [rch_46, if_neg e0, hp]; omega
  have e27 : σ 42 p - nI (ln k) = iI ((σ 42 p).toInt - ln k) := i_mk (by rw [i_sub (by omega) (by omega), kn])
  rw [e27]
  exact ⟨41 + 1, key 41 _ (by omega) (by omega) (by omega) (fun m e1 e2 => by omega)⟩
theorem p_undo {Q : gS → Prop} {M : Nat} {σ : gS} {rs : Nat → Nat → Prop} {ts : Nat → Nat → Nat} {c p q k : Nat} (hM : M < 40) (eM : σ 36 0 = nI M) (hG : GC P K fr tt ln wd σ) (hF : HF K wd σ) (h : SI K fr tt ln wd P M σ rs ts c) (hk : k < K) (hp : fr k = p) (hq : tt k = q)
    (kk : ∀ σ' rs' ts' c', SI K fr tt ln wd P M σ' rs' ts' c' → Ext P σ σ' → (∀ r, r ≠ q → σ' 42 r = σ 42 r) → (∀ m : Nat, (m : Int) ≤ (σ 42 p).toInt → m + ln k ≤ M → (σ' 42 q).toInt < m + ln k → (σ' 37 (40 * k + m)).toInt ≤ 0) → Q σ') : w_X0_reachByUndoing Q σ (nI p) (nI q) (nI k) := by
  obtain ⟨⟨hP, hK, e35, e26⟩, g1, g2, g3, g4⟩ := hG
  obtain ⟨a1, a2, a3, a4, a5, a6, a7⟩ := g1 k hk
  obtain ⟨b1, b2, b3⟩ := g2 k hk
  obtain ⟨h1, h2, h3, h4, h5⟩ := id h
  have lp := h1 p (by omega)
  have lq := h1 q (by omega)
  have hpq : p ≠ q := by omega
  have kn : (nI (ln k)).toInt = ln k := t_n (by omega)
  have nM : (nI M).toInt = M := t_n (by omega)
  unfold w_X0_reachByUndoing
  simp (disch := omega) only [l_3, l_4, l_6, l_8, l_9, l_10, l_12, l_14, l_16, l_19, l_20, l_23, l_24, l_26, l_28, l_39, l_40, l_56, l_57, l_60, l_192, l_200, l_255, l_299, l_320, l_400, l_1120, l_2000, l_20000, l_10000, l_1000, l_1000000, nI_1, n_2mul, nI_add, pk_mul, pk_sub, sb_m1, nI_clamp, nI_clamp0, vpT, nI_leI, nI_ltI, nI_eq, nI_0le, nI_lt0, nI_le0, nI_0lt, nI_eq0, nI_eqm1, nI_m1eq, Nat.add_one_sub_one, forall_eq, true_and, and_true, true_implies, not_true_eq_false, not_false_eq_true, false_implies, implies_true, ne_eq, Nat.reduceEqDiff, Nat.reduceAdd, Nat.reduceMul, Nat.reduceLT, Nat.reduceLeDiff, and_self, e35, b2, eM]
  refine q_lt (fun _ => ?_) (fun c0 => kk _ _ _ _ h Ext.rf (fun _ _ => rfl) (fun m e1 e2 e3 => hF.2 k hk (by rw [t_0] at c0; exact c0) m (by omega)))
  have key : ∀ (d : Nat) (z f : Int), z ≤ (d : Int) - 1 → -100 ≤ z → z ≤ (σ 42 p).toInt → z + ln k ≤ M → f = max 0 ((σ 42 q).toInt - ln k + 1) → (∀ m : Nat, z < m → (m : Int) ≤ (σ 42 p).toInt → m + ln k ≤ M → (σ 37 (40 * k + m)).toInt ≤ 0) → w_X0_reachByUndoing_56 Q (d + 1) (nI p) (nI q) (nI k) (nI (ln k)) (iI f) (iI z) σ := by
    intro d
    induction d with
    | zero =>
      intro z f hz hz2 hz3 hz4 ef hf
      unfold w_X0_reachByUndoing_56
      exact q_T (by rw [i_lt, iI_toInt (by omega) (by omega), iI_toInt (by omega) (by omega)]; omega) (kk _ _ _ _ h Ext.rf (fun _ _ => rfl) (fun m e1 e2 e3 => hf m (by omega) e1 e2))
    | succ d ih =>
      intro z f hz hz2 hz3 hz4 ef hf
      unfold w_X0_reachByUndoing_56
      refine q_lt (fun c1 => ?_) (fun c1 => ?_)
      · rw [iI_toInt (by omega) (by omega), iI_toInt (by omega) (by omega)] at c1
        exact kk _ _ _ _ h Ext.rf (fun _ _ => rfl) (fun m e1 e2 e3 => hf m (by omega) e1 e2)
      rw [iI_toInt (by omega) (by omega), iI_toInt (by omega) (by omega)] at c1
      obtain ⟨m, rfl⟩ : ∃ m : Nat, z = m := ⟨z.toNat, by omega⟩
      rw [iI_m1, iI_nat]
      simp (disch := omega) only [l_3, l_4, l_6, l_8, l_9, l_10, l_12, l_14, l_16, l_19, l_20, l_23, l_24, l_26, l_28, l_39, l_40, l_56, l_57, l_60, l_192, l_200, l_255, l_299, l_320, l_400, l_1120, l_2000, l_20000, l_10000, l_1000, l_1000000, nI_1, n_2mul, nI_add, pk_mul, pk_sub, sb_m1, nI_clamp, nI_clamp0, vpT, nI_leI, nI_ltI, nI_eq, nI_0le, nI_lt0, nI_le0, nI_0lt, nI_eq0, nI_eqm1, nI_m1eq, Nat.add_one_sub_one, forall_eq, true_and, and_true, true_implies, not_true_eq_false, not_false_eq_true, false_implies, implies_true, ne_eq, Nat.reduceEqDiff, Nat.reduceAdd, Nat.reduceMul, Nat.reduceLT, Nat.reduceLeDiff, and_self]
      have hb := hF.1 k m hk (by omega)
      refine q_le (fun c2 => ?_) (fun c2 => ?_)
      · rw [t_0] at c2
        refine ih (m - 1) f (by omega) (by omega) (by omega) (by omega) ef (fun i e1 e2 e3 => ?_)
        by_cases hi : i = m
        · subst hi; exact c2
        · exact hf i (by omega) e2 e3
      · rw [t_0] at c2
        refine p_goesOn hM hK hP h (by omega) (by omega) (fun g r1 r2 r3 => ?_)
        simp (disch := omega) only [l_3, l_4, l_6, l_8, l_9, l_10, l_12, l_14, l_16, l_19, l_20, l_23, l_24, l_26, l_28, l_39, l_40, l_56, l_57, l_60, l_192, l_200, l_255, l_299, l_320, l_400, l_1120, l_2000, l_20000, l_10000, l_1000, l_1000000, nI_1, n_2mul, nI_add, pk_mul, pk_sub, sb_m1, nI_clamp, nI_clamp0, vpT, nI_leI, nI_ltI, nI_eq, nI_0le, nI_lt0, nI_le0, nI_0lt, nI_eq0, nI_eqm1, nI_m1eq, Nat.add_one_sub_one, forall_eq, true_and, and_true, true_implies, not_true_eq_false, not_false_eq_true, false_implies, implies_true, ne_eq, Nat.reduceEqDiff, Nat.reduceAdd, Nat.reduceMul, Nat.reduceLT, Nat.reduceLeDiff, and_self]
        refine p_reach (by omega) (by omega) ?_
        have S := SI_reach (st := nI (28 + k)) (nx := nI g) (rm := if (σ 46 (40 * p + g)) < (σ 37 (40 * k + m)) then (σ 46 (40 * p + g)) else (σ 37 (40 * k + m))) hM h (p := q) (m := m + ln k) (by omega) (by push_cast; omega) (by omega) ?_
        · refine kk _ _ _ _ S (Ext.rch (by push_cast; omega) (by omega)) (fun r hr => by rw [rch_42, if_neg hr]) (fun i e1 e2 e3 => ?_)
          rw [rch_42, if_pos rfl, t_n (by omega)] at e3
          rw [rch_ne (by omega)]
          exact hf i (by push_cast at e3; omega) e1 e2
        · have e0 : 40 * fr k + g ≠ 40 * q + (m + ln k) := by omega
          have hr := (h4 p g r1).1
          unfold VS
          rw [rch_46, if_pos rfl, i_mins]
          refine ⟨by omega, Or.inr (Or.inr (Or.inr ⟨k, g, hk, hq, by rw [rch_44, if_pos rfl], by rw [rch_45, if_pos rfl], by omega, by omega, Or.inl (by rw [hp]; exact r1), ?_, ?_, ?_⟩))⟩
          · rw [tsU_eq, tsU_ne (by omega), hp]; exact (h2 p g r1).2.2
          · rw [rch_ne (by omega), Nat.add_sub_cancel]; omega
          · rw [rch_46, if_neg e0, hp]; omega
  have s1 : (σ 42 q - nI (ln k)).toInt = (σ 42 q).toInt - ln k := by rw [i_sub (by omega) (by omega), kn]
  have s2 : (σ 42 q - nI (ln k) + 1).toInt = (σ 42 q).toInt - ln k + 1 := by rw [i_add (by rw [s1, t_1]; omega) (by rw [s1, t_1]; omega), s1, t_1]
  have s3 : (nI M - nI (ln k)).toInt = (M : Int) - ln k := by rw [i_sub (by omega) (by omega), kn, nM]
  have e24 : (if 0 < σ 42 q - nI (ln k) + 1 then σ 42 q - nI (ln k) + 1 else 0) = iI (max 0 ((σ 42 q).toInt - ln k + 1)) := i_mk (by rw [i_maxs, s2, t_0])
  have e26' : (if nI M - nI (ln k) < σ 42 p then nI M - nI (ln k) else σ 42 p) = iI (min ((M : Int) - ln k) (σ 42 p).toInt) := i_mk (by rw [i_mins, s3])
  rw [e24, e26']
  exact ⟨41 + 1, key 41 _ _ (by omega) (by omega) (by omega) (by omega) rfl (fun m e1 e2 e3 => by omega)⟩
end SEARCH2
