/-! THE GATE BOOK: within, pass -/
theorem l_300 : (300 : Int32) = nI 300 := rfl
theorem gu_row {σ : gS} {k i : Nat} {v : Int32} : gu σ k i v k = upd (σ k) i v := by rw [gu_gset, gset_eq]
section BOOK3
variable {Q : Int32 → gS → Prop} {σ : gS} {n : Nat} {o : Nat → Nat}
theorem p_within15 {m k : Int32} (hn : n ≤ 200) (e98 : σ 98 0 = nI n) (h95 : ∀ i, i < n → σ 95 i = 0 ∨ σ 95 i = 1) (kk : Q (nI (fcnt (INb (σ 94) (σ 95) (σ 96) (σ 97) n m k) 300)) σ) : ∃ n15, w_X9_within_15 Q n15 m k 0 0 σ := by
  have key : ∀ (d i : Nat) (x : Int32), i + d = 300 → x = nI (fcnt (INb (σ 94) (σ 95) (σ 96) (σ 97) n m k) i) → w_X9_within_15 Q (d + 1) m k x (nI i) σ := by
    intro d
    induction d with
    | zero =>
      intro i x hd hx
      have : i = 300 := by omega
      subst this
      unfold w_X9_within_15
      rw [hx]
      exact q_T (by rw [l_300]; exact nI_le (Nat.le_refl _) (by omega)) kk
    | succ d ih =>
      intro i x hd hx
      unfold w_X9_within_15 w_X9_within_41
      simp (disch := omega) only [l_3, l_4, l_6, l_8, l_9, l_10, l_12, l_14, l_16, l_19, l_20, l_23, l_24, l_26, l_28, l_39, l_40, l_56, l_57, l_60, l_192, l_200, l_255, l_299, l_320, l_400, l_1120, l_2000, l_20000, l_10000, l_1000, l_1000000, nI_1, n_2mul, nI_add, pk_mul, pk_sub, sb_m1, nI_clamp, nI_clamp0, vpT, nI_leI, nI_ltI, nI_eq, nI_0le, nI_lt0, nI_le0, nI_0lt, nI_eq0, nI_eqm1, nI_m1eq, Nat.add_one_sub_one, forall_eq, true_and, and_true, true_implies, not_true_eq_false, not_false_eq_true, false_implies, implies_true, ne_eq, Nat.reduceEqDiff, Nat.reduceAdd, Nat.reduceMul, Nat.reduceLT, Nat.reduceLeDiff, and_self, l_300]
      refine q_F (by omega) (p_isInM hn e98 h95 (fun r hr hs => ?_))
      refine ⟨fun c => ih (i + 1) _ (by omega) ?_, fun c => ih (i + 1) _ (by omega) ?_⟩
      · subst c
        rw [fcnt_F (p := INb (σ 94) (σ 95) (σ 96) (σ 97) n m k) (dc_F (fun q => absurd (hs.uniq q) (by decide))), hx, Int32.add_zero]
      · rw [hr.resolve_left c] at hs
        rw [fcnt_T (p := INb (σ 94) (σ 95) (σ 96) (σ 97) n m k) (dc_T hs), hx, nI_1]
  have := key 300 0 0 (by omega) nI_0.symm
  rw [nI_0] at this
  exact ⟨_, this⟩
theorem p_within56 {k : Int32} (hn : n ≤ 200) (e98 : σ 98 0 = nI n) (h95 : ∀ i, i < n → σ 95 i = 0 ∨ σ 95 i = 1) (h96 : ∀ i, i < n → (σ 96 i).toInt ≤ 10000) (kk : Q (nI (fcnt (ODb (σ 94) (σ 95) (σ 96) (σ 97) n k) n)) σ) : ∃ n56, w_X9_within_56 Q n56 k 0 0 σ := by
  have key : ∀ (d j : Nat) (x : Int32), j + d = n → x = nI (fcnt (ODb (σ 94) (σ 95) (σ 96) (σ 97) n k) j) → w_X9_within_56 Q (d + 1) k x (nI j) σ := by
    intro d
    induction d with
    | zero =>
      intro j x hd hx
      have hjn : j = n := by omega
      unfold w_X9_within_56
      rw [e98, hx, hjn]
      exact q_T (nI_le (by omega) (by omega)) kk
    | succ d ih =>
      intro j x hd hx
      have was : ∀ v, IS n (PA (σ 94) (σ 96) (σ 97) k j) (σ 95) (σ 96) v → ¬ k < σ 97 j → w_X9_within_118 Q (w_X9_within_56 Q (d + 1)) k x (nI j) v σ := by
        intro v hv hk
        unfold w_X9_within_118 w_X9_within_139
        simp (disch := omega) only [l_3, l_4, l_6, l_8, l_9, l_10, l_12, l_14, l_16, l_19, l_20, l_23, l_24, l_26, l_28, l_39, l_40, l_56, l_57, l_60, l_192, l_200, l_255, l_299, l_320, l_400, l_1120, l_2000, l_20000, l_10000, l_1000, l_1000000, nI_1, n_2mul, nI_add, pk_mul, pk_sub, sb_m1, nI_clamp, nI_clamp0, vpT, nI_leI, nI_ltI, nI_eq, nI_0le, nI_lt0, nI_le0, nI_0lt, nI_eq0, nI_eqm1, nI_m1eq, Nat.add_one_sub_one, forall_eq, true_and, and_true, true_implies, not_true_eq_false, not_false_eq_true, false_implies, implies_true, ne_eq, Nat.reduceEqDiff, Nat.reduceAdd, Nat.reduceMul, Nat.reduceLT, Nat.reduceLeDiff, and_self]
        refine ⟨fun c => ih (j + 1) _ (by omega) ?_, fun c => ih (j + 1) _ (by omega) ?_⟩
        · rw [fcnt_F (p := ODb (σ 94) (σ 95) (σ 96) (σ 97) n k) (dc_F (fun q => c (hv.uniq q.2))), hx, Int32.add_zero]
        · rw [fcnt_T (p := ODb (σ 94) (σ 95) (σ 96) (σ 97) n k) (dc_T ⟨hk, by rw [← c]; exact hv⟩), hx, nI_1]
      unfold w_X9_within_56 w_X9_within_117
      rw [e98]
      simp (disch := omega) only [l_3, l_4, l_6, l_8, l_9, l_10, l_12, l_14, l_16, l_19, l_20, l_23, l_24, l_26, l_28, l_39, l_40, l_56, l_57, l_60, l_192, l_200, l_255, l_299, l_320, l_400, l_1120, l_2000, l_20000, l_10000, l_1000, l_1000000, nI_1, n_2mul, nI_add, pk_mul, pk_sub, sb_m1, nI_clamp, nI_clamp0, vpT, nI_leI, nI_ltI, nI_eq, nI_0le, nI_lt0, nI_le0, nI_0lt, nI_eq0, nI_eqm1, nI_m1eq, Nat.add_one_sub_one, forall_eq, true_and, and_true, true_implies, not_true_eq_false, not_false_eq_true, false_implies, implies_true, ne_eq, Nat.reduceEqDiff, Nat.reduceAdd, Nat.reduceMul, Nat.reduceLT, Nat.reduceLeDiff, and_self]
      refine q_F (by omega) ⟨fun c => ?_, fun c => ih (j + 1) x (by omega) ?_⟩
      · have hk : ¬ k < σ 97 j := fun q => by rw [i_le] at c; rw [i_lt] at q; omega
        have hc : (nI j).toNatClampNeg = j := nI_clamp (by omega)
        have eqv : ∀ j', j' < n → (lpP σ (σ 94 j) (nI 10000) k (nI j) j' ↔ PA (σ 94) (σ 96) (σ 97) k j j') := by
          intro j' hj'
          unfold lpP PA
          rw [hc]
          constructor
          · rintro ⟨q1, q2, q3, q4⟩
            refine ⟨q1, q2, ?_⟩
            rcases q4 with q4 | ⟨q4, q5⟩
            · exact absurd q4 (nI_pos (by omega))
            · rw [i_lt] at q4
              by_cases e : σ 96 j' = σ 96 j
              · rcases q5 with q5 | q5
                · exact absurd e q5
                · rw [nI_ltI (by omega) (by omega)] at q5
                  exact Or.inr ⟨e, q5⟩
              · rw [i_eq] at e
                exact Or.inl (by omega)
          · rintro ⟨q1, q2, q3⟩
            refine ⟨q1, q2, ?_, Or.inr ?_⟩
            · rw [i_le, t_n (by omega)]
              exact h96 j' hj'
            · rcases q3 with q3 | ⟨q3, q4⟩
              · refine ⟨by rw [i_lt]; omega, Or.inl (fun e => ?_)⟩
                rw [e] at q3; omega
              · exact ⟨by rw [i_lt, q3]; omega, Or.inr (nI_lt q4 (by omega))⟩
        refine p_lastOf hn e98 (Or.inr ⟨j, by omega, rfl⟩) (fun r hr => ?_)
        rcases hr with ⟨e, h⟩ | ⟨f, h1, h2, h3, h4⟩
        · subst e
          exact q_T (by decide) (was 0 (Or.inl ⟨rfl, fun k' hk' q => h k' hk' ((eqv k' hk').mpr q)⟩) hk)
        · subst h3
          simp (disch := omega) only [l_3, l_4, l_6, l_8, l_9, l_10, l_12, l_14, l_16, l_19, l_20, l_23, l_24, l_26, l_28, l_39, l_40, l_56, l_57, l_60, l_192, l_200, l_255, l_299, l_320, l_400, l_1120, l_2000, l_20000, l_10000, l_1000, l_1000000, nI_1, n_2mul, nI_add, pk_mul, pk_sub, sb_m1, nI_clamp, nI_clamp0, vpT, nI_leI, nI_ltI, nI_eq, nI_0le, nI_lt0, nI_le0, nI_0lt, nI_eq0, nI_eqm1, nI_m1eq, Nat.add_one_sub_one, forall_eq, true_and, and_true, true_implies, not_true_eq_false, not_false_eq_true, false_implies, implies_true, ne_eq, Nat.reduceEqDiff, Nat.reduceAdd, Nat.reduceMul, Nat.reduceLT, Nat.reduceLeDiff, and_self]
          have hs : ∀ v, v = σ 95 f → IS n (PA (σ 94) (σ 96) (σ 97) k j) (σ 95) (σ 96) v := fun v hv => Or.inr ⟨f, h1, (eqv f h1).mp h2, hv, fun k' a b => h4 k' a ((eqv k' a).mpr b)⟩
          exact ⟨fun c2 => was 0 (hs 0 c2.symm) hk, fun c2 => was 1 (hs 1 ((h95 f h1).resolve_left c2).symm) hk⟩
      · rw [fcnt_F (p := ODb (σ 94) (σ 95) (σ 96) (σ 97) n k) (dc_F (fun q => q.1 (by rw [i_lt]; rw [i_le] at c; omega))), hx]
  have := key n 0 0 (by omega) nI_0.symm
  rw [nI_0] at this
  exact ⟨_, this⟩
theorem bfr_tr {b m : Nat → Int32} {i j k : Nat} (h : bfr b m i j) (h2 : bfr b m j k) : bfr b m i k := by
  rcases h with h | ⟨e, h⟩ <;> rcases h2 with h2 | ⟨e2, h2⟩
  · exact Or.inl (by omega)
  · exact Or.inl (by rw [← e2]; exact h)
  · exact Or.inl (by rw [e]; exact h2)
  · exact Or.inr ⟨e.trans e2, lx_tr h h2⟩
theorem OB.cong {b m b' m' : Nat → Int32} (h : OB n o b m) (e : ∀ i, i < n → b' i = b i ∧ m' i = m i) : OB n o b' m' := by
  refine ⟨h.1, h.2.1, fun i j hij hj => ?_⟩
  have := h.2.2 i j hij hj
  unfold bfr at *
  rw [(e _ (h.1 i (by omega))).1, (e _ (h.1 i (by omega))).2, (e _ (h.1 j hj)).1, (e _ (h.1 j hj)).2]
  exact this
theorem p_beh {i j : Nat} (hi : i < 200) (hj : j < 200) (t : (σ 57 j).toInt < (σ 57 i).toInt ∨ (σ 57 i = σ 57 j ∧ (σ 59 j).toInt < (σ 59 i).toInt) → Q 1 σ) (f : ¬ ((σ 57 j).toInt < (σ 57 i).toInt ∨ (σ 57 i = σ 57 j ∧ (σ 59 j).toInt < (σ 59 i).toInt)) → Q 0 σ) : w_X1_isBehind Q σ (nI i) (nI j) := by
  unfold w_X1_isBehind
  simp (disch := omega) only [l_3, l_4, l_6, l_8, l_9, l_10, l_12, l_14, l_16, l_19, l_20, l_23, l_24, l_26, l_28, l_39, l_40, l_56, l_57, l_60, l_192, l_200, l_255, l_299, l_320, l_400, l_1120, l_2000, l_20000, l_10000, l_1000, l_1000000, nI_1, n_2mul, nI_add, pk_mul, pk_sub, sb_m1, nI_clamp, nI_clamp0, vpT, nI_leI, nI_ltI, nI_eq, nI_0le, nI_lt0, nI_le0, nI_0lt, nI_eq0, nI_eqm1, nI_m1eq, Nat.add_one_sub_one, forall_eq, true_and, and_true, true_implies, not_true_eq_false, not_false_eq_true, false_implies, implies_true, ne_eq, Nat.reduceEqDiff, Nat.reduceAdd, Nat.reduceMul, Nat.reduceLT, Nat.reduceLeDiff, and_self]
  refine ⟨fun c => ⟨fun c2 => f (fun q => ?_), fun c2 => t (Or.inr ⟨c, ?_⟩)⟩, fun c => ⟨fun c2 => f (fun q => ?_), fun c2 => t (Or.inl ?_)⟩⟩
  · rw [i_le] at c2
    rcases q with q | q
    · rw [c] at q; omega
    · have := q.2; omega
  · rw [i_le] at c2; omega
  · rw [i_le] at c2
    rcases q with q | q
    · omega
    · exact c q.1
  · rw [i_le] at c2; omega
def insO (i n : Nat) (o : Nat → Nat) (p : Nat) : Nat := if p < i then o p else if p = i then n else o (p - 1)
theorem p_put {Q : gS → Prop} (hn : n < 200) (e61 : ∀ i, i < n → σ 61 i = nI (o i)) (hO : OB n o (σ 57) (σ 59)) (kk : ∀ s o', ag (fun k => k = 61) σ s → (∀ i, i < n + 1 → s 61 i = nI (o' i)) → OB (n + 1) o' (σ 57) (σ 59) → Q s) : w_X1_putInOrder Q σ (nI n) := by
  have ins : ∀ (i : Nat) (s : gS), i ≤ n → ag (fun k => k = 61) σ s → (∀ p, p < i → s 61 p = nI (o p)) → (∀ p, i < p → p ≤ n → s 61 p = nI (o (p - 1))) → (∀ p, i ≤ p → p < n → bfr (σ 57) (σ 59) n (o p)) → (∀ p, p < i → bfr (σ 57) (σ 59) (o p) n) → w_X1_putInOrder_42 Q (nI n) (nI i) s := by
    intro i s hi ha h1 h2 h3 h4
    unfold w_X1_putInOrder_42
    simp (disch := omega) only [l_3, l_4, l_6, l_8, l_9, l_10, l_12, l_14, l_16, l_19, l_20, l_23, l_24, l_26, l_28, l_39, l_40, l_56, l_57, l_60, l_192, l_200, l_255, l_299, l_320, l_400, l_1120, l_2000, l_20000, l_10000, l_1000, l_1000000, nI_1, n_2mul, nI_add, pk_mul, pk_sub, sb_m1, nI_clamp, nI_clamp0, vpT, nI_leI, nI_ltI, nI_eq, nI_0le, nI_lt0, nI_le0, nI_0lt, nI_eq0, nI_eqm1, nI_m1eq, Nat.add_one_sub_one, forall_eq, true_and, and_true, true_implies, not_true_eq_false, not_false_eq_true, false_implies, implies_true, ne_eq, Nat.reduceEqDiff, Nat.reduceAdd, Nat.reduceMul, Nat.reduceLT, Nat.reduceLeDiff, and_self]
    have A : ∀ p, p < i → insO i n o p = o p := fun p hp => if_pos hp
    have B : insO i n o i = n := by unfold insO; rw [if_neg (by omega), if_pos rfl]
    have C : ∀ p, i < p → insO i n o p = o (p - 1) := fun p hp => by unfold insO; rw [if_neg (by omega), if_neg (by omega)]
    refine kk _ (insO i n o) (ag_gu' rfl ha) (fun p hp => ?_) ⟨fun p hp => ?_, fun k hk => ?_, fun p q hpq hq => ?_⟩
    · rw [gu_at]
      rcases Nat.lt_trichotomy p i with c | c | c
      · rw [if_neg (by omega), A p c]; exact h1 p c
      · rw [if_pos c, c, B]
      · rw [if_neg (by omega), C p c]; exact h2 p c (by omega)
    · rcases Nat.lt_trichotomy p i with c | c | c
      · rw [A p c]; have := hO.1 p (by omega); omega
      · rw [c, B]; omega
      · rw [C p c]; have := hO.1 (p - 1) (by omega); omega
    · by_cases e : k = n
      · exact ⟨i, by omega, by rw [B, e]⟩
      · obtain ⟨p, hp, ep⟩ := hO.2.1 k (by omega)
        by_cases c : p < i
        · exact ⟨p, by omega, by rw [A p c]; exact ep⟩
        · exact ⟨p + 1, by omega, by rw [C (p + 1) (by omega)]; exact ep⟩
    · rcases Nat.lt_trichotomy p i with c | c | c
      · rw [A p c]
        rcases Nat.lt_trichotomy q i with d | d | d
        · rw [A q d]; exact hO.2.2 p q hpq (by omega)
        · rw [d, B]; exact h4 p c
        · rw [C q d]; exact hO.2.2 p (q - 1) (by omega) (by omega)
      · rw [c, B, C q (by omega)]; exact h3 (q - 1) (by omega) (by omega)
      · rw [C p c, C q (by omega)]; exact hO.2.2 (p - 1) (q - 1) (by omega) (by omega)
  have key : ∀ (i : Nat) (s : gS), i ≤ n → ag (fun k => k = 61) σ s → (∀ p, p < i → s 61 p = nI (o p)) → (∀ p, i < p → p ≤ n → s 61 p = nI (o (p - 1))) → (∀ p, i ≤ p → p < n → bfr (σ 57) (σ 59) n (o p)) → w_X1_putInOrder_2 Q (i + 1) (nI n) (nI i) s := by
    intro i
    induction i with
    | zero =>
      intro s hi ha h1 h2 h3
      unfold w_X1_putInOrder_2
      exact q_T (by rw [nI_0]; decide) (ins 0 s hi ha h1 h2 h3 (fun p hp => by omega))
    | succ i ih =>
      intro s hi ha h1 h2 h3
      have hoi := hO.1 i (by omega)
      unfold w_X1_putInOrder_2
      simp (disch := omega) only [l_3, l_4, l_6, l_8, l_9, l_10, l_12, l_14, l_16, l_19, l_20, l_23, l_24, l_26, l_28, l_39, l_40, l_56, l_57, l_60, l_192, l_200, l_255, l_299, l_320, l_400, l_1120, l_2000, l_20000, l_10000, l_1000, l_1000000, nI_1, n_2mul, nI_add, pk_mul, pk_sub, sb_m1, nI_clamp, nI_clamp0, vpT, nI_leI, nI_ltI, nI_eq, nI_0le, nI_lt0, nI_le0, nI_0lt, nI_eq0, nI_eqm1, nI_m1eq, Nat.add_one_sub_one, forall_eq, true_and, and_true, true_implies, not_true_eq_false, not_false_eq_true, false_implies, implies_true, ne_eq, Nat.reduceEqDiff, Nat.reduceAdd, Nat.reduceMul, Nat.reduceLT, Nat.reduceLeDiff, and_self, nI_pred, h1 i (show i < i + 1 by omega)]
      refine p_beh (by omega) (by omega) (fun c => q_F (by decide) ?_) (fun c => q_T rfl ?_)
      · rw [ha 57 (by omega), ha 59 (by omega)] at c
        refine ih _ (by omega) (ag_gu' rfl ha) (fun p hp => ?_) (fun p hp hp2 => ?_) (fun p hp hp2 => ?_)
        · rw [gu_ne2 (by omega)]; exact h1 p (by omega)
        · rw [gu_at]
          split
          · rename_i e; rw [e]; exact h1 i (by omega)
          · exact h2 p (by omega) hp2
        · by_cases e : p = i
          · rw [e]
            rcases c with c | ⟨c, c2⟩
            · exact Or.inl c
            · exact Or.inr ⟨c.symm, Or.inl c2⟩
          · exact h3 p (by omega) hp2
      · rw [ha 57 (by omega), ha 59 (by omega)] at c
        have hb : bfr (σ 57) (σ 59) (o i) n := by
          by_cases e : σ 57 (o i) = σ 57 n
          · refine Or.inr ⟨e, ?_⟩
            by_cases e2 : (σ 59 (o i)).toInt < (σ 59 n).toInt
            · exact Or.inl e2
            · refine Or.inr ⟨i_eq.mpr ?_, by omega⟩
              have : ¬ (σ 59 n).toInt < (σ 59 (o i)).toInt := fun q => c (Or.inr ⟨e, q⟩)
              omega
          · refine Or.inl ?_
            have : ¬ (σ 57 n).toInt < (σ 57 (o i)).toInt := fun q => c (Or.inl q)
            rw [i_eq] at e
            omega
        refine ins (i + 1) s hi ha h1 h2 h3 (fun p hp => ?_)
        by_cases e : p = i
        · rw [e]; exact hb
        · exact bfr_tr (hO.2.2 p i (by omega) (by omega)) hb
  unfold w_X1_putInOrder
  exact ⟨_, key n σ (Nat.le_refl _) ag_rf e61 (fun p a b => by omega) (fun p a b => by omega)⟩
theorem p_write {a v m t : Int32} (hB : BK σ n o) (hv : v = 0 ∨ v = 1) (ha : 0 ≤ a.toInt ∧ a.toInt < 300) (hm : 0 ≤ m.toInt ∧ m.toInt ≤ 10000) (kk : n < 200 → ∀ s o', ag (fun k => k = 61) (gu (gu (gu (gu (gu σ 57 n a) 58 n v) 59 n m) 60 n t) 62 0 (nI (n + 1))) s → BK s (n + 1) o' → Q (nI n) s) (kf : n = 200 → Q (-1) σ) : w_X1_write Q σ a v m t := by
  obtain ⟨hn, e62, e61, hz, h57, h59, hO⟩ := id hB
  unfold w_X1_write
  simp (disch := omega) only [l_3, l_4, l_6, l_8, l_9, l_10, l_12, l_14, l_16, l_19, l_20, l_23, l_24, l_26, l_28, l_39, l_40, l_56, l_57, l_60, l_192, l_200, l_255, l_299, l_320, l_400, l_1120, l_2000, l_20000, l_10000, l_1000, l_1000000, nI_1, n_2mul, nI_add, pk_mul, pk_sub, sb_m1, nI_clamp, nI_clamp0, vpT, nI_leI, nI_ltI, nI_eq, nI_0le, nI_lt0, nI_le0, nI_0lt, nI_eq0, nI_eqm1, nI_m1eq, Nat.add_one_sub_one, forall_eq, true_and, and_true, true_implies, not_true_eq_false, not_false_eq_true, false_implies, implies_true, ne_eq, Nat.reduceEqDiff, Nat.reduceAdd, Nat.reduceMul, Nat.reduceLT, Nat.reduceLeDiff, and_self, gu_eq, gu_ne, gu_ne2, e62, vpnb hv]
  refine ⟨fun c => ?_, fun c => kf (by omega)⟩
  have v2 : vp_in (nI n) 200 := vp_in_nI c (by omega)
  refine ⟨v2, v2, v2, v2, p_put (n := n) (o := o) (by omega) (fun i hi => ?_) (hO.cong (fun i hi => ?_)) (fun s o' ag1 e61' hO' => kk (by omega) s o' ag1 ⟨by omega, ?_, e61', fun i hi => ?_, fun i hi => ?_, fun i hi => ?_, ?_⟩)⟩
  · simp only [Nat.add_one_sub_one, forall_eq, true_and, and_true, true_implies, not_true_eq_false, not_false_eq_true, false_implies, implies_true, ne_eq, Nat.reduceEqDiff, Nat.reduceAdd, Nat.reduceMul, Nat.reduceLT, Nat.reduceLeDiff, and_self, gu_eq, gu_ne, gu_ne2]; exact e61 i hi
  · simp only [Nat.add_one_sub_one, forall_eq, true_and, and_true, true_implies, not_true_eq_false, not_false_eq_true, false_implies, implies_true, ne_eq, Nat.reduceEqDiff, Nat.reduceAdd, Nat.reduceMul, Nat.reduceLT, Nat.reduceLeDiff, and_self, gu_eq, gu_ne, gu_ne2, gu_at]; rw [if_neg (by omega), if_neg (by omega)]; exact ⟨rfl, rfl⟩
  · rw [ag1 62 (by omega)]; simp only [Nat.add_one_sub_one, forall_eq, true_and, and_true, true_implies, not_true_eq_false, not_false_eq_true, false_implies, implies_true, ne_eq, Nat.reduceEqDiff, Nat.reduceAdd, Nat.reduceMul, Nat.reduceLT, Nat.reduceLeDiff, and_self, gu_eq, gu_ne, gu_ne2]
  · rw [ag1 58 (by omega)]; simp only [Nat.add_one_sub_one, forall_eq, true_and, and_true, true_implies, not_true_eq_false, not_false_eq_true, false_implies, implies_true, ne_eq, Nat.reduceEqDiff, Nat.reduceAdd, Nat.reduceMul, Nat.reduceLT, Nat.reduceLeDiff, and_self, gu_eq, gu_ne, gu_ne2, gu_at]
    split
    · exact hv
    · exact hz i (by omega)
  · rw [ag1 57 (by omega)]; simp only [Nat.add_one_sub_one, forall_eq, true_and, and_true, true_implies, not_true_eq_false, not_false_eq_true, false_implies, implies_true, ne_eq, Nat.reduceEqDiff, Nat.reduceAdd, Nat.reduceMul, Nat.reduceLT, Nat.reduceLeDiff, and_self, gu_eq, gu_ne, gu_ne2, gu_at]
    split
    · exact ha
    · exact h57 i (by omega)
  · rw [ag1 59 (by omega)]; simp only [Nat.add_one_sub_one, forall_eq, true_and, and_true, true_implies, not_true_eq_false, not_false_eq_true, false_implies, implies_true, ne_eq, Nat.reduceEqDiff, Nat.reduceAdd, Nat.reduceMul, Nat.reduceLT, Nat.reduceLeDiff, and_self, gu_eq, gu_ne, gu_ne2, gu_at]
    split
    · exact hm
    · exact h59 i (by omega)
  · rw [ag1 57 (by omega), ag1 59 (by omega)]; exact hO'
theorem r_nb {a : Int32} (t : 0 ≤ a.toInt ∧ a.toInt < 300 → Q 0 σ) (f : ¬ (0 ≤ a.toInt ∧ a.toInt < 300) → Q 1 σ) : w_X9_noBand Q σ a := by
  unfold w_X9_noBand
  have h1 : (299 : Int32).toInt = 299 := rfl
  exact r_in (fun c => q_nF (by decide) (t (by rw [t_0, h1] at c; omega))) (fun c => q_nT rfl (f (by rw [t_0, h1] at c; omega)))
theorem m_pass {a v m : Int32} (hn : n ≤ 200) (e98 : σ 98 0 = nI n) (hv : v = 0 ∨ v = 1) (ok : n < 200 → Q (nI n) (gu (gu (gu (gu (gu (gu σ 63 0 0) 94 n a) 95 n v) 96 n m) 97 n (σ 93 0)) 98 0 (nI (n + 1)))) (fl : n = 200 → Q (-1) (gu σ 63 0 0)) (ca : 0 ≤ a.toInt ∧ a.toInt < 300) (cm : 0 ≤ m.toInt ∧ m.toInt ≤ (σ 93 0).toInt) : w_X9_pass Q σ a v m := by
  unfold w_X9_pass w_X9_pass_35
  rintro _ rfl
  refine r_nb (fun _ => r_t0 (q_nT rfl ?_)) (fun q => absurd ca q)
  refine r_in (fun _ => q_nF (by decide) (r_t0 (q_T rfl ?_))) (fun q => absurd (by simp only [Nat.add_one_sub_one, forall_eq, true_and, and_true, true_implies, not_true_eq_false, not_false_eq_true, false_implies, implies_true, ne_eq, Nat.reduceEqDiff, Nat.reduceAdd, Nat.reduceMul, Nat.reduceLT, Nat.reduceLeDiff, and_self, gu_eq, gu_ne, gu_ne2]; rw [t_0]; exact cm) q)
  simp (disch := omega) only [l_3, l_4, l_6, l_8, l_9, l_10, l_12, l_14, l_16, l_19, l_20, l_23, l_24, l_26, l_28, l_39, l_40, l_56, l_57, l_60, l_192, l_200, l_255, l_299, l_320, l_400, l_1120, l_2000, l_20000, l_10000, l_1000, l_1000000, nI_1, n_2mul, nI_add, pk_mul, pk_sub, sb_m1, nI_clamp, nI_clamp0, vpT, nI_leI, nI_ltI, nI_eq, nI_0le, nI_lt0, nI_le0, nI_0lt, nI_eq0, nI_eqm1, nI_m1eq, Nat.add_one_sub_one, forall_eq, true_and, and_true, true_implies, not_true_eq_false, not_false_eq_true, false_implies, implies_true, ne_eq, Nat.reduceEqDiff, Nat.reduceAdd, Nat.reduceMul, Nat.reduceLT, Nat.reduceLeDiff, and_self, gu_eq, gu_ne, gu_ne2, e98, vpnb hv]
  refine ⟨fun c => ?_, fun c => fl c⟩
  have v2 : vp_in (nI n) 200 := vp_in_nI (by omega) (by omega)
  rw [nI_pred]
  exact ⟨v2, v2, v2, v2, ok (by omega)⟩
end BOOK3
