/-! ESCAPE: the search's steps -/
def kS (k : Nat) : Prop := 42 ≤ k ∧ k ≤ 46
theorem nI_inj {a b : Nat} (h : nI a = nI b) (ha : a < 2 ^ 31) (hb : b < 2 ^ 31) : a = b := (nI_eq ha hb).mp h
theorem nI_nleE {a b : Nat} (h : ¬ nI a ≤ nI b) (ha : a < 2 ^ 31) (hb : b < 2 ^ 31) : b < a := by rw [nI_leI ha hb] at h; omega
theorem nI_leE {a b : Nat} (h : nI a ≤ nI b) (ha : a < 2 ^ 31) (hb : b < 2 ^ 31) : a ≤ b := (nI_leI ha hb).mp h
section SEARCH
variable {P K : Nat} {fr tt ln : Nat → Nat} {wd : Nat → Int}
theorem GC.cong {σ σ' : gS} (h : GC P K fr tt ln wd σ) (e : ∀ k, (26 ≤ k ∧ k ≤ 32) ∨ k = 35 → σ' k = σ k) : GC P K fr tt ln wd σ' := by
  unfold GC at *
  rw [e 26 (by omega), e 27 (by omega), e 28 (by omega), e 29 (by omega), e 31 (by omega), e 32 (by omega), e 35 (by omega)]
  exact h
def HF (K : Nat) (wd : Nat → Int) (σ : gS) : Prop := (∀ k m, k < K → m < 40 → 0 ≤ (σ 37 (40 * k + m)).toInt ∧ (σ 37 (40 * k + m)).toInt ≤ wd k) ∧ (∀ k, k < K → (σ 39 k).toInt ≤ 0 → ∀ m, m < 40 → (σ 37 (40 * k + m)).toInt ≤ 0)
theorem HF.cong {σ σ' : gS} (h : HF K wd σ) (e1 : σ' 37 = σ 37) (e2 : σ' 39 = σ 39) : HF K wd σ' := by
  unfold HF at *
  rw [e1, e2]; exact h
def Ext (P : Nat) (σ σ' : gS) : Prop := ag kS σ σ' ∧ ∀ p, p < P → ((σ' 42 p).toInt = (σ 42 p).toInt ∧ (σ' 43 p) = (σ 43 p)) ∨ ((σ 42 p).toInt < (σ' 42 p).toInt ∧ (σ' 43 p) = 1)
theorem Ext.rf {σ : gS} : Ext P σ σ := ⟨ag_rf, fun _ _ => Or.inl ⟨rfl, rfl⟩⟩
theorem Ext.tr {σ σ' σ'' : gS} (h : Ext P σ σ') (h2 : Ext P σ' σ'') : Ext P σ σ'' := by
  refine ⟨ag_tr h.1 h2.1, fun p hp => ?_⟩
  rcases h.2 p hp with ⟨a, b⟩ | ⟨a, b⟩ <;> rcases h2.2 p hp with ⟨a', b'⟩ | ⟨a', b'⟩
  · exact Or.inl ⟨a'.trans a, b'.trans b⟩
  · exact Or.inr ⟨by omega, b'⟩
  · exact Or.inr ⟨by omega, b'.trans b⟩
  · exact Or.inr ⟨by omega, b'⟩
theorem ag_rch {σ : gS} {p m : Nat} {st nx rm : Int32} : ag kS σ (rch σ p m st nx rm) := fun k hk => rch_ne (by unfold kS at hk; omega)
theorem Ext.rch {σ : gS} {p m : Nat} {st nx rm : Int32} (hm : (σ 42 p).toInt < m) (h40 : m < 40) : Ext P σ (rch σ p m st nx rm) := by
  refine ⟨ag_rch, fun q hq => ?_⟩
  rw [rch_42, rch_43]
  by_cases e : q = p
  · rw [if_pos e, if_pos e, e, t_n (by omega)]; exact Or.inr ⟨hm, rfl⟩
  · rw [if_neg e, if_neg e]; exact Or.inl ⟨rfl, rfl⟩
theorem p_goesOn {Q : Int32 → gS → Prop} {M : Nat} {σ : gS} {rs : Nat → Nat → Prop} {ts : Nat → Nat → Nat} {c p came : Nat} (hM : M < 40) (hK : K ≤ 28) (hP : P ≤ 8) (h : SI K fr tt ln wd P M σ rs ts c) (hp : p < P) (hc : (came : Int) ≤ (σ 42 p).toInt) (k : ∀ g, rs p g → came ≤ g → g ≤ M → Q (nI g) σ) : w_X0_goesOnAt Q σ (nI p) (nI came) := by
  unfold w_X0_goesOnAt
  obtain ⟨h1, h2, h3, h4, h5⟩ := h
  have hl := h1 p hp
  obtain ⟨l, -, el, el'⟩ := i_ex (x := σ 42 p) (by omega)
  simp (disch := omega) only [l_3, l_4, l_6, l_8, l_9, l_10, l_12, l_14, l_16, l_19, l_20, l_23, l_24, l_26, l_28, l_39, l_40, l_56, l_57, l_60, l_192, l_200, l_255, l_299, l_320, l_400, l_1120, l_2000, l_20000, l_10000, l_1000, l_1000000, nI_1, n_2mul, nI_add, pk_mul, pk_sub, sb_m1, nI_clamp, nI_clamp0, vpT, nI_leI, nI_ltI, nI_eq, nI_0le, nI_lt0, nI_le0, nI_0lt, nI_eq0, nI_eqm1, nI_m1eq, Nat.add_one_sub_one, forall_eq, true_and, and_true, true_implies, not_true_eq_false, not_false_eq_true, false_implies, implies_true, ne_eq, Nat.reduceEqDiff, Nat.reduceAdd, Nat.reduceMul, Nat.reduceLT, Nat.reduceLeDiff, and_self, el]
  have key : ∀ g, rs p g → came ≤ g → w_X0_goesOnAt_7 Q (g + 1) (nI p) (nI came) (nI g) σ := by
    intro g
    induction g with
    | zero =>
      intro hr hg
      unfold w_X0_goesOnAt_7
      exact q_T (nI_le (by omega) (by omega)) (k 0 hr hg (by omega))
    | succ g ih =>
      intro hr hg
      have hgM : g + 1 ≤ M := by have := h2 p (g + 1) hr; have := h1 p hp; omega
      unfold w_X0_goesOnAt_7
      refine ⟨fun _ => k _ hr hg hgM, fun c1 => ?_⟩
      simp (disch := omega) only [l_3, l_4, l_6, l_8, l_9, l_10, l_12, l_14, l_16, l_19, l_20, l_23, l_24, l_26, l_28, l_39, l_40, l_56, l_57, l_60, l_192, l_200, l_255, l_299, l_320, l_400, l_1120, l_2000, l_20000, l_10000, l_1000, l_1000000, nI_1, n_2mul, nI_add, pk_mul, pk_sub, sb_m1, nI_clamp, nI_clamp0, vpT, nI_leI, nI_ltI, nI_eq, nI_0le, nI_lt0, nI_le0, nI_0lt, nI_eq0, nI_eqm1, nI_m1eq, Nat.add_one_sub_one, forall_eq, true_and, and_true, true_implies, not_true_eq_false, not_false_eq_true, false_implies, implies_true, ne_eq, Nat.reduceEqDiff, Nat.reduceAdd, Nat.reduceMul, Nat.reduceLT, Nat.reduceLeDiff, and_self]
      refine ⟨fun _ => k _ hr hg hgM, fun c2 => ?_⟩
      have c1 := nI_nleE c1 (by omega) (by omega)
      obtain ⟨-, v⟩ := h4 _ _ hr
      rcases v with ⟨v1, -⟩ | ⟨v1, v2, v3, v4, -⟩ | ⟨k', g', v1, v2, v3, -⟩ | ⟨k', g', v1, v2, v3, -⟩
      · have := nI_inj (v1.symm.trans c2) (by omega) (by omega); omega
      · have v4 : rs p g := v4
        have z := ih v4 (by omega)
        exact z
      · have := nI_inj (v3.symm.trans c2) (by omega) (by omega); omega
      · have := nI_inj (v3.symm.trans c2) (by omega) (by omega); omega
  exact ⟨l + 1, key l (h3 p l hp (by omega)) (by omega)⟩
theorem p_waitLess {Q : gS → Prop} {M : Nat} {σ : gS} {rs : Nat → Nat → Prop} {ts : Nat → Nat → Nat} {c p : Nat} (hM : M < 40) (eM : σ 36 0 = nI M) (hP : P ≤ 8) (h : SI K fr tt ln wd P M σ rs ts c) (hp : p < P) (hc : 0 ≤ (σ 42 p).toInt) (k : ∀ σ' rs' ts' c', SI K fr tt ln wd P M σ' rs' ts' c' → Ext P σ σ' → (∀ r, r ≠ p → σ' 42 r = σ 42 r) → (∀ m : Nat, (m : Int) = (σ' 42 p).toInt → m < M → (σ' 38 (40 * p + m)).toInt ≤ 0) → Q σ') : w_X0_reachByWaitingLess Q σ (nI p) := by
  unfold w_X0_reachByWaitingLess
  obtain ⟨l, -, el, el'⟩ := i_ex (x := σ 42 p) (by omega)
  have hlM := (h.1 p hp).2.1
  simp (disch := omega) only [l_3, l_4, l_6, l_8, l_9, l_10, l_12, l_14, l_16, l_19, l_20, l_23, l_24, l_26, l_28, l_39, l_40, l_56, l_57, l_60, l_192, l_200, l_255, l_299, l_320, l_400, l_1120, l_2000, l_20000, l_10000, l_1000, l_1000000, nI_1, n_2mul, nI_add, pk_mul, pk_sub, sb_m1, nI_clamp, nI_clamp0, vpT, nI_leI, nI_ltI, nI_eq, nI_0le, nI_lt0, nI_le0, nI_0lt, nI_eq0, nI_eqm1, nI_m1eq, Nat.add_one_sub_one, forall_eq, true_and, and_true, true_implies, not_true_eq_false, not_false_eq_true, false_implies, implies_true, ne_eq, Nat.reduceEqDiff, Nat.reduceAdd, Nat.reduceMul, Nat.reduceLT, Nat.reduceLeDiff, and_self, el]
  refine ⟨(M - l) + 1, ?_⟩
  have key : ∀ (d l : Nat) (σ : gS) rs ts c, l + d = M → σ 36 0 = nI M → (σ 42 p).toInt = (l : Int) → SI K fr tt ln wd P M σ rs ts c → (∀ σ' rs' ts' c', SI K fr tt ln wd P M σ' rs' ts' c' → Ext P σ σ' → (∀ r, r ≠ p → σ' 42 r = σ 42 r) → (∀ m : Nat, (m : Int) = (σ' 42 p).toInt → m < M → (σ' 38 (40 * p + m)).toInt ≤ 0) → Q σ') → w_X0_reachByWaitingLess_7 Q (d + 1) (nI p) (nI l) σ := by
    intro d
    induction d with
    | zero =>
      intro l σ rs ts c hd eM hl h k
      unfold w_X0_reachByWaitingLess_7
      exact q_T (by rw [eM]; exact nI_le (by omega) (by omega)) (k _ _ _ _ h Ext.rf (fun _ _ => rfl) (fun m e hm => by omega))
    | succ d ih =>
      intro l σ rs ts c hd eM hl h k
      unfold w_X0_reachByWaitingLess_7
      refine q_F (by rw [eM]; exact nI_ge (by omega) (by omega)) ?_
      simp (disch := omega) only [l_3, l_4, l_6, l_8, l_9, l_10, l_12, l_14, l_16, l_19, l_20, l_23, l_24, l_26, l_28, l_39, l_40, l_56, l_57, l_60, l_192, l_200, l_255, l_299, l_320, l_400, l_1120, l_2000, l_20000, l_10000, l_1000, l_1000000, nI_1, n_2mul, nI_add, pk_mul, pk_sub, sb_m1, nI_clamp, nI_clamp0, vpT, nI_leI, nI_ltI, nI_eq, nI_0le, nI_lt0, nI_le0, nI_0lt, nI_eq0, nI_eqm1, nI_m1eq, Nat.add_one_sub_one, forall_eq, true_and, and_true, true_implies, not_true_eq_false, not_false_eq_true, false_implies, implies_true, ne_eq, Nat.reduceEqDiff, Nat.reduceAdd, Nat.reduceMul, Nat.reduceLT, Nat.reduceLeDiff, and_self]
      refine q_lt (fun c1 => ?_) (fun c1 => k _ _ _ _ h Ext.rf (fun _ _ => rfl) (fun m e hm => ?_))
      · rw [t_0] at c1
        have hr := h.2.2.1 p l hp (by omega)
        have hv := (h.2.2.2.1 p l hr).1
        refine p_reach (by omega) (by omega) ?_
        have S := SI_reach (st := nI 56) (nx := nI l) (rm := if (σ 46 (40 * p + l)) < (σ 38 (40 * p + l)) then (σ 46 (40 * p + l)) else (σ 38 (40 * p + l))) hM h hp (m := l + 1) (by omega) (by omega) ?_
        · refine ih (l + 1) _ _ _ _ (by omega) (by rw [rch_ne (by omega)]; exact eM) (by rw [rch_42, if_pos rfl, t_n (by omega)]) S (fun σ' rs' ts' c' a b r c => k σ' rs' ts' c' a (Ext.tr (Ext.rch (by omega) (by omega)) b) (fun q hq => by rw [r q hq, rch_42, if_neg hq]) c)
        · have e0 : 40 * p + l ≠ 40 * p + (l + 1) := by omega
          unfold VS
          rw [rch_46, if_pos rfl, i_mins]
          refine ⟨by omega, Or.inr (Or.inl ⟨by rw [rch_44, if_pos rfl], by omega, by rw [rch_45, if_pos rfl]; rfl, Or.inl hr, ?_, ?_, ?_⟩)⟩
          · rw [tsU_eq, tsU_ne (by omega)]; exact (h.2.1 p l hr).2.2
          · rw [rch_ne (by omega)]; show _ ≤ (σ 38 (40 * p + l)).toInt; omega
          · show _ ≤ (rch _ _ _ _ _ _ 46 (40 * p + l)).toInt
            rw [rch_46, if_neg e0]; omega
      · rw [t_0] at c1
        have : m = l := by omega
        subst this; exact c1
  exact key (M - l) l σ rs ts c (by omega) eM el' h k
end SEARCH
