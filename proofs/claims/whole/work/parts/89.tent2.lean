/-! THE MEADOW: tent, the case -/
section TENT2
variable {Q : Int32 → gS → Prop} {σ : gS} {w h g : Nat}
theorem p_tent68 (hw : 1 ≤ w ∧ w ≤ 5) (hh : 1 ≤ h ∧ h ≤ 5) (hg : g < 192) (e67 : σ 67 0 = nI g) (no : (∀ s, s < 192 → ¬ okT (σ 64) w h s) → Q (-1) σ) (yes : ∀ s, nRc (okT (σ 64) w h) (stT g) s → ∃ n158, w_X9_tent_158 Q n158 (nI w) (nI h) (nI s) 0 σ) : ∃ n68, w_X9_tent_68 Q n68 (nI w) (nI h) (-1) 0 0 σ := by
  have key : ∀ (d s : Nat) (r t : Int32), s + d = 192 → nMc (okT (σ 64) w h) (stT g) s r t → w_X9_tent_68 Q (d + 1) (nI w) (nI h) r t (nI s) σ := by
    intro d
    induction d with
    | zero =>
      intro s r t hs hB
      have : s = 192 := by omega
      subst this
      unfold w_X9_tent_68
      refine q_T (by decide) ?_
      rcases hB with ⟨a, c⟩ | ⟨s, h1, h2, h3, h4, h5⟩
      · rw [a]; exact q_F (by decide) (no c)
      · rw [h3]; exact q_T (nI_pos' (by omega)) (yes s ⟨h1, h2, h5⟩)
    | succ d ih =>
      intro s r t hs hB
      have b1 := stT_bd g s hg (by omega)
      have est : ((if 0 ≤ ((nI s - nI s / 16 * 16) - ((σ 67 0) - (σ 67 0) / 16 * 16)) then ((nI s - nI s / 16 * 16) - ((σ 67 0) - (σ 67 0) / 16 * 16)) else 0 - ((nI s - nI s / 16 * 16) - ((σ 67 0) - (σ 67 0) / 16 * 16))) + (if 0 ≤ ((nI s / 16) - ((σ 67 0) / 16)) then ((nI s / 16) - ((σ 67 0) / 16)) else 0 - ((nI s / 16) - ((σ 67 0) / 16)))) = nI (stT g s) := by
        rw [e67, l_16, pk_div (by omega) (by omega) (by omega), pk_div (by omega) (by omega) (by omega), pk_mul, pk_mul, pk_sub (by omega), pk_sub (by omega), ad_abs (by omega) (by omega), ad_abs (by omega) (by omega), nI_add, show g - g / 16 * 16 = g % 16 by omega, show s - s / 16 * 16 = s % 16 by omega]
        rfl
      have go : (r = -1 ∨ (∃ b, r = nI b ∧ b < 192 ∧ t = nI (stT g b) ∧ stT g s < stT g b)) → w_X9_tent_122 Q (w_X9_tent_68 Q (d + 1)) (nI w) (nI h) r t (nI s) (nI (stT g s)) σ := fun hb => by
        unfold w_X9_tent_122
        refine m_free (by omega) hw hh (fun q => q_nF (by decide) ?_) (fun q => q_nT rfl ?_)
        · rintro _ rfl
          rw [nI_1]
          refine ih (s + 1) _ _ (by omega) (Or.inr ⟨s, by omega, q, rfl, rfl, fun s' hs' ho => ?_⟩)
          by_cases e : s' = s
          · rw [e]; omega
          · rcases hB with ⟨a, c'⟩ | ⟨b, h1, h2, h3, h4, h5⟩
            · exact absurd ho (c' s' (by omega))
            · rcases hb with hb | ⟨b', e1, e2, e3, e4⟩
              · rw [h3] at hb
                exact absurd hb (by rw [nI_eqm1 (by omega)]; exact id)
              · have : b = b' := nI_inj (h3.symm.trans e1) (by omega) (by omega)
                subst this
                have := h5 s' (by omega) ho
                omega
        · rintro _ rfl
          rw [nI_1]
          refine ih (s + 1) r t (by omega) ?_
          rcases hB with ⟨a, c'⟩ | ⟨b, h1, h2, h3, h4, h5⟩
          · refine Or.inl ⟨a, fun s' hs' ho => ?_⟩
            by_cases e : s' = s
            · rw [e] at ho; exact q ho
            · exact c' s' (by omega) ho
          · refine Or.inr ⟨b, by omega, h2, h3, h4, fun s' hs' ho => ?_⟩
            by_cases e : s' = s
            · rw [e] at ho; exact absurd ho q
            · exact h5 s' (by omega) ho
      unfold w_X9_tent_68
      rw [est]
      refine q_F (fun c => by rw [l_192, nI_leI (by omega) (by omega)] at c; omega) ?_
      rintro _ rfl
      rcases id hB with ⟨a, c'⟩ | ⟨b, h1, h2, h3, h4, h5⟩
      · exact q_T (by rw [a]; decide) (go (Or.inl a))
      · have := stT_bd g b hg (by omega)
        refine q_F (by rw [h3]; exact nI_pos (by omega)) ⟨fun c => ?_, fun c => go (Or.inr ⟨b, h3, by omega, h4, ?_⟩)⟩
        · rw [h4, nI_leI (by omega) (by omega)] at c
          rintro _ rfl
          rw [nI_1]
          refine ih (s + 1) r t (by omega) (Or.inr ⟨b, by omega, h2, h3, h4, fun s' hs' ho => ?_⟩)
          by_cases e : s' = s
          · rw [e]; omega
          · exact h5 s' (by omega) ho
        · rw [h4, nI_leI (by omega) (by omega)] at c
          omega
  have := key 192 0 (-1) 0 (by omega) (Or.inl ⟨rfl, fun s hs => by omega⟩)
  rw [nI_0] at this
  exact ⟨_, this⟩
theorem T5 : (5 : Int32).toInt = 5 := rfl
theorem m_tent {a b : Int32} {t : Nat} (ht : t ≤ 60) (e66 : σ 66 0 = nI t)
    (ok : ∀ w h : Nat, a = nI w → b = nI h → (1 ≤ w ∧ w ≤ 5) → (1 ≤ h ∧ h ≤ 5) → t < 60 → ∃ n68, w_X9_tent_68 Q n68 (nI w) (nI h) (-1) 0 0 (gu σ 63 0 0))
    (x1 : ¬ ((1 ≤ a.toInt ∧ a.toInt ≤ 5) ∧ 1 ≤ b.toInt ∧ b.toInt ≤ 5) → Q 0 (gu (gu σ 63 0 0) 63 0 1)) (x2 : (1 ≤ a.toInt ∧ a.toInt ≤ 5) ∧ (1 ≤ b.toInt ∧ b.toInt ≤ 5) → t = 60 → Q 0 (gu (gu σ 63 0 0) 63 0 2)) : w_X9_tent Q σ a b := by
  unfold w_X9_tent w_X9_tent_29 w_X9_tent_51
  rintro _ rfl
  refine r_in (fun c => q_F (by decide) (r_in (fun c2 => q_nF (by decide) (r_t0 (q_nT rfl ?_))) (fun c2 => q_nT rfl (r_t1 (q_nF (by decide) (x1 (fun q => c2 (by rw [t_1, T5]; exact q.2)))))))) (fun c => q_T rfl (r_t1 (q_nF (by decide) (x1 (fun q => c (by rw [t_1, T5]; exact q.1))))))
  rw [t_1, T5] at c c2
  rw [gu_ne (by omega), e66, l_60, nI_eq (by omega) (by omega)]
  obtain ⟨w, -, ew, ew2⟩ := i_ex (x := a) (by omega)
  obtain ⟨h, -, eh, eh2⟩ := i_ex (x := b) (by omega)
  refine ⟨fun c3 => r_t0 (q_T rfl ?_), fun c3 => r_t1 (q_F (by decide) (x2 ⟨c, c2⟩ c3))⟩
  rw [ew, eh]
  exact ok w h ew eh (by omega) (by omega) (by omega)
theorem c_tent {X : Nat → gS → Prop} {a b : Int32} {t : Nat} (ht : t ≤ 60) (e21 : σ 21 0 = nI t)
    (ok : ∀ w h : Nat, a = nI w → b = nI h → (1 ≤ w ∧ w ≤ 5) → (1 ≤ h ∧ h ≤ 5) → t < 60 → w_X3_putTent Q σ (nI w) (nI h))
    (x1 : ¬ ((1 ≤ a.toInt ∧ a.toInt ≤ 5) ∧ 1 ≤ b.toInt ∧ b.toInt ≤ 5) → X 1 σ) (x2 : (1 ≤ a.toInt ∧ a.toInt ≤ 5) ∧ (1 ≤ b.toInt ∧ b.toInt ≤ 5) → t = 60 → X 2 σ) : w_X8_tent Q X σ a b := by
  unfold w_X8_tent
  refine r_rn (fun c => r_rn (fun c2 => ?_) (fun c2 => x1 (fun q => c2 (by rw [t_1, T5]; exact q.2)))) (fun c => x1 (fun q => c (by rw [t_1, T5]; exact q.1)))
  rw [t_1, T5] at c c2
  obtain ⟨w, -, ew, ew2⟩ := i_ex (x := a) (by omega)
  obtain ⟨h, -, eh, eh2⟩ := i_ex (x := b) (by omega)
  rw [e21, l_60, nI_ltI (by omega) (by omega)]
  refine ⟨fun c3 => ?_, fun c3 => x2 ⟨c, c2⟩ (by omega)⟩
  rw [ew, eh]
  exact ok w h ew eh (by omega) (by omega) c3
end TENT2
section PTE
variable {Q : Unit} {LN : Nat} {xs : Nat → Int32} {k23 : Int32 → gS → Prop} {x4 : Int32} {σ : gS}
theorem cs_tent (h1 : vp_in (x4 + 1) LN) (h2 : vp_in (x4 + 2) LN) (hR : RM σ) (K : ∀ σ', RM σ' → ag (fun k => kM k ∨ scr k) σ σ' → k23 (x4 + 6) σ') : w_L_law_385 Q LN xs k23 x4 σ := by
  have KS : ∀ s, ag scr σ s → k23 (x4 + 6) s := fun s hs => K _ (hR.s hs) (ag_mono hs (fun k hk => Or.inr hk))
  have A2 : ∀ k, ag scr σ (gu (gu σ 63 0 0) 63 0 k) := fun k => ag_gu' s63 (ag_gu' s63 ag_rf)
  obtain ⟨g, t, r1, r2, r3, r4, r5, r6, r7, r8, r9, r10, r11⟩ := id hR
  unfold w_L_law_385 w_L_tent
  generalize xs (x4 + 1).toNatClampNeg = a
  generalize xs (x4 + 2).toNatClampNeg = b
  refine ⟨h1, h2, c_tent r2 r5 (fun w h ea eb hw hh ht => ?_) (fun q => xx12_1 ⟨h1, h2, m_tent r2 r6 (fun w h ea eb hw hh _ => absurd ⟨by rw [ea, t_n (by omega)]; omega, by rw [eb, t_n (by omega)]; omega⟩ q) (fun _ => tl_i gu_eq (fun z => absurd z (by decide)) (KS _ (A2 _))) (fun c => absurd c q)⟩) (fun q q2 => xx12_2 ⟨h1, h2, m_tent r2 r6 (fun w h ea eb hw hh c => by omega) (fun c => absurd q c) (fun _ _ => tl_i gu_eq (fun z => absurd z (by decide)) (KS _ (A2 _)))⟩)⟩
  have ok1 : (1 ≤ a.toInt ∧ a.toInt ≤ 5) ∧ 1 ≤ b.toInt ∧ b.toInt ≤ 5 := ⟨by rw [ea, t_n (by omega)]; omega, by rw [eb, t_n (by omega)]; omega⟩
  have same : ∀ s : gS, (∀ j, j < 192 → s 64 j = σ 19 j) → ∀ s0, s0 < 192 → (okT (s 64) w h s0 ↔ okT (σ 19) w h s0) := by
    intro s hs s0 hs0
    unfold okT FRq
    constructor
    · rintro ⟨q1, q2, q3⟩
      exact ⟨q1, q2, fun y x hy hx => by rw [← hs _ (by omega)]; exact q3 y x hy hx⟩
    · rintro ⟨q1, q2, q3⟩
      exact ⟨q1, q2, fun y x hy hx => by rw [hs _ (by omega)]; exact q3 y x hy hx⟩
  unfold w_X3_putTent
  refine p_corner hw hh r1 r3 (fun no => q_T rfl ?_) (fun s hs => q_F (by rw [nI_eqm1 (by have := hs.1; omega)]; exact id) (q_T (by rw [r5, l_60]; exact nI_lt ht (by omega)) ?_))
  · rintro _ rfl
    rw [nI_clamp0]
    have sm := same (gu (gu σ 110 0 (-1)) 63 0 0) (fun j hj => by simp only [Nat.add_one_sub_one, forall_eq, true_and, and_true, true_implies, not_true_eq_false, not_false_eq_true, false_implies, implies_true, ne_eq, Nat.reduceEqDiff, Nat.reduceAdd, Nat.reduceMul, Nat.reduceLT, Nat.reduceLeDiff, and_self, gu_eq, gu_ne, gu_ne2]; exact (r7 j hj).symm)
    refine ⟨h1, h2, m_tent (t := t) r2 (by simp only [Nat.add_one_sub_one, forall_eq, true_and, and_true, true_implies, not_true_eq_false, not_false_eq_true, false_implies, implies_true, ne_eq, Nat.reduceEqDiff, Nat.reduceAdd, Nat.reduceMul, Nat.reduceLT, Nat.reduceLeDiff, and_self, gu_eq, gu_ne, gu_ne2]; exact r6) (fun w' h' ea' eb' hw' hh' _ => ?_) (fun q => absurd ok1 q) (fun _ q => by omega)⟩
    have : w = w' := nI_inj (ea.symm.trans ea') (by omega) (by omega)
    subst this
    have : h = h' := nI_inj (eb.symm.trans eb') (by omega) (by omega)
    subst this
    refine p_tent68 hw hh r1 (by simp only [Nat.add_one_sub_one, forall_eq, true_and, and_true, true_implies, not_true_eq_false, not_false_eq_true, false_implies, implies_true, ne_eq, Nat.reduceEqDiff, Nat.reduceAdd, Nat.reduceMul, Nat.reduceLT, Nat.reduceLeDiff, and_self, gu_eq, gu_ne, gu_ne2]; exact r4) (fun _ => tl_i (by simp only [Nat.add_one_sub_one, forall_eq, true_and, and_true, true_implies, not_true_eq_false, not_false_eq_true, false_implies, implies_true, ne_eq, Nat.reduceEqDiff, Nat.reduceAdd, Nat.reduceMul, Nat.reduceLT, Nat.reduceLeDiff, and_self, gu_eq, gu_ne, gu_ne2]) (fun _ => by simp only [Nat.add_one_sub_one, forall_eq, true_and, and_true, true_implies, not_true_eq_false, not_false_eq_true, false_implies, implies_true, ne_eq, Nat.reduceEqDiff, Nat.reduceAdd, Nat.reduceMul, Nat.reduceLT, Nat.reduceLeDiff, and_self, gu_eq, gu_ne, gu_ne2]) (KS _ (ag_gu' s63 (ag_gu' s110 ag_rf)))) (fun s hs => ?_)
    exact absurd ((sm s hs.1).mp hs.2.1) (no s hs.1)
  · have hs1 := hs.1
    rintro _ rfl _ rfl _ rfl
    rw [r5, l_16, pk_div (by omega) (by omega) (by omega), pk_mul, pk_sub (by omega), show s - s / 16 * 16 = s % 16 by omega]
    refine p_fillC ht ⟨hs.2.1.1, hs.2.1.2.1⟩ (fun s1 a1 F1 => ?_)
    have e21 : s1 21 0 = nI t := by rw [a1 21 (by omega)]; exact r5
    have e22 : s1 22 0 = σ 22 0 := by rw [a1 22 (by omega)]
    rw [e21, e22, nI_1]
    rintro _ rfl
    rw [nI_clamp0]
    have e64 : ∀ j, (gu (gu (gu (gu s1 21 0 (nI (t + 1))) 22 0 (σ 22 0 + 1)) 110 0 (nI t)) 63 0 0) 64 j = σ 64 j := fun j => by simp only [Nat.add_one_sub_one, forall_eq, true_and, and_true, true_implies, not_true_eq_false, not_false_eq_true, false_implies, implies_true, ne_eq, Nat.reduceEqDiff, Nat.reduceAdd, Nat.reduceMul, Nat.reduceLT, Nat.reduceLeDiff, and_self, gu_eq, gu_ne, gu_ne2]; rw [a1 64 (by omega)]
    have sm := same (gu (gu (gu (gu s1 21 0 (nI (t + 1))) 22 0 (σ 22 0 + 1)) 110 0 (nI t)) 63 0 0) (fun j hj => by rw [e64]; exact (r7 j hj).symm)
    refine ⟨h1, h2, m_tent (t := t) r2 (by simp only [Nat.add_one_sub_one, forall_eq, true_and, and_true, true_implies, not_true_eq_false, not_false_eq_true, false_implies, implies_true, ne_eq, Nat.reduceEqDiff, Nat.reduceAdd, Nat.reduceMul, Nat.reduceLT, Nat.reduceLeDiff, and_self, gu_eq, gu_ne, gu_ne2]; rw [a1 66 (by omega)]; exact r6) (fun w' h' ea' eb' hw' hh' _ => ?_) (fun q => absurd ok1 q) (fun _ q => by omega)⟩
    have : w = w' := nI_inj (ea.symm.trans ea') (by omega) (by omega)
    subst this
    have : h = h' := nI_inj (eb.symm.trans eb') (by omega) (by omega)
    subst this
    refine p_tent68 hw hh r1 (by simp only [Nat.add_one_sub_one, forall_eq, true_and, and_true, true_implies, not_true_eq_false, not_false_eq_true, false_implies, implies_true, ne_eq, Nat.reduceEqDiff, Nat.reduceAdd, Nat.reduceMul, Nat.reduceLT, Nat.reduceLeDiff, and_self, gu_eq, gu_ne, gu_ne2]; rw [a1 67 (by omega)]; exact r4) (fun no => absurd ((sm s hs1).mpr hs.2.1) (no s hs1)) (fun s' hs' => ?_)
    have : s' = s := by
      refine nRc.uniq (ok := okT (σ 19) w h) (st := stT g) ⟨hs'.1, (sm s' hs'.1).mp hs'.2.1, fun x hx ho => hs'.2.2 x hx ((sm x hx).mpr ho)⟩ hs
    subst this
    refine p_fillM (t := t) ht (by simp only [Nat.add_one_sub_one, forall_eq, true_and, and_true, true_implies, not_true_eq_false, not_false_eq_true, false_implies, implies_true, ne_eq, Nat.reduceEqDiff, Nat.reduceAdd, Nat.reduceMul, Nat.reduceLT, Nat.reduceLeDiff, and_self, gu_eq, gu_ne, gu_ne2]; rw [a1 66 (by omega)]; exact r6) ⟨hs.2.1.1, hs.2.1.2.1⟩ (fun s2 a2 F2 => tl_i ?_ (fun _ => ?_) (K _ ⟨g, t + 1, r1, by omega, ?_, ?_, ?_, ?_, fun j hj => ?_, fun j hj => ?_, fun i hi => ?_, fun i hi => ?_, ?_⟩ ?_))
    · simp only [Nat.add_one_sub_one, forall_eq, true_and, and_true, true_implies, not_true_eq_false, not_false_eq_true, false_implies, implies_true, ne_eq, Nat.reduceEqDiff, Nat.reduceAdd, Nat.reduceMul, Nat.reduceLT, Nat.reduceLeDiff, and_self, gu_eq, gu_ne, gu_ne2]; rw [a2 63 (by omega)]; simp only [Nat.add_one_sub_one, forall_eq, true_and, and_true, true_implies, not_true_eq_false, not_false_eq_true, false_implies, implies_true, ne_eq, Nat.reduceEqDiff, Nat.reduceAdd, Nat.reduceMul, Nat.reduceLT, Nat.reduceLeDiff, and_self, gu_eq, gu_ne, gu_ne2]
    · simp only [Nat.add_one_sub_one, forall_eq, true_and, and_true, true_implies, not_true_eq_false, not_false_eq_true, false_implies, implies_true, ne_eq, Nat.reduceEqDiff, Nat.reduceAdd, Nat.reduceMul, Nat.reduceLT, Nat.reduceLeDiff, and_self, gu_eq, gu_ne, gu_ne2]; rw [a2 110 (by omega)]; simp only [Nat.add_one_sub_one, forall_eq, true_and, and_true, true_implies, not_true_eq_false, not_false_eq_true, false_implies, implies_true, ne_eq, Nat.reduceEqDiff, Nat.reduceAdd, Nat.reduceMul, Nat.reduceLT, Nat.reduceLeDiff, and_self, gu_eq, gu_ne, gu_ne2]
    · simp only [Nat.add_one_sub_one, forall_eq, true_and, and_true, true_implies, not_true_eq_false, not_false_eq_true, false_implies, implies_true, ne_eq, Nat.reduceEqDiff, Nat.reduceAdd, Nat.reduceMul, Nat.reduceLT, Nat.reduceLeDiff, and_self, gu_eq, gu_ne, gu_ne2]; rw [a2 20 (by omega)]; simp only [Nat.add_one_sub_one, forall_eq, true_and, and_true, true_implies, not_true_eq_false, not_false_eq_true, false_implies, implies_true, ne_eq, Nat.reduceEqDiff, Nat.reduceAdd, Nat.reduceMul, Nat.reduceLT, Nat.reduceLeDiff, and_self, gu_eq, gu_ne, gu_ne2]; rw [a1 20 (by omega)]; exact r3
    · simp only [Nat.add_one_sub_one, forall_eq, true_and, and_true, true_implies, not_true_eq_false, not_false_eq_true, false_implies, implies_true, ne_eq, Nat.reduceEqDiff, Nat.reduceAdd, Nat.reduceMul, Nat.reduceLT, Nat.reduceLeDiff, and_self, gu_eq, gu_ne, gu_ne2]; rw [a2 67 (by omega)]; simp only [Nat.add_one_sub_one, forall_eq, true_and, and_true, true_implies, not_true_eq_false, not_false_eq_true, false_implies, implies_true, ne_eq, Nat.reduceEqDiff, Nat.reduceAdd, Nat.reduceMul, Nat.reduceLT, Nat.reduceLeDiff, and_self, gu_eq, gu_ne, gu_ne2]; rw [a1 67 (by omega)]; exact r4
    · simp only [Nat.add_one_sub_one, forall_eq, true_and, and_true, true_implies, not_true_eq_false, not_false_eq_true, false_implies, implies_true, ne_eq, Nat.reduceEqDiff, Nat.reduceAdd, Nat.reduceMul, Nat.reduceLT, Nat.reduceLeDiff, and_self, gu_eq, gu_ne, gu_ne2]; rw [a2 21 (by omega)]; simp only [Nat.add_one_sub_one, forall_eq, true_and, and_true, true_implies, not_true_eq_false, not_false_eq_true, false_implies, implies_true, ne_eq, Nat.reduceEqDiff, Nat.reduceAdd, Nat.reduceMul, Nat.reduceLT, Nat.reduceLeDiff, and_self, gu_eq, gu_ne, gu_ne2]
    · simp only [Nat.add_one_sub_one, forall_eq, true_and, and_true, true_implies, not_true_eq_false, not_false_eq_true, false_implies, implies_true, ne_eq, Nat.reduceEqDiff, Nat.reduceAdd, Nat.reduceMul, Nat.reduceLT, Nat.reduceLeDiff, and_self, gu_eq, gu_ne, gu_ne2]
    · simp only [Nat.add_one_sub_one, forall_eq, true_and, and_true, true_implies, not_true_eq_false, not_false_eq_true, false_implies, implies_true, ne_eq, Nat.reduceEqDiff, Nat.reduceAdd, Nat.reduceMul, Nat.reduceLT, Nat.reduceLeDiff, and_self, gu_eq, gu_ne, gu_ne2]
      rw [a2 19 (by omega)]
      simp only [Nat.add_one_sub_one, forall_eq, true_and, and_true, true_implies, not_true_eq_false, not_false_eq_true, false_implies, implies_true, ne_eq, Nat.reduceEqDiff, Nat.reduceAdd, Nat.reduceMul, Nat.reduceLT, Nat.reduceLeDiff, and_self, gu_eq, gu_ne, gu_ne2]
      rw [F1 j, F2 j, e64 j, r7 j hj]
    · simp only [Nat.add_one_sub_one, forall_eq, true_and, and_true, true_implies, not_true_eq_false, not_false_eq_true, false_implies, implies_true, ne_eq, Nat.reduceEqDiff, Nat.reduceAdd, Nat.reduceMul, Nat.reduceLT, Nat.reduceLeDiff, and_self, gu_eq, gu_ne, gu_ne2]
      rw [F2 j, e64 j]
      split
      · exact Or.inr (Or.inr ⟨t, by omega, rfl⟩)
      · rcases r8 j hj with q | q | ⟨i, hi, q⟩
        · exact Or.inl q
        · exact Or.inr (Or.inl q)
        · exact Or.inr (Or.inr ⟨i, by omega, q⟩)
    · simp only [Nat.add_one_sub_one, forall_eq, true_and, and_true, true_implies, not_true_eq_false, not_false_eq_true, false_implies, implies_true, ne_eq, Nat.reduceEqDiff, Nat.reduceAdd, Nat.reduceMul, Nat.reduceLT, Nat.reduceLeDiff, and_self, gu_eq, gu_ne, gu_ne2, gu_at]
      rw [a2 65 (by omega)]
      simp only [Nat.add_one_sub_one, forall_eq, true_and, and_true, true_implies, not_true_eq_false, not_false_eq_true, false_implies, implies_true, ne_eq, Nat.reduceEqDiff, Nat.reduceAdd, Nat.reduceMul, Nat.reduceLT, Nat.reduceLeDiff, and_self, gu_eq, gu_ne, gu_ne2]
      rw [a1 65 (by omega)]
      split
      · exact Or.inr rfl
      · exact r9 i hi
    · have e65 : ∀ i, s2 65 i = σ 65 i := fun i => by rw [a2 65 (by omega)]; simp only [Nat.add_one_sub_one, forall_eq, true_and, and_true, true_implies, not_true_eq_false, not_false_eq_true, false_implies, implies_true, ne_eq, Nat.reduceEqDiff, Nat.reduceAdd, Nat.reduceMul, Nat.reduceLT, Nat.reduceLeDiff, and_self, gu_eq, gu_ne, gu_ne2]; rw [a1 65 (by omega)]
      simp only [Nat.add_one_sub_one, forall_eq, true_and, and_true, true_implies, not_true_eq_false, not_false_eq_true, false_implies, implies_true, ne_eq, Nat.reduceEqDiff, Nat.reduceAdd, Nat.reduceMul, Nat.reduceLT, Nat.reduceLeDiff, and_self, gu_eq, gu_ne, gu_ne2, gu_at, e65]
      by_cases e : i = t
      · rw [if_pos e]
        refine ⟨fun _ => ⟨s', hs1, ?_⟩, fun _ => rfl⟩
        rw [F2 s', dc_T (by unfold inP; left; omega), e]
        rfl
      · rw [if_neg e, r10 i (by omega)]
        constructor
        · rintro ⟨j, hj, ej⟩
          refine ⟨j, hj, ?_⟩
          have hn : ¬ inP s' w h 0 j := fun q => by
            have hfr := hs.2.1.2.2 (j / 16 - s' / 16) (j % 16 - s' % 16) (by unfold inP at q; omega) (by unfold inP at q; omega)
            rw [show s' + 16 * (j / 16 - s' / 16) + (j % 16 - s' % 16) = j by unfold inP at q; omega, r7 j hj, ej] at hfr
            exact absurd hfr (by rw [nI_eqm1 (by omega)]; exact id)
          rw [F2 j, dc_F hn, e64 j]
          exact ej
        · rintro ⟨j, hj, ej⟩
          refine ⟨j, hj, ?_⟩
          rw [F2 j, e64 j] at ej
          split at ej
          · exact absurd (nI_inj ej (by omega) (by omega)).symm e
          · exact ej
    · have e65 : ∀ i, s2 65 i = σ 65 i := fun i => by rw [a2 65 (by omega)]; simp only [Nat.add_one_sub_one, forall_eq, true_and, and_true, true_implies, not_true_eq_false, not_false_eq_true, false_implies, implies_true, ne_eq, Nat.reduceEqDiff, Nat.reduceAdd, Nat.reduceMul, Nat.reduceLT, Nat.reduceLeDiff, and_self, gu_eq, gu_ne, gu_ne2]; rw [a1 65 (by omega)]
      simp only [Nat.add_one_sub_one, forall_eq, true_and, and_true, true_implies, not_true_eq_false, not_false_eq_true, false_implies, implies_true, ne_eq, Nat.reduceEqDiff, Nat.reduceAdd, Nat.reduceMul, Nat.reduceLT, Nat.reduceLeDiff, and_self, gu_eq, gu_ne, gu_ne2, gu_at, e65]
      rw [a2 22 (by omega)]
      simp only [Nat.add_one_sub_one, forall_eq, true_and, and_true, true_implies, not_true_eq_false, not_false_eq_true, false_implies, implies_true, ne_eq, Nat.reduceEqDiff, Nat.reduceAdd, Nat.reduceMul, Nat.reduceLT, Nat.reduceLeDiff, and_self, gu_eq, gu_ne, gu_ne2]
      rw [r11, nI_1, fcnt_T (n := t) (by simp)]
      exact congrArg (fun x => nI (x + 1)) (fcnt_ext (fun i hi => by simp [show i ≠ t by omega]))
    · have b1 : ag (fun k => kM k ∨ scr k) σ s1 := ag_mono a1 (fun k hk => Or.inl (by unfold kM; omega))
      refine ag_gu' (Or.inl (by unfold kM; omega)) (ag_gu' (Or.inl (by unfold kM; omega)) (ag_tr ?_ (ag_mono a2 (fun k hk => Or.inl (by unfold kM; omega)))))
      exact ag_gu' (Or.inr s63) (ag_gu' (Or.inr s110) (ag_gu' (Or.inl (by unfold kM; omega)) (ag_gu' (Or.inl (by unfold kM; omega)) b1)))
end PTE
