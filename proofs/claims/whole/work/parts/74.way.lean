/-! THE GROUND: way -/
def aA (σ : gS) (k p c : Nat) (q l w : Int32) : gS := gu (gu (gu (gu (gu σ 27 k q) 28 k l) 29 k w) 31 (14 * p + c) (nI k)) 32 p (nI (c + 1))
def mA (σ : gS) (k : Nat) (a b l w : Int32) : gS := gu (gu (gu (gu σ 72 k a) 73 k b) 74 k l) 75 k w
theorem p_addArc {Q : gS → Prop} {σ : gS} {k p c : Nat} {q l w : Int32} (hk : k < 28) (hp : p < 8) (ec : σ 32 p = nI c) (hc : c < 14) (h : Q (aA σ k p c q l w)) : w_X2_addArc Q σ (nI k) (nI p) q l w := by
  unfold w_X2_addArc
  simp (disch := omega) only [l_3, l_4, l_6, l_8, l_9, l_10, l_12, l_14, l_16, l_19, l_20, l_23, l_24, l_26, l_28, l_39, l_40, l_56, l_57, l_60, l_192, l_200, l_255, l_299, l_320, l_400, l_1120, l_2000, l_20000, l_10000, l_1000, l_1000000, nI_1, n_2mul, nI_add, pk_mul, pk_sub, sb_m1, nI_clamp, nI_clamp0, vpT, nI_leI, nI_ltI, nI_eq, nI_0le, nI_lt0, nI_le0, nI_0lt, nI_eq0, nI_eqm1, nI_m1eq, Nat.add_one_sub_one, forall_eq, true_and, and_true, true_implies, not_true_eq_false, not_false_eq_true, false_implies, implies_true, ne_eq, Nat.reduceEqDiff, Nat.reduceAdd, Nat.reduceMul, Nat.reduceLT, Nat.reduceLeDiff, and_self, gu_eq, gu_ne, gu_ne2, ec]
  exact q_F (by omega) h
theorem p_adds {Q : gS → Prop} {σ : gS} {k : Nat} {a b l w : Int32} (hk : k < 28) (h : Q (mA σ k a b l w)) : w_X9_adds Q σ (nI k) a b l w := by
  unfold w_X9_adds
  simp (disch := omega) only [l_3, l_4, l_6, l_8, l_9, l_10, l_12, l_14, l_16, l_19, l_20, l_23, l_24, l_26, l_28, l_39, l_40, l_56, l_57, l_60, l_192, l_200, l_255, l_299, l_320, l_400, l_1120, l_2000, l_20000, l_10000, l_1000, l_1000000, nI_1, n_2mul, nI_add, pk_mul, pk_sub, sb_m1, nI_clamp, nI_clamp0, vpT, nI_leI, nI_ltI, nI_eq, nI_0le, nI_lt0, nI_le0, nI_0lt, nI_eq0, nI_eqm1, nI_m1eq, Nat.add_one_sub_one, forall_eq, true_and, and_true, true_implies, not_true_eq_false, not_false_eq_true, false_implies, implies_true, ne_eq, Nat.reduceEqDiff, Nat.reduceAdd, Nat.reduceMul, Nat.reduceLT, Nat.reduceLeDiff, and_self]
  exact h
def okW (P : Nat) (a b l w : Int32) : Prop := (0 ≤ a.toInt ∧ a.toInt < P) ∧ (0 ≤ b.toInt ∧ b.toInt < P)
def okL (a b l w : Int32) : Prop := (1 ≤ l.toInt ∧ l.toInt ≤ 8) ∧ (1 ≤ w.toInt ∧ w.toInt ≤ 2000) ∧ ¬ a = b
def cW (σ : gS) (W ja jb ca cb : Nat) (a b l w : Int32) : gS := gu (gu (gu (aA (aA σ (2 * W) ja ca b l w) (2 * W + 1) jb cb a l w) 30 0 (nI (W + 1))) 33 0 (-2)) 34 0 (-2)
theorem c_way {Q : Int32 → gS → Prop} {X : Nat → gS → Prop} {σ : gS} {a b l w : Int32} {P W : Nat} (hP : P ≤ 8) (e26 : σ 26 0 = nI P) (hW : W ≤ 14) (e30 : σ 30 0 = nI W) (hct : ∀ p, p < P → ∃ c : Nat, c ≤ W ∧ σ 32 p = nI c)
    (ok : ∀ ja jb ca cb, ja < P → jb < P → ja ≠ jb → a = nI ja → b = nI jb → okL a b l w → W < 14 → ca ≤ W → cb ≤ W → σ 32 ja = nI ca → σ 32 jb = nI cb → Q (nI W) (cW σ W ja jb ca cb a b l w)) (x0 : ¬ okW P a b l w → X 0 σ) (x1 : okW P a b l w → ¬ okL a b l w → X 1 σ) (x2 : okW P a b l w → okL a b l w → W = 14 → X 2 σ) : w_X8_way Q X σ a b l w := by
  unfold w_X8_way
  have hn : (σ 26 0).toInt = P := by rw [e26]; exact t_n (by omega)
  refine r_ri (fun c => r_ri (fun c2 => r_rn (fun c3 => r_rn (fun c4 => ?_) (fun c4 => ?_)) (fun c3 => ?_)) (fun c2 => x0 (fun q => c2 (by rw [hn]; exact q.2)))) (fun c => x0 (fun q => c (by rw [hn]; exact q.1)))
  · rw [hn] at c c2
    rw [t_1, T8] at c3
    rw [t_1, T2000] at c4
    refine ⟨fun c5 => ?_, fun c5 => x1 ⟨c, c2⟩ (fun q => q.2.2 c5)⟩
    have hL : okL a b l w := ⟨c3, c4, c5⟩
    rw [e30]
    simp (disch := omega) only [l_3, l_4, l_6, l_8, l_9, l_10, l_12, l_14, l_16, l_19, l_20, l_23, l_24, l_26, l_28, l_39, l_40, l_56, l_57, l_60, l_192, l_200, l_255, l_299, l_320, l_400, l_1120, l_2000, l_20000, l_10000, l_1000, l_1000000, nI_1, n_2mul, nI_add, pk_mul, pk_sub, sb_m1, nI_clamp, nI_clamp0, vpT, nI_leI, nI_ltI, nI_eq, nI_0le, nI_lt0, nI_le0, nI_0lt, nI_eq0, nI_eqm1, nI_m1eq, Nat.add_one_sub_one, forall_eq, true_and, and_true, true_implies, not_true_eq_false, not_false_eq_true, false_implies, implies_true, ne_eq, Nat.reduceEqDiff, Nat.reduceAdd, Nat.reduceMul, Nat.reduceLT, Nat.reduceLeDiff, and_self]
    refine ⟨fun c6 => ?_, fun c6 => x2 ⟨c, c2⟩ hL (by omega)⟩
    obtain ⟨ja, -, ea, ea'⟩ := i_ex c.1
    obtain ⟨jb, -, eb, eb'⟩ := i_ex c2.1
    obtain ⟨ca, hca, eca⟩ := hct ja (by omega)
    obtain ⟨cb, hcb, ecb⟩ := hct jb (by omega)
    have hne : ja ≠ jb := fun q => c5 (by rw [ea, eb, q])
    have hQ := ok ja jb ca cb (by omega) (by omega) hne ea eb hL c6 hca hcb eca ecb
    have e1 : nI (W + 1) - 1 = nI W := nI_pred W
    unfold w_X2_addWay w_X2_noteChange
    rw [e30]
    simp (disch := omega) only [l_3, l_4, l_6, l_8, l_9, l_10, l_12, l_14, l_16, l_19, l_20, l_23, l_24, l_26, l_28, l_39, l_40, l_56, l_57, l_60, l_192, l_200, l_255, l_299, l_320, l_400, l_1120, l_2000, l_20000, l_10000, l_1000, l_1000000, nI_1, n_2mul, nI_add, pk_mul, pk_sub, sb_m1, nI_clamp, nI_clamp0, vpT, nI_leI, nI_ltI, nI_eq, nI_0le, nI_lt0, nI_le0, nI_0lt, nI_eq0, nI_eqm1, nI_m1eq, Nat.add_one_sub_one, forall_eq, true_and, and_true, true_implies, not_true_eq_false, not_false_eq_true, false_implies, implies_true, ne_eq, Nat.reduceEqDiff, Nat.reduceAdd, Nat.reduceMul, Nat.reduceLT, Nat.reduceLeDiff, and_self]
    refine q_T c6 ?_
    have k1 : ∀ x, (aA σ (2 * W) ja ca b l w) x 0 = σ x 0 ∨ x = 27 ∨ x = 28 ∨ x = 29 ∨ x = 31 ∨ x = 32 := fun x => by
      by_cases h : x = 27 ∨ x = 28 ∨ x = 29 ∨ x = 31 ∨ x = 32
      · exact Or.inr h
      · left; unfold aA; rw [gu_ne (by omega), gu_ne (by omega), gu_ne (by omega), gu_ne (by omega), gu_ne (by omega)]
    have e30' : (aA σ (2 * W) ja ca b l w) 30 0 = nI W := by rw [(k1 30).resolve_right (by omega)]; exact e30
    have e32' : (aA σ (2 * W) ja ca b l w) 32 jb = nI cb := by unfold aA; rw [gu_ne2 (by omega), gu_ne (by omega), gu_ne (by omega), gu_ne (by omega), gu_ne (by omega)]; exact ecb
    have e30'' : (aA (aA σ (2 * W) ja ca b l w) (2 * W + 1) jb cb a l w) 30 0 = nI W := by unfold aA; rw [gu_ne (by omega), gu_ne (by omega), gu_ne (by omega), gu_ne (by omega), gu_ne (by omega)]; exact e30'
    rw [ea]
    refine p_addArc (by omega) (by omega) eca (by omega) ?_
    rw [e30']
    simp (disch := omega) only [l_3, l_4, l_6, l_8, l_9, l_10, l_12, l_14, l_16, l_19, l_20, l_23, l_24, l_26, l_28, l_39, l_40, l_56, l_57, l_60, l_192, l_200, l_255, l_299, l_320, l_400, l_1120, l_2000, l_20000, l_10000, l_1000, l_1000000, nI_1, n_2mul, nI_add, pk_mul, pk_sub, sb_m1, nI_clamp, nI_clamp0, vpT, nI_leI, nI_ltI, nI_eq, nI_0le, nI_lt0, nI_le0, nI_0lt, nI_eq0, nI_eqm1, nI_m1eq, Nat.add_one_sub_one, forall_eq, true_and, and_true, true_implies, not_true_eq_false, not_false_eq_true, false_implies, implies_true, ne_eq, Nat.reduceEqDiff, Nat.reduceAdd, Nat.reduceMul, Nat.reduceLT, Nat.reduceLeDiff, and_self]
    rw [eb]
    refine p_addArc (k := 2 * W + 1) (c := cb) (by omega) (by omega) ?_ (by omega) ?_
    · rw [← eb]; exact e32'
    rw [← ea, ← eb]
    simp (disch := omega) only [l_3, l_4, l_6, l_8, l_9, l_10, l_12, l_14, l_16, l_19, l_20, l_23, l_24, l_26, l_28, l_39, l_40, l_56, l_57, l_60, l_192, l_200, l_255, l_299, l_320, l_400, l_1120, l_2000, l_20000, l_10000, l_1000, l_1000000, nI_1, n_2mul, nI_add, pk_mul, pk_sub, sb_m1, nI_clamp, nI_clamp0, vpT, nI_leI, nI_ltI, nI_eq, nI_0le, nI_lt0, nI_le0, nI_0lt, nI_eq0, nI_eqm1, nI_m1eq, Nat.add_one_sub_one, forall_eq, true_and, and_true, true_implies, not_true_eq_false, not_false_eq_true, false_implies, implies_true, ne_eq, Nat.reduceEqDiff, Nat.reduceAdd, Nat.reduceMul, Nat.reduceLT, Nat.reduceLeDiff, and_self, gu_eq, gu_ne, gu_ne2, e30'', e1]
    exact hQ
  · rw [t_1, T2000] at c4
    exact x1 ⟨by rw [hn] at c; exact c, by rw [hn] at c2; exact c2⟩ (fun q => c4 q.2.1)
  · rw [t_1, T8] at c3
    exact x1 ⟨by rw [hn] at c; exact c, by rw [hn] at c2; exact c2⟩ (fun q => c3 q.1)
theorem m_way {Q : Int32 → gS → Prop} {σ : gS} {a b l w : Int32} {P W : Nat} (hP : P ≤ 8) (e71 : σ 71 0 = nI P) (hW : W ≤ 14) (e76 : σ 76 0 = nI W)
    (ok : okW P a b l w → okL a b l w → W < 14 → Q (nI W) (gu (mA (mA (gu σ 63 0 0) (2 * W) a b l w) (2 * W + 1) b a l w) 76 0 (nI (W + 1)))) (x0 : ¬ okW P a b l w → Q 0 (gu (gu σ 63 0 0) 63 0 1)) (x1 : okW P a b l w → ¬ okL a b l w → Q 0 (gu (gu σ 63 0 0) 63 0 2)) (x2 : okW P a b l w → okL a b l w → W = 14 → Q 0 (gu (gu σ 63 0 0) 63 0 3)) : w_X9_way Q σ a b l w := by
  unfold w_X9_way
  rintro _ rfl
  have e71' : (gu σ 63 0 0) 71 0 = nI P := by simp only [Nat.add_one_sub_one, forall_eq, true_and, and_true, true_implies, not_true_eq_false, not_false_eq_true, false_implies, implies_true, ne_eq, Nat.reduceEqDiff, Nat.reduceAdd, Nat.reduceMul, Nat.reduceLT, Nat.reduceLeDiff, and_self, gu_eq, gu_ne, gu_ne2]; exact e71
  have b0 : ¬ okW P a b l w → w_X9_way_27 Q a b l w 1 (gu σ 63 0 0) := fun h => by
    unfold w_X9_way_27
    exact r_t1 (q_nF (by decide) (x0 h))
  have b1 : okW P a b l w → ¬ okL a b l w → w_X9_way_67 Q a b l w 1 (gu σ 63 0 0) := fun h h2 => by
    unfold w_X9_way_67
    exact r_t1 (q_nF (by decide) (x1 h h2))
  refine r_np (P := P) (by omega) e71' (fun c => q_nT rfl (r_np (P := P) (by omega) e71' (fun c2 => q_T rfl ?_) (fun c2 => q_F (by decide) (b0 (fun q => c2 q.2))))) (fun c => q_nF (by decide) (b0 (fun q => c q.1)))
  unfold w_X9_way_27
  refine r_t0 (q_nT rfl (r_in (fun c3 => q_F (by decide) (r_in (fun c4 => q_F (by decide) ?_) (fun c4 => q_T rfl (b1 ⟨c, c2⟩ (fun q => c4 (by rw [t_1, T2000]; exact q.2.1)))))) (fun c3 => q_T rfl (b1 ⟨c, c2⟩ (fun q => c3 (by rw [t_1, T8]; exact q.1))))))
  rw [t_1, T8] at c3
  rw [t_1, T2000] at c4
  refine ⟨fun c5 => ?_, fun c5 => b1 ⟨c, c2⟩ (fun q => q.2.2 c5)⟩
  have hL : okL a b l w := ⟨c3, c4, c5⟩
  unfold w_X9_way_67 w_X9_way_89
  refine r_t0 (q_nT rfl ?_)
  have e76' : (gu σ 63 0 0) 76 0 = nI W := by simp only [Nat.add_one_sub_one, forall_eq, true_and, and_true, true_implies, not_true_eq_false, not_false_eq_true, false_implies, implies_true, ne_eq, Nat.reduceEqDiff, Nat.reduceAdd, Nat.reduceMul, Nat.reduceLT, Nat.reduceLeDiff, and_self, gu_eq, gu_ne, gu_ne2]; exact e76
  rw [e76']
  simp (disch := omega) only [l_3, l_4, l_6, l_8, l_9, l_10, l_12, l_14, l_16, l_19, l_20, l_23, l_24, l_26, l_28, l_39, l_40, l_56, l_57, l_60, l_192, l_200, l_255, l_299, l_320, l_400, l_1120, l_2000, l_20000, l_10000, l_1000, l_1000000, nI_1, n_2mul, nI_add, pk_mul, pk_sub, sb_m1, nI_clamp, nI_clamp0, vpT, nI_leI, nI_ltI, nI_eq, nI_0le, nI_lt0, nI_le0, nI_0lt, nI_eq0, nI_eqm1, nI_m1eq, Nat.add_one_sub_one, forall_eq, true_and, and_true, true_implies, not_true_eq_false, not_false_eq_true, false_implies, implies_true, ne_eq, Nat.reduceEqDiff, Nat.reduceAdd, Nat.reduceMul, Nat.reduceLT, Nat.reduceLeDiff, and_self]
  refine ⟨fun c6 => r_t0 (q_T rfl ?_), fun c6 => r_t1 (q_F (by decide) (x2 ⟨c, c2⟩ hL c6))⟩
  have hQ := ok ⟨c, c2⟩ hL (by omega)
  have e1 : nI (W + 1) - 1 = nI W := nI_pred W
  have e2 : (mA (gu σ 63 0 0) (2 * W) a b l w) 76 0 = nI W := by unfold mA; rw [gu_ne (by omega), gu_ne (by omega), gu_ne (by omega), gu_ne (by omega)]; exact e76'
  have e3 : (mA (mA (gu σ 63 0 0) (2 * W) a b l w) (2 * W + 1) b a l w) 76 0 = nI W := by unfold mA; rw [gu_ne (by omega), gu_ne (by omega), gu_ne (by omega), gu_ne (by omega)]; exact e2
  rw [e76']
  simp (disch := omega) only [l_3, l_4, l_6, l_8, l_9, l_10, l_12, l_14, l_16, l_19, l_20, l_23, l_24, l_26, l_28, l_39, l_40, l_56, l_57, l_60, l_192, l_200, l_255, l_299, l_320, l_400, l_1120, l_2000, l_20000, l_10000, l_1000, l_1000000, nI_1, n_2mul, nI_add, pk_mul, pk_sub, sb_m1, nI_clamp, nI_clamp0, vpT, nI_leI, nI_ltI, nI_eq, nI_0le, nI_lt0, nI_le0, nI_0lt, nI_eq0, nI_eqm1, nI_m1eq, Nat.add_one_sub_one, forall_eq, true_and, and_true, true_implies, not_true_eq_false, not_false_eq_true, false_implies, implies_true, ne_eq, Nat.reduceEqDiff, Nat.reduceAdd, Nat.reduceMul, Nat.reduceLT, Nat.reduceLeDiff, and_self]
  refine p_adds (by omega) ?_
  rw [e2]
  simp (disch := omega) only [l_3, l_4, l_6, l_8, l_9, l_10, l_12, l_14, l_16, l_19, l_20, l_23, l_24, l_26, l_28, l_39, l_40, l_56, l_57, l_60, l_192, l_200, l_255, l_299, l_320, l_400, l_1120, l_2000, l_20000, l_10000, l_1000, l_1000000, nI_1, n_2mul, nI_add, pk_mul, pk_sub, sb_m1, nI_clamp, nI_clamp0, vpT, nI_leI, nI_ltI, nI_eq, nI_0le, nI_lt0, nI_le0, nI_0lt, nI_eq0, nI_eqm1, nI_m1eq, Nat.add_one_sub_one, forall_eq, true_and, and_true, true_implies, not_true_eq_false, not_false_eq_true, false_implies, implies_true, ne_eq, Nat.reduceEqDiff, Nat.reduceAdd, Nat.reduceMul, Nat.reduceLT, Nat.reduceLeDiff, and_self]
  refine p_adds (k := 2 * W + 1) (by omega) ?_
  simp (disch := omega) only [l_3, l_4, l_6, l_8, l_9, l_10, l_12, l_14, l_16, l_19, l_20, l_23, l_24, l_26, l_28, l_39, l_40, l_56, l_57, l_60, l_192, l_200, l_255, l_299, l_320, l_400, l_1120, l_2000, l_20000, l_10000, l_1000, l_1000000, nI_1, n_2mul, nI_add, pk_mul, pk_sub, sb_m1, nI_clamp, nI_clamp0, vpT, nI_leI, nI_ltI, nI_eq, nI_0le, nI_lt0, nI_le0, nI_0lt, nI_eq0, nI_eqm1, nI_m1eq, Nat.add_one_sub_one, forall_eq, true_and, and_true, true_implies, not_true_eq_false, not_false_eq_true, false_implies, implies_true, ne_eq, Nat.reduceEqDiff, Nat.reduceAdd, Nat.reduceMul, Nat.reduceLT, Nat.reduceLeDiff, and_self, gu_eq, gu_ne, gu_ne2, e3, e1]
  exact hQ
section WAY2
variable {P W : Nat} {fr tt ln : Nat → Nat} {wd : Nat → Int}
/-- one entry more -/
def up2 {α : Type} (f : Nat → α) (i j : Nat) (x y : α) : Nat → α := fun k => if k = i then x else if k = j then y else f k
theorem up2_i {α : Type} {f : Nat → α} {i j : Nat} {x y : α} : up2 f i j x y i = x := if_pos rfl
theorem up2_j {α : Type} {f : Nat → α} {i j : Nat} {x y : α} (h : j ≠ i) : up2 f i j x y j = y := by unfold up2; rw [if_neg h, if_pos rfl]
theorem up2_o {α : Type} {f : Nat → α} {i j k : Nat} {x y : α} (h : k ≠ i) (h2 : k ≠ j) : up2 f i j x y k = f k := by unfold up2; rw [if_neg h, if_neg h2]
theorem up2_sw {α : Type} {f : Nat → α} {i j k : Nat} {x y : α} (h : i ≠ j) : (if k = j then y else if k = i then x else f k) = up2 f i j x y k := by
  unfold up2
  by_cases q : k = i
  · subst q; rw [if_neg h, if_pos rfl, if_pos rfl]
  · rw [if_neg q, if_neg q]
theorem rv_e (W : Nat) : rv (2 * W) = 2 * W + 1 := by unfold rv; rw [if_pos (by omega)]
theorem rv_o (W : Nat) : rv (2 * W + 1) = 2 * W := by unfold rv; rw [if_neg (by omega)]; omega
theorem OKG.way {σ s : gS} {ja jb ca cb L : Nat} {l w : Int32} (h : OKG P W fr tt ln wd σ) (hW : W < 14) (hja : ja < P) (hjb : jb < P) (hne : ja ≠ jb) (hl : l = nI L) (hL : 1 ≤ L ∧ L ≤ 8) (hw : 1 ≤ w.toInt ∧ w.toInt ≤ 2000) (hca : ca ≤ W) (hcb : cb ≤ W) (eca : σ 32 ja = nI ca) (ecb : σ 32 jb = nI cb)
    (e26 : s 26 = σ 26) (e71 : s 71 = σ 71) (eo : ∀ k, 23 ≤ k ∧ k ≤ 25 ∨ 68 ≤ k ∧ k ≤ 70 → s k = σ k) (e30 : s 30 0 = nI (W + 1)) (e76 : s 76 0 = nI (W + 1))
    (e27 : ∀ k, s 27 k = up2 (σ 27) (2 * W) (2 * W + 1) (nI jb) (nI ja) k) (e28 : ∀ k, s 28 k = up2 (σ 28) (2 * W) (2 * W + 1) l l k) (e29 : ∀ k, s 29 k = up2 (σ 29) (2 * W) (2 * W + 1) w w k) (e72 : ∀ k, s 72 k = up2 (σ 72) (2 * W) (2 * W + 1) (nI ja) (nI jb) k) (e73 : ∀ k, s 73 k = up2 (σ 73) (2 * W) (2 * W + 1) (nI jb) (nI ja) k) (e74 : ∀ k, s 74 k = up2 (σ 74) (2 * W) (2 * W + 1) l l k) (e75 : ∀ k, s 75 k = up2 (σ 75) (2 * W) (2 * W + 1) w w k)
    (e31 : ∀ k, s 31 k = up2 (σ 31) (14 * ja + ca) (14 * jb + cb) (nI (2 * W)) (nI (2 * W + 1)) k) (e32 : ∀ k, s 32 k = up2 (σ 32) ja jb (nI (ca + 1)) (nI (cb + 1)) k) :
    OKG P (W + 1) (up2 fr (2 * W) (2 * W + 1) ja jb) (up2 tt (2 * W) (2 * W + 1) jb ja) (up2 ln (2 * W) (2 * W + 1) L L) (up2 wd (2 * W) (2 * W + 1) w.toInt w.toInt) s := by
  obtain ⟨⟨⟨b1, b2, b3, b4⟩, b5, b6, b7, b8⟩, ⟨⟨c1, c2, c3, c4⟩, c5, c6⟩, a3, a4, a5, a6, a7, a8⟩ := h
  have g : ∀ k, k ≠ 35 → (gu σ 35 0 1) k = σ k := fun k hk => gu_ne hk
  have g' : ∀ k, k ≠ 35 → (gu s 35 0 1) k = s k := fun k hk => gu_ne hk
  have cas : ∀ k, k < 2 * (W + 1) → k < 2 * W ∨ k = 2 * W ∨ k = 2 * W + 1 := fun k hk => by omega
  have basic : ∀ k, k < 2 * (W + 1) → up2 fr (2 * W) (2 * W + 1) ja jb k < P ∧ up2 tt (2 * W) (2 * W + 1) jb ja k < P ∧ up2 fr (2 * W) (2 * W + 1) ja jb k ≠ up2 tt (2 * W) (2 * W + 1) jb ja k ∧ 1 ≤ up2 ln (2 * W) (2 * W + 1) L L k ∧ up2 ln (2 * W) (2 * W + 1) L L k ≤ 8 ∧ 1 ≤ up2 wd (2 * W) (2 * W + 1) w.toInt w.toInt k ∧ up2 wd (2 * W) (2 * W + 1) w.toInt w.toInt k ≤ 2000 := fun k hk => by
    rcases cas k hk with q | q | q
    · simp only [up2_o (show k ≠ 2 * W by omega) (show k ≠ 2 * W + 1 by omega)]; exact b5 k q
    · subst q; simp only [up2_i]; omega
    · subst q; simp only [up2_j (show 2 * W + 1 ≠ 2 * W by omega)]; omega
  refine ⟨⟨⟨b1, by omega, g35 _, by rw [g' 26 (by omega), e26]; rw [g 26 (by omega)] at b4; exact b4⟩, basic, fun k hk => ?_, fun k hk => ?_, fun p hp => ?_⟩, ⟨⟨c1, by omega, by rw [e71]; exact c3, W + 1, e76, rfl⟩, basic, fun k hk => ?_⟩, ⟨by omega, e30, e76⟩, ?_, ?_, fun k hk => ?_, fun p hp => ?_, fun p hp hp2 => ?_⟩
  · rw [g' 27 (by omega), g' 28 (by omega), g' 29 (by omega), e27, e28, e29]
    rcases cas k hk with q | q | q
    · simp only [up2_o (show k ≠ 2 * W by omega) (show k ≠ 2 * W + 1 by omega)]
      have := b6 k q
      rw [g 27 (by omega), g 28 (by omega), g 29 (by omega)] at this
      exact this
    · subst q; simp only [up2_i, and_true, true_and]; exact hl
    · subst q; simp only [up2_j (show 2 * W + 1 ≠ 2 * W by omega), and_true, true_and]; exact hl
  · rcases cas k hk with q | q | q
    · obtain ⟨r1, r2, r3, r4, r5⟩ := b7 k q
      simp only [up2_o (show k ≠ 2 * W by omega) (show k ≠ 2 * W + 1 by omega), up2_o (show rv k ≠ 2 * W by omega) (show rv k ≠ 2 * W + 1 by omega)]
      exact ⟨by omega, r2, r3, r4, r5⟩
    · subst q; rw [rv_e]; simp only [up2_i, up2_j (show 2 * W + 1 ≠ 2 * W by omega), and_true, true_and]; omega
    · subst q; rw [rv_o]; simp only [up2_i, up2_j (show 2 * W + 1 ≠ 2 * W by omega), and_true, true_and]; omega
  · rw [g' 31 (by omega), g' 32 (by omega)]
    obtain ⟨c, d1, d2, d3, d4⟩ := b8 p hp
    rw [g 32 (by omega)] at d2
    rw [g 31 (by omega)] at d3 d4
    have old : ∀ j k, j < c → k < 2 * W → fr k = p → σ 31 (14 * p + j) = nI k → s 31 (14 * p + j) = nI k := fun j k hj hk hf e => by
      rw [e31, up2_o ?_ ?_]
      · exact e
      · intro q
        have : p = ja := by omega
        subst this
        have := nI_inj (d2.symm.trans eca) (by omega) (by omega)
        omega
      · intro q
        have : p = jb := by omega
        subst this
        have := nI_inj (d2.symm.trans ecb) (by omega) (by omega)
        omega
    by_cases qa : p = ja
    · subst qa
      have hcc := nI_inj (d2.symm.trans eca) (by omega) (by omega)
      subst hcc
      refine ⟨c + 1, by omega, by rw [e32, up2_i], fun j hj => ?_, fun k hk hf => ?_⟩
      · by_cases e : j = c
        · exact ⟨2 * W, by omega, up2_i, by rw [e, e31, up2_i]⟩
        · obtain ⟨k, k1, k2, k3⟩ := d3 j (by omega)
          exact ⟨k, by omega, by rw [up2_o (by omega) (by omega)]; exact k2, old j k (by omega) k1 k2 k3⟩
      · rcases cas k hk with q | q | q
        · rw [up2_o (by omega) (by omega)] at hf
          obtain ⟨j, j1, j2⟩ := d4 k q hf
          exact ⟨j, by omega, old j k j1 q hf j2⟩
        · exact ⟨c, by omega, by rw [e31, up2_i, q]⟩
        · subst q; rw [up2_j (by omega)] at hf; omega
    · by_cases qb : p = jb
      · subst qb
        have hcc := nI_inj (d2.symm.trans ecb) (by omega) (by omega)
        subst hcc
        refine ⟨c + 1, by omega, by rw [e32, up2_j (by omega)], fun j hj => ?_, fun k hk hf => ?_⟩
        · by_cases e : j = c
          · exact ⟨2 * W + 1, by omega, up2_j (by omega), by rw [e, e31, up2_j (by omega)]⟩
          · obtain ⟨k, k1, k2, k3⟩ := d3 j (by omega)
            exact ⟨k, by omega, by rw [up2_o (by omega) (by omega)]; exact k2, old j k (by omega) k1 k2 k3⟩
        · rcases cas k hk with q | q | q
          · rw [up2_o (by omega) (by omega)] at hf
            obtain ⟨j, j1, j2⟩ := d4 k q hf
            exact ⟨j, by omega, old j k j1 q hf j2⟩
          · subst q; rw [up2_i] at hf; omega
          · exact ⟨c, by omega, by rw [e31, up2_j (by omega), q]⟩
      · refine ⟨c, d1, by rw [e32, up2_o qa qb]; exact d2, fun j hj => ?_, fun k hk hf => ?_⟩
        · obtain ⟨k, k1, k2, k3⟩ := d3 j hj
          exact ⟨k, by omega, by rw [up2_o (by omega) (by omega)]; exact k2, old j k hj k1 k2 k3⟩
        · rcases cas k hk with q | q | q
          · rw [up2_o (by omega) (by omega)] at hf
            obtain ⟨j, j1, j2⟩ := d4 k q hf
            exact ⟨j, j1, old j k j1 q hf j2⟩
          · subst q; rw [up2_i] at hf; omega
          · subst q; rw [up2_j (by omega)] at hf; omega
  · rw [e72, e73, e74, e75]
    rcases cas k hk with q | q | q
    · simp only [up2_o (show k ≠ 2 * W by omega) (show k ≠ 2 * W + 1 by omega)]; exact c6 k q
    · subst q; simp only [up2_i, and_true, true_and]; exact hl
    · subst q; simp only [up2_j (show 2 * W + 1 ≠ 2 * W by omega), and_true, true_and]; exact hl
  · rw [eo 68 (by omega), eo 69 (by omega), eo 70 (by omega), eo 23 (by omega), eo 24 (by omega), eo 25 (by omega)]; exact a4
  · rw [eo 23 (by omega), eo 24 (by omega)]; exact a5
  · rw [e29, e75]
    rcases cas k hk with q | q | q
    · simp only [up2_o (show k ≠ 2 * W by omega) (show k ≠ 2 * W + 1 by omega)]; exact a6 k q
    · subst q; simp only [up2_i]
    · subst q; simp only [up2_j (show 2 * W + 1 ≠ 2 * W by omega)]
  · rw [e32]
    by_cases qa : p = ja
    · subst qa; exact ⟨ca + 1, by omega, up2_i⟩
    · by_cases qb : p = jb
      · subst qb; exact ⟨cb + 1, by omega, up2_j (by omega)⟩
      · obtain ⟨c, x1, x2⟩ := a7 p hp
        exact ⟨c, by omega, by rw [up2_o qa qb]; exact x2⟩
  · rw [e32, up2_o (by omega) (by omega)]; exact a8 p hp hp2
end WAY2
section PGR4
variable {Q : Unit} {LN : Nat} {xs : Nat → Int32} {k23 : Int32 → gS → Prop} {x4 : Int32} {σ : gS}
theorem cs_way (h1 : vp_in (x4 + 1) LN) (h2 : vp_in (x4 + 2) LN) (h3 : vp_in (x4 + 3) LN) (h4 : vp_in (x4 + 4) LN) (hR : RG σ) (K : ∀ σ', RG σ' → ag (fun k => kG k ∨ scr k) σ σ' → WX σ σ' → k23 (x4 + 6) σ') : w_L_law_779 Q LN xs k23 x4 σ := by
  obtain ⟨P, W, fr, tt, ln, wd, hG, h33, h34⟩ := id hR
  have hP := hG.1.1.1
  have e26 : σ 26 0 = nI P := by have := hG.1.1.2.2.2; rw [gu_ne (by omega)] at this; exact this
  have e71 := hG.2.1.1.2.2.1
  obtain ⟨hW, e30, e76⟩ := hG.2.2.1
  have KS : ∀ s, ag scr σ s → k23 (x4 + 6) s := fun s hs => K _ (hR.s hs) (ag_mono hs (fun k hk => Or.inr hk)) (WX.same (hs 75 (by unfold scr; omega)) (hs 76 (by unfold scr; omega)))
  unfold w_L_law_779 w_L_way
  generalize xs (x4 + 1).toNatClampNeg = a
  generalize xs (x4 + 2).toNatClampNeg = b
  generalize xs (x4 + 3).toNatClampNeg = l
  generalize xs (x4 + 4).toNatClampNeg = w
  have A2 : ∀ k, ag scr σ (gu (gu σ 63 0 0) 63 0 k) := fun k => ag_gu' s63 (ag_gu' s63 ag_rf)
  refine ⟨h1, h2, h3, h4, c_way hP e26 hW e30 hG.2.2.2.2.2.2.1 (fun ja jb ca cb hja hjb hne ea eb hL hW14 hca hcb eca ecb => ?_) (fun q => xx012_0 ⟨h1, h2, h3, h4, m_way hP e71 hW e76 (fun c => absurd c q) (fun _ => tl_i gu_eq (fun z => absurd z (by decide)) (KS _ (A2 _))) (fun c => absurd c q) (fun c => absurd c q)⟩) (fun q q2 => xx012_1 ⟨h1, h2, h3, h4, m_way hP e71 hW e76 (fun _ c => absurd c q2) (fun c => absurd q c) (fun _ _ => tl_i gu_eq (fun z => absurd z (by decide)) (KS _ (A2 _))) (fun _ c => absurd c q2)⟩) (fun q q2 q3 => xx012_2 ⟨h1, h2, h3, h4, m_way hP e71 hW e76 (fun _ _ c => by omega) (fun c => absurd q c) (fun _ c => absurd q2 c) (fun _ _ _ => tl_i gu_eq (fun z => absurd z (by decide)) (KS _ (A2 _)))⟩)⟩
  rintro _ rfl
  rw [nI_clamp0]
  have ok1 : okW P a b l w := ⟨by rw [ea, t_n (by omega)]; omega, by rw [eb, t_n (by omega)]; omega⟩
  refine ⟨h1, h2, h3, h4, m_way (P := P) (W := W) hP ?_ hW ?_ (fun _ _ _ => ?_) (fun c => absurd ok1 c) (fun _ c => absurd hL c) (fun _ _ c => by omega)⟩
  · unfold cW aA; simp only [Nat.add_one_sub_one, forall_eq, true_and, and_true, true_implies, not_true_eq_false, not_false_eq_true, false_implies, implies_true, ne_eq, Nat.reduceEqDiff, Nat.reduceAdd, Nat.reduceMul, Nat.reduceLT, Nat.reduceLeDiff, and_self, gu_eq, gu_ne, gu_ne2]; exact e71
  · unfold cW aA; simp only [Nat.add_one_sub_one, forall_eq, true_and, and_true, true_implies, not_true_eq_false, not_false_eq_true, false_implies, implies_true, ne_eq, Nat.reduceEqDiff, Nat.reduceAdd, Nat.reduceMul, Nat.reduceLT, Nat.reduceLeDiff, and_self, gu_eq, gu_ne, gu_ne2]; exact e76
  obtain ⟨L, -, el, el'⟩ := i_ex (x := l) (by have := hL.1.1; omega)
  have hA : ag (fun k => kG k ∨ scr k) σ (gu (mA (mA (gu (gu (cW σ W ja jb ca cb a b l w) 110 0 (nI W)) 63 0 0) (2 * W) a b l w) (2 * W + 1) b a l w) 76 0 (nI (W + 1))) := by
    unfold mA cW aA
    repeat (first | exact ag_rf | refine ag_gu' (by simp [scr, kG]) ?_)
  refine tl_i ?_ (fun _ => ?_) (K _ ⟨P, W + 1, _, _, _, _, hG.way (ja := ja) (jb := jb) (ca := ca) (cb := cb) (L := L) (l := l) (w := w) hW14 hja hjb hne el (by have := hL.1; omega) hL.2.1 hca hcb eca ecb ?_ ?_ (fun k hk => ?_) ?_ ?_ (fun k => ?_) (fun k => ?_) (fun k => ?_) (fun k => ?_) (fun k => ?_) (fun k => ?_) (fun k => ?_) (fun k => ?_) (fun k => ?_), Or.inl ?_, Or.inl ?_⟩ hA ?_)
  · unfold mA cW aA; simp only [Nat.add_one_sub_one, forall_eq, true_and, and_true, true_implies, not_true_eq_false, not_false_eq_true, false_implies, implies_true, ne_eq, Nat.reduceEqDiff, Nat.reduceAdd, Nat.reduceMul, Nat.reduceLT, Nat.reduceLeDiff, and_self, gu_eq, gu_ne, gu_ne2]
  · unfold mA cW aA; simp only [Nat.add_one_sub_one, forall_eq, true_and, and_true, true_implies, not_true_eq_false, not_false_eq_true, false_implies, implies_true, ne_eq, Nat.reduceEqDiff, Nat.reduceAdd, Nat.reduceMul, Nat.reduceLT, Nat.reduceLeDiff, and_self, gu_eq, gu_ne, gu_ne2]
  · unfold mA cW aA; simp only [Nat.add_one_sub_one, forall_eq, true_and, and_true, true_implies, not_true_eq_false, not_false_eq_true, false_implies, implies_true, ne_eq, Nat.reduceEqDiff, Nat.reduceAdd, Nat.reduceMul, Nat.reduceLT, Nat.reduceLeDiff, and_self, gu_eq, gu_ne, gu_ne2]
  · unfold mA cW aA; simp only [Nat.add_one_sub_one, forall_eq, true_and, and_true, true_implies, not_true_eq_false, not_false_eq_true, false_implies, implies_true, ne_eq, Nat.reduceEqDiff, Nat.reduceAdd, Nat.reduceMul, Nat.reduceLT, Nat.reduceLeDiff, and_self, gu_eq, gu_ne, gu_ne2]
  · unfold mA cW aA
    rcases hk with hk | hk
    · rw [gu_ne (by omega), gu_ne (by omega), gu_ne (by omega), gu_ne (by omega), gu_ne (by omega), gu_ne (by omega), gu_ne (by omega), gu_ne (by omega), gu_ne (by omega), gu_ne (by omega), gu_ne (by omega), gu_ne (by omega), gu_ne (by omega), gu_ne (by omega), gu_ne (by omega), gu_ne (by omega), gu_ne (by omega), gu_ne (by omega), gu_ne (by omega), gu_ne (by omega), gu_ne (by omega), gu_ne (by omega), gu_ne (by omega), gu_ne (by omega)]
    · rw [gu_ne (by omega), gu_ne (by omega), gu_ne (by omega), gu_ne (by omega), gu_ne (by omega), gu_ne (by omega), gu_ne (by omega), gu_ne (by omega), gu_ne (by omega), gu_ne (by omega), gu_ne (by omega), gu_ne (by omega), gu_ne (by omega), gu_ne (by omega), gu_ne (by omega), gu_ne (by omega), gu_ne (by omega), gu_ne (by omega), gu_ne (by omega), gu_ne (by omega), gu_ne (by omega), gu_ne (by omega), gu_ne (by omega), gu_ne (by omega)]
  · unfold mA cW aA; simp only [Nat.add_one_sub_one, forall_eq, true_and, and_true, true_implies, not_true_eq_false, not_false_eq_true, false_implies, implies_true, ne_eq, Nat.reduceEqDiff, Nat.reduceAdd, Nat.reduceMul, Nat.reduceLT, Nat.reduceLeDiff, and_self, gu_eq, gu_ne, gu_ne2]
  · unfold mA cW aA; simp only [Nat.add_one_sub_one, forall_eq, true_and, and_true, true_implies, not_true_eq_false, not_false_eq_true, false_implies, implies_true, ne_eq, Nat.reduceEqDiff, Nat.reduceAdd, Nat.reduceMul, Nat.reduceLT, Nat.reduceLeDiff, and_self, gu_eq, gu_ne, gu_ne2]
  · unfold mA cW aA; simp only [Nat.add_one_sub_one, forall_eq, true_and, and_true, true_implies, not_true_eq_false, not_false_eq_true, false_implies, implies_true, ne_eq, Nat.reduceEqDiff, Nat.reduceAdd, Nat.reduceMul, Nat.reduceLT, Nat.reduceLeDiff, and_self, gu_eq, gu_ne, gu_ne2, gu_at]; rw [ea, eb]; exact up2_sw (by omega)
  · unfold mA cW aA; simp only [Nat.add_one_sub_one, forall_eq, true_and, and_true, true_implies, not_true_eq_false, not_false_eq_true, false_implies, implies_true, ne_eq, Nat.reduceEqDiff, Nat.reduceAdd, Nat.reduceMul, Nat.reduceLT, Nat.reduceLeDiff, and_self, gu_eq, gu_ne, gu_ne2, gu_at]; exact up2_sw (by omega)
  · unfold mA cW aA; simp only [Nat.add_one_sub_one, forall_eq, true_and, and_true, true_implies, not_true_eq_false, not_false_eq_true, false_implies, implies_true, ne_eq, Nat.reduceEqDiff, Nat.reduceAdd, Nat.reduceMul, Nat.reduceLT, Nat.reduceLeDiff, and_self, gu_eq, gu_ne, gu_ne2, gu_at]; exact up2_sw (by omega)
  · unfold mA cW aA; simp only [Nat.add_one_sub_one, forall_eq, true_and, and_true, true_implies, not_true_eq_false, not_false_eq_true, false_implies, implies_true, ne_eq, Nat.reduceEqDiff, Nat.reduceAdd, Nat.reduceMul, Nat.reduceLT, Nat.reduceLeDiff, and_self, gu_eq, gu_ne, gu_ne2, gu_at]; rw [ea, eb]; exact up2_sw (by omega)
  · unfold mA cW aA; simp only [Nat.add_one_sub_one, forall_eq, true_and, and_true, true_implies, not_true_eq_false, not_false_eq_true, false_implies, implies_true, ne_eq, Nat.reduceEqDiff, Nat.reduceAdd, Nat.reduceMul, Nat.reduceLT, Nat.reduceLeDiff, and_self, gu_eq, gu_ne, gu_ne2, gu_at]; rw [ea, eb]; exact up2_sw (by omega)
  · unfold mA cW aA; simp only [Nat.add_one_sub_one, forall_eq, true_and, and_true, true_implies, not_true_eq_false, not_false_eq_true, false_implies, implies_true, ne_eq, Nat.reduceEqDiff, Nat.reduceAdd, Nat.reduceMul, Nat.reduceLT, Nat.reduceLeDiff, and_self, gu_eq, gu_ne, gu_ne2, gu_at]; exact up2_sw (by omega)
  · unfold mA cW aA; simp only [Nat.add_one_sub_one, forall_eq, true_and, and_true, true_implies, not_true_eq_false, not_false_eq_true, false_implies, implies_true, ne_eq, Nat.reduceEqDiff, Nat.reduceAdd, Nat.reduceMul, Nat.reduceLT, Nat.reduceLeDiff, and_self, gu_eq, gu_ne, gu_ne2, gu_at]; exact up2_sw (by omega)
  · unfold mA cW aA; simp only [Nat.add_one_sub_one, forall_eq, true_and, and_true, true_implies, not_true_eq_false, not_false_eq_true, false_implies, implies_true, ne_eq, Nat.reduceEqDiff, Nat.reduceAdd, Nat.reduceMul, Nat.reduceLT, Nat.reduceLeDiff, and_self, gu_eq, gu_ne, gu_ne2, gu_at]; exact up2_sw (by omega)
  · unfold mA cW aA; simp only [Nat.add_one_sub_one, forall_eq, true_and, and_true, true_implies, not_true_eq_false, not_false_eq_true, false_implies, implies_true, ne_eq, Nat.reduceEqDiff, Nat.reduceAdd, Nat.reduceMul, Nat.reduceLT, Nat.reduceLeDiff, and_self, gu_eq, gu_ne, gu_ne2, gu_at]; exact up2_sw (by omega)
  · unfold mA cW aA; simp only [Nat.add_one_sub_one, forall_eq, true_and, and_true, true_implies, not_true_eq_false, not_false_eq_true, false_implies, implies_true, ne_eq, Nat.reduceEqDiff, Nat.reduceAdd, Nat.reduceMul, Nat.reduceLT, Nat.reduceLeDiff, and_self, gu_eq, gu_ne, gu_ne2]
  · unfold mA cW aA; simp only [Nat.add_one_sub_one, forall_eq, true_and, and_true, true_implies, not_true_eq_false, not_false_eq_true, false_implies, implies_true, ne_eq, Nat.reduceEqDiff, Nat.reduceAdd, Nat.reduceMul, Nat.reduceLT, Nat.reduceLeDiff, and_self, gu_eq, gu_ne, gu_ne2]
  · intro W0 hW0 e0
    have := nI_inj (e0.symm.trans e76) (by omega) (by omega)
    subst this
    refine ⟨W0 + 1, by omega, by omega, ?_, fun k hk => ?_⟩
    · unfold mA cW aA; simp only [Nat.add_one_sub_one, forall_eq, true_and, and_true, true_implies, not_true_eq_false, not_false_eq_true, false_implies, implies_true, ne_eq, Nat.reduceEqDiff, Nat.reduceAdd, Nat.reduceMul, Nat.reduceLT, Nat.reduceLeDiff, and_self, gu_eq, gu_ne, gu_ne2]
    · unfold mA cW aA; simp only [Nat.add_one_sub_one, forall_eq, true_and, and_true, true_implies, not_true_eq_false, not_false_eq_true, false_implies, implies_true, ne_eq, Nat.reduceEqDiff, Nat.reduceAdd, Nat.reduceMul, Nat.reduceLT, Nat.reduceLeDiff, and_self, gu_eq, gu_ne, gu_ne2, gu_at]; rw [if_neg (by omega), if_neg (by omega)]
end PGR4
