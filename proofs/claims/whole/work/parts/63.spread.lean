/-! THE MODEL'S SEARCH: spreads -/
theorem d40 {p m : Nat} (h : m < 40) : (40 * p + m) / 40 = p := by omega
theorem s40 (p m : Nat) : 40 * p + m - p * 40 = m := by omega
section SPREAD
variable (K : Nat) (fr tt ln : Nat → Nat) (wd : Nat → Int)
def NBk (T : Nat) (σ : gS) (p m k : Nat) : Prop := (fr k = p → m + ln k < T → (σ 78 (40 * k + m)).toInt < wd k → σ 84 (40 * tt k + (m + ln k)) = 1) ∧ (tt k = p → ln k ≤ m → 0 < (σ 78 (40 * k + (m - ln k))).toInt → σ 84 (40 * fr k + (m - ln k)) = 1)
def NB (T : Nat) (σ : gS) (p m : Nat) : Prop := (m + 1 < T → σ 84 (40 * p + (m + 1)) = 1) ∧ (∀ m', m = m' + 1 → 0 < (σ 77 (40 * p + m')).toInt → σ 84 (40 * p + m') = 1) ∧ (∀ k, k < K → NBk fr tt ln wd T σ p m k)
variable {P K fr tt ln wd}
theorem GM.cong {σ σ' : gS} (h : GM P K fr tt ln wd σ) (e : ∀ k, 71 ≤ k → k ≤ 76 → σ' k = σ k) : GM P K fr tt ln wd σ' := by
  unfold GM at *
  rw [e 71 (by omega) (by omega), e 72 (by omega) (by omega), e 73 (by omega) (by omega), e 74 (by omega) (by omega), e 75 (by omega) (by omega), e 76 (by omega) (by omega)]
  exact h
theorem NBk.mono {T : Nat} {σ σ' : gS} {c c' p m k : Nat} (h : NBk fr tt ln wd T σ p m k) (e : BX σ c σ' c') : NBk fr tt ln wd T σ' p m k := by
  have e78 := ag_kB e.1 (k := 78) (by omega)
  unfold NBk
  rw [e78]
  exact ⟨fun a b c => e.2.2.2 _ (h.1 a b c), fun a b c => e.2.2.2 _ (h.2 a b c)⟩
theorem NB.mono {T : Nat} {σ σ' : gS} {c c' p m : Nat} (h : NB K fr tt ln wd T σ p m) (e : BX σ c σ' c') : NB K fr tt ln wd T σ' p m := by
  have e77 := ag_kB e.1 (k := 77) (by omega)
  refine ⟨fun a => e.2.2.2 _ (h.1 a), fun m' a b => ?_, fun k hk => (h.2.2 k hk).mono e⟩
  rw [e77] at b
  exact e.2.2.2 _ (h.2.1 m' a b)
theorem p_spread58 {Q : gS → Prop} {T : Nat} {σ : gS} {c : Nat} {pos : Nat → Nat} {p m : Nat} (hG : GM P K fr tt ln wd σ) (hT : T ≤ 40) (hB : BI P K fr tt ln wd T σ c pos) (hp : p < P) (hm : m < T) (hs : σ 84 (40 * p + m) = 1)
    (kk : ∀ σ' c' pos', BI P K fr tt ln wd T σ' c' pos' → BX σ c σ' c' → (∀ k, k < K → NBk fr tt ln wd T σ' p m k) → Q σ') : ∃ n, w_X9_spreads_58 Q n (nI (40 * p + m)) (nI T) (nI p) (nI m) 0 σ := by
  obtain ⟨⟨hP, hK, e71, W, e76, hW⟩, g1, g2⟩ := id hG
  have key : ∀ (d j : Nat) (s : gS) (c1 : Nat) (pos1 : Nat → Nat), j + d = K → BI P K fr tt ln wd T s c1 pos1 → BX σ c s c1 → (∀ k, k < j → NBk fr tt ln wd T s p m k) → w_X9_spreads_58 Q (d + 1) (nI (40 * p + m)) (nI T) (nI p) (nI m) (nI j) s := by
    intro d
    induction d with
    | zero =>
      intro j s c1 pos1 hd hB1 hX hN
      unfold w_X9_spreads_58
      rw [ag_kB hX.1 (k := 76) (by omega)]
      simp (disch := omega) only [l_3, l_4, l_6, l_8, l_9, l_10, l_12, l_14, l_16, l_19, l_20, l_23, l_24, l_26, l_28, l_39, l_40, l_56, l_57, l_60, l_192, l_200, l_255, l_299, l_320, l_400, l_1120, l_2000, l_20000, l_10000, l_1000, l_1000000, nI_1, n_2mul, nI_add, pk_mul, pk_sub, sb_m1, nI_clamp, nI_clamp0, vpT, nI_leI, nI_ltI, nI_eq, nI_0le, nI_lt0, nI_le0, nI_0lt, nI_eq0, nI_eqm1, nI_m1eq, Nat.add_one_sub_one, forall_eq, true_and, and_true, true_implies, not_true_eq_false, not_false_eq_true, false_implies, implies_true, ne_eq, Nat.reduceEqDiff, Nat.reduceAdd, Nat.reduceMul, Nat.reduceLT, Nat.reduceLeDiff, and_self, e76]
      exact q_T (by omega) (kk s c1 pos1 hB1 hX (fun k hk => hN k (by omega)))
    | succ d ih =>
      intro j s c1 pos1 hd hB1 hX hN
      obtain ⟨x1, x2, x3, x4, x5, x6, x7⟩ := g1 j (by omega)
      obtain ⟨y1, y2, y3, y4⟩ := g2 j (by omega)
      unfold w_X9_spreads_58
      rw [ag_kB hX.1 (k := 76) (by omega), ag_kB hX.1 (k := 72) (by omega), ag_kB hX.1 (k := 74) (by omega), ag_kB hX.1 (k := 75) (by omega), ag_kB hX.1 (k := 73) (by omega)]
      simp (disch := omega) only [l_3, l_4, l_6, l_8, l_9, l_10, l_12, l_14, l_16, l_19, l_20, l_23, l_24, l_26, l_28, l_39, l_40, l_56, l_57, l_60, l_192, l_200, l_255, l_299, l_320, l_400, l_1120, l_2000, l_20000, l_10000, l_1000, l_1000000, nI_1, n_2mul, nI_add, pk_mul, pk_sub, sb_m1, nI_clamp, nI_clamp0, vpT, nI_leI, nI_ltI, nI_eq, nI_0le, nI_lt0, nI_le0, nI_0lt, nI_eq0, nI_eqm1, nI_m1eq, Nat.add_one_sub_one, forall_eq, true_and, and_true, true_implies, not_true_eq_false, not_false_eq_true, false_implies, implies_true, ne_eq, Nat.reduceEqDiff, Nat.reduceAdd, Nat.reduceMul, Nat.reduceLT, Nat.reduceLeDiff, and_self, e76, y1, y2, y3]
      refine q_F (by omega) ?_
      have k145 : ∀ s2 c2 pos2, BI P K fr tt ln wd T s2 c2 pos2 → BX σ c s2 c2 → (∀ k, k < j → NBk fr tt ln wd T s2 p m k) → (fr j = p → m + ln j < T → (s2 78 (40 * j + m)).toInt < wd j → s2 84 (40 * tt j + (m + ln j)) = 1) → w_X9_spreads_145 Q (w_X9_spreads_58 Q (d + 1)) (nI (40 * p + m)) (nI T) (nI p) (nI m) (nI j) s2 := fun s2 c2 pos2 hB2 hX2 hN2 h1 => by
        have fin : ∀ s3 c3 pos3, BI P K fr tt ln wd T s3 c3 pos3 → BX s2 c2 s3 c3 → (tt j = p → ln j ≤ m → 0 < (s2 78 (40 * j + (m - ln j))).toInt → s3 84 (40 * fr j + (m - ln j)) = 1) → w_X9_spreads_58 Q (d + 1) (nI (40 * p + m)) (nI T) (nI p) (nI m) (nI (j + 1)) s3 := fun s3 c3 pos3 hB3 hX3 h2 => by
          refine ih (j + 1) s3 c3 pos3 (by omega) hB3 (hX2.tr hX3) (fun k hk => ?_)
          by_cases e : k = j
          · rw [e]
            unfold NBk
            rw [ag_kB hX3.1 (k := 78) (by omega)]
            exact ⟨fun a b c => hX3.2.2.2 _ (h1 a b c), h2⟩
          · exact (hN2 k (by omega)).mono hX3
        unfold w_X9_spreads_145 w_X9_nodeOf
        rw [ag_kB hX2.1 (k := 72) (by omega), ag_kB hX2.1 (k := 74) (by omega), ag_kB hX2.1 (k := 73) (by omega)]
        simp (disch := omega) only [l_3, l_4, l_6, l_8, l_9, l_10, l_12, l_14, l_16, l_19, l_20, l_23, l_24, l_26, l_28, l_39, l_40, l_56, l_57, l_60, l_192, l_200, l_255, l_299, l_320, l_400, l_1120, l_2000, l_20000, l_10000, l_1000, l_1000000, nI_1, n_2mul, nI_add, pk_mul, pk_sub, sb_m1, nI_clamp, nI_clamp0, vpT, nI_leI, nI_ltI, nI_eq, nI_0le, nI_lt0, nI_le0, nI_0lt, nI_eq0, nI_eqm1, nI_m1eq, Nat.add_one_sub_one, forall_eq, true_and, and_true, true_implies, not_true_eq_false, not_false_eq_true, false_implies, implies_true, ne_eq, Nat.reduceEqDiff, Nat.reduceAdd, Nat.reduceMul, Nat.reduceLT, Nat.reduceLeDiff, and_self, y1, y2, y3]
        refine ⟨fun c3 => fin s2 c2 pos2 hB2 BX.rf (fun a => absurd a c3), fun c3 => ?_⟩
        refine ⟨fun c4 => fin s2 c2 pos2 hB2 BX.rf (fun _ a => by omega), fun c4 => ?_⟩
        have e1 : 40 * j + m - ln j = 40 * j + (m - ln j) := by omega
        simp (disch := omega) only [l_3, l_4, l_6, l_8, l_9, l_10, l_12, l_14, l_16, l_19, l_20, l_23, l_24, l_26, l_28, l_39, l_40, l_56, l_57, l_60, l_192, l_200, l_255, l_299, l_320, l_400, l_1120, l_2000, l_20000, l_10000, l_1000, l_1000000, nI_1, n_2mul, nI_add, pk_mul, pk_sub, sb_m1, nI_clamp, nI_clamp0, vpT, nI_leI, nI_ltI, nI_eq, nI_0le, nI_lt0, nI_le0, nI_0lt, nI_eq0, nI_eqm1, nI_m1eq, Nat.add_one_sub_one, forall_eq, true_and, and_true, true_implies, not_true_eq_false, not_false_eq_true, false_implies, implies_true, ne_eq, Nat.reduceEqDiff, Nat.reduceAdd, Nat.reduceMul, Nat.reduceLT, Nat.reduceLeDiff, and_self, e1]
        refine q_le (fun c5 => fin s2 c2 pos2 hB2 BX.rf (fun _ _ a => by rw [t_0] at c5; omega)) (fun c5 => ?_)
        rw [t_0] at c5
        refine p_comes hP hT hB2 x1 (by omega) (Or.inr rfl) (Or.inr ⟨p, m, rfl, hp, hm, hX2.2.2.2 _ hs, Or.inr (Or.inr (Or.inr ⟨j, by omega, rfl, rfl, c3, rfl, by omega, by omega⟩))⟩) (fun s3 c3' pos3 hB3 hX3 h3 => fin s3 c3' pos3 hB3 hX3 (fun _ _ _ => h3))
      refine ⟨fun c2 => k145 s c1 pos1 hB1 hX hN (fun a => absurd a c2), fun c2 => ?_⟩
      refine ⟨fun c3 => k145 s c1 pos1 hB1 hX hN (fun _ a => by omega), fun c3 => ?_⟩
      refine q_le (fun c4 => k145 s c1 pos1 hB1 hX hN (fun _ _ a => by omega)) (fun c4 => ?_)
      unfold w_X9_nodeOf
      simp (disch := omega) only [l_3, l_4, l_6, l_8, l_9, l_10, l_12, l_14, l_16, l_19, l_20, l_23, l_24, l_26, l_28, l_39, l_40, l_56, l_57, l_60, l_192, l_200, l_255, l_299, l_320, l_400, l_1120, l_2000, l_20000, l_10000, l_1000, l_1000000, nI_1, n_2mul, nI_add, pk_mul, pk_sub, sb_m1, nI_clamp, nI_clamp0, vpT, nI_leI, nI_ltI, nI_eq, nI_0le, nI_lt0, nI_le0, nI_0lt, nI_eq0, nI_eqm1, nI_m1eq, Nat.add_one_sub_one, forall_eq, true_and, and_true, true_implies, not_true_eq_false, not_false_eq_true, false_implies, implies_true, ne_eq, Nat.reduceEqDiff, Nat.reduceAdd, Nat.reduceMul, Nat.reduceLT, Nat.reduceLeDiff, and_self]
      refine p_comes hP hT hB1 x2 (by omega) (Or.inl rfl) (Or.inr ⟨p, m, rfl, hp, hm, hX.2.2.2 _ hs, Or.inr (Or.inr (Or.inl ⟨j, by omega, rfl, rfl, c2, rfl, rfl, by omega, by omega⟩))⟩) (fun s3 c3' pos3 hB3 hX3 h3 => k145 s3 c3' pos3 hB3 (hX.tr hX3) (fun k hk => (hN k hk).mono hX3) (fun _ _ _ => h3))
  exact ⟨K + 1, by rw [← nI_0]; exact key K 0 σ c pos (by omega) hB BX.rf (fun k hk => by omega)⟩
theorem p_spreads {Q : gS → Prop} {T : Nat} {σ : gS} {c : Nat} {pos : Nat → Nat} {p m : Nat} (hG : GM P K fr tt ln wd σ) (hT : T ≤ 40) (hB : BI P K fr tt ln wd T σ c pos) (hp : p < P) (hm : m < T) (hs : σ 84 (40 * p + m) = 1)
    (kk : ∀ σ' c' pos', BI P K fr tt ln wd T σ' c' pos' → BX σ c σ' c' → NB K fr tt ln wd T σ' p m → Q σ') : w_X9_spreads Q σ (nI (40 * p + m)) (nI T) := by
  obtain ⟨⟨hP, hK, e71, W, e76, hW⟩, g1, g2⟩ := id hG
  unfold w_X9_spreads
  simp (disch := omega) only [l_3, l_4, l_6, l_8, l_9, l_10, l_12, l_14, l_16, l_19, l_20, l_23, l_24, l_26, l_28, l_39, l_40, l_56, l_57, l_60, l_192, l_200, l_255, l_299, l_320, l_400, l_1120, l_2000, l_20000, l_10000, l_1000, l_1000000, nI_1, n_2mul, nI_add, pk_mul, pk_sub, sb_m1, nI_clamp, nI_clamp0, vpT, nI_leI, nI_ltI, nI_eq, nI_0le, nI_lt0, nI_le0, nI_0lt, nI_eq0, nI_eqm1, nI_m1eq, Nat.add_one_sub_one, forall_eq, true_and, and_true, true_implies, not_true_eq_false, not_false_eq_true, false_implies, implies_true, ne_eq, Nat.reduceEqDiff, Nat.reduceAdd, Nat.reduceMul, Nat.reduceLT, Nat.reduceLeDiff, and_self, d40, s40, pk_div]
  have k55 : ∀ s2 c2 pos2, BI P K fr tt ln wd T s2 c2 pos2 → BX σ c s2 c2 → (m + 1 < T → s2 84 (40 * p + (m + 1)) = 1) → (∀ m', m = m' + 1 → 0 < (s2 77 (40 * p + m')).toInt → s2 84 (40 * p + m') = 1) → w_X9_spreads_55 Q (nI (40 * p + m)) (nI T) (nI p) (nI m) s2 := fun s2 c2 pos2 hB2 hX2 h1 h2 => by
    unfold w_X9_spreads_55
    refine p_spread58 (hG.cong (fun k h1 h2 => ag_kB hX2.1 (by omega))) hT hB2 hp hm (hX2.2.2.2 _ hs) (fun s3 c3 pos3 hB3 hX3 h3 => kk s3 c3 pos3 hB3 (hX2.tr hX3) ⟨fun a => hX3.2.2.2 _ (h1 a), fun m' a b => ?_, h3⟩)
    rw [ag_kB hX3.1 (k := 77) (by omega)] at b
    exact hX3.2.2.2 _ (h2 m' a b)
  have k29 : ∀ s2 c2 pos2, BI P K fr tt ln wd T s2 c2 pos2 → BX σ c s2 c2 → (m + 1 < T → s2 84 (40 * p + (m + 1)) = 1) → w_X9_spreads_29 Q (nI (40 * p + m)) (nI T) (nI p) (nI m) s2 := fun s2 c2 pos2 hB2 hX2 h1 => by
    unfold w_X9_spreads_29
    simp (disch := omega) only [l_3, l_4, l_6, l_8, l_9, l_10, l_12, l_14, l_16, l_19, l_20, l_23, l_24, l_26, l_28, l_39, l_40, l_56, l_57, l_60, l_192, l_200, l_255, l_299, l_320, l_400, l_1120, l_2000, l_20000, l_10000, l_1000, l_1000000, nI_1, n_2mul, nI_add, pk_mul, pk_sub, sb_m1, nI_clamp, nI_clamp0, vpT, nI_leI, nI_ltI, nI_eq, nI_0le, nI_lt0, nI_le0, nI_0lt, nI_eq0, nI_eqm1, nI_m1eq, Nat.add_one_sub_one, forall_eq, true_and, and_true, true_implies, not_true_eq_false, not_false_eq_true, false_implies, implies_true, ne_eq, Nat.reduceEqDiff, Nat.reduceAdd, Nat.reduceMul, Nat.reduceLT, Nat.reduceLeDiff, and_self]
    refine ⟨fun c0 => k55 s2 c2 pos2 hB2 hX2 h1 (fun m' a b => by omega), fun c0 => ?_⟩
    obtain ⟨m', rfl⟩ : ∃ m', m = m' + 1 := ⟨m - 1, by omega⟩
    have e1 : nI (40 * p + (m' + 1)) - 1 = nI (40 * p + m') := nI_pred (40 * p + m')
    rw [e1]
    simp (disch := omega) only [l_3, l_4, l_6, l_8, l_9, l_10, l_12, l_14, l_16, l_19, l_20, l_23, l_24, l_26, l_28, l_39, l_40, l_56, l_57, l_60, l_192, l_200, l_255, l_299, l_320, l_400, l_1120, l_2000, l_20000, l_10000, l_1000, l_1000000, nI_1, n_2mul, nI_add, pk_mul, pk_sub, sb_m1, nI_clamp, nI_clamp0, vpT, nI_leI, nI_ltI, nI_eq, nI_0le, nI_lt0, nI_le0, nI_0lt, nI_eq0, nI_eqm1, nI_m1eq, Nat.add_one_sub_one, forall_eq, true_and, and_true, true_implies, not_true_eq_false, not_false_eq_true, false_implies, implies_true, ne_eq, Nat.reduceEqDiff, Nat.reduceAdd, Nat.reduceMul, Nat.reduceLT, Nat.reduceLeDiff, and_self]
    refine q_le (fun c1 => k55 s2 c2 pos2 hB2 hX2 h1 (fun m'' a b => ?_)) (fun c1 => ?_)
    · rw [t_0] at c1
      have : m'' = m' := by omega
      rw [this] at b; omega
    · rw [t_0] at c1
      refine p_comes hP hT hB2 hp (by omega) (Or.inr rfl) (Or.inr ⟨p, m' + 1, rfl, hp, hm, hX2.2.2.2 _ hs, Or.inr (Or.inl ⟨rfl, rfl, rfl, rfl, by omega⟩)⟩) (fun s3 c3' pos3 hB3 hX3 h3 => k55 s3 c3' pos3 hB3 (hX2.tr hX3) (fun a => hX3.2.2.2 _ (h1 a)) (fun m'' a _ => ?_))
      have : m'' = m' := by omega
      rw [this]; exact h3
  refine ⟨fun c0 => k29 σ c pos hB BX.rf (fun a => by omega), fun c0 => ?_⟩
  exact p_comes (m := m + 1) hP hT hB hp (by omega) (Or.inl rfl) (Or.inr ⟨p, m, rfl, hp, hm, hs, Or.inl ⟨rfl, rfl, rfl, rfl, by omega, by omega⟩⟩) (fun s3 c3' pos3 hB3 hX3 h3 => k29 s3 c3' pos3 hB3 hX3 (fun _ => h3))
end SPREAD
