/-! THE MODEL: more -/
theorem nadd0 (a : Nat) : nI a + (0 : Int32) = nI (a + 0) := by rw [← nI_0, nI_add]
section MORE
variable {P K : Nat} {fr tt ln : Nat → Nat} {wd cr : Nat → Int}
def MU (P : Nat) (σ : gS) (p : Nat) : Int := if p < P then (σ 80 p).toInt else 0
theorem p_more67 {Q : Int32 → gS → Prop} {T : Nat} {B : Int} {σ : gS} {a : Int32} (hT : T ≤ 40) (hG : GM P K fr tt ln wd σ) (hB : 0 ≤ B ∧ B ≤ 60000000) (hr : ∀ p, p < P → 0 ≤ (σ 69 p).toInt ∧ (σ 69 p).toInt ≤ 2000) (hA : MA P K ln wd cr (rA P (σ 69) (σ 70) a) T B σ) (hE : ME P fr tt ln cr σ (fun _ => 0))
    (k0 : ∀ s, ag kB σ s → FCut K fr tt ln wd (rA P (σ 69) (σ 70) a) T (MU P σ) (fun k m => (σ 78 (40 * k + m)).toInt) (fun p m => (σ 77 (40 * p + m)).toInt) (fun p m => (σ 79 (40 * p + m)).toInt) (fun p m => p < P ∧ s 84 (40 * p + m) = 1) → Q 0 s)
    (k1 : ∀ (xn : Int32) (n : Int) (p0 : Nat) (s : gS), xn.toInt = n → 1 ≤ n → ag (fun k => kB k ∨ kL k) σ s → p0 < P → (s 80 p0).toInt = (σ 80 p0).toInt - n → (∀ q, q ≠ p0 → s 80 q = σ 80 q) → MA P K ln wd cr (rA P (σ 69) (σ 70) a) T (B + 321 * n) s → ME P fr tt ln cr s (fun _ => 0) → Q xn s) :
    ∀ (d i : Nat) (s : gS) (c : Nat) (pos : Nat → Nat), i + d = 320 → ag kB σ s → BI P K fr tt ln wd T s c pos → (∀ q, q < P → 0 < (σ 80 q).toInt → s 84 (40 * q + 0) = 1) → (∀ j p m, j < i → p < P → m < T → s 85 j = nI (40 * p + m) → NB K fr tt ln wd T s p m ∧ (σ 79 (40 * p + m)).toInt = rA P (σ 69) (σ 70) a p) → i ≤ c → w_X9_more_67 Q (d + 1) (nI T) a (nI i) s := by
  obtain ⟨⟨hP, hK, e71, W, e76, hW⟩, g1, g2⟩ := id hG
  have fin : ∀ (s : gS) (c : Nat) (pos : Nat → Nat), ag kB σ s → BI P K fr tt ln wd T s c pos → (∀ q, q < P → 0 < (σ 80 q).toInt → s 84 (40 * q + 0) = 1) → (∀ j p m, j < c → p < P → m < T → s 85 j = nI (40 * p + m) → NB K fr tt ln wd T s p m ∧ (σ 79 (40 * p + m)).toInt = rA P (σ 69) (σ 70) a p) → Q 0 s := fun s c pos ha hBI hst hpr => by
    have seen : ∀ p m, p < P → m < T → s 84 (40 * p + m) = 1 → NB K fr tt ln wd T s p m ∧ (σ 79 (40 * p + m)).toInt = rA P (σ 69) (σ 70) a p := fun p m hp hm hs => by
      rcases hBI.2.2.2 (40 * p + m) (by omega) with z | ⟨z1, z2, z3, z4⟩
      · rw [z] at hs; exact absurd hs (by decide)
      · exact hpr _ p m z2 hp hm z3
    have e77 := ag_kB ha (k := 77) (by omega)
    have e78 := ag_kB ha (k := 78) (by omega)
    refine k0 s ha ⟨fun p hp hu => ?_, fun p m hp hm hc => ?_, fun p m hp hm hc hw => ?_, fun k m hk hm hc hb => ?_, fun k m hk hm hc hb => ?_, fun p m hp hm hc => (seen p m hc.1 hm hc.2).2⟩
    · unfold MU at hu
      split at hu
      · rename_i q; exact ⟨q, hst p q hu⟩
      · omega
    · exact ⟨hc.1, (seen p m hc.1 (by omega) hc.2).1.1 hm⟩
    · exact ⟨hc.1, (seen p (m + 1) hc.1 hm hc.2).1.2.1 m rfl (by rw [e77]; exact hw)⟩
    · exact ⟨(g1 k hk).2.1, ((seen _ m hc.1 (by omega) hc.2).1.2.2 k hk).1 rfl hm (by rw [e78]; exact hb)⟩
    · have := ((seen _ (m + ln k) hc.1 hm hc.2).1.2.2 k hk).2 rfl (by omega) (by rw [e78, Nat.add_sub_cancel]; exact hb)
      rw [Nat.add_sub_cancel] at this
      exact ⟨(g1 k hk).1, this⟩
  intro d
  induction d with
  | zero =>
    intro i s c pos hd ha hBI hst hpr hic
    have hc : c ≤ 320 := by rw [hBI.2.1]; exact fcnt_le _ _
    unfold w_X9_more_67
    rw [hBI.1]
    exact q_T (nI_le (by omega) (by omega)) (fin s c pos ha hBI hst (fun j p m hj => hpr j p m (by omega)))
  | succ d ih =>
    intro i s c pos hd ha hBI hst hpr hic
    have hc : c ≤ 320 := by rw [hBI.2.1]; exact fcnt_le _ _
    unfold w_X9_more_67
    rw [hBI.1]
    simp (disch := omega) only [l_3, l_4, l_6, l_8, l_9, l_10, l_12, l_14, l_16, l_19, l_20, l_23, l_24, l_26, l_28, l_39, l_40, l_56, l_57, l_60, l_192, l_200, l_255, l_299, l_320, l_400, l_1120, l_2000, l_20000, l_10000, l_1000, l_1000000, nI_1, n_2mul, nI_add, pk_mul, pk_sub, sb_m1, nI_clamp, nI_clamp0, vpT, nI_leI, nI_ltI, nI_eq, nI_0le, nI_lt0, nI_le0, nI_0lt, nI_eq0, nI_eqm1, nI_m1eq, Nat.add_one_sub_one, forall_eq, true_and, and_true, true_implies, not_true_eq_false, not_false_eq_true, false_implies, implies_true, ne_eq, Nat.reduceEqDiff, Nat.reduceAdd, Nat.reduceMul, Nat.reduceLT, Nat.reduceLeDiff, and_self]
    refine ⟨fun c1 => fin s c pos ha hBI hst (fun j p m hj => hpr j p m (by omega)), fun c1 => ?_⟩
    obtain ⟨p, m, hp, hm, eq, hs, -⟩ := hBI.2.2.1 i (by omega)
    have e69 := ag_kB ha (k := 69) (by omega)
    have e70 := ag_kB ha (k := 70) (by omega)
    have e79 := ag_kB ha (k := 79) (by omega)
    have a5 := hA.2.2.2.2.1 p m hp (by omega)
    have k130 : (σ 79 (40 * p + m)).toInt = rA P (σ 69) (σ 70) a p → w_X9_more_130 Q (w_X9_more_67 Q (d + 1)) (nI T) a (nI i) (nI (40 * p + m)) s := fun hg => by
      unfold w_X9_more_130
      simp (disch := omega) only [l_3, l_4, l_6, l_8, l_9, l_10, l_12, l_14, l_16, l_19, l_20, l_23, l_24, l_26, l_28, l_39, l_40, l_56, l_57, l_60, l_192, l_200, l_255, l_299, l_320, l_400, l_1120, l_2000, l_20000, l_10000, l_1000, l_1000000, nI_1, n_2mul, nI_add, pk_mul, pk_sub, sb_m1, nI_clamp, nI_clamp0, vpT, nI_leI, nI_ltI, nI_eq, nI_0le, nI_lt0, nI_le0, nI_0lt, nI_eq0, nI_eqm1, nI_m1eq, Nat.add_one_sub_one, forall_eq, true_and, and_true, true_implies, not_true_eq_false, not_false_eq_true, false_implies, implies_true, ne_eq, Nat.reduceEqDiff, Nat.reduceAdd, Nat.reduceMul, Nat.reduceLT, Nat.reduceLeDiff, and_self]
      refine p_spreads (hG.cong (fun k h1 h2 => ag_kB ha (by omega))) hT hBI hp hm hs (fun s2 c2 pos2 hB2 hX2 hN2 => ?_)
      refine ih (i + 1) s2 c2 pos2 (by omega) (ag_tr ha hX2.1) hB2 (fun q hq hu => hX2.2.2.2 _ (hst q hq hu)) (fun j p' m' hj hp' hm' e' => ?_) (by have := hX2.2.1; omega)
      rw [hX2.2.2.1 j (by omega)] at e'
      by_cases ej : j = i
      · rw [ej, eq] at e'
        have := nI_inj e' (by omega) (by omega)
        have e3 : p' = p ∧ m' = m := by omega
        rw [e3.1, e3.2]
        exact ⟨hN2, hg⟩
      · have := hpr j p' m' (by omega) hp' hm' e'
        exact ⟨this.1.mono hX2, this.2⟩
    simp (disch := omega) only [l_3, l_4, l_6, l_8, l_9, l_10, l_12, l_14, l_16, l_19, l_20, l_23, l_24, l_26, l_28, l_39, l_40, l_56, l_57, l_60, l_192, l_200, l_255, l_299, l_320, l_400, l_1120, l_2000, l_20000, l_10000, l_1000, l_1000000, nI_1, n_2mul, nI_add, pk_mul, pk_sub, sb_m1, nI_clamp, nI_clamp0, vpT, nI_leI, nI_ltI, nI_eq, nI_0le, nI_lt0, nI_le0, nI_0lt, nI_eq0, nI_eqm1, nI_m1eq, Nat.add_one_sub_one, forall_eq, true_and, and_true, true_implies, not_true_eq_false, not_false_eq_true, false_implies, implies_true, ne_eq, Nat.reduceEqDiff, Nat.reduceAdd, Nat.reduceMul, Nat.reduceLT, Nat.reduceLeDiff, and_self, eq, d40, pk_div]
    rw [e69, e70, e79]
    refine ⟨fun c2 => k130 ?_, fun c2 => ⟨fun c3 => k130 ?_, fun c3 => q_le (fun c4 => k130 ?_) (fun c4 => ?_)⟩⟩
    · have : rA P (σ 69) (σ 70) a p = 0 := if_neg (fun q => c2 q.2.2)
      omega
    · have : rA P (σ 69) (σ 70) a p = 0 := if_neg (fun q => q.2.1 c3)
      omega
    · have : rA P (σ 69) (σ 70) a p = (σ 69 p).toInt := if_pos ⟨hp, c3, c2⟩
      omega
    · have hra : rA P (σ 69) (σ 70) a p = (σ 69 p).toInt := if_pos ⟨hp, c3, c2⟩
      have hA' : MA P K ln wd cr (rA P (σ 69) (σ 70) a) T B s := by
        unfold MA at *
        rw [ag_kB ha (k := 77) (by omega), ag_kB ha (k := 78) (by omega), e79, ag_kB ha (k := 80) (by omega)]
        exact hA
      have hE' : ME P fr tt ln cr s (fun _ => 0) := by
        unfold ME MS at *
        rw [ag_kB ha (k := 77) (by omega), ag_kB ha (k := 78) (by omega), e79, ag_kB ha (k := 80) (by omega)]
        exact hE
      refine p_leads hT (hG.cong (fun k h1 h2 => ag_kB ha (by omega))) hB hBI hA' hE' hp hm hs (by rw [e69, hra]) (by rw [e79]; omega) (fun xn n p0 s2 h1 h2 h3 h4 h5 h6 h7 h8 => ?_)
      refine k1 xn n p0 s2 h1 h2 (ag_tr (ag_mono ha (fun k hk => Or.inl hk)) (ag_mono h3 (fun k hk => Or.inr hk))) h4 (by rw [h5, ag_kB ha (by omega)]) (fun q hq => by rw [h6 q hq, ag_kB ha (by omega)]) h7 h8
theorem p_more {Q : Int32 → gS → Prop} {T : Nat} {B : Int} {σ : gS} {a : Int32} (hT0 : 0 < T) (hT : T ≤ 40) (hG : GM P K fr tt ln wd σ) (hB : 0 ≤ B ∧ B ≤ 60000000) (hr : ∀ p, p < P → 0 ≤ (σ 69 p).toInt ∧ (σ 69 p).toInt ≤ 2000) (hA : MA P K ln wd cr (rA P (σ 69) (σ 70) a) T B σ) (hE : ME P fr tt ln cr σ (fun _ => 0))
    (k0 : ∀ s, ag kB σ s → FCut K fr tt ln wd (rA P (σ 69) (σ 70) a) T (MU P σ) (fun k m => (σ 78 (40 * k + m)).toInt) (fun p m => (σ 77 (40 * p + m)).toInt) (fun p m => (σ 79 (40 * p + m)).toInt) (fun p m => p < P ∧ s 84 (40 * p + m) = 1) → Q 0 s)
    (k1 : ∀ (xn : Int32) (n : Int) (p0 : Nat) (s : gS), xn.toInt = n → 1 ≤ n → ag (fun k => kB k ∨ kL k) σ s → p0 < P → (s 80 p0).toInt = (σ 80 p0).toInt - n → (∀ q, q ≠ p0 → s 80 q = σ 80 q) → MA P K ln wd cr (rA P (σ 69) (σ 70) a) T (B + 321 * n) s → ME P fr tt ln cr s (fun _ => 0) → Q xn s) : w_X9_more Q σ (nI T) a := by
  obtain ⟨⟨hP, hK, e71, W, e76, hW⟩, g1, g2⟩ := id hG
  have k29 : ∀ (d j : Nat) (s : gS) (c : Nat) (pos : Nat → Nat), j + d = P → ag kB σ s → BI P K fr tt ln wd T s c pos → (∀ q, q < j → 0 < (σ 80 q).toInt → s 84 (40 * q + 0) = 1) → w_X9_more_29 Q (d + 1) (nI T) a (nI j) s := by
    intro d
    induction d with
    | zero =>
      intro j s c pos hd ha hBI hst
      unfold w_X9_more_29
      rw [ag_kB ha (k := 71) (by omega), e71]
      refine q_T (nI_le (by omega) (by omega)) ⟨321, ?_⟩
      have := p_more67 hT hG hB hr hA hE k0 k1 320 0 s c pos (by omega) ha hBI (fun q hq hu => hst q (by omega) hu) (fun j p m hj => by omega) (by omega)
      rw [nI_0] at this; exact this
    | succ d ih =>
      intro j s c pos hd ha hBI hst
      have e80 := ag_kB ha (k := 80) (by omega)
      unfold w_X9_more_29 w_X9_nodeOf
      rw [ag_kB ha (k := 71) (by omega), e71]
      simp (disch := omega) only [l_3, l_4, l_6, l_8, l_9, l_10, l_12, l_14, l_16, l_19, l_20, l_23, l_24, l_26, l_28, l_39, l_40, l_56, l_57, l_60, l_192, l_200, l_255, l_299, l_320, l_400, l_1120, l_2000, l_20000, l_10000, l_1000, l_1000000, nI_1, n_2mul, nI_add, pk_mul, pk_sub, sb_m1, nI_clamp, nI_clamp0, vpT, nI_leI, nI_ltI, nI_eq, nI_0le, nI_lt0, nI_le0, nI_0lt, nI_eq0, nI_eqm1, nI_m1eq, Nat.add_one_sub_one, forall_eq, true_and, and_true, true_implies, not_true_eq_false, not_false_eq_true, false_implies, implies_true, ne_eq, Nat.reduceEqDiff, Nat.reduceAdd, Nat.reduceMul, Nat.reduceLT, Nat.reduceLeDiff, and_self, nadd0]
      refine q_F (by omega) ?_
      refine q_le (fun c1 => ih (j + 1) s c pos (by omega) ha hBI (fun q hq hu => ?_)) (fun c1 => ?_)
      · by_cases e : q = j
        · rw [t_0, e80] at c1; rw [e] at hu; omega
        · exact hst q (by omega) hu
      · rw [t_0] at c1
        refine p_comes (m := 0) hP hT hBI (by omega) hT0 (Or.inl rfl) (Or.inl ⟨rfl, rfl, c1⟩) (fun s2 c2 pos2 hB2 hX2 h2 => ih (j + 1) s2 c2 pos2 (by omega) (ag_tr ha hX2.1) hB2 (fun q hq hu => ?_))
        by_cases e : q = j
        · rw [e]; exact h2
        · exact hX2.2.2.2 _ (hst q (by omega) hu)
  have k2 : ∀ (d j : Nat) (s : gS), j + d = 320 → ag kB σ s → (∀ x, x < j → s 84 x = 0) → w_X9_more_2 Q (d + 1) (nI T) a (nI j) s := by
    intro d
    induction d with
    | zero =>
      intro j s hd ha hz
      unfold w_X9_more_2
      simp (disch := omega) only [l_3, l_4, l_6, l_8, l_9, l_10, l_12, l_14, l_16, l_19, l_20, l_23, l_24, l_26, l_28, l_39, l_40, l_56, l_57, l_60, l_192, l_200, l_255, l_299, l_320, l_400, l_1120, l_2000, l_20000, l_10000, l_1000, l_1000000, nI_1, n_2mul, nI_add, pk_mul, pk_sub, sb_m1, nI_clamp, nI_clamp0, vpT, nI_leI, nI_ltI, nI_eq, nI_0le, nI_lt0, nI_le0, nI_0lt, nI_eq0, nI_eqm1, nI_m1eq, Nat.add_one_sub_one, forall_eq, true_and, and_true, true_implies, not_true_eq_false, not_false_eq_true, false_implies, implies_true, ne_eq, Nat.reduceEqDiff, Nat.reduceAdd, Nat.reduceMul, Nat.reduceLT, Nat.reduceLeDiff, and_self]
      refine q_T (by omega) ⟨P + 1, ?_⟩
      rw [← nI_0]
      refine k29 P 0 _ 0 (fun _ => 0) (by omega) (ag_gu' (by unfold kB; omega) ha) ⟨gu_eq, ?_, fun j hj => by omega, fun x hx => Or.inl (by rw [gu_ne (by omega)]; exact hz x (by omega))⟩ (fun q hq => by omega)
      exact (fcnt_0 (fun x hx => by rw [gu_ne (by omega), hz x (by omega)]; decide)).symm
    | succ d ih =>
      intro j s hd ha hz
      unfold w_X9_more_2
      simp (disch := omega) only [l_3, l_4, l_6, l_8, l_9, l_10, l_12, l_14, l_16, l_19, l_20, l_23, l_24, l_26, l_28, l_39, l_40, l_56, l_57, l_60, l_192, l_200, l_255, l_299, l_320, l_400, l_1120, l_2000, l_20000, l_10000, l_1000, l_1000000, nI_1, n_2mul, nI_add, pk_mul, pk_sub, sb_m1, nI_clamp, nI_clamp0, vpT, nI_leI, nI_ltI, nI_eq, nI_0le, nI_lt0, nI_le0, nI_0lt, nI_eq0, nI_eqm1, nI_m1eq, Nat.add_one_sub_one, forall_eq, true_and, and_true, true_implies, not_true_eq_false, not_false_eq_true, false_implies, implies_true, ne_eq, Nat.reduceEqDiff, Nat.reduceAdd, Nat.reduceMul, Nat.reduceLT, Nat.reduceLeDiff, and_self, vpn0]
      refine q_F (by omega) (ih (j + 1) _ (by omega) (ag_gu' (by unfold kB; omega) ha) (fun x hx => ?_))
      by_cases e : x = j
      · rw [e, gu_eq]
      · rw [gu_ne2 e]; exact hz x (by omega)
  unfold w_X9_more
  exact ⟨321, by rw [← nI_0]; exact k2 320 0 σ (by omega) ag_rf (fun x hx => by omega)⟩
end MORE
