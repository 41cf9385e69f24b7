/-! ESCAPE: sendFrom -/
def kF' (k : Nat) : Prop := (37 ≤ k ∧ k ≤ 39) ∨ k = 41
def bd (B n : Int) : Nat → Int
  | 0 => B
  | i + 1 => bd B n i + n
theorem bd_eq (B n : Int) (i : Nat) : bd B n i = B + n * i := by
  induction i with
  | zero => simp [bd]
  | succ i ih => rw [bd, ih]; push_cast; rw [Int.mul_add]; omega
theorem bd_le {B n : Int} (hn : 0 ≤ n) {i j : Nat} (h : i ≤ j) : bd B n i ≤ bd B n j := by
  induction j with
  | zero => have : i = 0 := by omega
            rw [this]; exact Int.le_refl _
  | succ j ih =>
    by_cases e : i = j + 1
    · rw [e]; exact Int.le_refl _
    · have := ih (by omega)
      rw [bd]; omega
section SEND2
variable {P K : Nat} {fr tt ln : Nat → Nat} {wd cr ra : Nat → Int}
theorem VS.keep {M : Nat} {σ σ' : gS} {rs : Nat → Nat → Prop} {ts : Nat → Nat → Nat} {p m : Nat} (h : VS K fr tt ln wd M σ rs ts p m) (e41 : σ' 41 = σ 41) (e44 : σ' 44 = σ 44) (e45 : σ' 45 = σ 45) (e46 : σ' 46 = σ 46) (hw : 1 ≤ m → (σ 38 (40 * p + (m - 1))).toInt ≤ (σ' 38 (40 * p + (m - 1))).toInt) (hb : ∀ k, k < K → fr k = p → (σ 44 (40 * p + m)) = nI k → (σ' 37 (40 * k + m)).toInt ≤ (σ 37 (40 * k + m)).toInt) (hu : ∀ k, k < K → tt k = p → ln k ≤ m → (σ 44 (40 * p + m)) = nI (28 + k) → (σ 37 (40 * k + (m - ln k))).toInt ≤ (σ' 37 (40 * k + (m - ln k))).toInt) : VS K fr tt ln wd M σ' rs ts p m := by
  obtain ⟨h0, h1⟩ := h
  unfold VS
  rw [e44, e45, e46, e41]
  refine ⟨h0, ?_⟩
  rcases h1 with v | ⟨v1, v2, v3, v4, v5, v6, v7⟩ | ⟨k, g, v1, v2, v3, v4, v5, v6, v7, v8, v9⟩ | ⟨k, g, v1, v2, v3, v4, v5, v5', v6, v7, v8, v9⟩
  · exact Or.inl v
  · have := hw v2
    exact Or.inr (Or.inl ⟨v1, v2, v3, v4, v5, by omega, v7⟩)
  · have := hb k v1 v2 v3
    exact Or.inr (Or.inr (Or.inl ⟨k, g, v1, v2, v3, v4, v5, v6, v7, by omega, v9⟩))
  · have := hu k v1 v2 v5 v3
    exact Or.inr (Or.inr (Or.inr ⟨k, g, v1, v2, v3, v4, v5, v5', v6, v7, by omega, v9⟩))
theorem VS.keepw {M : Nat} {σ σ' : gS} {rs : Nat → Nat → Prop} {ts : Nat → Nat → Nat} {p m : Nat} (h : VS K fr tt ln wd M σ rs ts p m) (ha : ∀ k, k ≠ 38 → σ' k = σ k) (hw : ∀ m', m' < 40 → (σ 38 (40 * p + m')).toInt ≤ (σ' 38 (40 * p + m')).toInt) (hm : m < 40) : VS K fr tt ln wd M σ' rs ts p m := by
  have e37 := ha 37 (by omega)
  exact h.keep (ha 41 (by omega)) (ha 44 (by omega)) (ha 45 (by omega)) (ha 46 (by omega)) (fun _ => hw _ (by omega)) (fun k _ _ _ => by rw [e37]; omega) (fun k _ _ _ _ => by rw [e37]; omega)
theorem p_send54 {Q : Int32 → gS → Prop} {M : Nat} {B n : Int} {xn : Int32} {oh : Nat → Nat → Int} {C : Nat → Nat → Prop} {rs : Nat → Nat → Prop} {ts : Nat → Nat → Nat} {σ : gS} (hM : M < 40) (hG : GC P K fr tt ln wd σ) (hr : ∀ p m, rs p m → p < P ∧ m ≤ M) (hn : xn.toInt = n) (hn0 : 0 < n ∧ n ≤ 20000) (hB : 0 ≤ B ∧ B + 321 * n ≤ 90000000)
    (kk : ∀ σ', ag kF' σ σ' → FA P K ln wd cr ra M (B + 321 * n) σ' → FE P fr tt ln cr ra M oh σ' (fun _ => 0) → CC P K fr tt ln wd ra M oh C σ' → Q xn σ') :
    ∀ (f p m i : Nat) (s : gS), ts p m < f → ts p m + i ≤ 319 → rs p m → ag kF' σ s → (∀ p' m', rs p' m' → ts p' m' ≤ ts p m → VS K fr tt ln wd M s rs ts p' m') → FA P K ln wd cr ra M (bd B n (i + 1)) s → FE P fr tt ln cr ra M oh s (fun φ => n * φ p m) → CC P K fr tt ln wd ra M oh C s → C p m → n ≤ (s 46 (40 * p + m)).toInt → w_X0_sendFrom_54 Q f (nI p) (nI m) xn (nI i) s := by
  obtain ⟨⟨hP, hK, e35, e26⟩, g1, g2, g3, g4⟩ := id hG
  intro f
  induction f with
  | zero => intro p m i s ht; omega
  | succ f ih =>
    intro p m i s ht hi hrs ha hV hA hE hC hc hro
    obtain ⟨hpP, hmM⟩ := hr p m hrs
    obtain ⟨v0, v⟩ := hV p m hrs (Nat.le_refl _)
    have hbd := bd_le (B := B) (n := n) (by omega) (show i + 1 ≤ 320 by omega)
    have hbd' := bd_eq B n 320
    have hbs : bd B n (i + 1 + 1) = bd B n (i + 1) + n := rfl
    have cup : ∀ q a d, q < P → a + d ≤ M → C q a → C q (a + d) := fun q a d hq => by
      induction d with
      | zero => intro _ h; exact h
      | succ d ihd => intro h1 h2; exact hC.2.1 q (a + d) hq (by omega) (ihd (by omega) h2)
    have cup' : ∀ q a b, q < P → a ≤ b → b ≤ M → C q a → C q b := fun q a b hq h1 h2 h3 => by
      have := cup q a (b - a) hq (by omega) h3
      rw [show a + (b - a) = b by omega] at this
      exact this
    have e28 : ∀ k, k < K → s 28 k = nI (ln k) := fun k hk => by rw [ha 28 (by unfold kF'; omega)]; exact (g2 k hk).2.1
    have e27 : ∀ k, k < K → s 27 k = nI (tt k) := fun k hk => by rw [ha 27 (by unfold kF'; omega)]; exact (g2 k hk).1
    have e35' : ¬ s 35 0 = 0 := by rw [ha 35 (by unfold kF'; omega)]; exact e35
    unfold w_X0_sendFrom_54
    rcases v with ⟨v1, v2, v3⟩ | ⟨v1, v2, v3, v4, v5, v6, v7⟩ | ⟨k, g, v1, v2, v3, v4, v5, v6, v7, v8, v9⟩ | ⟨k, g, v1, v2, v3, v4, v5, v5', v6, v7, v8, v9⟩
    · simp (disch := omega) only [l_3, l_4, l_6, l_8, l_9, l_10, l_12, l_14, l_16, l_19, l_20, l_23, l_24, l_26, l_28, l_39, l_40, l_56, l_57, l_60, l_192, l_200, l_255, l_299, l_320, l_400, l_1120, l_2000, l_20000, l_10000, l_1000, l_1000000, nI_1, n_2mul, nI_add, pk_mul, pk_sub, sb_m1, nI_clamp, nI_clamp0, vpT, nI_leI, nI_ltI, nI_eq, nI_0le, nI_lt0, nI_le0, nI_0lt, nI_eq0, nI_eqm1, nI_m1eq, Nat.add_one_sub_one, forall_eq, true_and, and_true, true_implies, not_true_eq_false, not_false_eq_true, false_implies, implies_true, ne_eq, Nat.reduceEqDiff, Nat.reduceAdd, Nat.reduceMul, Nat.reduceLT, Nat.reduceLeDiff, and_self, v1]
      refine q_F (by omega) ?_
      have a6 := hA.2.2.2.2.2 p hpP
      have es : (s 41 p - xn).toInt = (s 41 p).toInt - n := by rw [i_sub (by omega) (by omega), hn]
      obtain ⟨A', E', C'⟩ := F_out (σ' := gu s 41 p (s 41 p - xn)) hM hP hA hE hC hpP (n := n) (by omega) (by omega) (by rw [gu_eq, es]) (fun i hi => gu_ne2 hi) (fun i hi => gu_ne hi)
      refine kk _ (ag_gu' (Or.inr rfl) ha) ⟨A'.1, A'.2.1, fun p m hp hm => ?_, A'.2.2.2⟩ (fun φ => by rw [E' φ, v2]; dsimp only; omega) C'
      have := A'.2.2.1 p m hp hm
      exact ⟨this.1, by omega, this.2.2⟩
    · obtain ⟨m, rfl⟩ : ∃ m', m = m' + 1 := ⟨m - 1, by omega⟩
      rw [Nat.add_sub_cancel] at v3 v4 v5 v6 v7
      unfold w_X0_sendFrom_216
      simp (disch := omega) only [l_3, l_4, l_6, l_8, l_9, l_10, l_12, l_14, l_16, l_19, l_20, l_23, l_24, l_26, l_28, l_39, l_40, l_56, l_57, l_60, l_192, l_200, l_255, l_299, l_320, l_400, l_1120, l_2000, l_20000, l_10000, l_1000, l_1000000, nI_1, n_2mul, nI_add, pk_mul, pk_sub, sb_m1, nI_clamp, nI_clamp0, vpT, nI_leI, nI_ltI, nI_eq, nI_0le, nI_lt0, nI_le0, nI_0lt, nI_eq0, nI_eqm1, nI_m1eq, Nat.add_one_sub_one, forall_eq, true_and, and_true, true_implies, not_true_eq_false, not_false_eq_true, false_implies, implies_true, ne_eq, Nat.reduceEqDiff, Nat.reduceAdd, Nat.reduceMul, Nat.reduceLT, Nat.reduceLeDiff, and_self, v1, v3]
      refine q_F (by omega) ?_
      have a3 := hA.2.2.1 p m hpP (by omega)
      have es : (s 38 (40 * p + m) - xn).toInt = (s 38 (40 * p + m)).toInt - n := by rw [i_sub (by omega) (by omega), hn]
      have cm : C p m := hC.2.2.1 p m hpP (by omega) hc (by omega)
      obtain ⟨A', E', C'⟩ := F_wait (σ' := gu s 38 (40 * p + m) (s 38 (40 * p + m) - xn)) (B' := bd B n (i + 1 + 1)) (a := m) (b := m + 1) (δ := -n) hM hP hA hE hC hpP (by omega) (by omega) (fun m' h1 h2 => by rw [show m' = m by omega]; omega) (by omega) (fun m' h1 h2 => by
        by_cases e : m' = m
        · rw [e]; exact cm
        · rw [show m' = m + 1 by omega]; exact hc) (fun m' h1 h2 => by rw [show m' = m by omega, gu_eq, es]; omega) (fun i hi => gu_ne2 (hi m (by omega) (by omega))) (fun i hi => gu_ne hi)
      refine ih p m (i + 1) _ (by omega) (by omega) v4 (ag_gu' (by unfold kF'; omega) ha) (fun p' m' hr' ht' => ?_) A' (fun φ => by rw [E' φ]; dsimp only; rw [Int.mul_sub]; simp only [Int.neg_mul]; omega) C' cm (by rw [gu_ne (by omega)]; omega)
      have hm' := hr p' m' hr'
      refine (hV p' m' hr' (by omega)).keep (gu_ne (by omega)) (gu_ne (by omega)) (gu_ne (by omega)) (gu_ne (by omega)) (fun h1 => ?_) (fun k _ _ _ => by rw [gu_ne (by omega)]; omega) (fun k _ _ _ _ => by rw [gu_ne (by omega)]; omega)
      rw [gu_ne2 (by
        intro q
        have : p' = p ∧ m' = m + 1 := by omega
        rw [this.1, this.2] at ht'
        omega)]
      omega
    · obtain ⟨x1, x2, x3, x4, x5, x6, x7⟩ := g1 k v1
      have y := hA.1 k m v1 (by omega)
      have y5 := hA.2.2.2.2.1 k v1
      have hg := (hr _ _ v6).2
      unfold w_X0_takeArc w_X0_sendFrom_167 w_X0_sendFrom_204 w_X0_sendFrom_216
      simp (disch := omega) only [l_3, l_4, l_6, l_8, l_9, l_10, l_12, l_14, l_16, l_19, l_20, l_23, l_24, l_26, l_28, l_39, l_40, l_56, l_57, l_60, l_192, l_200, l_255, l_299, l_320, l_400, l_1120, l_2000, l_20000, l_10000, l_1000, l_1000000, nI_1, n_2mul, nI_add, pk_mul, pk_sub, sb_m1, nI_clamp, nI_clamp0, vpT, nI_leI, nI_ltI, nI_eq, nI_0le, nI_lt0, nI_le0, nI_0lt, nI_eq0, nI_eqm1, nI_m1eq, Nat.add_one_sub_one, forall_eq, true_and, and_true, true_implies, not_true_eq_false, not_false_eq_true, false_implies, implies_true, ne_eq, Nat.reduceEqDiff, Nat.reduceAdd, Nat.reduceMul, Nat.reduceLT, Nat.reduceLeDiff, and_self, gu_eq, gu_ne, gu_ne2, v3, v4, e35', e28 k v1, e27 k v1]
      refine q_F (by omega) (q_nF (by omega) (q_nF (by omega) (q_F (by omega) (q_F (by omega) ?_))))
      have hsum : 0 ≤ (s 39 k).toInt ∧ (s 39 k).toInt ≤ 80000 := by
        rw [y5]
        refine ⟨fsum_nn (fun j hj => (hA.1 k j v1 hj).1), ?_⟩
        have := fsum_le (n := 40) (f := fun j => (s 37 (40 * k + j)).toInt) (g := fun _ => 2000) (fun j hj => by have := hA.1 k j v1 hj; omega)
        have e : fsum 40 (fun _ => 2000) = 80000 := by decide
        omega
      have es : (s 37 (40 * k + m) + xn).toInt = (s 37 (40 * k + m)).toInt + n := by rw [i_add (by omega) (by omega), hn]
      have et : (s 39 k + xn).toInt = (s 39 k).toInt + n := by rw [i_add (by omega) (by omega), hn]
      have cf : C (fr k) m := by rw [v2]; exact hc
      have ct : C (tt k) (m + ln k) := hC.2.2.2.1 k m v1 (by omega) cf (by omega)
      have cd : C (tt k) (m + ln k) := ct
      obtain ⟨A', E', C'⟩ := F_arc (σ' := gu (gu s 37 (40 * k + m) (s 37 (40 * k + m) + xn)) 39 k (s 39 k + xn)) (δ := n) hM hK hA hE hC v1 (m := m) (by omega) (by omega) (by omega) (by omega) cf ct (by rw [gu_ne (by omega), gu_eq, es]) (fun i hi => by rw [gu_ne (by omega), gu_ne2 hi]) (by rw [gu_eq, et]) (fun i hi => by rw [gu_ne2 hi, gu_ne (by omega)]) (fun i h1 h2 => by rw [gu_ne h2, gu_ne h1])
      have hv' : ∀ p' m', rs p' m' → ts p' m' < ts p m → VS K fr tt ln wd M (gu (gu s 37 (40 * k + m) (s 37 (40 * k + m) + xn)) 39 k (s 39 k + xn)) rs ts p' m' := fun p' m' hr' ht' => by
        have hm' := hr p' m' hr'
        refine (hV p' m' hr' (by omega)).keep (by rw [gu_ne (by omega), gu_ne (by omega)]) (by rw [gu_ne (by omega), gu_ne (by omega)]) (by rw [gu_ne (by omega), gu_ne (by omega)]) (by rw [gu_ne (by omega), gu_ne (by omega)]) (fun h1 => by rw [gu_ne (by omega), gu_ne (by omega)]; omega) (fun k' hk' hf' _ => ?_) (fun k' hk' hf' hl' _ => ?_)
        · rw [gu_ne (by omega), gu_at]
          split
          · rename_i q
            have q2 : k' = k ∧ m' = m := by omega
            rw [q2.1, v2] at hf'
            rw [← hf', q2.2] at ht'
            omega
          · omega
        · rw [gu_ne (by omega), gu_at]
          split
          · rename_i q
            rw [es, ← q]; omega
          · omega
      have hsag : ag kF' σ (gu (gu s 37 (40 * k + m) (s 37 (40 * k + m) + xn)) 39 k (s 39 k + xn)) := ag_gu' (by unfold kF'; omega) (ag_gu' (by unfold kF'; omega) ha)
      have h46 : (gu (gu s 37 (40 * k + m) (s 37 (40 * k + m) + xn)) 39 k (s 39 k + xn)) 46 = s 46 := by rw [gu_ne (by omega), gu_ne (by omega)]
      generalize gu (gu s 37 (40 * k + m) (s 37 (40 * k + m) + xn)) 39 k (s 39 k + xn) = s1 at *
      refine p_letWait (n := n) (by omega) (by omega) (by omega) hn (by omega) (fun j h1 h2 => by have := A'.2.2.1 (tt k) j (by omega) (by omega); omega) (fun s2 a2 o2 w2 => ?_)
      have ao : ∀ i, i ≠ 38 → s2 i = s1 i := fun i hi => a2 i hi
      obtain ⟨A2, E2, C2⟩ := F_wait (σ' := s2) (B' := bd B n (i + 1 + 1)) (a := (m + ln k)) (b := g) (δ := n) (p := tt k) hM hP A' E' C' (by omega) (by omega) hg (fun j h1 h2 => by have := A'.2.2.1 (tt k) j (by omega) (by omega); omega) (by omega) (fun j h1 h2 => cup' _ _ _ (by omega) h1 (by omega) cd) w2 o2 ao
      refine ih (tt k) g (i + 1) s2 (by omega) (by omega) v6 (ag_tr hsag (fun i hi => ao i (fun e => hi (by rw [e]; unfold kF'; omega)))) (fun p' m' hr' ht' => (hv' p' m' hr' (by omega)).keepw ao (fun j hj => ?_) (by have := hr p' m' hr'; omega)) A2 (fun φ => ?_) C2 (cup' _ _ _ (by omega) (by omega) hg cd) (by rw [ao 46 (by omega), h46]; omega)
      · by_cases e : p' = tt k ∧ (m + ln k) ≤ j ∧ j < g
        · rw [e.1, w2 j e.2.1 e.2.2]; omega
        · rw [o2 _ (fun j' h1 h2 => by omega)]; omega
      · rw [E2 φ]; dsimp only
        rw [v2, Int.mul_sub, Int.mul_sub]; omega
    · obtain ⟨x1, x2, x3, x4, x5, x6, x7⟩ := g1 k v1
      have y := hA.1 k (m - ln k) v1 (by omega)
      have y5 := hA.2.2.2.2.1 k v1
      have hg := (hr _ _ v6).2
      obtain ⟨r1, r2, r3, r4, r5⟩ := g3 k v1
      have e28' : nI (28 + k) - nI 28 = nI k := by rw [pk_sub (by omega), Nat.add_sub_cancel_left]
      unfold w_X0_undoArc w_X0_sendFrom_167 w_X0_sendFrom_204 w_X0_sendFrom_216
      simp (disch := omega) only [l_3, l_4, l_6, l_8, l_9, l_10, l_12, l_14, l_16, l_19, l_20, l_23, l_24, l_26, l_28, l_39, l_40, l_56, l_57, l_60, l_192, l_200, l_255, l_299, l_320, l_400, l_1120, l_2000, l_20000, l_10000, l_1000, l_1000000, nI_1, n_2mul, nI_add, pk_mul, pk_sub, sb_m1, nI_clamp, nI_clamp0, vpT, nI_leI, nI_ltI, nI_eq, nI_0le, nI_lt0, nI_le0, nI_0lt, nI_eq0, nI_eqm1, nI_m1eq, Nat.add_one_sub_one, forall_eq, true_and, and_true, true_implies, not_true_eq_false, not_false_eq_true, false_implies, implies_true, ne_eq, Nat.reduceEqDiff, Nat.reduceAdd, Nat.reduceMul, Nat.reduceLT, Nat.reduceLeDiff, and_self, v3, v4, e35', l_28, e28']
      rw [rv_xor k (by omega)]
      simp (disch := omega) only [l_3, l_4, l_6, l_8, l_9, l_10, l_12, l_14, l_16, l_19, l_20, l_23, l_24, l_26, l_28, l_39, l_40, l_56, l_57, l_60, l_192, l_200, l_255, l_299, l_320, l_400, l_1120, l_2000, l_20000, l_10000, l_1000, l_1000000, nI_1, n_2mul, nI_add, pk_mul, pk_sub, sb_m1, nI_clamp, nI_clamp0, vpT, nI_leI, nI_ltI, nI_eq, nI_0le, nI_lt0, nI_le0, nI_0lt, nI_eq0, nI_eqm1, nI_m1eq, Nat.add_one_sub_one, forall_eq, true_and, and_true, true_implies, not_true_eq_false, not_false_eq_true, false_implies, implies_true, ne_eq, Nat.reduceEqDiff, Nat.reduceAdd, Nat.reduceMul, Nat.reduceLT, Nat.reduceLeDiff, and_self, gu_eq, gu_ne, gu_ne2, e28 k v1, e27 (rv k) r1, r3, e35']
      refine q_F (by omega) (q_nF (by omega) (q_nF (by omega) (q_T (by omega) (q_T (by omega) ?_))))
      have hsum : 0 ≤ (s 39 k).toInt ∧ (s 39 k).toInt ≤ 80000 := by
        rw [y5]
        refine ⟨fsum_nn (fun j hj => (hA.1 k j v1 hj).1), ?_⟩
        have := fsum_le (n := 40) (f := fun j => (s 37 (40 * k + j)).toInt) (g := fun _ => 2000) (fun j hj => by have := hA.1 k j v1 hj; omega)
        have e : fsum 40 (fun _ => 2000) = 80000 := by decide
        omega
      have es : (s 37 (40 * k + (m - ln k)) - xn).toInt = (s 37 (40 * k + (m - ln k))).toInt - n := by rw [i_sub (by omega) (by omega), hn]
      have et : (s 39 k - xn).toInt = (s 39 k).toInt - n := by rw [i_sub (by omega) (by omega), hn]
      have cf : C (fr k) (m - ln k) := hC.2.2.2.2.1 k (m - ln k) v1 (by omega) (by rw [v2, show m - ln k + ln k = m by omega]; exact hc) (by omega)
      have ct : C (tt k) (m - ln k + ln k) := by rw [v2, show m - ln k + ln k = m by omega]; exact hc
      have cd : C (fr k) (m - ln k) := cf
      obtain ⟨A', E', C'⟩ := F_arc (σ' := gu (gu s 37 (40 * k + (m - ln k)) (s 37 (40 * k + (m - ln k)) - xn)) 39 k (s 39 k - xn)) (δ := -n) hM hK hA hE hC v1 (m := (m - ln k)) (by omega) (by omega) (by omega) (by omega) cf ct (by rw [gu_ne (by omega), gu_eq, es]; omega) (fun i hi => by rw [gu_ne (by omega), gu_ne2 hi]) (by rw [gu_eq, et]; omega) (fun i hi => by rw [gu_ne2 hi, gu_ne (by omega)]) (fun i h1 h2 => by rw [gu_ne h2, gu_ne h1])
      have hv' : ∀ p' m', rs p' m' → ts p' m' < ts p m → VS K fr tt ln wd M (gu (gu s 37 (40 * k + (m - ln k)) (s 37 (40 * k + (m - ln k)) - xn)) 39 k (s 39 k - xn)) rs ts p' m' := fun p' m' hr' ht' => by
        have hm' := hr p' m' hr'
        refine (hV p' m' hr' (by omega)).keep (by rw [gu_ne (by omega), gu_ne (by omega)]) (by rw [gu_ne (by omega), gu_ne (by omega)]) (by rw [gu_ne (by omega), gu_ne (by omega)]) (by rw [gu_ne (by omega), gu_ne (by omega)]) (fun h1 => by rw [gu_ne (by omega), gu_ne (by omega)]; omega) (fun k' hk' hf' _ => ?_) (fun k' hk' hf' hl' _ => ?_)
        · rw [gu_ne (by omega), gu_at]
          split
          · rename_i q
            have q2 : k' = k ∧ m' = (m - ln k) := by omega
            rw [es, q2.1, q2.2]; omega
          · omega
        · rw [gu_ne (by omega), gu_at]
          split
          · rename_i q
            have q2 : k' = k ∧ m' - ln k' = m - ln k := by omega
            obtain ⟨qa, qb⟩ := q2
            rw [qa] at qb hf' hl'
            have : p' = p ∧ m' = m := ⟨by omega, by omega⟩
            rw [this.1, this.2] at ht'
            omega
          · omega
      have hsag : ag kF' σ (gu (gu s 37 (40 * k + (m - ln k)) (s 37 (40 * k + (m - ln k)) - xn)) 39 k (s 39 k - xn)) := ag_gu' (by unfold kF'; omega) (ag_gu' (by unfold kF'; omega) ha)
      have h46 : (gu (gu s 37 (40 * k + (m - ln k)) (s 37 (40 * k + (m - ln k)) - xn)) 39 k (s 39 k - xn)) 46 = s 46 := by rw [gu_ne (by omega), gu_ne (by omega)]
      generalize gu (gu s 37 (40 * k + (m - ln k)) (s 37 (40 * k + (m - ln k)) - xn)) 39 k (s 39 k - xn) = s1 at *
      refine p_letWait (n := n) (by omega) (by omega) (by omega) hn (by omega) (fun j h1 h2 => by have := A'.2.2.1 (fr k) j (by omega) (by omega); omega) (fun s2 a2 o2 w2 => ?_)
      have ao : ∀ i, i ≠ 38 → s2 i = s1 i := fun i hi => a2 i hi
      obtain ⟨A2, E2, C2⟩ := F_wait (σ' := s2) (B' := bd B n (i + 1 + 1)) (a := (m - ln k)) (b := g) (δ := n) (p := fr k) hM hP A' E' C' (by omega) (by omega) hg (fun j h1 h2 => by have := A'.2.2.1 (fr k) j (by omega) (by omega); omega) (by omega) (fun j h1 h2 => cup' _ _ _ (by omega) h1 (by omega) cd) w2 o2 ao
      refine ih (fr k) g (i + 1) s2 (by omega) (by omega) v6 (ag_tr hsag (fun i hi => ao i (fun e => hi (by rw [e]; unfold kF'; omega)))) (fun p' m' hr' ht' => (hv' p' m' hr' (by omega)).keepw ao (fun j hj => ?_) (by have := hr p' m' hr'; omega)) A2 (fun φ => ?_) C2 (cup' _ _ _ (by omega) (by omega) hg cd) (by rw [ao 46 (by omega), h46]; omega)
      · by_cases e : p' = fr k ∧ (m - ln k) ≤ j ∧ j < g
        · rw [e.1, w2 j e.2.1 e.2.2]; omega
        · rw [o2 _ (fun j' h1 h2 => by omega)]; omega
      · rw [E2 φ]; dsimp only
        rw [v2, show m - ln k + ln k = m by omega, Int.mul_sub, Int.mul_sub]; simp only [Int.neg_mul]; omega
end SEND2
