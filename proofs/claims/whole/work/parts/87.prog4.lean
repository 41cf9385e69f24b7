/-! THE PROGRAMME: its invariant and cases -/
def RP (σ : gS) : Prop := ∃ (n : Nat) (A : Nat → Int32) (W P E : Nat → Nat) (w : Nat), PR n A W P E σ ∧ QR n A W P E σ ∧ (w ≤ 14 ∧ σ 76 0 = nI w) ∧ (∀ i, i < n → ∃ c, c < 2 * w ∧ A i = nI c) ∧ (σ 56 0 = 0 ∨ ∃ g, LB (vF A W P E n) (sF n) n (lo n 1) g ∧ σ 54 0 = nI (vF A W P E n g) ∧ ∀ i, i < n → σ 53 i = nI (10 * g i))
def kP (k : Nat) : Prop := (47 ≤ k ∧ k ≤ 56) ∨ (87 ≤ k ∧ k ≤ 90)
theorem RP.cong {σ σ' : gS} (h : RP σ) (e : ∀ k, kP k → σ' k = σ k) (hw : WX σ σ') : RP σ' := by
  obtain ⟨n, A, W, P, E, w, h1, h2, ⟨h3, h4⟩, h5, h6⟩ := h
  obtain ⟨w', w1, w2, w3, w4⟩ := hw w h3 h4
  refine ⟨n, A, W, P, E, w', h1.re (fun k a b => e k (Or.inl ⟨a, by omega⟩)), ⟨h2.1, ?_, fun i hi => ?_⟩, ⟨w2, w3⟩, fun i hi => ?_, ?_⟩
  · rw [e 90 (by unfold kP; omega)]; exact h2.2.1
  · obtain ⟨q1, q2, q3, ⟨c, hc, ec, e75⟩, q5⟩ := h2.2.2 i hi
    obtain ⟨c', hc', ec'⟩ := h5 i hi
    have : c = c' := nI_inj (ec.symm.trans ec') (by omega) (by omega)
    rw [e 87 (by unfold kP; omega), e 88 (by unfold kP; omega), e 89 (by unfold kP; omega)]
    exact ⟨q1, q2, q3, ⟨c, hc, ec, by rw [w4 c (by omega)]; exact e75⟩, q5⟩
  · obtain ⟨c', hc', ec'⟩ := h5 i hi
    exact ⟨c', by omega, ec'⟩
  · rw [e 56 (by unfold kP; omega), e 54 (by unfold kP; omega), e 53 (by unfold kP; omega)]
    exact h6
theorem scr_P {k : Nat} (h : kP k) : ¬ scr k := by unfold kP at h; unfold scr; omega
theorem RP.s {σ σ' : gS} (h : RP σ) (e : ag scr σ σ') : RP σ' := h.cong (fun k hk => e k (scr_P hk)) (WX.same (e 75 (by unfold scr; omega)) (e 76 (by unfold scr; omega)))
theorem QR.w {n : Nat} {A : Nat → Int32} {W P E : Nat → Nat} {σ : gS} (h : QR n A W P E σ) : ∀ a b, a < n → b < n → A a = A b → W a = W b := by
  intro a b ha hb e
  obtain ⟨-, -, -, ⟨c, hc, ec, e75⟩, b1, -⟩ := h.2.2 a ha
  obtain ⟨-, -, -, ⟨c', hc', ec', e75'⟩, b1', -⟩ := h.2.2 b hb
  have : c = c' := nI_inj (ec.symm.trans (e.trans ec')) (by omega) (by omega)
  rw [this] at e75
  exact nI_inj (e75.symm.trans e75') (by omega) (by omega)
theorem RG.ways {σ : gS} (h : RG σ) : ∃ W, W ≤ 14 ∧ σ 30 0 = nI W ∧ σ 76 0 = nI W ∧ ∀ k, k < 2 * W → σ 29 k = σ 75 k ∧ ∃ w : Nat, w ≤ 2000 ∧ σ 29 k = nI w := by
  obtain ⟨P, W, fr, tt, ln, wd, hG, -, -⟩ := h
  obtain ⟨hW, e30, e76⟩ := hG.2.2.1
  refine ⟨W, hW, e30, e76, fun k hk => ⟨hG.2.2.2.2.2.1 k hk, ?_⟩⟩
  have h1 := (hG.1.2.2.1 k hk).2.2
  have h2 := (hG.1.2.1 k hk).2.2.2.2.2
  rw [gu_ne (by omega)] at h1
  obtain ⟨w, -, ew, ew2⟩ := i_ex (x := σ 29 k) (by omega)
  exact ⟨w, by omega, ew⟩
theorem T1000 : (1000 : Int32).toInt = 1000 := rfl
theorem p_addAct {Q : Int32 → gS → Prop} {σ : gS} {n : Nat} {a1 a2 a3 a4 : Int32} (hn : n ≤ 6) (e51 : σ 51 0 = nI n) (ok : n < 6 → Q (nI n) (gu (gu (gu (gu (gu (gu σ 47 n a1) 48 n a2) 49 n a3) 50 n a4) 51 0 (nI (n + 1))) 56 0 0)) (fl : n = 6 → Q (-1) σ) : w_X4_addAct Q σ a1 a2 a3 a4 := by
  unfold w_X4_addAct
  simp (disch := omega) only [l_3, l_4, l_6, l_8, l_9, l_10, l_12, l_14, l_16, l_19, l_20, l_23, l_24, l_26, l_28, l_39, l_40, l_56, l_57, l_60, l_192, l_200, l_255, l_299, l_320, l_400, l_1120, l_2000, l_20000, l_10000, l_1000, l_1000000, nI_1, n_2mul, nI_add, pk_mul, pk_sub, sb_m1, nI_clamp, nI_clamp0, vpT, nI_leI, nI_ltI, nI_eq, nI_0le, nI_lt0, nI_le0, nI_0lt, nI_eq0, nI_eqm1, nI_m1eq, Nat.add_one_sub_one, forall_eq, true_and, and_true, true_implies, not_true_eq_false, not_false_eq_true, false_implies, implies_true, ne_eq, Nat.reduceEqDiff, Nat.reduceAdd, Nat.reduceMul, Nat.reduceLT, Nat.reduceLeDiff, and_self, gu_eq, gu_ne, gu_ne2, e51]
  refine ⟨fun c => ?_, fun c => fl (by omega)⟩
  have v2 : vp_in (nI n) 6 := vp_in_nI c (by omega)
  rw [nI_pred]
  exact ⟨v2, v2, v2, v2, ok c⟩
theorem c_act {Q : Int32 → gS → Prop} {X : Nat → gS → Prop} {σ : gS} {a v e p : Int32} {W n vn : Nat} (hW : W ≤ 14) (e30 : σ 30 0 = nI W) (hwd : ∀ k, k < 2 * W → ∃ w : Nat, w ≤ 2000 ∧ σ 29 k = nI w) (hn : n ≤ 6) (e51 : σ 51 0 = nI n) (hv : v = 0 ∧ vn = 0 ∨ v = 1 ∧ vn = 1)
    (ok : ∀ j w, j < W → a = nI j → (0 ≤ e.toInt ∧ e.toInt ≤ 1000) → (0 ≤ p.toInt ∧ p.toInt ≤ 1000) → n < 6 → w ≤ 2000 → σ 29 (2 * j + vn) = nI w → Q (nI n) (gu (gu (gu (gu (gu (gu σ 47 n (nI (2 * j + vn))) 48 n (nI w)) 49 n e) 50 n p) 51 0 (nI (n + 1))) 56 0 0))
    (fl : ∀ j, j < W → a = nI j → (0 ≤ e.toInt ∧ e.toInt ≤ 1000) → (0 ≤ p.toInt ∧ p.toInt ≤ 1000) → n = 6 → Q (-1) σ)
    (x0 : ¬ (0 ≤ a.toInt ∧ a.toInt < W) → X 0 σ) (x1 : 0 ≤ a.toInt ∧ a.toInt < W → ¬ ((0 ≤ e.toInt ∧ e.toInt ≤ 1000) ∧ 0 ≤ p.toInt ∧ p.toInt ≤ 1000) → X 1 σ) : w_X8_act Q X σ a v e p := by
  unfold w_X8_act w_X8_act_43
  rw [e30]
  have tW : (nI W).toInt = W := t_n (by omega)
  refine r_ri (fun c => r_rn (fun c2 => r_rn (fun c3 => ?_) (fun c3 => ?_)) (fun c2 => ?_)) (fun c => x0 (by rw [tW] at c; exact c))
  · rw [tW] at c
    rw [t_0, T1000] at c2 c3
    obtain ⟨j, -, rfl, ej⟩ := i_ex c.1
    have fin : ∀ x : Nat, x < 28 → x = 2 * j + vn → vp_in (nI x) 28 ∧ w_X4_addAct (fun r4 s3 => Q r4 s3) σ (nI x) (σ 29 (nI x).toNatClampNeg) e p := fun x hx hx2 => by
      subst hx2
      obtain ⟨w, hw, ew⟩ := hwd (2 * j + vn) (by omega)
      rw [nI_clamp (by omega), ew]
      exact ⟨vp_in_nI hx (by omega), p_addAct hn e51 (fun c4 => ok j w (by omega) rfl c2 c3 c4 hw ew) (fun c4 => fl j (by omega) rfl c2 c3 c4)⟩
    rcases hv with ⟨rfl, rfl⟩ | ⟨rfl, rfl⟩
    · refine q_T rfl ?_
      rw [n_2mul]
      exact fin (2 * j) (by omega) rfl
    · refine q_F (by decide) ?_
      rw [n_2mul, nI_1]
      exact fin (2 * j + 1) (by omega) rfl
  · exact x1 (by rw [tW] at c; exact c) (fun q => c3 (by rw [t_0, T1000]; exact q.2))
  · exact x1 (by rw [tW] at c; exact c) (fun q => c2 (by rw [t_0, T1000]; exact q.1))
theorem m_act {Q : Int32 → gS → Prop} {σ : gS} {a v e p : Int32} {W n vn : Nat} (hW : W ≤ 14) (e76 : σ 76 0 = nI W) (hn : n ≤ 6) (e90 : σ 90 0 = nI n) (hv : v = 0 ∧ vn = 0 ∨ v = 1 ∧ vn = 1)
    (ok : ∀ j, j < W → a = nI j → (0 ≤ e.toInt ∧ e.toInt ≤ 1000) → (0 ≤ p.toInt ∧ p.toInt ≤ 1000) → n < 6 → Q (nI n) (gu (gu (gu (gu (gu σ 63 0 0) 87 n (nI (2 * j + vn))) 88 n e) 89 n p) 90 0 (nI (n + 1))))
    (fl : ∀ j, j < W → a = nI j → (0 ≤ e.toInt ∧ e.toInt ≤ 1000) → (0 ≤ p.toInt ∧ p.toInt ≤ 1000) → n = 6 → Q (-1) (gu σ 63 0 0))
    (x0 : ¬ (0 ≤ a.toInt ∧ a.toInt < W) → Q 0 (gu (gu σ 63 0 0) 63 0 1)) (x1 : 0 ≤ a.toInt ∧ a.toInt < W → ¬ ((0 ≤ e.toInt ∧ e.toInt ≤ 1000) ∧ 0 ≤ p.toInt ∧ p.toInt ≤ 1000) → Q 0 (gu (gu σ 63 0 0) 63 0 2)) : w_X9_act Q σ a v e p := by
  have h76 : ((gu σ 63 0 0) 76 0 - 1).toInt = (W : Int) - 1 := by
    rw [gu_ne (by omega), e76, i_sub (by rw [t_n (by omega), t_1]; omega) (by rw [t_n (by omega), t_1]; omega), t_n (by omega), t_1]
  unfold w_X9_act w_X9_act_25 w_X9_act_61 w_X9_act_101
  rintro _ rfl
  refine r_in (fun c => q_nF (by decide) (r_t0 (q_nT rfl ?_))) (fun c => q_nT rfl (r_t1 (q_nF (by decide) (x0 (by rw [t_0, h76] at c; omega)))))
  rw [t_0, h76] at c
  have cw : 0 ≤ a.toInt ∧ a.toInt < W := by omega
  refine r_in (fun c2 => q_F (by decide) (r_in (fun c3 => q_nF (by decide) (r_t0 (q_T rfl ?_))) (fun c3 => q_nT rfl (r_t1 (q_F (by decide) (x1 cw (fun q => c3 (by rw [t_0, T1000]; exact q.2)))))))) (fun c2 => q_T rfl (r_t1 (q_F (by decide) (x1 cw (fun q => c2 (by rw [t_0, T1000]; exact q.1))))))
  rw [t_0, T1000] at c2 c3
  obtain ⟨j, -, rfl, ej⟩ := i_ex cw.1
  have ok' := ok j (by omega) rfl c2 c3
  have fl' := fl j (by omega) rfl c2 c3
  simp (disch := omega) only [l_3, l_4, l_6, l_8, l_9, l_10, l_12, l_14, l_16, l_19, l_20, l_23, l_24, l_26, l_28, l_39, l_40, l_56, l_57, l_60, l_192, l_200, l_255, l_299, l_320, l_400, l_1120, l_2000, l_20000, l_10000, l_1000, l_1000000, nI_1, n_2mul, nI_add, pk_mul, pk_sub, sb_m1, nI_clamp, nI_clamp0, vpT, nI_leI, nI_ltI, nI_eq, nI_0le, nI_lt0, nI_le0, nI_0lt, nI_eq0, nI_eqm1, nI_m1eq, Nat.add_one_sub_one, forall_eq, true_and, and_true, true_implies, not_true_eq_false, not_false_eq_true, false_implies, implies_true, ne_eq, Nat.reduceEqDiff, Nat.reduceAdd, Nat.reduceMul, Nat.reduceLT, Nat.reduceLeDiff, and_self, gu_eq, gu_ne, gu_ne2, e90]
  refine ⟨fun c4 => ?_, fl'⟩
  have v2 : vp_in (nI n) 6 := vp_in_nI (by omega) (by omega)
  rcases hv with ⟨rfl, rfl⟩ | ⟨rfl, rfl⟩
  · refine q_T rfl ⟨v2, v2, v2, ?_⟩
    rw [nI_pred, Int32.add_zero]
    exact ok' (by omega)
  · refine q_F (by decide) ⟨v2, v2, v2, ?_⟩
    rw [nI_pred]
    exact ok' (by omega)
theorem lo_0 (k : Nat) : lo k 0 = 0 := by
  induction k with
  | zero => rfl
  | succ k ih => exact ih
theorem p_findBest {Q : gS → Prop} {n : Nat} {A : Nat → Int32} {W P E : Nat → Nat} {σ : gS} (hR : PR n A W P E σ) (hK : σ 56 0 = 0 ∨ ∃ g, LB (vF A W P E n) (sF n) n (lo n 1) g ∧ σ 54 0 = nI (vF A W P E n g) ∧ ∀ i, i < n → σ 53 i = nI (10 * g i)) (kk : ∀ s g, ag (fun k => 52 ≤ k ∧ k ≤ 56) σ s → LB (vF A W P E n) (sF n) n (lo n 1) g → s 54 0 = nI (vF A W P E n g) → (∀ i, i < n → s 53 i = nI (10 * g i)) → Q s) : w_X4_findBest Q σ := by
  unfold w_X4_findBest
  refine ⟨fun c => ?_, fun c => ?_⟩
  · rintro _ rfl _ rfl
    have hn := hR.1
    have := p_try (A := A) (W := W) (P := P) (E := E) (n := n) 0 n 0 8 (fun _ => 0) (gu (gu σ 54 0 2147483647) 55 0 2147483647) (fun (s4 : gS) => ∀ s6 : gS, s6 = gu s4 56 0 1 → Q s6) (by omega) (by omega) (fun i _ => Nat.zero_le 2) (hR.re (fun k a b => by rw [gu_ne (by omega), gu_ne (by omega)])) (fun i hi => by omega) ⟨2147483647, 2147483647, by rw [gu_ne (by omega), gu_eq]; rfl, by rw [gu_eq]; rfl, Or.inl ⟨lo_0 n, rfl, rfl⟩⟩ (fun s' ag1 _ hC => ?_)
    · simp only [VC, sSh, nsum, nI_0] at this
      exact this
    · rintro _ rfl
      obtain ⟨bo, bs, e54, e55, hc⟩ := hC
      rcases hc with ⟨h0, -⟩ | ⟨g, hL, q1, q2, q3⟩
      · have := (cd_lo (a := 0) (k := n) (f := fun _ => 0) (fun i _ => Nat.zero_le 2)).2
        rw [h0] at this
        omega
      · refine kk _ g (ag_tr (ag_tr (ag_gu (by omega)) (ag_gu (by omega))) (ag_tr (ag_mono ag1 (fun k hk => by unfold kq at hk; omega)) (ag_gu (by omega)))) hL (by rw [gu_ne (by omega), e54, q1]) (fun i hi => by rw [gu_ne (by omega)]; exact q3 i hi)
  · rcases hK with q | ⟨g, hL, e54, e53⟩
    · exact absurd q c
    · exact kk σ g ag_rf hL e54 e53
section PPR
variable {Q : Unit} {LN : Nat} {xs : Nat → Int32} {k23 : Int32 → gS → Prop} {x4 : Int32} {σ : gS}
theorem cs_act (h1 : vp_in (x4 + 1) LN) (h2 : vp_in (x4 + 2) LN) (h3 : vp_in (x4 + 3) LN) (h4 : vp_in (x4 + 4) LN) (hG : RG σ) (hR : RP σ) (K : ∀ σ', RP σ' → ag (fun k => kP k ∨ scr k) σ σ' → k23 (x4 + 6) σ') : w_L_law_897 Q LN xs k23 x4 σ := by
  have KS : ∀ s, ag scr σ s → k23 (x4 + 6) s := fun s hs => K _ (hR.s hs) (ag_mono hs (fun k hk => Or.inr hk))
  have A2 : ∀ k, ag scr σ (gu (gu σ 63 0 0) 63 0 k) := fun k => ag_gu' s63 (ag_gu' s63 ag_rf)
  obtain ⟨w0, hw0, e30, e76, hwd⟩ := hG.ways
  obtain ⟨n, A, W, P, E, w1, r1, r2, ⟨hw1, e76'⟩, r4, r5⟩ := id hR
  have : w1 = w0 := nI_inj (e76'.symm.trans e76) (by omega) (by omega)
  subst this
  have main : ∀ (v : Int32) (vn : Nat), (v = 0 ∧ vn = 0 ∨ v = 1 ∧ vn = 1) → (xs (x4 + 2).toNatClampNeg = 0 → v = 0) → (¬ xs (x4 + 2).toNatClampNeg = 0 → v = 1) → w_L_law_918 Q LN xs k23 x4 v (xs (x4 + 1).toNatClampNeg) σ := by
    intro v vn hv hv0 hv1
    have sec : ∀ x5 s, w_L_law_957 Q LN xs k23 x4 x5 v (xs (x4 + 1).toNatClampNeg) s → vp_in (x4 + 1) LN ∧ vp_in (x4 + 2) LN ∧ (xs (x4 + 2).toNatClampNeg = 0 → w_L_law_957 Q LN xs k23 x4 x5 0 (xs (x4 + 1).toNatClampNeg) s) ∧ (¬ xs (x4 + 2).toNatClampNeg = 0 → w_L_law_957 Q LN xs k23 x4 x5 1 (xs (x4 + 1).toNatClampNeg) s) := fun x5 s h => ⟨h1, h2, fun c => by rw [hv0 c] at h; exact h, fun c => by rw [hv1 c] at h; exact h⟩
    unfold w_L_law_918 w_L_act
    refine ⟨h3, h4, c_act hw0 e30 (fun k hk => (hwd k hk).2) r1.1 r1.2.1 hv (fun j w hj ej ce cp hn hw e29 => ?_) (fun j hj ej ce cp hn => ?_) (fun q => xx01_0 (sec _ _ ?_)) (fun q q2 => xx01_1 (sec _ _ ?_))⟩
    · rintro _ rfl
      refine sec _ _ ?_
      unfold w_L_law_957
      rw [nI_clamp0]
      obtain ⟨e0, -, ee, ee2⟩ := i_ex ce.1
      obtain ⟨p0, -, ep, ep2⟩ := i_ex cp.1
      have hvn : vn ≤ 1 := by omega
      refine ⟨h3, h4, m_act (W := w1) (n := n) hw0 (by simp only [Nat.add_one_sub_one, forall_eq, true_and, and_true, true_implies, not_true_eq_false, not_false_eq_true, false_implies, implies_true, ne_eq, Nat.reduceEqDiff, Nat.reduceAdd, Nat.reduceMul, Nat.reduceLT, Nat.reduceLeDiff, and_self, gu_eq, gu_ne, gu_ne2]; exact e76) r1.1 (by simp only [Nat.add_one_sub_one, forall_eq, true_and, and_true, true_implies, not_true_eq_false, not_false_eq_true, false_implies, implies_true, ne_eq, Nat.reduceEqDiff, Nat.reduceAdd, Nat.reduceMul, Nat.reduceLT, Nat.reduceLeDiff, and_self, gu_eq, gu_ne, gu_ne2]; exact r2.2.1) hv (fun j' hj' ej' _ _ _ => ?_) (fun j' _ _ _ _ _ => by omega) (fun q => absurd (by rw [ej, t_n (by omega)]; omega) q) (fun _ q => absurd ⟨ce, cp⟩ q)⟩
      have := nI_inj (ej.symm.trans ej') (by omega) (by omega)
      subst this
      refine tl_i (by simp only [Nat.add_one_sub_one, forall_eq, true_and, and_true, true_implies, not_true_eq_false, not_false_eq_true, false_implies, implies_true, ne_eq, Nat.reduceEqDiff, Nat.reduceAdd, Nat.reduceMul, Nat.reduceLT, Nat.reduceLeDiff, and_self, gu_eq, gu_ne, gu_ne2]) (fun _ => by simp only [Nat.add_one_sub_one, forall_eq, true_and, and_true, true_implies, not_true_eq_false, not_false_eq_true, false_implies, implies_true, ne_eq, Nat.reduceEqDiff, Nat.reduceAdd, Nat.reduceMul, Nat.reduceLT, Nat.reduceLeDiff, and_self, gu_eq, gu_ne, gu_ne2]) (K _ ⟨n + 1, fun i => if i = n then nI (2 * j + vn) else A i, fun i => if i = n then w else W i, fun i => if i = n then p0 else P i, fun i => if i = n then e0 else E i, w1, ⟨by omega, by simp only [Nat.add_one_sub_one, forall_eq, true_and, and_true, true_implies, not_true_eq_false, not_false_eq_true, false_implies, implies_true, ne_eq, Nat.reduceEqDiff, Nat.reduceAdd, Nat.reduceMul, Nat.reduceLT, Nat.reduceLeDiff, and_self, gu_eq, gu_ne, gu_ne2], fun i hi => ?_⟩, ⟨by omega, by simp only [Nat.add_one_sub_one, forall_eq, true_and, and_true, true_implies, not_true_eq_false, not_false_eq_true, false_implies, implies_true, ne_eq, Nat.reduceEqDiff, Nat.reduceAdd, Nat.reduceMul, Nat.reduceLT, Nat.reduceLeDiff, and_self, gu_eq, gu_ne, gu_ne2], fun i hi => ?_⟩, ⟨hw0, by simp only [Nat.add_one_sub_one, forall_eq, true_and, and_true, true_implies, not_true_eq_false, not_false_eq_true, false_implies, implies_true, ne_eq, Nat.reduceEqDiff, Nat.reduceAdd, Nat.reduceMul, Nat.reduceLT, Nat.reduceLeDiff, and_self, gu_eq, gu_ne, gu_ne2]; exact e76⟩, fun i hi => ?_, Or.inl (by simp only [Nat.add_one_sub_one, forall_eq, true_and, and_true, true_implies, not_true_eq_false, not_false_eq_true, false_implies, implies_true, ne_eq, Nat.reduceEqDiff, Nat.reduceAdd, Nat.reduceMul, Nat.reduceLT, Nat.reduceLeDiff, and_self, gu_eq, gu_ne, gu_ne2])⟩ (by repeat (first | exact ag_rf | refine ag_gu' (by simp [scr, kP]) ?_)))
      · simp only [Nat.add_one_sub_one, forall_eq, true_and, and_true, true_implies, not_true_eq_false, not_false_eq_true, false_implies, implies_true, ne_eq, Nat.reduceEqDiff, Nat.reduceAdd, Nat.reduceMul, Nat.reduceLT, Nat.reduceLeDiff, and_self, gu_eq, gu_ne, gu_ne2, gu_at]
        by_cases e : i = n
        · simp only [if_pos e]
          exact ⟨trivial, trivial, ee, ep, hw, by omega, by omega⟩
        · simp only [if_neg e]
          exact r1.2.2 i (by omega)
      · simp only [Nat.add_one_sub_one, forall_eq, true_and, and_true, true_implies, not_true_eq_false, not_false_eq_true, false_implies, implies_true, ne_eq, Nat.reduceEqDiff, Nat.reduceAdd, Nat.reduceMul, Nat.reduceLT, Nat.reduceLeDiff, and_self, gu_eq, gu_ne, gu_ne2, gu_at]
        by_cases e : i = n
        · simp only [if_pos e]
          exact ⟨trivial, ee, ep, ⟨2 * j + vn, by omega, rfl, by rw [← (hwd (2 * j + vn) (by omega)).1]; exact e29⟩, hw, by omega, by omega⟩
        · simp only [if_neg e]
          exact r2.2.2 i (by omega)
      · by_cases e : i = n
        · exact ⟨2 * j + vn, by omega, if_pos e⟩
        · obtain ⟨c, hc, ec⟩ := r4 i (by omega)
          exact ⟨c, hc, (if_neg e).trans ec⟩
    · rintro _ rfl
      refine sec _ _ ?_
      unfold w_L_law_957
      rw [nI_clamp0]
      exact ⟨h3, h4, m_act (W := w1) (n := n) hw0 (by simp only [Nat.add_one_sub_one, forall_eq, true_and, and_true, true_implies, not_true_eq_false, not_false_eq_true, false_implies, implies_true, ne_eq, Nat.reduceEqDiff, Nat.reduceAdd, Nat.reduceMul, Nat.reduceLT, Nat.reduceLeDiff, and_self, gu_eq, gu_ne, gu_ne2]; exact e76) r1.1 (by simp only [Nat.add_one_sub_one, forall_eq, true_and, and_true, true_implies, not_true_eq_false, not_false_eq_true, false_implies, implies_true, ne_eq, Nat.reduceEqDiff, Nat.reduceAdd, Nat.reduceMul, Nat.reduceLT, Nat.reduceLeDiff, and_self, gu_eq, gu_ne, gu_ne2]; exact r2.2.1) hv (fun j' _ _ _ _ _ => by omega) (fun j' _ _ _ _ _ => tl_i (by simp only [Nat.add_one_sub_one, forall_eq, true_and, and_true, true_implies, not_true_eq_false, not_false_eq_true, false_implies, implies_true, ne_eq, Nat.reduceEqDiff, Nat.reduceAdd, Nat.reduceMul, Nat.reduceLT, Nat.reduceLeDiff, and_self, gu_eq, gu_ne, gu_ne2]) (fun _ => by simp only [Nat.add_one_sub_one, forall_eq, true_and, and_true, true_implies, not_true_eq_false, not_false_eq_true, false_implies, implies_true, ne_eq, Nat.reduceEqDiff, Nat.reduceAdd, Nat.reduceMul, Nat.reduceLT, Nat.reduceLeDiff, and_self, gu_eq, gu_ne, gu_ne2]) (KS _ (ag_gu' s63 (ag_gu' s110 ag_rf)))) (fun q => absurd (by rw [ej, t_n (by omega)]; omega) q) (fun _ q => absurd ⟨ce, cp⟩ q)⟩
    · unfold w_L_law_957
      exact ⟨h3, h4, m_act (W := w1) (n := n) hw0 e76 r1.1 r2.2.1 hv (fun j' hj' ej' _ _ _ => absurd (by rw [ej', t_n (by omega)]; omega) q) (fun j' hj' ej' _ _ _ => absurd (by rw [ej', t_n (by omega)]; omega) q) (fun _ => tl_i gu_eq (fun z => absurd z (by decide)) (KS _ (A2 _))) (fun c => absurd c q)⟩
    · unfold w_L_law_957
      exact ⟨h3, h4, m_act (W := w1) (n := n) hw0 e76 r1.1 r2.2.1 hv (fun j' _ _ ce cp _ => absurd ⟨ce, cp⟩ q2) (fun j' _ _ ce cp _ => absurd ⟨ce, cp⟩ q2) (fun c => absurd q c) (fun _ _ => tl_i gu_eq (fun z => absurd z (by decide)) (KS _ (A2 _)))⟩
  unfold w_L_law_897
  exact ⟨h1, h2, fun c => main 0 0 (Or.inl ⟨rfl, rfl⟩) (fun _ => rfl) (fun q => absurd c q), fun c => main 1 1 (Or.inr ⟨rfl, rfl⟩) (fun q => absurd q c) (fun _ => rfl)⟩
theorem cs_forget (hR : RP σ) (K : ∀ σ', RP σ' → ag (fun k => kP k ∨ scr k) σ σ' → k23 (x4 + 6) σ') : w_L_law_1074 Q LN xs k23 x4 σ := by
  obtain ⟨n, A, W, P, E, w1, r1, r2, r3, r4, r5⟩ := id hR
  unfold w_L_law_1074 w_X8_forget w_X4_dropActs w_X9_forget
  rintro _ rfl _ rfl _ rfl _ rfl _ rfl _ rfl
  refine tl_e ?_ (K _ ⟨0, A, W, P, E, w1, ⟨by omega, by simp only [Nat.add_one_sub_one, forall_eq, true_and, and_true, true_implies, not_true_eq_false, not_false_eq_true, false_implies, implies_true, ne_eq, Nat.reduceEqDiff, Nat.reduceAdd, Nat.reduceMul, Nat.reduceLT, Nat.reduceLeDiff, and_self, gu_eq, gu_ne, gu_ne2]; rfl, fun i hi => by omega⟩, ⟨by omega, by simp only [Nat.add_one_sub_one, forall_eq, true_and, and_true, true_implies, not_true_eq_false, not_false_eq_true, false_implies, implies_true, ne_eq, Nat.reduceEqDiff, Nat.reduceAdd, Nat.reduceMul, Nat.reduceLT, Nat.reduceLeDiff, and_self, gu_eq, gu_ne, gu_ne2]; rfl, fun i hi => by omega⟩, ⟨r3.1, by simp only [Nat.add_one_sub_one, forall_eq, true_and, and_true, true_implies, not_true_eq_false, not_false_eq_true, false_implies, implies_true, ne_eq, Nat.reduceEqDiff, Nat.reduceAdd, Nat.reduceMul, Nat.reduceLT, Nat.reduceLeDiff, and_self, gu_eq, gu_ne, gu_ne2]; exact r3.2⟩, fun i hi => by omega, Or.inl (by simp only [Nat.add_one_sub_one, forall_eq, true_and, and_true, true_implies, not_true_eq_false, not_false_eq_true, false_implies, implies_true, ne_eq, Nat.reduceEqDiff, Nat.reduceAdd, Nat.reduceMul, Nat.reduceLT, Nat.reduceLeDiff, and_self, gu_eq, gu_ne, gu_ne2])⟩ (by repeat (first | exact ag_rf | refine ag_gu' (by simp [scr, kP]) ?_)))
  simp only [Nat.add_one_sub_one, forall_eq, true_and, and_true, true_implies, not_true_eq_false, not_false_eq_true, false_implies, implies_true, ne_eq, Nat.reduceEqDiff, Nat.reduceAdd, Nat.reduceMul, Nat.reduceLT, Nat.reduceLeDiff, and_self, gu_eq, gu_ne, gu_ne2]
  rw [r1.2.1, r2.2.1]
theorem RP_after {s s2 : gS} {n : Nat} {A : Nat → Int32} {W P E : Nat → Nat} {w : Nat} {g : Nat → Nat} (r1 : PR n A W P E σ) (r2 : QR n A W P E σ) (r3 : w ≤ 14 ∧ σ 76 0 = nI w) (r4 : ∀ i, i < n → ∃ c, c < 2 * w ∧ A i = nI c) (ag1 : ag (fun k => 52 ≤ k ∧ k ≤ 56) σ s) (hL : LB (vF A W P E n) (sF n) n (lo n 1) g) (e54 : s 54 0 = nI (vF A W P E n g)) (e53 : ∀ i, i < n → s 53 i = nI (10 * g i)) (ag2 : ag scr s s2) : RP s2 := by
  have h : ∀ k, ¬ scr k → ¬ (52 ≤ k ∧ k ≤ 56) → s2 k = σ k := fun k a b => (ag2 k a).trans (ag1 k b)
  refine ⟨n, A, W, P, E, w, r1.re (fun k a b => h k (by unfold scr; omega) (by omega)), r2.re (fun k a => h k (by unfold scr; omega) (by omega)), ⟨r3.1, by rw [h 76 (by unfold scr; omega) (by omega)]; exact r3.2⟩, r4, Or.inr ⟨g, hL, ?_, fun i hi => ?_⟩⟩
  · rw [ag2 54 (by unfold scr; omega)]; exact e54
  · rw [ag2 53 (by unfold scr; omega)]; exact e53 i hi
theorem kr_scr {k : Nat} (h : kr k) : scr k := by unfold kr at h; unfold scr; omega
theorem cs_tooMany (hR : RP σ) (K : ∀ σ', RP σ' → ag (fun k => kP k ∨ scr k) σ σ' → k23 (x4 + 6) σ') : w_L_law_1005 Q LN xs k23 x4 σ := by
  obtain ⟨n, A, W, P, E, w1, r1, r2, r3, r4, r5⟩ := id hR
  unfold w_L_law_1005 w_X8_tooMany w_X9_tooMany
  refine p_findBest r1 r5 (fun s g ag1 hL e54 e53 => ?_)
  rintro _ rfl
  refine p_seeks (n := n) (A := A) (W := W) (P := P) (E := E) (r2.re (fun k hk => by rw [gu_ne (by omega), ag1 k (by omega)])) r2.w (fun s2 g2 ag2 hL2 h92 => tl_e ?_ (K _ ?_ ?_))
  · rw [e54, (vs_cong g g2 (hL.uniq hL2)).1]
  · exact RP_after r1 r2 r3 r4 ag1 hL e54 e53 (ag_tr (ag_gu s63) (ag_mono ag2 (fun k hk => kr_scr hk)))
  · exact ag_tr (ag_mono ag1 (fun k hk => Or.inl (by unfold kP; omega))) (ag_tr (ag_gu (Or.inr s63)) (ag_mono ag2 (fun k hk => Or.inr (kr_scr hk))))
theorem cs_shift (h1 : vp_in (x4 + 1) LN) (hR : RP σ) (K : ∀ σ', RP σ' → ag (fun k => kP k ∨ scr k) σ σ' → k23 (x4 + 6) σ') : w_L_law_1018 Q LN xs k23 x4 σ := by
  have KS : ∀ s, ag scr σ s → k23 (x4 + 6) s := fun s hs => K _ (hR.s hs) (ag_mono hs (fun k hk => Or.inr hk))
  obtain ⟨n, A, W, P, E, w1, r1, r2, r3, r4, r5⟩ := id hR
  have hn := r1.1
  have tn : (nI n).toInt = n := t_n (by omega)
  have tn1 : (nI n - 1).toInt = (n : Int) - 1 := by rw [i_sub (by rw [tn, t_1]; omega) (by rw [tn, t_1]; omega), tn, t_1]
  unfold w_L_law_1018 w_L_shift w_X8_shift
  generalize xs (x4 + 1).toNatClampNeg = a
  rw [r1.2.1]
  refine ⟨h1, r_ri (fun c => ?_) (fun c => xx1 ⟨h1, ?_⟩)⟩
  · rw [tn] at c
    obtain ⟨j, -, rfl, ej⟩ := i_ex c.1
    refine p_findBest r1 r5 (fun s g ag1 hL e54 e53 => ⟨vp_in_nI (by omega) (by omega), ?_⟩)
    rw [nI_clamp (by omega), nI_clamp0, e53 j (by omega)]
    rintro _ rfl
    refine ⟨h1, ?_⟩
    unfold w_X9_shift w_X9_shift_25
    rintro _ rfl
    have e90 : (gu (gu s 110 0 (nI (10 * g j))) 63 0 0) 90 0 = nI n := by simp only [Nat.add_one_sub_one, forall_eq, true_and, and_true, true_implies, not_true_eq_false, not_false_eq_true, false_implies, implies_true, ne_eq, Nat.reduceEqDiff, Nat.reduceAdd, Nat.reduceMul, Nat.reduceLT, Nat.reduceLeDiff, and_self, gu_eq, gu_ne, gu_ne2]; rw [ag1 90 (by omega)]; exact r2.2.1
    rw [e90]
    refine r_in (fun _ => q_nF (by decide) (r_t0 (q_T rfl ?_))) (fun q => absurd (by rw [t_0, tn1]; omega) q)
    refine p_seeks (n := n) (A := A) (W := W) (P := P) (E := E) (r2.re (fun k hk => by rw [gu_ne (by omega), gu_ne (by omega), ag1 k (by omega)])) r2.w (fun s2 g2 ag2 hL2 h92 => ⟨vp_in_nI (by omega) (by omega), tl_i ?_ (fun _ => ?_) (K _ ?_ ?_)⟩)
    · rw [ag2 63 (by unfold kr; omega)]; simp only [Nat.add_one_sub_one, forall_eq, true_and, and_true, true_implies, not_true_eq_false, not_false_eq_true, false_implies, implies_true, ne_eq, Nat.reduceEqDiff, Nat.reduceAdd, Nat.reduceMul, Nat.reduceLT, Nat.reduceLeDiff, and_self, gu_eq, gu_ne, gu_ne2]
    · rw [ag2 110 (by unfold kr; omega), nI_clamp (by omega), h92 j (by omega)]
      simp only [Nat.add_one_sub_one, forall_eq, true_and, and_true, true_implies, not_true_eq_false, not_false_eq_true, false_implies, implies_true, ne_eq, Nat.reduceEqDiff, Nat.reduceAdd, Nat.reduceMul, Nat.reduceLT, Nat.reduceLeDiff, and_self, gu_eq, gu_ne, gu_ne2]
      rw [hL.uniq hL2 j (by omega)]
    · exact RP_after r1 r2 r3 r4 ag1 hL e54 e53 (ag_tr (ag_gu s110) (ag_tr (ag_gu s63) (ag_mono ag2 (fun k hk => kr_scr hk))))
    · exact ag_tr (ag_mono ag1 (fun k hk => Or.inl (by unfold kP; omega))) (ag_tr (ag_gu (Or.inr s110)) (ag_tr (ag_gu (Or.inr s63)) (ag_mono ag2 (fun k hk => Or.inr (kr_scr hk)))))
  · rw [tn] at c
    unfold w_X9_shift w_X9_shift_25
    rintro _ rfl
    have e90 : (gu σ 63 0 0) 90 0 = nI n := by simp only [Nat.add_one_sub_one, forall_eq, true_and, and_true, true_implies, not_true_eq_false, not_false_eq_true, false_implies, implies_true, ne_eq, Nat.reduceEqDiff, Nat.reduceAdd, Nat.reduceMul, Nat.reduceLT, Nat.reduceLeDiff, and_self, gu_eq, gu_ne, gu_ne2]; exact r2.2.1
    rw [e90]
    exact r_in (fun q => absurd (by rw [t_0, tn1] at q; omega) c) (fun _ => q_nT rfl (r_t1 (q_F (by decide) (tl_i gu_eq (fun z => absurd z (by decide)) (KS _ (ag_gu' s63 (ag_gu' s63 ag_rf)))))))
end PPR
