/-! ESCAPE: findStart -/
section FIND2
variable {P K : Nat} {fr tt ln : Nat → Nat} {wd : Nat → Int}
theorem p_find46 {Q : Int32 → gS → Prop} {k7 : Int32 → Int32 → gS → Prop} {M i p : Nat} {σ : gS} (hM : M < 40) (eM : σ 36 0 = nI M) (hG : GC P K fr tt ln wd σ) (hF : HF K wd σ) (hp : p < P) (hi : i ≤ 320)
    (k0 : ∀ σ', ag kS σ σ' → SIx P K fr tt ln wd M σ' → NI P σ' → GT P M σ' → (∀ q, q < P → (σ' 43 q) = 0 → DN K fr tt ln wd M σ' q) → US P σ' → (i : Int) + 1 ≤ Phi P σ' → k7 (-1) (nI (i + 1)) σ')
    (k1 : ∀ σ' q, ag kS σ σ' → SIx P K fr tt ln wd M σ' → q < P → 0 < (σ' 40 q).toInt → 0 ≤ (σ' 42 q).toInt → k7 (nI q) (nI (i + 1)) σ')
    (hS : SIx P K fr tt ln wd M σ) (hN : NI P σ) (hT : GT P M σ) (hD : ∀ q, q < P → q ≠ p → (σ 43 q) = 0 → DN K fr tt ln wd M σ q) (hW : CWp M σ p) (hU : US P σ) (hPh : (i : Int) + 1 ≤ Phi P σ) : ∃ n, w_X0_findStart_46 Q k7 n (-1) (nI i) (nI p) 0 σ := by
  obtain ⟨⟨hP, hK, e35, e26⟩, g1, g2, g3, g4⟩ := id hG
  obtain ⟨ct, hct, ect, ac1, ac2⟩ := g4 p hp
  have key : ∀ (d j : Nat) (s : gS), j + d = ct → ag kS σ s → SIx P K fr tt ln wd M s → NI P s → GT P M s → (∀ q, q < P → q ≠ p → (s 43 q) = 0 → DN K fr tt ln wd M s q) → CWp M s p → US P s → (i : Int) + 1 ≤ Phi P s → (∀ j', j' < j → ∀ k, k < K → fr k = p → σ 31 (14 * p + j') = nI k → CAk fr tt ln wd M s k) → w_X0_findStart_46 Q k7 (d + 1) (-1) (nI i) (nI p) (nI j) s := by
    intro d
    induction d with
    | zero =>
      intro j s hd ha hS hN hT hD hW hU hPh hC
      unfold w_X0_findStart_46
      rw [ag_kS ha (k := 35) (by omega), ag_kS ha (k := 32) (by omega)]
      simp (disch := omega) only [l_3, l_4, l_6, l_8, l_9, l_10, l_12, l_14, l_16, l_19, l_20, l_23, l_24, l_26, l_28, l_39, l_40, l_56, l_57, l_60, l_192, l_200, l_255, l_299, l_320, l_400, l_1120, l_2000, l_20000, l_10000, l_1000, l_1000000, nI_1, n_2mul, nI_add, pk_mul, pk_sub, sb_m1, nI_clamp, nI_clamp0, vpT, nI_leI, nI_ltI, nI_eq, nI_0le, nI_lt0, nI_le0, nI_0lt, nI_eq0, nI_eqm1, nI_m1eq, Nat.add_one_sub_one, forall_eq, true_and, and_true, true_implies, not_true_eq_false, not_false_eq_true, false_implies, implies_true, ne_eq, Nat.reduceEqDiff, Nat.reduceAdd, Nat.reduceMul, Nat.reduceLT, Nat.reduceLeDiff, and_self, e35, ect]
      refine q_T (by omega) (k0 s ha hS hN hT (fun q hq hz => ?_) hU hPh)
      by_cases e : q = p
      · rw [e]
        refine ⟨hW, fun k hk hf => ?_⟩
        obtain ⟨j', hj', ej⟩ := ac2 k hk hf
        exact hC j' (by omega) k hk hf ej
      · exact hD q hq e hz
    | succ d ih =>
      intro j s hd ha hS hN hT hD hW hU hPh hC
      obtain ⟨k, hk, hf, ek⟩ := ac1 j (by omega)
      obtain ⟨x1, x2, x3, x4, x5, x6, x7⟩ := g1 k hk
      obtain ⟨r1, r2, r3, r4, r5⟩ := g3 k hk
      obtain ⟨y1, y2, y3⟩ := g2 k hk
      obtain ⟨rs, ts, c, hS⟩ := hS
      unfold w_X0_findStart_46
      rw [ag_kS ha (k := 35) (by omega), ag_kS ha (k := 32) (by omega), ag_kS ha (k := 31) (by omega), ag_kS ha (k := 27) (by omega)]
      simp (disch := omega) only [l_3, l_4, l_6, l_8, l_9, l_10, l_12, l_14, l_16, l_19, l_20, l_23, l_24, l_26, l_28, l_39, l_40, l_56, l_57, l_60, l_192, l_200, l_255, l_299, l_320, l_400, l_1120, l_2000, l_20000, l_10000, l_1000, l_1000000, nI_1, n_2mul, nI_add, pk_mul, pk_sub, sb_m1, nI_clamp, nI_clamp0, vpT, nI_leI, nI_ltI, nI_eq, nI_0le, nI_lt0, nI_le0, nI_0lt, nI_eq0, nI_eqm1, nI_m1eq, Nat.add_one_sub_one, forall_eq, true_and, and_true, true_implies, not_true_eq_false, not_false_eq_true, false_implies, implies_true, ne_eq, Nat.reduceEqDiff, Nat.reduceAdd, Nat.reduceMul, Nat.reduceLT, Nat.reduceLeDiff, and_self, e35, ect, ek, y1]
      refine q_F (by omega) ?_
      rw [rv_xor k (by omega)]
      have ln1 : ∀ q, q < P → -1 ≤ (s 42 q).toInt := fun q hq => (hS.1 q hq).1
      refine p_arc hM (hG.cong (fun k hk => ag_kS ha (by omega))) (hF.cong (ag_kS ha (by omega)) (ag_kS ha (by omega))) hS r1 r2 (r3.trans hf) (fun s1 rs1 ts1 c1 S1 E1 l1' A1 => ?_)
      have l1 := l1' p (by omega)
      have ha1 := ag_tr ha E1.1
      refine p_undo hM (by rw [ag_kS ha1 (by omega)]; exact eM) (hG.cong (fun k hk => ag_kS ha1 (by omega))) (hF.cong (ag_kS ha1 (by omega)) (ag_kS ha1 (by omega))) S1 hk hf rfl (fun s2 rs2 ts2 c2 S2 E2 l2' A2 => ?_)
      have l2 := l2' p (by omega)
      have ha2 := ag_tr ha1 E2.1
      have E := Ext.tr E1 E2
      have hl : (s2 42 p).toInt = (s 42 p).toInt := by rw [l2, l1]
      have C2 : CAk fr tt ln wd M s2 k := by
        constructor
        · intro m a b
          have := E2.2 (tt k) x2
          rw [ag_kS E2.1 (by omega)]
          have := A1 m (by omega) (by rw [hf, hl] at b; rw [r4]; exact b)
          rw [r5] at this; exact this
        · intro m a b cc
          exact A2 m (by rw [hf, hl] at a; rw [l1]; exact a) b cc
      have N2 : NI P s2 := hN.ext E ln1
      have T2 : GT P M s2 := hT.ext E (fun q hq => (S2.1 q hq).2.1)
      have D2 : ∀ q, q < P → q ≠ p → (s2 43 q) = 0 → DN K fr tt ln wd M s2 q := fun q hq hqp hz => by
        rcases E.2 q hq with ⟨a, b⟩ | ⟨a, b⟩
        · exact (hD q hq hqp (b ▸ hz)).mono E (fun k hk => (g1 k hk).2.1) a
        · rw [b] at hz; exact absurd hz (by decide)
      have W2 : CWp M s2 p := fun m a b => by
        rw [ag_kS E.1 (by omega)]
        exact hW m (by omega) b
      have P2 := Phi.ext hN E
      have C2' : ∀ j', j' < j + 1 → ∀ k, k < K → fr k = p → σ 31 (14 * p + j') = nI k → CAk fr tt ln wd M s2 k := fun j' hj' k' hk' hf' e' => by
        by_cases e : j' = j
        · rw [e, ek] at e'
          have := nI_inj e' (by omega) (by omega)
          rw [← this]; exact C2
        · exact (hC j' (by omega) k' hk' hf' e').mono E (g1 k' hk').2.1 (by rw [hf']; exact hl)
      have hu : s2 40 = s 40 := ag_kS E.1 (by omega)
      have U2 : ∀ q, q < P → q ≠ tt k → 0 ≤ (s2 42 q).toInt → (s2 40 q).toInt ≤ 0 := fun q hq hqt hl2 => by
        rw [hu]; rw [l2' q hqt, l1' q hqt] at hl2; exact hU q hq hl2
      refine q_eq (fun c3 => ih (j + 1) s2 (by omega) ha2 ⟨_, _, _, S2⟩ N2 T2 D2 W2 (fun q hq hl2 => ?_) (by omega) C2') (fun c3 => ?_)
      · rw [t_m1] at c3
        by_cases e : q = tt k
        · rw [e] at hl2; omega
        · exact U2 q hq e hl2
      · refine q_le (fun c4 => ih (j + 1) s2 (by omega) ha2 ⟨_, _, _, S2⟩ N2 T2 D2 W2 (fun q hq hl2 => ?_) (by omega) C2') (fun c4 => ?_)
        · by_cases e : q = tt k
          · rw [e]; rw [t_0] at c4; exact c4
          · exact U2 q hq e hl2
        · have kf := k1 s2 (tt k) ha2 ⟨_, _, _, S2⟩ x2 (by rw [t_0] at c4; exact c4) (by rw [t_m1] at c3; have := (S2.1 (tt k) x2).1; omega)
          unfold w_X0_findStart_46
          rw [ag_kS ha2 (k := 35) (by omega), ag_kS ha2 (k := 32) (by omega)]
          simp (disch := omega) only [l_3, l_4, l_6, l_8, l_9, l_10, l_12, l_14, l_16, l_19, l_20, l_23, l_24, l_26, l_28, l_39, l_40, l_56, l_57, l_60, l_192, l_200, l_255, l_299, l_320, l_400, l_1120, l_2000, l_20000, l_10000, l_1000, l_1000000, nI_1, n_2mul, nI_add, pk_mul, pk_sub, sb_m1, nI_clamp, nI_clamp0, vpT, nI_leI, nI_ltI, nI_eq, nI_0le, nI_lt0, nI_le0, nI_0lt, nI_eq0, nI_eqm1, nI_m1eq, Nat.add_one_sub_one, forall_eq, true_and, and_true, true_implies, not_true_eq_false, not_false_eq_true, false_implies, implies_true, ne_eq, Nat.reduceEqDiff, Nat.reduceAdd, Nat.reduceMul, Nat.reduceLT, Nat.reduceLeDiff, and_self, e35, ect]
          exact ⟨fun _ => kf, fun _ => kf⟩
  have := key ct 0 σ (by omega) ag_rf hS hN hT hD hW hU hPh (fun j' h => by omega)
  rw [nI_0] at this
  exact ⟨_, this⟩
theorem p_find {Q : Int32 → gS → Prop} {M : Nat} {σ : gS} (hM : M < 40) (eM : σ 36 0 = nI M) (hG : GC P K fr tt ln wd σ) (hF : HF K wd σ)
    (k0 : ∀ σ', ag kS σ σ' → SIx P K fr tt ln wd M σ' → GT P M σ' → US P σ' → (∀ q, q < P → DN K fr tt ln wd M σ' q) → Q (-1) σ')
    (k1 : ∀ σ' q, ag kS σ σ' → SIx P K fr tt ln wd M σ' → q < P → 0 < (σ' 40 q).toInt → 0 ≤ (σ' 42 q).toInt → Q (nI q) σ') : w_X0_findStart Q σ := by
  obtain ⟨⟨hP, hK, e35, e26⟩, g1, g2, g3, g4⟩ := id hG
  unfold w_X0_findStart
  have key : ∀ (d i : Nat) (s : gS), i + d = 321 → ag kS σ s → SIx P K fr tt ln wd M s → NI P s → GT P M s → (∀ q, q < P → (s 43 q) = 0 → DN K fr tt ln wd M s q) → US P s → (i : Int) ≤ Phi P s → w_X0_findStart_7 Q (d + 1) (-1) (nI i) s := by
    intro d
    induction d with
    | zero =>
      intro i s hd ha hS hN hT hD hU hPh
      exfalso
      have : Phi P s ≤ fsum P (fun _ => 40) := by
        apply fsum_le
        intro p hp
        have := NI.rng hN hp
        obtain ⟨rs, ts, c, hS⟩ := hS
        have := hS.1 p hp
        omega
      have h2 : ∀ n : Nat, fsum n (fun _ => 40) = 40 * n := by
        intro n
        induction n with
        | zero => rfl
        | succ n ih => rw [fsum, ih]; push_cast; omega
      rw [h2] at this
      omega
    | succ d ih =>
      intro i s hd ha hS hN hT hD hU hPh
      unfold w_X0_findStart_7
      simp (disch := omega) only [l_3, l_4, l_6, l_8, l_9, l_10, l_12, l_14, l_16, l_19, l_20, l_23, l_24, l_26, l_28, l_39, l_40, l_56, l_57, l_60, l_192, l_200, l_255, l_299, l_320, l_400, l_1120, l_2000, l_20000, l_10000, l_1000, l_1000000, nI_1, n_2mul, nI_add, pk_mul, pk_sub, sb_m1, nI_clamp, nI_clamp0, vpT, nI_leI, nI_ltI, nI_eq, nI_0le, nI_lt0, nI_le0, nI_0lt, nI_eq0, nI_eqm1, nI_m1eq, Nat.add_one_sub_one, forall_eq, true_and, and_true, true_implies, not_true_eq_false, not_false_eq_true, false_implies, implies_true, ne_eq, Nat.reduceEqDiff, Nat.reduceAdd, Nat.reduceMul, Nat.reduceLT, Nat.reduceLeDiff, and_self]
      refine q_F (by omega) ?_
      have hG' : GC P K fr tt ln wd s := hG.cong (fun k hk => ag_kS ha (by omega))
      refine p_latestNew hP (by rw [ag_kS ha (by omega)]; exact e35) (by rw [ag_kS ha (by omega)]; exact e26) hN (fun hz => ?_) (fun p hp hn => ?_)
      · exact q_nT rfl (k0 s ha hS hT hU (fun q hq => hD q hq (hz q hq)))
      · refine q_nF (by rw [nI_eqm1 (by omega)]; exact id) ?_
        obtain ⟨rs, ts, c, hS⟩ := hS
        have hl0 : 0 ≤ (s 42 p).toInt := by
          rcases hN p hp with a | ⟨-, a⟩
          · rw [a] at hn; exact absurd hn (by decide)
          · exact a
        refine p_waitLess hM (by rw [ag_kS ha (by omega)]; exact eM) hP hS hp hl0 (fun s1 rs1 ts1 c1 S1 E1 R1 W1 => ?_)
        have ha1 := ag_tr ha E1.1
        simp (disch := omega) only [l_3, l_4, l_6, l_8, l_9, l_10, l_12, l_14, l_16, l_19, l_20, l_23, l_24, l_26, l_28, l_39, l_40, l_56, l_57, l_60, l_192, l_200, l_255, l_299, l_320, l_400, l_1120, l_2000, l_20000, l_10000, l_1000, l_1000000, nI_1, n_2mul, nI_add, pk_mul, pk_sub, sb_m1, nI_clamp, nI_clamp0, vpT, nI_leI, nI_ltI, nI_eq, nI_0le, nI_lt0, nI_le0, nI_0lt, nI_eq0, nI_eqm1, nI_m1eq, Nat.add_one_sub_one, forall_eq, true_and, and_true, true_implies, not_true_eq_false, not_false_eq_true, false_implies, implies_true, ne_eq, Nat.reduceEqDiff, Nat.reduceAdd, Nat.reduceMul, Nat.reduceLT, Nat.reduceLeDiff, and_self, vpn0]
        have A2 : ag kS σ (gu s1 43 p 0) := ag_gu' (by simp [kS]) ha1
        have hlt : ∀ q, (gu s1 43 p 0) 42 q = s1 42 q := fun q => by rw [gu_ne (by omega)]
        have hnw : ∀ q, q ≠ p → (gu s1 43 p 0) 43 q = s1 43 q := fun q hq => by rw [gu_ne2 hq]
        have hnw' : (gu s1 43 p 0) 43 p = 0 := by rw [gu_eq]
        have ho : ∀ k, k ≠ 43 → (gu s1 43 p 0) k = s1 k := fun k hk => gu_ne hk
        have N1 := hN.ext E1 (fun q hq => (hS.1 q hq).1)
        have T1 := hT.ext E1 (fun q hq => (S1.1 q hq).2.1)
        have P1 := Phi.ext hN E1
        refine p_find46 hM (by rw [ag_kS A2 (by omega)]; exact eM) (hG.cong (fun k hk => ag_kS A2 (by omega))) (hF.cong (ag_kS A2 (by omega)) (ag_kS A2 (by omega))) hp (by omega) (fun s2 a2 S2 N2 T2 D2 U2 P2 => ih (i + 1) s2 (by omega) (ag_tr A2 a2) S2 N2 T2 D2 U2 (by push_cast; omega)) (fun s2 q a2 S2 hq hu hl => ?_) ⟨rs1, ts1, c1, ?_⟩ (fun q hq => ?_) (fun q hq hg => ?_) (fun q hq hqp hz => ?_) (fun m a b => ?_) (fun q hq hl => ?_) ?_
        · obtain ⟨d', rfl⟩ : ∃ d', d = d' := ⟨d, rfl⟩
          have kf := k1 s2 q (ag_tr A2 a2) S2 hq hu hl
          unfold w_X0_findStart_7
          simp (disch := omega) only [l_3, l_4, l_6, l_8, l_9, l_10, l_12, l_14, l_16, l_19, l_20, l_23, l_24, l_26, l_28, l_39, l_40, l_56, l_57, l_60, l_192, l_200, l_255, l_299, l_320, l_400, l_1120, l_2000, l_20000, l_10000, l_1000, l_1000000, nI_1, n_2mul, nI_add, pk_mul, pk_sub, sb_m1, nI_clamp, nI_clamp0, vpT, nI_leI, nI_ltI, nI_eq, nI_0le, nI_lt0, nI_le0, nI_0lt, nI_eq0, nI_eqm1, nI_m1eq, Nat.add_one_sub_one, forall_eq, true_and, and_true, true_implies, not_true_eq_false, not_false_eq_true, false_implies, implies_true, ne_eq, Nat.reduceEqDiff, Nat.reduceAdd, Nat.reduceMul, Nat.reduceLT, Nat.reduceLeDiff, and_self]
          exact ⟨fun _ => kf, fun _ => kf⟩
        · unfold SI VS at S1 ⊢
          rw [ho 42 (by omega), ho 44 (by omega), ho 45 (by omega), ho 46 (by omega), ho 41 (by omega), ho 38 (by omega), ho 37 (by omega)]
          exact S1
        · rw [hlt]
          by_cases e : q = p
          · rw [e, hnw']; exact Or.inl rfl
          · rw [hnw q e]; exact N1 q hq
        · rw [hlt]; rw [ho 41 (by omega)] at hg; exact T1 q hq hg
        · rw [hnw q hqp] at hz
          have : DN K fr tt ln wd M s1 q := by
            rcases E1.2 q hq with ⟨a, b⟩ | ⟨a, b⟩
            · exact (hD q hq (b ▸ hz)).mono E1 (fun k hk => (g1 k hk).2.1) a
            · rw [b] at hz; exact absurd hz (by decide)
          unfold DN CWp CAk at this ⊢
          rw [ho 42 (by omega), ho 38 (by omega), ho 37 (by omega)]
          exact this
        · rw [ho 38 (by omega)]; rw [ho 42 (by omega)] at a; exact W1 m a b
        · rw [hlt] at hl
          rw [ho 40 (by omega), ag_kS E1.1 (by omega)]
          refine hU q hq ?_
          by_cases e : q = p
          · rw [e]; exact hl0
          · rw [R1 q e] at hl; exact hl
        · have e0 : Phi P (gu s1 43 p 0) = Phi P s1 + ((s1 43 p).toInt) := by
            unfold Phi
            rw [fsum_up (f := fun q => (s1 42 q).toInt + 1 - ((s1 43 q)).toInt) (g := fun q => ((gu s1 43 p 0) 42 q).toInt + 1 - (((gu s1 43 p 0) 43 q)).toInt) (k := p) hp (fun q hq => by rw [hlt, hnw q hq])]
            rw [hlt, hnw', t_0]; omega
          have e1 : (s1 43 p) = 1 := by
            rcases E1.2 p hp with ⟨a, b⟩ | ⟨a, b⟩
            · rw [b]; exact hn
            · exact b
          rw [e1, t_1] at e0
          omega
  refine p_gates (K := K) (fr := fr) (tt := tt) (ln := ln) (wd := wd) hM eM hP e35 e26 (fun s ha hS hN hT hL hU => ⟨322, ?_⟩) (fun s p ha hS hp hu hl => ⟨1, ?_⟩)
  · have := key 321 0 s (by omega) ha hS hN hT (fun q hq hz => ?_) hU ?_
    · rw [nI_0] at this; exact this
    · have hl := hL q hq hz
      refine ⟨fun m a b => by omega, fun k hk hf => ⟨fun m a b => ?_, fun m a b c => ?_⟩⟩
      · have := g1 k hk; rw [hf] at b; omega
      · rw [hf] at a; omega
    · apply fsum_nn
      intro p hp
      obtain ⟨rs, ts, c, hS⟩ := hS
      have := hS.1 p hp
      rcases hN p hp with a | ⟨a, b⟩
      · rw [a, t_0]; omega
      · rw [a, t_1]; omega
  · unfold w_X0_findStart_7
    refine q_F (by decide) (q_nF (by rw [nI_eqm1 (by omega)]; exact id) (k1 s p ha hS hp hu hl))
end FIND2
