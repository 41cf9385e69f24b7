/-! THE MODEL: leads, more -/
def kL (k : Nat) : Prop := 77 ≤ k ∧ k ≤ 80
section LEAD2
variable {P K : Nat} {fr tt ln : Nat → Nat} {wd cr ra : Nat → Int}
theorem BI.pos {T : Nat} {σ : gS} {c : Nat} {pos : Nat → Nat} {x : Nat} (h : BI P K fr tt ln wd T σ c pos) (hx : x < 320) (hs : σ 84 x = 1) : pos x < c ∧ c ≤ 320 ∧ VM P K fr tt ln wd T σ pos x := by
  obtain ⟨b1, b2, b3, b4⟩ := h
  have := fcnt_le (fun x => decide (σ 84 x = 1)) 320
  rcases b4 x hx with z | z
  · rw [z] at hs; exact absurd hs (by decide)
  · exact ⟨z.2.1, by omega, z.2.2.2⟩
theorem p_leads {Q : Int32 → gS → Prop} {T : Nat} {B : Int} {σ : gS} {c : Nat} {pos : Nat → Nat} {p m : Nat} (hT : T ≤ 40) (hG : GM P K fr tt ln wd σ) (hB : 0 ≤ B ∧ B ≤ 60000000) (hBI : BI P K fr tt ln wd T σ c pos) (hA : MA P K ln wd cr ra T B σ) (hE : ME P fr tt ln cr σ (fun _ => 0)) (hp : p < P) (hm : m < T) (hs : σ 84 (40 * p + m) = 1) (hr : (σ 69 p).toInt = ra p) (hlt : (σ 79 (40 * p + m)).toInt < ra p)
    (kk : ∀ (xn : Int32) (n : Int) (p0 : Nat) (s : gS), xn.toInt = n → 1 ≤ n → ag kL σ s → p0 < P → (s 80 p0).toInt = (σ 80 p0).toInt - n → (∀ q, q ≠ p0 → s 80 q = σ 80 q) → MA P K ln wd cr ra T (B + 321 * n) s → ME P fr tt ln cr s (fun _ => 0) → Q xn s) : w_X9_leads Q σ (nI (40 * p + m)) := by
  obtain ⟨⟨hP, hK, e71, W, e76, hW⟩, g1, g2⟩ := id hG
  have a5 := hA.2.2.2.2.1 p m hp (by omega)
  have a7 := hA.2.2.2.2.2.2 p hp
  have ey : (σ 69 p - σ 79 (40 * p + m)).toInt = ra p - (σ 79 (40 * p + m)).toInt := by rw [i_sub (by omega) (by omega), hr]
  have hpos := hBI.pos (by omega) hs
  unfold w_X9_leads
  simp (disch := omega) only [l_3, l_4, l_6, l_8, l_9, l_10, l_12, l_14, l_16, l_19, l_20, l_23, l_24, l_26, l_28, l_39, l_40, l_56, l_57, l_60, l_192, l_200, l_255, l_299, l_320, l_400, l_1120, l_2000, l_20000, l_10000, l_1000, l_1000000, nI_1, n_2mul, nI_add, pk_mul, pk_sub, sb_m1, nI_clamp, nI_clamp0, vpT, nI_leI, nI_ltI, nI_eq, nI_0le, nI_lt0, nI_le0, nI_0lt, nI_eq0, nI_eqm1, nI_m1eq, Nat.add_one_sub_one, forall_eq, true_and, and_true, true_implies, not_true_eq_false, not_false_eq_true, false_implies, implies_true, ne_eq, Nat.reduceEqDiff, Nat.reduceAdd, Nat.reduceMul, Nat.reduceLT, Nat.reduceLeDiff, and_self, d40, pk_div]
  have key : ∀ (f p' m' st : Nat) (x2 : Int32), pos (40 * p' + m') < f → p' < P → m' < T → σ 84 (40 * p' + m') = 1 → 1 ≤ x2.toInt → x2.toInt ≤ ra p - (σ 79 (40 * p + m)).toInt → pos (40 * p' + m') + st ≤ pos (40 * p + m) → (∀ p0 n' f', n' ≤ x2.toInt → CH P K fr tt ln wd T σ pos p0 n' f' p' m' → CH P K fr tt ln wd T σ pos p0 n' (f' + st) p m) → w_X9_leads_19 Q f (nI (40 * p + m)) x2 (nI (40 * p' + m')) σ := by
    intro f
    induction f with
    | zero => intro p' m' st x2 h; omega
    | succ f ih =>
      intro p' m' st x2 hf hp' hm' hs' h1 h2 h3 hH
      obtain ⟨-, -, p'', m'', e, hp'', hm'', hv⟩ := hBI.pos (x := 40 * p' + m') (by omega) hs'
      have e1 : p'' = p' ∧ m'' = m' := by omega
      obtain ⟨rfl, rfl⟩ := e1
      unfold w_X9_leads_19
      rcases hv with ⟨v1, v2, v3⟩ | ⟨q, l, v1, v2, v3, v4, v5, v6⟩
      · simp (disch := omega) only [l_3, l_4, l_6, l_8, l_9, l_10, l_12, l_14, l_16, l_19, l_20, l_23, l_24, l_26, l_28, l_39, l_40, l_56, l_57, l_60, l_192, l_200, l_255, l_299, l_320, l_400, l_1120, l_2000, l_20000, l_10000, l_1000, l_1000000, nI_1, n_2mul, nI_add, pk_mul, pk_sub, sb_m1, nI_clamp, nI_clamp0, vpT, nI_leI, nI_ltI, nI_eq, nI_0le, nI_lt0, nI_le0, nI_0lt, nI_eq0, nI_eqm1, nI_m1eq, Nat.add_one_sub_one, forall_eq, true_and, and_true, true_implies, not_true_eq_false, not_false_eq_true, false_implies, implies_true, ne_eq, Nat.reduceEqDiff, Nat.reduceAdd, Nat.reduceMul, Nat.reduceLT, Nat.reduceLeDiff, and_self, gu_eq, gu_ne, gu_ne2, d40, pk_div]
        refine q_T v1 ?_
        have a7' := hA.2.2.2.2.2.2 p'' hp'
        have en : (if σ 80 p'' < x2 then σ 80 p'' else x2).toInt = min (σ 80 p'').toInt x2.toInt := i_mins
        generalize (if σ 80 p'' < x2 then σ 80 p'' else x2) = xn at *
        obtain ⟨n, hn⟩ : ∃ n, xn.toInt = n := ⟨_, rfl⟩
        have es1 : (σ 79 (40 * p + m) + xn).toInt = (σ 79 (40 * p + m)).toInt + n := by rw [i_add (by omega) (by omega), hn]
        have es2 : (σ 80 p'' - xn).toInt = (σ 80 p'').toInt - n := by rw [i_sub (by omega) (by omega), hn]
        obtain ⟨A1, E1⟩ := M_out (σ' := gu σ 79 (40 * p + m) (σ 79 (40 * p + m) + xn)) (n := n) hT hP hA hE hp hm (by omega) (by omega) (by rw [gu_eq, es1]) (fun i hi => gu_ne2 hi) (fun i hi => gu_ne hi)
        have e80 : (gu σ 79 (40 * p + m) (σ 79 (40 * p + m) + xn)) 80 = σ 80 := gu_ne (by omega)
        obtain ⟨A2, E2⟩ := M_left (σ' := gu (gu σ 79 (40 * p + m) (σ 79 (40 * p + m) + xn)) 80 p'' (σ 80 p'' - xn)) (n := n) (p := p'') hP A1 E1 hp' (by omega) (by rw [e80]; omega) (by rw [gu_eq, es2, e80]) (fun i hi => gu_ne2 hi) (fun i hi => gu_ne hi)
        have hch := hH p'' n 1 (by omega) (Or.inl ⟨v1, rfl, v2⟩)
        have hall : ∀ k, k ≠ 79 → k ≠ 80 → (gu (gu σ 79 (40 * p + m) (σ 79 (40 * p + m) + xn)) 80 p'' (σ 80 p'' - xn)) k = σ k := fun k h1 h2 => by rw [gu_ne h2, gu_ne h1]
        have h80 : ((gu (gu σ 79 (40 * p + m) (σ 79 (40 * p + m) + xn)) 80 p'' (σ 80 p'' - xn)) 80 p'').toInt = (σ 80 p'').toInt - n := by rw [gu_eq, es2]
        have h80' : ∀ q, q ≠ p'' → (gu (gu σ 79 (40 * p + m) (σ 79 (40 * p + m) + xn)) 80 p'' (σ 80 p'' - xn)) 80 q = σ 80 q := fun q hq => by rw [gu_ne2 hq, e80]
        have hag : ag kL σ (gu (gu σ 79 (40 * p + m) (σ 79 (40 * p + m) + xn)) 80 p'' (σ 80 p'' - xn)) := ag_gu' (by unfold kL; omega) (ag_gu' (by unfold kL; omega) ag_rf)
        generalize gu (gu σ 79 (40 * p + m) (σ 79 (40 * p + m) + xn)) 80 p'' (σ 80 p'' - xn) = s0 at *
        refine ⟨1 + st, p_lead89 (σ := s0) (pos := pos) (p0 := p'') (B := B) hT (hG.cong (fun k h1 h2 => hall k (by omega) (by omega))) hn (by omega) (by omega) (fun s a A3 E3 => ?_) (1 + st) 0 p m s0 (by omega) hp hm ag_rf ?_ A2 (fun φ => by rw [E2 φ]; dsimp only; omega)⟩
        · refine kk xn n p'' s hn (by omega) (ag_tr hag (ag_mono a (fun k hk => by unfold kW at hk; unfold kL; omega))) hp' ?_ (fun q hq => ?_) A3 E3
          · rw [a 80 (by unfold kW; omega)]; exact h80
          · rw [a 80 (by unfold kW; omega)]; exact h80' q hq
        · refine CH.keep (σ := σ) (N := 400) (fun k h1 h2 => hall k (by omega) (by omega)) (fun p1 m1 q1 l1 _ _ _ h => ?_) (1 + st) p m hp hm (by omega) hch
          exact h.cong (hall 77 (by omega) (by omega)) (hall 78 (by omega) (by omega))
      · simp (disch := omega) only [l_3, l_4, l_6, l_8, l_9, l_10, l_12, l_14, l_16, l_19, l_20, l_23, l_24, l_26, l_28, l_39, l_40, l_56, l_57, l_60, l_192, l_200, l_255, l_299, l_320, l_400, l_1120, l_2000, l_20000, l_10000, l_1000, l_1000000, nI_1, n_2mul, nI_add, pk_mul, pk_sub, sb_m1, nI_clamp, nI_clamp0, vpT, nI_leI, nI_ltI, nI_eq, nI_0le, nI_lt0, nI_le0, nI_0lt, nI_eq0, nI_eqm1, nI_m1eq, Nat.add_one_sub_one, forall_eq, true_and, and_true, true_implies, not_true_eq_false, not_false_eq_true, false_implies, implies_true, ne_eq, Nat.reduceEqDiff, Nat.reduceAdd, Nat.reduceMul, Nat.reduceLT, Nat.reduceLeDiff, and_self, v1, nI_eqm5]
        refine p_bears hT hG (by omega) hA hp' hm' v2 v3 v1 v6 (fun v hv1 hv2 => ?_)
        simp (disch := omega) only [l_3, l_4, l_6, l_8, l_9, l_10, l_12, l_14, l_16, l_19, l_20, l_23, l_24, l_26, l_28, l_39, l_40, l_56, l_57, l_60, l_192, l_200, l_255, l_299, l_320, l_400, l_1120, l_2000, l_20000, l_10000, l_1000, l_1000000, nI_1, n_2mul, nI_add, pk_mul, pk_sub, sb_m1, nI_clamp, nI_clamp0, vpT, nI_leI, nI_ltI, nI_eq, nI_0le, nI_lt0, nI_le0, nI_0lt, nI_eq0, nI_eqm1, nI_m1eq, Nat.add_one_sub_one, forall_eq, true_and, and_true, true_implies, not_true_eq_false, not_false_eq_true, false_implies, implies_true, ne_eq, Nat.reduceEqDiff, Nat.reduceAdd, Nat.reduceMul, Nat.reduceLT, Nat.reduceLeDiff, and_self, v1]
        have en : (if v < x2 then v else x2).toInt = min v.toInt x2.toInt := i_mins
        generalize (if v < x2 then v else x2) = xn at *
        refine ih q l (st + 1) xn (by omega) v2 v3 v4 (by omega) (by omega) (by omega) (fun p0 n' f' hn' hc => ?_)
        have := hH p0 n' (f' + 1) (by omega) (Or.inr ⟨q, l, v1, v2, v3, v5, hv2 n' (by omega), hc⟩)
        rw [show f' + (st + 1) = f' + 1 + st by omega]
        exact this
  exact ⟨pos (40 * p + m) + 1, key _ p m 0 _ (by omega) hp hm hs (by rw [ey]; omega) (by rw [ey]; omega) (by omega) (fun p0 n' f' _ h => h)⟩
end LEAD2
