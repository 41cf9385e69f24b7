/-! ESCAPE: fewestMinutes is the least number of minutes -/
section FEW3
variable {P K : Nat} {fr tt ln : Nat → Nat} {wd cr ra : Nat → Int}
def FS (P K : Nat) (fr tt ln : Nat → Nat) (wd : Nat → Int) (M : Nat) (s : gS) (x : Int32) : Prop :=
  (x = -1 ∧ GT P M s ∧ US P s ∧ ∀ p, p < P → DN K fr tt ln wd M s p) ∨ (∃ q, q < P ∧ x = nI q ∧ SIx P K fr tt ln wd M s ∧ 0 < (s 40 q).toInt ∧ 0 ≤ (s 42 q).toInt)
theorem HF_of {M : Nat} {B : Int} {σ : gS} (hA : FA P K ln wd cr ra M B σ) : HF K wd σ := by
  refine ⟨fun k m hk hm => ⟨(hA.1 k m hk hm).1, (hA.1 k m hk hm).2.1⟩, fun k hk ht m hm => ?_⟩
  rw [hA.2.2.2.2.1 k hk] at ht
  have := fsum_zero (fun j hj => (hA.1 k j hk hj).1) ht m hm
  omega
theorem FA.agS {M : Nat} {B : Int} {σ σ' : gS} (hA : FA P K ln wd cr ra M B σ) (e : ag kS σ σ') : FA P K ln wd cr ra M B σ' := by
  unfold FA at *
  rw [ag_kS e (k := 37) (by omega), ag_kS e (k := 38) (by omega), ag_kS e (k := 39) (by omega), ag_kS e (k := 40) (by omega), ag_kS e (k := 41) (by omega)]
  exact hA
theorem FE.agS {M : Nat} {oh : Nat → Nat → Int} {dv : (Nat → Nat → Int) → Int} {σ σ' : gS} (hA : FE P fr tt ln cr ra M oh σ dv) (e : ag kS σ σ') : FE P fr tt ln cr ra M oh σ' dv := by
  unfold FE SS OO at *
  rw [ag_kS e (k := 37) (by omega), ag_kS e (k := 38) (by omega), ag_kS e (k := 40) (by omega), ag_kS e (k := 41) (by omega)]
  exact hA
theorem CC.agS {M : Nat} {oh : Nat → Nat → Int} {C : Nat → Nat → Prop} {σ σ' : gS} (hA : CC P K fr tt ln wd ra M oh C σ) (e : ag kS σ σ') : CC P K fr tt ln wd ra M oh C σ' := by
  unfold CC at *
  rw [ag_kS e (k := 37) (by omega), ag_kS e (k := 38) (by omega), ag_kS e (k := 40) (by omega)]
  exact hA
theorem p_few46 {Q : Int32 → gS → Prop} {k19 : Int32 → Int32 → Int32 → gS → Prop} {M : Nat} {CR : Int} {x2 : Int32} {oh : Nat → Nat → Int} {C : Nat → Nat → Prop} {σ : gS} (hM : M < 40) (hG : GC P K fr tt ln wd σ) (hH : HC P cr ra) (ho : HO ra M oh) (hCR : 0 ≤ CR ∧ CR ≤ 160000)
    (k0 : ∀ s x3 oh' C', ag kE σ s → x3.toInt = fsum P (fun p => (s 40 p).toInt) → 0 < x3.toInt → x3.toInt ≤ CR → HO ra (M + 1) oh' → IV P K fr tt ln wd cr ra (M + 1) (321 * (CR - x3.toInt)) oh' C' s → k19 x2 x3 (nI (M + 1)) s)
    (k1 : ∀ s, ag kE σ s → Feas K fr tt ln wd cr ra (M + 1) → Q (nI (M + 1)) s) :
    ∀ (d : Nat) (s : gS) (x3 x5 : Int32) (i : Nat), ag kE σ s → s 36 0 = nI M → x3.toInt = fsum P (fun p => (s 40 p).toInt) → 0 < x3.toInt → x3.toInt ≤ d → (i : Int) ≤ CR - x3.toInt → FS P K fr tt ln wd M s x5 → FA P K ln wd cr ra M (321 * (CR - x3.toInt)) s → FE P fr tt ln cr ra M oh s (fun _ => 0) → CC P K fr tt ln wd ra M oh C s → w_X0_fewestMinutes_46 Q k19 (d + 1) x2 x3 (nI M) x5 (nI i) s := by
  obtain ⟨⟨hP, hK, e35, e26⟩, g1, g2, g3, g4⟩ := id hG
  intro d
  induction d with
  | zero => intro s x3 x5 i ha eM hx h0 hd; omega
  | succ d ih =>
    intro s x3 x5 i ha eM hx h0 hd hi hS hA hE hC
    have hGs : GC P K fr tt ln wd s := hG.cong (fun k hk => ha k (by unfold kE; omega))
    unfold w_X0_fewestMinutes_46
    simp (disch := omega) only [l_3, l_4, l_6, l_8, l_9, l_10, l_12, l_14, l_16, l_19, l_20, l_23, l_24, l_26, l_28, l_39, l_40, l_56, l_57, l_60, l_192, l_200, l_255, l_299, l_320, l_400, l_1120, l_2000, l_20000, l_10000, l_1000, l_1000000, nI_1, n_2mul, nI_add, pk_mul, pk_sub, sb_m1, nI_clamp, nI_clamp0, vpT, nI_leI, nI_ltI, nI_eq, nI_0le, nI_lt0, nI_le0, nI_0lt, nI_eq0, nI_eqm1, nI_m1eq, Nat.add_one_sub_one, forall_eq, true_and, and_true, true_implies, not_true_eq_false, not_false_eq_true, false_implies, implies_true, ne_eq, Nat.reduceEqDiff, Nat.reduceAdd, Nat.reduceMul, Nat.reduceLT, Nat.reduceLeDiff, and_self]
    refine q_F (by omega) ?_
    rcases hS with ⟨rfl, hT, hU, hD⟩ | ⟨q, hq, rfl, hS, hu, hl⟩
    · refine q_T rfl ?_
      refine k0 s x3 _ _ ha hx h0 (by omega) (fun p m hp hm => ?_) (iv_close hM hGs hH ho hA hE hC hT hU hD)
      exact (fok_of hM hK hP hH ho hA hE).2.2.1 p m hp hm
    · refine q_F (by rw [nI_eqm1 (by omega)]; exact id) ?_
      have a6 := hA.2.2.2.2.2 q hq
      have hun : (s 40 q).toInt ≤ x3.toInt := by
        rw [hx]
        exact fsum_part (f := fun p => (s 40 p).toInt) (fun p hp => (hA.2.2.2.2.2 p hp).1) hq
      refine p_send hM hGs hS hq hu hl (by omega) hA hE hC (fun xn n s5 hn n0 n1 a5 u5 o5 A5 E5 C5 => ?_)
      have es : (x3 - xn).toInt = x3.toInt - n := by rw [i_sub (by omega) (by omega), hn]
      have hs5 : fsum P (fun p => (s5 40 p).toInt) = x3.toInt - n := by
        rw [fsum_up (f := fun p => (s 40 p).toInt) (g := fun p => (s5 40 p).toInt) (k := q) hq (fun p hp => by rw [o5 p hp]), ← hx, u5]; omega
      have ha5 : ag kE σ s5 := ag_tr ha (ag_mono a5 (fun k hk => by unfold kF at hk; unfold kE; omega))
      refine q_lt (fun c1 => ?_) (fun c1 => ?_)
      · rw [t_0, es] at c1
        have hG5 : GC P K fr tt ln wd s5 := hGs.cong (fun k hk => a5 k (by unfold kF; omega))
        have A5' : FA P K ln wd cr ra M (321 * (CR - (x3 - xn).toInt)) s5 := by
          rw [es, show 321 * (CR - (x3.toInt - n)) = 321 * (CR - x3.toInt) + 321 * n by omega]; exact A5
        have eM5 : s5 36 0 = nI M := by rw [a5 36 (by unfold kF; omega)]; exact eM
        refine p_find hM eM5 hG5 (HF_of A5) (fun s9 a9 S9 T9 U9 D9 => ?_) (fun s9 q9 a9 S9 hq9 hu9 hl9 => ?_)
        · refine ih s9 (x3 - xn) (-1) (i + 1) (ag_tr ha5 (ag_mono a9 (fun k hk => by unfold kS at hk; unfold kE; omega))) (by rw [ag_kS a9 (by omega)]; exact eM5) (by rw [ag_kS a9 (by omega), hs5, es]) (by omega) (by omega) (by push_cast; omega) (Or.inl ⟨rfl, T9, U9, D9⟩) (A5'.agS a9) (E5.agS a9) (C5.agS a9)
        · refine ih s9 (x3 - xn) (nI q9) (i + 1) (ag_tr ha5 (ag_mono a9 (fun k hk => by unfold kS at hk; unfold kE; omega))) (by rw [ag_kS a9 (by omega)]; exact eM5) (by rw [ag_kS a9 (by omega), hs5, es]) (by omega) (by omega) (by push_cast; omega) (Or.inr ⟨q9, hq9, rfl, S9, hu9, hl9⟩) (A5'.agS a9) (E5.agS a9) (C5.agS a9)
      · rw [t_0, es] at c1
        have F := fok_of hM hK hP hH ho A5 E5
        have hz : ∀ p, p < P → (s5 40 p).toInt = 0 := fsum_zero (f := fun p => (s5 40 p).toInt) (fun p hp => (A5.2.2.2.2.2 p hp).1) (by omega)
        have : (fun p => cr p - UU P s5 p) = cr := by
          funext p
          unfold UU
          split
          · rename_i q; rw [hz p q]; omega
          · omega
        rw [this] at F
        exact k1 s5 ha5 ⟨_, _, _, F⟩
theorem p_few19 {Q : Int32 → gS → Prop} {CR : Int} {x2 : Int32} {σ : gS} (hG : GC P K fr tt ln wd σ) (hH : HC P cr ra) (hCR : 0 ≤ CR ∧ CR ≤ 160000) (hra : ∀ p, rA P (σ 24) (σ 25) x2 p = ra p) (hr : ∀ p, p < P → 0 ≤ (σ 24 p).toInt)
    (kk : ∀ r s, ag kE σ s → FMin K fr tt ln wd cr ra r → Q r s) :
    ∀ (d M : Nat) (s : gS) (x3 : Int32) (oh : Nat → Nat → Int) (C : Nat → Nat → Prop), M + d = 40 → ag kE σ s → x3.toInt = fsum P (fun p => (s 40 p).toInt) → 0 < x3.toInt → x3.toInt ≤ CR → HO ra M oh → IV P K fr tt ln wd cr ra M (321 * (CR - x3.toInt)) oh C s → (∀ T, T < M → ¬ Feas K fr tt ln wd cr ra T) → w_X0_fewestMinutes_19 Q (d + 1) x2 x3 (nI M) s := by
  obtain ⟨⟨hP, hK, e35, e26⟩, g1, g2, g3, g4⟩ := id hG
  intro d
  induction d with
  | zero =>
    intro M s x3 oh C hd ha hx h0 h1 ho hI hF
    unfold w_X0_fewestMinutes_19
    simp (disch := omega) only [l_3, l_4, l_6, l_8, l_9, l_10, l_12, l_14, l_16, l_19, l_20, l_23, l_24, l_26, l_28, l_39, l_40, l_56, l_57, l_60, l_192, l_200, l_255, l_299, l_320, l_400, l_1120, l_2000, l_20000, l_10000, l_1000, l_1000000, nI_1, n_2mul, nI_add, pk_mul, pk_sub, sb_m1, nI_clamp, nI_clamp0, vpT, nI_leI, nI_ltI, nI_eq, nI_0le, nI_lt0, nI_le0, nI_0lt, nI_eq0, nI_eqm1, nI_m1eq, Nat.add_one_sub_one, forall_eq, true_and, and_true, true_implies, not_true_eq_false, not_false_eq_true, false_implies, implies_true, ne_eq, Nat.reduceEqDiff, Nat.reduceAdd, Nat.reduceMul, Nat.reduceLT, Nat.reduceLeDiff, and_self]
    refine q_T (by omega) (kk _ s ha (Or.inr ⟨rfl, fun T hT => ?_⟩))
    by_cases e : T = M
    · rw [e]; exact iv_no (by omega) hK hP hI (by omega)
    · exact hF T (by omega)
  | succ d ih =>
    intro M s x3 oh C hd ha hx h0 h1 ho hI hF
    have hno := iv_no (by omega) hK hP hI (by omega)
    unfold w_X0_fewestMinutes_19
    simp (disch := omega) only [l_3, l_4, l_6, l_8, l_9, l_10, l_12, l_14, l_16, l_19, l_20, l_23, l_24, l_26, l_28, l_39, l_40, l_56, l_57, l_60, l_192, l_200, l_255, l_299, l_320, l_400, l_1120, l_2000, l_20000, l_10000, l_1000, l_1000000, nI_1, n_2mul, nI_add, pk_mul, pk_sub, sb_m1, nI_clamp, nI_clamp0, vpT, nI_leI, nI_ltI, nI_eq, nI_0le, nI_lt0, nI_le0, nI_0lt, nI_eq0, nI_eqm1, nI_m1eq, Nat.add_one_sub_one, forall_eq, true_and, and_true, true_implies, not_true_eq_false, not_false_eq_true, false_implies, implies_true, ne_eq, Nat.reduceEqDiff, Nat.reduceAdd, Nat.reduceMul, Nat.reduceLT, Nat.reduceLeDiff, and_self]
    refine q_F (by omega) ?_
    have ha1 : ag kE σ (gu s 36 0 (nI M)) := ag_gu' (by unfold kE; omega) ha
    have e1 : ∀ k, k ≠ 36 → (gu s 36 0 (nI M)) k = s k := fun k hk => gu_ne hk
    have e36 : (gu s 36 0 (nI M)) 36 0 = nI M := gu_eq
    generalize gu s 36 0 (nI M) = s1 at *
    refine p_open hP (by rw [ha1 35 (by unfold kE; omega)]; exact e35) (by rw [ha1 26 (by unfold kE; omega)]; exact e26) (fun p hp => by rw [ha1 24 (by unfold kE; omega)]; exact hr p hp) (fun s2 a2 g2' => ?_)
    have ha2 : ag kE σ s2 := ag_tr ha1 (ag_mono a2 (fun k hk => by unfold kE; omega))
    have hG2 : GC P K fr tt ln wd s2 := hG.cong (fun k hk => ha2 k (by unfold kE; omega))
    have eM2 : s2 36 0 = nI M := by rw [a2 36 (by omega)]; exact e36
    obtain ⟨A2, E2, C2⟩ := iv_open (σ' := s2) (by omega) hK hP (fun k hk => ⟨(g1 k hk).1, (g1 k hk).2.1, (g1 k hk).2.2.2.1⟩) hH hI (fun p hp => by rw [g2' p hp, ha1 24 (by unfold kE; omega), ha1 25 (by unfold kE; omega)]; exact hra p) (fun k h1 h2 => by rw [a2 k (by omega), e1 k (by omega)])
    have hx2 : x3.toInt = fsum P (fun p => (s2 40 p).toInt) := by rw [a2 40 (by omega), e1 40 (by omega)]; exact hx
    have cont : ∀ s3 x5, ag kS s2 s3 → FS P K fr tt ln wd M s3 x5 → ∃ n46, w_X0_fewestMinutes_46 Q (w_X0_fewestMinutes_19 Q (d + 1)) n46 x2 x3 (nI M) x5 0 s3 := fun s3 x5 a3 S3 => by
      refine ⟨x3.toInt.toNat + 1, ?_⟩
      rw [← nI_0]
      refine p_few46 (σ := σ) (oh := oh) (by omega) hG hH ho hCR (fun s4 x4 oh' C' a4 hx4 h04 h14 ho4 I4 => ?_) (fun s4 a4 hF4 => ?_) _ s3 x3 x5 0 (ag_tr ha2 (ag_mono a3 (fun k hk => by unfold kS at hk; unfold kE; omega))) (by rw [ag_kS a3 (by omega)]; exact eM2) (by rw [ag_kS a3 (by omega)]; exact hx2) h0 (by omega) (by push_cast; omega) S3 (A2.agS a3) (E2.agS a3) (C2.agS a3)
      · refine ih (M + 1) s4 x4 oh' C' (by omega) a4 hx4 h04 h14 ho4 I4 (fun T hT => ?_)
        by_cases e : T = M
        · rw [e]; exact hno
        · exact hF T (by omega)
      · refine kk _ s4 a4 (Or.inl ⟨M + 1, by omega, rfl, hF4, fun T hT => ?_⟩)
        by_cases e : T = M
        · rw [e]; exact hno
        · exact hF T (by omega)
    refine p_find (by omega) eM2 hG2 (HF_of A2) (fun s3 a3 S3 T3 U3 D3 => ?_) (fun s3 q a3 S3 hq hu hl => ?_)
    · exact cont s3 (-1) a3 (Or.inl ⟨rfl, T3, U3, D3⟩)
    · exact cont s3 (nI q) a3 (Or.inr ⟨q, hq, rfl, S3, hu, hl⟩)
def cC (P : Nat) (f : Nat → Int32) (p : Nat) : Int := if p < P then (f p).toInt else 0
theorem FL_zero {φ : Nat → Nat → Int} : FL fr tt ln (fun _ => 0) (fun _ _ => 0) (fun _ _ => 0) (fun _ _ => 0) φ = 0 := by
  unfold FL
  simp only [Int.zero_mul, fsum_0]
  rfl
theorem FOK_zero {T : Nat} {s : Nat → Int} {g w o : Nat → Nat → Int} (hra : ∀ p, p < 8 → 0 ≤ ra p) (hwd : ∀ k, k < K → 0 ≤ wd k) (hs : ∀ p, p < 8 → s p = 0) (hg : ∀ k m, k < 28 → m < 40 → g k m = 0) (hw : ∀ p m, p < 8 → m < 40 → w p m = 0) (ho : ∀ p m, p < 8 → m < 40 → o p m = 0) : FOK K fr tt ln wd ra T s g w o := by
  refine ⟨fun k m hk hm => ?_, fun p m hp hm => ?_, fun p m hp hm => ?_, fun φ => ?_⟩
  · rw [hg k m hk hm]; exact ⟨by omega, fun h => hwd k h, fun x => absurd rfl x⟩
  · rw [hw p m hp hm]; exact ⟨by omega, fun x => absurd rfl x⟩
  · rw [ho p m hp hm]; exact ⟨by omega, hra p hp, fun x => absurd rfl x⟩
  · rw [FL_cong (s := fun _ => 0) (g := fun _ _ => 0) (w := fun _ _ => 0) (o := fun _ _ => 0) hs hg hw ho]; exact FL_zero
theorem rA_rng {f g : Nat → Int32} {a : Int32} (h : ∀ p, p < P → 0 ≤ (f p).toInt ∧ (f p).toInt ≤ 2000) (p : Nat) : 0 ≤ rA P f g a p ∧ rA P f g a p ≤ 2000 := by
  unfold rA
  split
  · rename_i q; exact h p q.1
  · omega
theorem HC_of {f g h : Nat → Int32} {a : Int32} (hc : ∀ p, p < P → 0 ≤ (h p).toInt ∧ (h p).toInt ≤ 20000) (hr : ∀ p, p < P → 0 ≤ (f p).toInt ∧ (f p).toInt ≤ 2000) : HC P (cC P h) (rA P f g a) := by
  refine ⟨fun p hp => ⟨if_neg (by omega), if_neg (by omega)⟩, fun p hp => ?_⟩
  have := rA_rng (g := g) (a := a) hr p
  unfold cC
  rw [if_pos hp]
  have := hc p hp
  omega
theorem sum_rng {h : Nat → Int32} (hc : ∀ p, p < P → 0 ≤ (h p).toInt ∧ (h p).toInt ≤ 20000) : 0 ≤ fsum P (fun p => (h p).toInt) ∧ fsum P (fun p => (h p).toInt) ≤ 20000 * P := by
  induction P with
  | zero => simp [fsum]
  | succ n ih =>
    have := ih (fun p hp => hc p (by omega))
    have := hc n (by omega)
    rw [fsum]; push_cast; omega
theorem p_fewest {Q : Int32 → gS → Prop} {σ : gS} {a : Int32} (hG : GC P K fr tt ln wd (gu σ 35 0 1)) (hc : ∀ p, p < P → 0 ≤ (σ 23 p).toInt ∧ (σ 23 p).toInt ≤ 20000) (hr : ∀ p, p < P → 0 ≤ (σ 24 p).toInt ∧ (σ 24 p).toInt ≤ 2000)
    (kk : ∀ r s, ag (fun k => 35 ≤ k ∧ k ≤ 46) σ s → FMin K fr tt ln wd (cC P (σ 23)) (rA P (σ 24) (σ 25) a) r → Q r s) : w_X0_fewestMinutes Q σ a := by
  obtain ⟨⟨hP, hK, e35, e26⟩, g1, g2, g3, g4⟩ := id hG
  unfold w_X0_fewestMinutes
  intro s0 hs0
  rw [← hs0] at hG e35 e26
  have a0 : ag (fun k => 35 ≤ k ∧ k ≤ 46) σ s0 := by rw [hs0]; exact ag_gu (by omega)
  have e23 : s0 23 = σ 23 := a0 23 (by omega)
  have e24 : s0 24 = σ 24 := a0 24 (by omega)
  have e25 : s0 25 = σ 25 := a0 25 (by omega)
  have hH := HC_of (g := σ 25) (a := a) hc hr
  have hsr := sum_rng hc
  have hra8 : ∀ p, p < 8 → 0 ≤ rA P (σ 24) (σ 25) a p := fun p _ => (rA_rng hr p).1
  have hwd0 : ∀ k, k < K → 0 ≤ wd k := fun k hk => by have := g1 k hk; omega
  refine p_startAnew hP e35 e26 (fun p hp => by rw [e23]; exact hc p hp) (fun r s1 a1 z7 z8 z9 hu hrr => ?_)
  rw [e23] at hu hrr
  have a1' : ag (fun k => 35 ≤ k ∧ k ≤ 46) σ s1 := ag_tr a0 (ag_mono a1 (fun k hk => by unfold kF at hk; omega))
  have hun : ∀ p, p < P → (s1 40 p).toInt = (σ 23 p).toInt := fun p hp => by rw [hu p hp]
  have hsum : r.toInt = fsum P (fun p => (s1 40 p).toInt) := by rw [hrr]; exact fsum_cong (fun p hp => (hun p hp).symm)
  have zb : ∀ k m, k < 28 → m < 40 → (s1 37 (40 * k + m)).toInt = 0 := fun k m hk hm => by rw [z7 _ (by omega)]; rfl
  have zw : ∀ p m, p < 8 → m < 40 → (s1 38 (40 * p + m)).toInt = 0 := fun k m hk hm => by rw [z8 _ (by omega)]; rfl
  refine q_lt (fun c => ?_) (fun c => ?_)
  · rw [t_0] at c
    have hG1 : GC P K fr tt ln wd s1 := hG.cong (fun k hk => a1 k (by unfold kF; omega))
    have := p_few19 (Q := Q) (cr := cC P (σ 23)) (ra := rA P (σ 24) (σ 25) a) (x2 := a) (CR := r.toInt) hG1 hH (by omega) (fun p => by rw [a1' 24 (by omega), a1' 25 (by omega)]) (fun p hp => by rw [a1' 24 (by omega)]; exact (hr p hp).1) (fun r' s' a' hF => kk r' s' (ag_tr a1' (ag_mono a' (fun k hk => by unfold kE at hk; omega))) hF) 40 0 s1 r (fun _ _ => 0) (fun _ _ => True) (by omega) ag_rf hsum c (by omega) (fun p m hp hm => ⟨Int.le_refl 0, hra8 p hp, fun x => absurd rfl x⟩) ⟨?_, ?_, ?_, ?_, ?_, ?_⟩ (fun T hT => by omega)
    · rw [nI_0] at this; exact ⟨_, this⟩
    · refine FOK_zero hra8 hwd0 (fun p hp => ?_) zb zw (fun _ _ _ _ => rfl)
      unfold cC UU
      split
      · rename_i q; rw [hun p q]; omega
      · rfl
    · exact ⟨fun _ _ _ => trivial, fun _ _ _ _ _ => trivial, fun _ _ _ _ _ _ => trivial, fun _ _ _ _ _ _ => trivial, fun _ _ _ _ _ _ => trivial, fun p m hp hm => by omega⟩
    · intro p m hp hm; rw [zw p m (by omega) hm]; omega
    · intro p m hp hp2 hm; exact zw p m hp2 hm
    · intro k hk
      rw [z9 k (by omega), fsum_cong (g := fun _ => 0) (fun m hm => zb k m (by omega) hm), fsum_0]; rfl
    · intro p hp
      rw [hun p hp]
      unfold cC
      rw [if_pos hp]
      exact ⟨(hc p hp).1, Int.le_refl _⟩
  · rw [t_0] at c
    refine kk 0 s1 a1' (Or.inl ⟨0, by omega, rfl, ⟨fun _ _ => 0, fun _ _ => 0, fun _ _ => 0, ?_⟩, fun T hT => by omega⟩)
    have hz := fsum_zero (f := fun p => (σ 23 p).toInt) (n := P) (fun p hp => (hc p hp).1) (by omega)
    refine FOK_zero hra8 hwd0 (fun p hp => ?_) (fun _ _ _ _ => rfl) (fun _ _ _ _ => rfl) (fun _ _ _ _ => rfl)
    unfold cC
    split
    · rename_i q; exact hz p q
    · rfl
end FEW3
