/-! ESCAPE: the whole search -/
section FIND
variable (P K : Nat) (fr tt ln : Nat → Nat) (wd : Nat → Int)
def CAk (M : Nat) (σ : gS) (k : Nat) : Prop := (∀ m : Nat, (σ 42 (tt k)).toInt < m → (m : Int) + ln k ≤ (σ 42 (fr k)).toInt → wd k ≤ (σ 37 (40 * (rv k) + m)).toInt) ∧ (∀ m : Nat, (m : Int) ≤ (σ 42 (fr k)).toInt → m + ln k ≤ M → (σ 42 (tt k)).toInt < m + ln k → (σ 37 (40 * k + m)).toInt ≤ 0)
def CWp (M : Nat) (σ : gS) (p : Nat) : Prop := ∀ m : Nat, (m : Int) = (σ 42 p).toInt → m < M → (σ 38 (40 * p + m)).toInt ≤ 0
def DN (M : Nat) (σ : gS) (p : Nat) : Prop := CWp M σ p ∧ ∀ k, k < K → fr k = p → CAk fr tt ln wd M σ k
def NI (σ : gS) : Prop := ∀ p, p < P → (σ 43 p) = 0 ∨ ((σ 43 p) = 1 ∧ 0 ≤ (σ 42 p).toInt)
def US (σ : gS) : Prop := ∀ p, p < P → 0 ≤ (σ 42 p).toInt → (σ 40 p).toInt ≤ 0
def GT (M : Nat) (σ : gS) : Prop := ∀ p, p < P → 0 < (σ 41 p).toInt → (σ 42 p).toInt = M
def SIx (M : Nat) (σ : gS) : Prop := ∃ rs ts c, SI K fr tt ln wd P M σ rs ts c
def Phi (σ : gS) : Int := fsum P (fun p => (σ 42 p).toInt + 1 - ((σ 43 p)).toInt)
variable {P K fr tt ln wd}
theorem ag_kS {σ σ' : gS} (h : ag kS σ σ') {k : Nat} (hk : k < 42 ∨ 46 < k) : σ' k = σ k := h k (by unfold kS; omega)
theorem CAk.mono {M : Nat} {σ σ' : gS} {k : Nat} (h : CAk fr tt ln wd M σ k) (e : Ext P σ σ') (ht : tt k < P) (hl : (σ' 42 (fr k)).toInt = (σ 42 (fr k)).toInt) : CAk fr tt ln wd M σ' k := by
  have e37 : σ' 37 = σ 37 := ag_kS e.1 (by omega)
  have := e.2 (tt k) ht
  refine ⟨fun m a b => ?_, fun m a b c => ?_⟩
  · rw [e37]; exact h.1 m (by omega) (by omega)
  · rw [e37]; exact h.2 m (by omega) b (by omega)
theorem DN.mono {M : Nat} {σ σ' : gS} {p : Nat} (h : DN K fr tt ln wd M σ p) (e : Ext P σ σ') (ht : ∀ k, k < K → tt k < P) (hl : (σ' 42 p).toInt = (σ 42 p).toInt) : DN K fr tt ln wd M σ' p := by
  refine ⟨fun m a b => ?_, fun k hk hf => (h.2 k hk hf).mono e (ht k hk) (by rw [hf]; exact hl)⟩
  rw [ag_kS e.1 (by omega)]
  exact h.1 m (by omega) b
theorem NI.ext {σ σ' : gS} (h : NI P σ) (e : Ext P σ σ') (h1 : ∀ p, p < P → -1 ≤ (σ 42 p).toInt) : NI P σ' := fun p hp => by
  have a := h1 p hp
  have b := h p hp
  rcases e.2 p hp with ⟨x, y⟩ | ⟨x, y⟩
  · rw [y, x]; exact b
  · exact Or.inr ⟨y, by omega⟩
theorem GT.ext {M : Nat} {σ σ' : gS} (h : GT P M σ) (e : Ext P σ σ') (h1 : ∀ p, p < P → (σ' 42 p).toInt ≤ M) : GT P M σ' := fun p hp hg => by
  have a := h1 p hp
  have b := h p hp (by rw [ag_kS e.1 (by omega)] at hg; exact hg)
  rcases e.2 p hp with ⟨x, y⟩ | ⟨x, y⟩ <;> omega
theorem NI.rng {σ : gS} (h : NI P σ) {p : Nat} (hp : p < P) : 0 ≤ ((σ 43 p)).toInt ∧ ((σ 43 p)).toInt ≤ 1 := by
  rcases h p hp with x | ⟨x, -⟩ <;> rw [x] <;> decide
theorem Phi.ext {σ σ' : gS} (h : NI P σ) (e : Ext P σ σ') : Phi P σ ≤ Phi P σ' := by
  apply fsum_le
  intro p hp
  have a := NI.rng h hp
  rcases e.2 p hp with ⟨x, y⟩ | ⟨x, y⟩
  · rw [x, y]; omega
  · rw [y, t_1]; omega
theorem p_latestNew {Q : Int32 → gS → Prop} {σ : gS} (hP : P ≤ 8) (e35 : ¬ σ 35 0 = 0) (e26 : σ 26 0 = nI P) (h : NI P σ) (k0 : (∀ p, p < P → (σ 43 p) = 0) → Q (-1) σ) (k1 : ∀ p, p < P → (σ 43 p) = 1 → Q (nI p) σ) : w_X0_latestNew Q σ := by
  unfold w_X0_latestNew
  have key : ∀ (d j : Nat) (x1 x2 : Int32), j + d = P → ((x1 = -1 ∧ x2 = -1 ∧ ∀ p, p < j → (σ 43 p) = 0) ∨ (∃ b, b < P ∧ x1 = nI b ∧ (σ 43 b) = 1)) → w_X0_latestNew_6 Q (d + 1) x1 x2 (nI j) σ := by
    intro d
    induction d with
    | zero =>
      intro j x1 x2 hd hx
      unfold w_X0_latestNew_6
      simp (disch := omega) only [l_3, l_4, l_6, l_8, l_9, l_10, l_12, l_14, l_16, l_19, l_20, l_23, l_24, l_26, l_28, l_39, l_40, l_56, l_57, l_60, l_192, l_200, l_255, l_299, l_320, l_400, l_1120, l_2000, l_20000, l_10000, l_1000, l_1000000, nI_1, n_2mul, nI_add, pk_mul, pk_sub, sb_m1, nI_clamp, nI_clamp0, vpT, nI_leI, nI_ltI, nI_eq, nI_0le, nI_lt0, nI_le0, nI_0lt, nI_eq0, nI_eqm1, nI_m1eq, Nat.add_one_sub_one, forall_eq, true_and, and_true, true_implies, not_true_eq_false, not_false_eq_true, false_implies, implies_true, ne_eq, Nat.reduceEqDiff, Nat.reduceAdd, Nat.reduceMul, Nat.reduceLT, Nat.reduceLeDiff, and_self, e35, e26]
      refine q_T (by omega) ?_
      rcases hx with ⟨rfl, -, hx⟩ | ⟨b, hb, rfl, hx⟩
      · exact k0 (fun p hp => hx p (by omega))
      · exact k1 b hb hx
    | succ d ih =>
      intro j x1 x2 hd hx
      unfold w_X0_latestNew_6
      simp (disch := omega) only [l_3, l_4, l_6, l_8, l_9, l_10, l_12, l_14, l_16, l_19, l_20, l_23, l_24, l_26, l_28, l_39, l_40, l_56, l_57, l_60, l_192, l_200, l_255, l_299, l_320, l_400, l_1120, l_2000, l_20000, l_10000, l_1000, l_1000000, nI_1, n_2mul, nI_add, pk_mul, pk_sub, sb_m1, nI_clamp, nI_clamp0, vpT, nI_leI, nI_ltI, nI_eq, nI_0le, nI_lt0, nI_le0, nI_0lt, nI_eq0, nI_eqm1, nI_m1eq, Nat.add_one_sub_one, forall_eq, true_and, and_true, true_implies, not_true_eq_false, not_false_eq_true, false_implies, implies_true, ne_eq, Nat.reduceEqDiff, Nat.reduceAdd, Nat.reduceMul, Nat.reduceLT, Nat.reduceLeDiff, and_self, e35, e26]
      refine q_F (by omega) ?_
      rcases h j (by omega) with c | ⟨c, c'⟩
      · refine q_T c (ih (j + 1) _ _ (by omega) ?_)
        rcases hx with ⟨a1, a2, a3⟩ | hx
        · exact Or.inl ⟨a1, a2, fun p hp => by
            by_cases e : p = j
            · rw [e]; exact c
            · exact a3 p (by omega)⟩
        · exact Or.inr hx
      · refine q_F (by rw [c]; decide) ?_
        refine q_le (fun c2 => ih (j + 1) _ _ (by omega) ?_) (fun _ => ih (j + 1) _ _ (by omega) (Or.inr ⟨j, by omega, rfl, c⟩))
        rcases hx with ⟨a1, a2, a3⟩ | hx
        · rw [a2, t_m1] at c2; omega
        · exact Or.inr hx
  exact ⟨P + 1, key P 0 (-1) (-1) (by omega) (Or.inl ⟨rfl, rfl, fun p hp => by omega⟩)⟩
theorem SI_next {M j : Nat} {σ : gS} {rs : Nat → Nat → Prop} {ts : Nat → Nat → Nat} {c : Nat} (h : SI K fr tt ln wd j M σ rs ts c) : SI K fr tt ln wd (j + 1) M (gu (gu σ 42 j (-1)) 43 j 0) rs ts c := by
  obtain ⟨h1, h2, h3, h4, h5⟩ := h
  have e42 : ∀ q, q ≠ j → (gu (gu σ 42 j (-1)) 43 j 0) 42 q = σ 42 q := fun q hq => by rw [gu_ne (by omega), gu_ne2 hq]
  have e42' : (gu (gu σ 42 j (-1)) 43 j 0) 42 j = -1 := by rw [gu_ne (by omega), gu_eq]
  have eo : ∀ k, k ≠ 42 → k ≠ 43 → (gu (gu σ 42 j (-1)) 43 j 0) k = σ k := fun k a b => by rw [gu_ne b, gu_ne a]
  refine ⟨fun p hp => ?_, fun p m hr => ?_, fun p m hp e => ?_, fun p m hr => ?_, ?_⟩
  · by_cases e : p = j
    · rw [e, e42', t_m1]; exact ⟨by omega, by omega, trivial⟩
    · rw [e42 p e]; exact h1 p (by omega)
  · have := h2 p m hr
    rw [e42 p (by omega)]; exact ⟨by omega, this.2⟩
  · by_cases e' : p = j
    · rw [e', e42', t_m1] at e; omega
    · rw [e42 p e'] at e; exact h3 p m (by omega) e
  · have := h4 p m hr
    unfold VS at *
    rw [eo 44 (by omega) (by omega), eo 45 (by omega) (by omega), eo 46 (by omega) (by omega), eo 41 (by omega) (by omega), eo 38 (by omega) (by omega), eo 37 (by omega) (by omega)]
    exact this
  · rw [fsum, e42', t_m1, fsum_cong (g := fun p => (σ 42 p).toInt + 1) (fun i hi => by rw [e42 i (by omega)])]
    omega
theorem p_gates {Q : Int32 → gS → Prop} {M : Nat} {σ : gS} (hM : M < 40) (eM : σ 36 0 = nI M) (hP : P ≤ 8) (e35 : ¬ σ 35 0 = 0) (e26 : σ 26 0 = nI P)
    (k0 : ∀ σ', ag kS σ σ' → SIx P K fr tt ln wd M σ' → NI P σ' → GT P M σ' → (∀ p, p < P → (σ' 43 p) = 0 → (σ' 42 p).toInt = -1) → US P σ' → Q (-1) σ')
    (k1 : ∀ σ' p, ag kS σ σ' → SIx P K fr tt ln wd M σ' → p < P → 0 < (σ' 40 p).toInt → 0 ≤ (σ' 42 p).toInt → Q (nI p) σ') : w_X0_reachGates Q σ := by
  unfold w_X0_reachGates
  have key : ∀ (d j : Nat) (x1 : Int32) (s : gS), j + d = P → ag kS σ s → SIx j K fr tt ln wd M s → NI j s → GT j M s → (∀ p, p < j → (s 43 p) = 0 → (s 42 p).toInt = -1) → ((x1 = -1 ∧ US j s) ∨ (∃ b, b < j ∧ x1 = nI b ∧ 0 < (s 40 b).toInt ∧ 0 ≤ (s 42 b).toInt)) → w_X0_reachGates_4 Q (d + 1) x1 (nI j) s := by
    intro d
    induction d with
    | zero =>
      intro j x1 s hd ha hS hN hT hL hx
      have : j = P := by omega
      subst this
      unfold w_X0_reachGates_4
      rw [ag_kS ha (k := 35) (by omega), ag_kS ha (k := 26) (by omega)]
      simp (disch := omega) only [l_3, l_4, l_6, l_8, l_9, l_10, l_12, l_14, l_16, l_19, l_20, l_23, l_24, l_26, l_28, l_39, l_40, l_56, l_57, l_60, l_192, l_200, l_255, l_299, l_320, l_400, l_1120, l_2000, l_20000, l_10000, l_1000, l_1000000, nI_1, n_2mul, nI_add, pk_mul, pk_sub, sb_m1, nI_clamp, nI_clamp0, vpT, nI_leI, nI_ltI, nI_eq, nI_0le, nI_lt0, nI_le0, nI_0lt, nI_eq0, nI_eqm1, nI_m1eq, Nat.add_one_sub_one, forall_eq, true_and, and_true, true_implies, not_true_eq_false, not_false_eq_true, false_implies, implies_true, ne_eq, Nat.reduceEqDiff, Nat.reduceAdd, Nat.reduceMul, Nat.reduceLT, Nat.reduceLeDiff, and_self, e35, e26]
      refine q_T (by omega) ?_
      rcases hx with ⟨rfl, hx⟩ | ⟨b, hb, rfl, hx, hx2⟩
      · exact k0 s ha hS hN hT hL hx
      · exact k1 s b ha hS hb hx hx2
    | succ d ih =>
      intro j x1 s hd ha hS hN hT hL hx
      unfold w_X0_reachGates_4
      rw [ag_kS ha (k := 35) (by omega), ag_kS ha (k := 26) (by omega)]
      simp (disch := omega) only [l_3, l_4, l_6, l_8, l_9, l_10, l_12, l_14, l_16, l_19, l_20, l_23, l_24, l_26, l_28, l_39, l_40, l_56, l_57, l_60, l_192, l_200, l_255, l_299, l_320, l_400, l_1120, l_2000, l_20000, l_10000, l_1000, l_1000000, nI_1, n_2mul, nI_add, pk_mul, pk_sub, sb_m1, nI_clamp, nI_clamp0, vpT, nI_leI, nI_ltI, nI_eq, nI_0le, nI_lt0, nI_le0, nI_0lt, nI_eq0, nI_eqm1, nI_m1eq, Nat.add_one_sub_one, forall_eq, true_and, and_true, true_implies, not_true_eq_false, not_false_eq_true, false_implies, implies_true, ne_eq, Nat.reduceEqDiff, Nat.reduceAdd, Nat.reduceMul, Nat.reduceLT, Nat.reduceLeDiff, and_self, e35, e26, vpn0, vpn1]
      refine q_F (by omega) ?_
      obtain ⟨rs, ts, c, hS⟩ := hS
      have S1 := SI_next hS
      have e42 : ∀ q, q ≠ j → (gu (gu s 42 j (-1)) 43 j 0) 42 q = s 42 q := fun q hq => by rw [gu_ne (by omega), gu_ne2 hq]
      have e42' : (gu (gu s 42 j (-1)) 43 j 0) 42 j = -1 := by rw [gu_ne (by omega), gu_eq]
      have e43 : ∀ q, q ≠ j → (gu (gu s 42 j (-1)) 43 j 0) 43 q = s 43 q := fun q hq => by rw [gu_ne2 hq, gu_ne (by omega)]
      have e43' : (gu (gu s 42 j (-1)) 43 j 0) 43 j = 0 := by rw [gu_eq]
      have eo : ∀ k, k ≠ 42 → k ≠ 43 → (gu (gu s 42 j (-1)) 43 j 0) k = s k := fun k a b => by rw [gu_ne b, gu_ne a]
      have ha1 : ag kS σ (gu (gu s 42 j (-1)) 43 j 0) := ag_gu' (by simp [kS]) (ag_gu' (by simp [kS]) ha)
      generalize gu (gu s 42 j (-1)) 43 j 0 = s1 at *
      refine q_le (fun c1 => ?_) (fun c1 => ?_)
      · rw [t_0] at c1
        refine ih (j + 1) _ _ (by omega) ha1 ⟨rs, ts, c, S1⟩ (fun p hp => ?_) (fun p hp hg => ?_) (fun p hp hz => ?_) ?_
        · by_cases e : p = j
          · rw [e, e43']; exact Or.inl rfl
          · rw [e43 p e, e42 p e]; exact hN p (by omega)
        · by_cases e : p = j
          · rw [e] at hg; omega
          · rw [e42 p e]; rw [eo 41 (by omega) (by omega)] at hg; exact hT p (by omega) hg
        · by_cases e : p = j
          · rw [e, e42', t_m1]
          · rw [e42 p e]; rw [e43 p e] at hz; exact hL p (by omega) hz
        · rcases hx with ⟨rfl, hx⟩ | ⟨b, hb, rfl, hx, hx2⟩
          · refine Or.inl ⟨rfl, fun p hp hl => ?_⟩
            by_cases e : p = j
            · rw [e, e42', t_m1] at hl; omega
            · rw [e42 p e] at hl; rw [eo 40 (by omega) (by omega)]; exact hx p (by omega) hl
          · exact Or.inr ⟨b, by omega, rfl, by rw [eo 40 (by omega) (by omega)]; exact hx, by rw [e42 b (by omega)]; exact hx2⟩
      · rw [t_0] at c1
        have e36 : s1 36 0 = nI M := by rw [ag_kS ha1 (by omega)]; exact eM
        rw [e36]
        refine p_reach (by omega) (by omega) ?_
        have S2 := SI_reach (st := nI 57) (nx := nI M) (rm := s1 41 j) hM S1 (p := j) (m := M) (by omega) (by rw [e42', t_m1]; omega) (by omega) (by
          unfold VS
          rw [rch_46, if_pos rfl, rch_44, if_pos rfl, rch_ne (by omega)]
          exact ⟨c1, Or.inl ⟨rfl, rfl, by omega⟩⟩)
        have hn : (nI M).toInt = M := t_n (by omega)
        have A2 : ag kS σ (rch s1 j M (nI 57) (nI M) (s1 41 j)) := ag_tr ha1 ag_rch
        have N2 : NI (j + 1) (rch s1 j M (nI 57) (nI M) (s1 41 j)) := fun p hp => by
          rw [rch_43, rch_42]
          by_cases e : p = j
          · rw [if_pos e, if_pos e, hn]; exact Or.inr ⟨rfl, by omega⟩
          · rw [if_neg e, if_neg e, e43 p e, e42 p e]; exact hN p (by omega)
        have T2 : GT (j + 1) M (rch s1 j M (nI 57) (nI M) (s1 41 j)) := fun p hp hg => by
          rw [rch_42]
          by_cases e : p = j
          · rw [if_pos e, hn]
          · rw [if_neg e, e42 p e]; rw [rch_ne (by omega), eo 41 (by omega) (by omega)] at hg; exact hT p (by omega) hg
        have L2 : ∀ p, p < j + 1 → ((rch s1 j M (nI 57) (nI M) (s1 41 j)) 43 p) = 0 → ((rch s1 j M (nI 57) (nI M) (s1 41 j)) 42 p).toInt = -1 := fun p hp hz => by
          rw [rch_43] at hz; rw [rch_42]
          by_cases e : p = j
          · rw [if_pos e] at hz; exact absurd hz (by decide)
          · rw [if_neg e] at hz ⊢; rw [e42 p e]; rw [e43 p e] at hz; exact hL p (by omega) hz
        refine q_le (fun c2 => ih (j + 1) _ _ (by omega) A2 ⟨_, _, _, S2⟩ N2 T2 L2 ?_) (fun c2 => ih (j + 1) _ _ (by omega) A2 ⟨_, _, _, S2⟩ N2 T2 L2 (Or.inr ⟨j, by omega, rfl, by rw [t_0] at c2; exact c2, by rw [rch_42, if_pos rfl, hn]; omega⟩))
        rw [t_0] at c2
        rcases hx with ⟨rfl, hx⟩ | ⟨b, hb, rfl, hx, hx2⟩
        · refine Or.inl ⟨rfl, fun p hp hl => ?_⟩
          by_cases e : p = j
          · rw [e]; exact c2
          · rw [rch_42, if_neg e, e42 p e] at hl; rw [rch_ne (by omega), eo 40 (by omega) (by omega)]; exact hx p (by omega) hl
        · exact Or.inr ⟨b, by omega, rfl, by rw [rch_ne (by omega), eo 40 (by omega) (by omega)]; exact hx, by rw [rch_42, if_neg (by omega), e42 b (by omega)]; exact hx2⟩
  exact ⟨P + 1, key P 0 (-1) σ (by omega) ag_rf ⟨fun _ _ => False, fun _ _ => 0, 0, fun p hp => by omega, fun _ _ h => h.elim, fun p m hp => by omega, fun _ _ h => h.elim, by show (0 : Int) ≤ 0; omega⟩ (fun p hp => by omega) (fun p hp => by omega) (fun p hp => by omega) (Or.inl ⟨rfl, fun p hp => by omega⟩)⟩
end FIND
