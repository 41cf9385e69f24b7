/-! THE GROUND: its invariant, EMPTY and WORST -/
section GROUND
variable (P W : Nat) (fr tt ln : Nat → Nat) (wd : Nat → Int)
def OKG (σ : gS) : Prop :=
  GC P (2 * W) fr tt ln wd (gu σ 35 0 1) ∧ GM P (2 * W) fr tt ln wd σ ∧ (W ≤ 14 ∧ σ 30 0 = nI W ∧ σ 76 0 = nI W) ∧ (∀ p, p < 8 → σ 68 p = σ 23 p ∧ σ 69 p = σ 24 p ∧ σ 70 p = σ 25 p ∧ (σ 25 p = 0 ∨ σ 25 p = 1)) ∧ (∀ p, p < 8 → (0 ≤ (σ 23 p).toInt ∧ (σ 23 p).toInt ≤ 20000) ∧ (0 ≤ (σ 24 p).toInt ∧ (σ 24 p).toInt ≤ 2000)) ∧ (∀ k, k < 2 * W → σ 29 k = σ 75 k) ∧ (∀ p, p < P → ∃ c : Nat, c ≤ W ∧ σ 32 p = nI c) ∧ (∀ p, P ≤ p → p < 8 → σ 32 p = 0)
/-- a place whose gate is open -/
def op (f g : Nat → Int32) (p : Nat) : Prop := p < P ∧ 0 < (f p).toInt ∧ g p = 0
def WV (f g : Nat → Int32) (v : Nat → Int32) (j : Nat) (r : Int32) : Prop :=
  -1 ≤ r.toInt ∧ (∀ p, p < j → op P f g p → v p ≠ -1 ∧ (v p).toInt ≤ r.toInt) ∧ (r = -1 ∨ ∃ p, p < j ∧ op P f g p ∧ v p = r)
/-- what worst answers -/
def WMin (K : Nat) (cr : Nat → Int) (f g : Nat → Int32) (r : Int32) : Prop :=
  ∃ v : Nat → Int32, (∀ p, op P f g p → FMin K fr tt ln wd cr (rA P f g (nI p)) (v p)) ∧ ((r = -1 ∧ ∃ p, op P f g p ∧ v p = -1) ∨ WV P f g v P r)
def RG (σ : gS) : Prop := ∃ P W fr tt ln wd, OKG P W fr tt ln wd σ ∧ (σ 33 0 = -2 ∨ FMin (2 * W) fr tt ln wd (cC P (σ 23)) (rA P (σ 24) (σ 25) (-1)) (σ 33 0)) ∧ (σ 34 0 = -2 ∨ WMin P fr tt ln wd (2 * W) (cC P (σ 23)) (σ 24) (σ 25) (σ 34 0))
variable {P W fr tt ln wd}
theorem FMin.uniq {K : Nat} {cr ra : Nat → Int} {r r' : Int32} (h : FMin K fr tt ln wd cr ra r) (h' : FMin K fr tt ln wd cr ra r') : r = r' := by
  rcases h with ⟨T, a1, a2, a3, a4⟩ | ⟨a1, a2⟩ <;> rcases h' with ⟨T', b1, b2, b3, b4⟩ | ⟨b1, b2⟩
  · have h1 : ¬ T < T' := fun q => b4 T q a3
    have h2 : ¬ T' < T := fun q => a4 T' q b3
    rw [a2, b2, show T = T' by omega]
  · exact absurd a3 (b2 T a1)
  · exact absurd b3 (a2 T' b1)
  · rw [a1, b1]
theorem FMin.rng {K : Nat} {cr ra : Nat → Int} {r : Int32} (h : FMin K fr tt ln wd cr ra r) : -1 ≤ r.toInt ∧ r.toInt ≤ 40 := by
  rcases h with ⟨T, a1, a2, a3, a4⟩ | ⟨a1, a2⟩
  · rw [a2, t_n (by omega)]; omega
  · rw [a1, t_m1]; omega
theorem WV.uniq {f g v v' : Nat → Int32} {j : Nat} {r r' : Int32} (e : ∀ p, op P f g p → v p = v' p) (h : WV P f g v j r) (h' : WV P f g v' j r') : r = r' := by
  obtain ⟨a0, a1, a2⟩ := h
  obtain ⟨b0, b1, b2⟩ := h'
  have le : ∀ x y : Int32, ∀ w w' : Nat → Int32, (∀ p, op P f g p → w p = w' p) → -1 ≤ y.toInt → (∀ p, p < j → op P f g p → w' p ≠ -1 ∧ (w' p).toInt ≤ y.toInt) → (x = -1 ∨ ∃ p, p < j ∧ op P f g p ∧ w p = x) → x.toInt ≤ y.toInt := fun x y w w' ew hy h1 h2 => by
    rcases h2 with h2 | ⟨p, p1, p2, p3⟩
    · rw [h2, t_m1]; exact hy
    · rw [← p3, ew p p2]; exact (h1 p p1 p2).2
  have l1 := le r r' v v' e b0 b1 a2
  have l2 := le r' r v' v (fun p hp => (e p hp).symm) a0 a1 b2
  exact i_eq.mpr (by omega)
theorem WMin.uniq {K : Nat} {cr : Nat → Int} {f g : Nat → Int32} {r r' : Int32} (h : WMin P fr tt ln wd K cr f g r) (h' : WMin P fr tt ln wd K cr f g r') : r = r' := by
  obtain ⟨v, h1, h2⟩ := h
  obtain ⟨v', h1', h2'⟩ := h'
  have e : ∀ p, op P f g p → v p = v' p := fun p hp => (h1 p hp).uniq (h1' p hp)
  rcases h2 with ⟨a1, p, p1, p2⟩ | a <;> rcases h2' with ⟨b1, q, q1, q2⟩ | b
  · rw [a1, b1]
  · exact absurd ((e p p1).symm.trans p2) (b.2.1 p p1.1 p1).1
  · exact absurd ((e q q1).trans q2) (a.2.1 q q1.1 q1).1
  · exact a.uniq e b
theorem FMin.cong {K : Nat} {cr cr' ra ra' : Nat → Int} {r : Int32} (h : FMin K fr tt ln wd cr ra r) (e1 : cr' = cr) (e2 : ra' = ra) : FMin K fr tt ln wd cr' ra' r := by rw [e1, e2]; exact h
theorem feas_mono {K : Nat} {cr ra ra' : Nat → Int} {T : Nat} (h : Feas K fr tt ln wd cr ra T) (e : ∀ p, ra p ≤ ra' p) : Feas K fr tt ln wd cr ra' T := by
  obtain ⟨g, w, o, a1, a2, a3, a4⟩ := h
  exact ⟨g, w, o, a1, a2, fun p m hp hm => by have := a3 p m hp hm; have := e p; exact ⟨by omega, by omega, by omega⟩, a4⟩
theorem GC.cong2 {K : Nat} {σ σ' : gS} (h : GC P K fr tt ln wd σ) (e : ∀ k, 26 ≤ k → k ≤ 32 → σ' k = σ k) (e35 : ¬ σ' 35 0 = 0) : GC P K fr tt ln wd σ' := by
  unfold GC at *
  rw [e 26 (by omega) (by omega), e 27 (by omega) (by omega), e 28 (by omega) (by omega), e 29 (by omega) (by omega), e 31 (by omega) (by omega), e 32 (by omega) (by omega)]
  exact ⟨⟨h.1.1, h.1.2.1, e35, h.1.2.2.2⟩, h.2⟩
theorem g35 (σ : gS) : ¬ (gu σ 35 0 1) 35 0 = 0 := by rw [gu_eq]; decide
theorem OKG.re {σ σ' : gS} (h : OKG P W fr tt ln wd σ) (e : ∀ k, (26 ≤ k ∧ k ≤ 32) ∨ (71 ≤ k ∧ k ≤ 76) → σ' k = σ k) (h4 : ∀ p, p < 8 → σ' 68 p = σ' 23 p ∧ σ' 69 p = σ' 24 p ∧ σ' 70 p = σ' 25 p ∧ (σ' 25 p = 0 ∨ σ' 25 p = 1)) (h5 : ∀ p, p < 8 → (0 ≤ (σ' 23 p).toInt ∧ (σ' 23 p).toInt ≤ 20000) ∧ (0 ≤ (σ' 24 p).toInt ∧ (σ' 24 p).toInt ≤ 2000)) : OKG P W fr tt ln wd σ' := by
  obtain ⟨a1, a2, a3, a4, a5, a6, a7, a8⟩ := h
  refine ⟨a1.cong2 (fun k h1 h2 => by rw [gu_ne (by omega), gu_ne (by omega)]; exact e k (by omega)) (g35 _), a2.cong (fun k h1 h2 => e k (by omega)), ?_, h4, h5, ?_, ?_, ?_⟩
  · rw [e 30 (by omega), e 76 (by omega)]; exact a3
  · rw [e 29 (by omega), e 75 (by omega)]; exact a6
  · rw [e 32 (by omega)]; exact a7
  · rw [e 32 (by omega)]; exact a8
theorem FMin_ex (K : Nat) (fr tt ln : Nat → Nat) (wd cr ra : Nat → Int) : ∃ r, FMin K fr tt ln wd cr ra r := by
  have key : ∀ n, (∃ T, T < n ∧ Feas K fr tt ln wd cr ra T ∧ ∀ T', T' < T → ¬ Feas K fr tt ln wd cr ra T') ∨ ∀ T, T < n → ¬ Feas K fr tt ln wd cr ra T := by
    intro n
    induction n with
    | zero => exact Or.inr (fun T hT => by omega)
    | succ n ih =>
      rcases ih with ⟨T, h1, h2, h3⟩ | h
      · exact Or.inl ⟨T, by omega, h2, h3⟩
      · by_cases q : Feas K fr tt ln wd cr ra n
        · exact Or.inl ⟨n, by omega, q, h⟩
        · refine Or.inr (fun T hT => ?_)
          by_cases e : T = n
          · rw [e]; exact q
          · exact h T (by omega)
  rcases key 41 with ⟨T, h1, h2, h3⟩ | h
  · exact ⟨nI T, Or.inl ⟨T, by omega, rfl, h2, h3⟩⟩
  · exact ⟨-1, Or.inr ⟨rfl, fun T hT => h T (by omega)⟩⟩
theorem op_dec {f g : Nat → Int32} (p : Nat) : op P f g p ∨ ¬ op P f g p := Classical.em _
/-- the class's empty -/
theorem p_least {Q : Int32 → gS → Prop} {σ : gS} (hG : OKG P W fr tt ln wd σ) (h33 : σ 33 0 = -2 ∨ FMin (2 * W) fr tt ln wd (cC P (σ 23)) (rA P (σ 24) (σ 25) (-1)) (σ 33 0))
    (kk : ∀ r s, ag (fun k => k = 33 ∨ (35 ≤ k ∧ k ≤ 46)) σ s → s 33 0 = r → FMin (2 * W) fr tt ln wd (cC P (σ 23)) (rA P (σ 24) (σ 25) (-1)) r → Q r s) : w_X2_leastMinutes Q σ := by
  obtain ⟨a1, a2, a3, a4, a5, a6, a7, a8⟩ := hG
  have hP := a1.1.1
  unfold w_X2_leastMinutes
  refine ⟨fun c => ?_, fun c => ?_⟩
  · rcases h33 with h | h
    · exact absurd h c
    · exact kk _ σ ag_rf rfl h
  · refine p_fewest a1 (fun p hp => (a5 p (by omega)).1) (fun p hp => (a5 p (by omega)).2) (fun r s ha hF => ?_)
    rintro _ rfl
    rw [gu_eq]
    exact kk r _ (ag_gu' (Or.inl rfl) (ag_mono ha (fun k hk => Or.inr hk))) gu_eq hF
/-- the class's worst -/
theorem p_worst {Q : Int32 → gS → Prop} {σ : gS} (hG : OKG P W fr tt ln wd σ) (h33 : σ 33 0 = -2 ∨ FMin (2 * W) fr tt ln wd (cC P (σ 23)) (rA P (σ 24) (σ 25) (-1)) (σ 33 0)) (h34 : σ 34 0 = -2 ∨ WMin P fr tt ln wd (2 * W) (cC P (σ 23)) (σ 24) (σ 25) (σ 34 0))
    (kk : ∀ r s, ag (fun k => k = 34 ∨ (35 ≤ k ∧ k ≤ 46)) σ s → s 34 0 = r → WMin P fr tt ln wd (2 * W) (cC P (σ 23)) (σ 24) (σ 25) r → Q r s) : w_X2_worstMinutes Q σ := by
  obtain ⟨a1, a2, a3, a4, a5, a6, a7, a8⟩ := id hG
  have hP := a1.1.1
  have e26 : σ 26 0 = nI P := by have := a1.1.2.2.2; rw [gu_ne (by omega)] at this; exact this
  unfold w_X2_worstMinutes
  refine ⟨?_, fun c => (h34.elim (fun h => absurd h c) (fun h => kk _ σ ag_rf rfl h))⟩
  rintro c _ rfl
  have A0 : ag (fun k => k = 34 ∨ (35 ≤ k ∧ k ≤ 46)) σ (gu σ 34 0 (-1)) := ag_gu (Or.inl rfl)
  have key : ∀ (d j : Nat) (v : Nat → Int32) (s : gS), j + d = P → ag (fun k => k = 34 ∨ (35 ≤ k ∧ k ≤ 46)) σ s → (∀ p, p < j → op P (σ 24) (σ 25) p → FMin (2 * W) fr tt ln wd (cC P (σ 23)) (rA P (σ 24) (σ 25) (nI p)) (v p)) → WV P (σ 24) (σ 25) v j (s 34 0) → w_X2_worstMinutes_35 Q (d + 1) 1 (nI j) s := by
    intro d
    induction d with
    | zero =>
      intro j v s hd ha hv hw
      have : j = P := by omega
      subst this
      unfold w_X2_worstMinutes_35
      rw [ha 26 (by omega), e26]
      exact q_T (nI_le (by omega) (by omega)) (kk _ s ha rfl ⟨v, fun p hp => hv p hp.1 hp, Or.inr hw⟩)
    | succ d ih =>
      intro j v s hd ha hv hw
      have e24 : s 24 = σ 24 := ha 24 (by omega)
      have e25 : s 25 = σ 25 := ha 25 (by omega)
      have e23 : s 23 = σ 23 := ha 23 (by omega)
      unfold w_X2_worstMinutes_35
      rw [ha 26 (by omega), e26]
      simp (disch := omega) only [l_3, l_4, l_6, l_8, l_9, l_10, l_12, l_14, l_16, l_19, l_20, l_23, l_24, l_26, l_28, l_39, l_40, l_56, l_57, l_60, l_192, l_200, l_255, l_299, l_320, l_400, l_1120, l_2000, l_20000, l_10000, l_1000, l_1000000, nI_1, n_2mul, nI_add, pk_mul, pk_sub, sb_m1, nI_clamp, nI_clamp0, vpT, nI_leI, nI_ltI, nI_eq, nI_0le, nI_lt0, nI_le0, nI_0lt, nI_eq0, nI_eqm1, nI_m1eq, Nat.add_one_sub_one, forall_eq, true_and, and_true, true_implies, not_true_eq_false, not_false_eq_true, false_implies, implies_true, ne_eq, Nat.reduceEqDiff, Nat.reduceAdd, Nat.reduceMul, Nat.reduceLT, Nat.reduceLeDiff, and_self]
      refine q_F (by omega) (q_F (by decide) ?_)
      refine p_isOpen (by omega) (by rw [e24]; exact (a5 j (by omega)).2.1) (fun o1 o2 => ?_) (fun o => ?_)
      · refine q_F (by decide) ?_
        have hop : op P (σ 24) (σ 25) j := ⟨by omega, by rw [← e24]; exact o1, by rw [← e25]; exact o2⟩
        refine p_fewest (a1.cong2 (fun k h1 h2 => by rw [gu_ne (by omega), gu_ne (by omega)]; exact ha k (by omega)) (g35 _)) (fun p hp => by rw [e23]; exact (a5 p (by omega)).1) (fun p hp => by rw [e24]; exact (a5 p (by omega)).2) (fun r s2 ha2 hF => ?_)
        rw [e23, e24, e25] at hF
        have ha2' : ag (fun k => k = 34 ∨ (35 ≤ k ∧ k ≤ 46)) σ s2 := ag_tr ha (ag_mono ha2 (fun k hk => Or.inr hk))
        have e34 : s2 34 = s 34 := ha2 34 (by omega)
        unfold w_X2_worstMinutes_75 w_X2_worstMinutes_93
        have hv' : ∀ p, p < j + 1 → op P (σ 24) (σ 25) p → FMin (2 * W) fr tt ln wd (cC P (σ 23)) (rA P (σ 24) (σ 25) (nI p)) (if p = j then r else v p) := fun p hp hq => by
          by_cases e : p = j
          · rw [if_pos e, e]; exact hF
          · rw [if_neg e]; exact hv p (by omega) hq
        refine ⟨fun c1 => q_T rfl ?_, fun c1 => q_F (by decide) ?_⟩
        · rintro _ rfl _ rfl
          simp (disch := omega) only [l_3, l_4, l_6, l_8, l_9, l_10, l_12, l_14, l_16, l_19, l_20, l_23, l_24, l_26, l_28, l_39, l_40, l_56, l_57, l_60, l_192, l_200, l_255, l_299, l_320, l_400, l_1120, l_2000, l_20000, l_10000, l_1000, l_1000000, nI_1, n_2mul, nI_add, pk_mul, pk_sub, sb_m1, nI_clamp, nI_clamp0, vpT, nI_leI, nI_ltI, nI_eq, nI_0le, nI_lt0, nI_le0, nI_0lt, nI_eq0, nI_eqm1, nI_m1eq, Nat.add_one_sub_one, forall_eq, true_and, and_true, true_implies, not_true_eq_false, not_false_eq_true, false_implies, implies_true, ne_eq, Nat.reduceEqDiff, Nat.reduceAdd, Nat.reduceMul, Nat.reduceLT, Nat.reduceLeDiff, and_self]
          unfold w_X2_worstMinutes_35
          have ha3 : ag (fun k => k = 34 ∨ (35 ≤ k ∧ k ≤ 46)) σ (gu s2 34 0 (-1)) := ag_gu' (Or.inl rfl) ha2'
          have hall : ∃ u : Nat → Int32, ∀ p, op P (σ 24) (σ 25) p → FMin (2 * W) fr tt ln wd (cC P (σ 23)) (rA P (σ 24) (σ 25) (nI p)) (u p) := by
            exact ⟨fun p => Classical.choose (FMin_ex (2 * W) fr tt ln wd (cC P (σ 23)) (rA P (σ 24) (σ 25) (nI p))), fun p _ => Classical.choose_spec (FMin_ex (2 * W) fr tt ln wd (cC P (σ 23)) (rA P (σ 24) (σ 25) (nI p)))⟩
          have fin : Q (gu s2 34 0 (-1) 34 0) (gu s2 34 0 (-1)) := kk _ _ ha3 rfl (by
            obtain ⟨u, hu⟩ := hall
            refine ⟨u, hu, Or.inl ⟨gu_eq, j, hop, ?_⟩⟩
            rw [c1] at hF
            exact (hu j hop).uniq hF)
          exact ⟨fun _ => fin, fun _ => q_T rfl fin⟩
        · rintro _ rfl _ rfl
          simp (disch := omega) only [l_3, l_4, l_6, l_8, l_9, l_10, l_12, l_14, l_16, l_19, l_20, l_23, l_24, l_26, l_28, l_39, l_40, l_56, l_57, l_60, l_192, l_200, l_255, l_299, l_320, l_400, l_1120, l_2000, l_20000, l_10000, l_1000, l_1000000, nI_1, n_2mul, nI_add, pk_mul, pk_sub, sb_m1, nI_clamp, nI_clamp0, vpT, nI_leI, nI_ltI, nI_eq, nI_0le, nI_lt0, nI_le0, nI_0lt, nI_eq0, nI_eqm1, nI_m1eq, Nat.add_one_sub_one, forall_eq, true_and, and_true, true_implies, not_true_eq_false, not_false_eq_true, false_implies, implies_true, ne_eq, Nat.reduceEqDiff, Nat.reduceAdd, Nat.reduceMul, Nat.reduceLT, Nat.reduceLeDiff, and_self]
          have hr := hF.rng
          obtain ⟨w0, w1, w2⟩ := hw
          refine ih (j + 1) (fun p => if p = j then r else v p) _ (by omega) (ag_gu' (Or.inl rfl) ha2') hv' ⟨?_, fun p hp hq => ?_, ?_⟩
          · rw [gu_eq, i_maxs, e34]; omega
          · rw [gu_eq, i_maxs, e34]
            dsimp only
            by_cases e : p = j
            · rw [if_pos e]; exact ⟨c1, by omega⟩
            · rw [if_neg e]
              have := w1 p (by omega) hq
              exact ⟨this.1, by omega⟩
          · rw [gu_eq, e34]
            dsimp only
            split
            · exact Or.inr ⟨j, by omega, hop, by rw [if_pos rfl]⟩
            · rcases w2 with w2 | ⟨p, p1, p2, p3⟩
              · exact Or.inl w2
              · exact Or.inr ⟨p, by omega, p2, by rw [if_neg (by omega)]; exact p3⟩
      · refine q_T rfl ?_
        have hno : ¬ op P (σ 24) (σ 25) j := fun q => by
          rw [e24, e25] at o
          rcases o with o | o
          · have := q.2.1; omega
          · exact o q.2.2
        obtain ⟨w0, w1, w2⟩ := hw
        refine ih (j + 1) v s (by omega) ha (fun p hp hq => ?_) ⟨w0, fun p hp hq => ?_, ?_⟩
        · exact hv p (by have : p ≠ j := fun e => hno (e ▸ hq); omega) hq
        · exact w1 p (by have : p ≠ j := fun e => hno (e ▸ hq); omega) hq
        · rcases w2 with w2 | ⟨p, p1, p2, p3⟩
          · exact Or.inl w2
          · exact Or.inr ⟨p, by omega, p2, p3⟩
  refine ⟨fun c1 => ?_, fun c1 => ?_⟩
  · unfold w_X2_worstMinutes_32
    refine ⟨1, ?_⟩
    rw [gu_ne (by omega)] at c1
    unfold w_X2_worstMinutes_35
    have fin : Q (gu σ 34 0 (-1) 34 0) (gu σ 34 0 (-1)) := by
      refine kk _ _ A0 rfl ?_
      rw [gu_eq]
      have hinf : ∀ T, T ≤ 40 → ¬ Feas (2 * W) fr tt ln wd (cC P (σ 23)) (rA P (σ 24) (σ 25) (-1)) T := by
        rcases h33 with h | h
        · rw [c1] at h; exact absurd h (by decide)
        · rcases h with ⟨T, b1, b2, -⟩ | ⟨-, b⟩
          · rw [c1] at b2
            exact absurd b2 (by rw [nI_m1eq (by omega)]; exact id)
          · exact b
      refine ⟨fun _ => -1, fun p hp => Or.inr ⟨rfl, fun T hT hf => hinf T hT (feas_mono hf (fun q => ?_))⟩, ?_⟩
      · unfold rA
        by_cases q1 : q < P ∧ (σ 25) q = 0
        · rw [if_pos (show q < P ∧ ¬ nI q = -1 ∧ σ 25 q = 0 from ⟨q1.1, by rw [nI_eqm1 (by omega)]; exact id, q1.2⟩)]
          split
          · omega
          · exact (a5 q (by omega)).2.1
        · rw [if_neg (fun x => q1 ⟨x.1, x.2.2⟩)]
          split
          · rename_i x; exact absurd ⟨x.1, x.2.2⟩ q1
          · omega
      · by_cases ho : ∃ p, op P (σ 24) (σ 25) p
        · obtain ⟨p, hp⟩ := ho
          exact Or.inl ⟨rfl, p, hp, rfl⟩
        · exact Or.inr ⟨by decide, fun p _ hp => absurd ⟨p, hp⟩ ho, Or.inl rfl⟩
    exact ⟨fun _ => fin, fun _ => q_T rfl fin⟩
  · unfold w_X2_worstMinutes_32
    refine ⟨P + 1, ?_⟩
    rw [← nI_0]
    exact key P 0 (fun _ => 0) _ (by omega) A0 (fun p hp => by omega) ⟨by rw [gu_eq]; decide, fun p hp => by omega, Or.inl gu_eq⟩
end GROUND
