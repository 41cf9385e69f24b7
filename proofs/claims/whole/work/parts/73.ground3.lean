/-! THE GROUND: place, crowd, shut -/
def WX (σ σ' : gS) : Prop := ∀ W : Nat, W ≤ 14 → σ 76 0 = nI W → ∃ W' : Nat, W ≤ W' ∧ W' ≤ 14 ∧ σ' 76 0 = nI W' ∧ ∀ k, k < 2 * W → σ' 75 k = σ 75 k
theorem WX.same {σ σ' : gS} (e1 : σ' 75 = σ 75) (e2 : σ' 76 = σ 76) : WX σ σ' := fun W h1 h2 => ⟨W, Nat.le_refl _, h1, by rw [e2]; exact h2, fun k _ => by rw [e1]⟩
section GR3
variable {P W : Nat} {fr tt ln : Nat → Nat} {wd : Nat → Int}
theorem OKG.place {σ σ' : gS} {a b : Int32} (h : OKG P W fr tt ln wd σ) (hP : P < 8) (ha : 0 ≤ a.toInt ∧ a.toInt ≤ 20000) (hb : 0 ≤ b.toInt ∧ b.toInt ≤ 2000) (e : ∀ k, (27 ≤ k ∧ k ≤ 32) ∨ (72 ≤ k ∧ k ≤ 76) ∨ k = 25 ∨ k = 70 → σ' k = σ k) (e26 : σ' 26 0 = nI (P + 1)) (e71 : σ' 71 0 = nI (P + 1)) (e23 : ∀ p, σ' 23 p = if p = P then a else σ 23 p) (e68 : ∀ p, σ' 68 p = if p = P then a else σ 68 p) (e24 : ∀ p, σ' 24 p = if p = P then b else σ 24 p) (e69 : ∀ p, σ' 69 p = if p = P then b else σ 69 p) : OKG (P + 1) W fr tt ln wd σ' := by
  obtain ⟨⟨⟨b1, b2, b3, b4⟩, b5, b6, b7, b8⟩, ⟨⟨c1, c2, c3, c4⟩, c5, c6⟩, a3, a4, a5, a6, a7, a8⟩ := h
  have g : ∀ k, k ≠ 35 → (gu σ 35 0 1) k = σ k := fun k hk => gu_ne hk
  have g' : ∀ k, k ≠ 35 → (gu σ' 35 0 1) k = σ' k := fun k hk => gu_ne hk
  refine ⟨⟨⟨by omega, b2, g35 _, by rw [g' 26 (by omega)]; exact e26⟩, fun k hk => ?_, fun k hk => ?_, b7, fun p hp => ?_⟩, ⟨⟨by omega, c2, e71, by rw [e 76 (by omega)]; exact c4⟩, fun k hk => ?_, fun k hk => ?_⟩, ?_, fun p hp => ?_, fun p hp => ?_, ?_, fun p hp => ?_, fun p hp hp2 => ?_⟩
  · have := b5 k hk; exact ⟨by omega, by omega, this.2.2⟩
  · rw [g' 27 (by omega), g' 28 (by omega), g' 29 (by omega), e 27 (by omega), e 28 (by omega), e 29 (by omega)]
    have := b6 k hk
    rw [g 27 (by omega), g 28 (by omega), g 29 (by omega)] at this
    exact this
  · rw [g' 31 (by omega), g' 32 (by omega), e 31 (by omega), e 32 (by omega)]
    by_cases q : p < P
    · have := b8 p q
      rw [g 31 (by omega), g 32 (by omega)] at this
      exact this
    · have : p = P := by omega
      subst this
      exact ⟨0, by omega, a8 p (by omega) (by omega), fun j hj => by omega, fun k hk hf => by have := b5 k hk; omega⟩
  · have := c5 k hk; exact ⟨by omega, by omega, this.2.2⟩
  · rw [e 72 (by omega), e 73 (by omega), e 74 (by omega), e 75 (by omega)]; exact c6 k hk
  · rw [e 30 (by omega), e 76 (by omega)]; exact a3
  · rw [e23, e68, e24, e69, e 25 (by omega), e 70 (by omega)]
    have := a4 p hp
    split
    · exact ⟨rfl, rfl, this.2.2⟩
    · exact this
  · rw [e23, e24]
    split
    · exact ⟨ha, hb⟩
    · exact a5 p hp
  · rw [e 29 (by omega), e 75 (by omega)]; exact a6
  · rw [e 32 (by omega)]
    by_cases q : p < P
    · exact a7 p q
    · exact ⟨0, by omega, a8 p (by omega) (by omega)⟩
  · rw [e 32 (by omega)]; exact a8 p (by omega) hp2
end GR3
theorem xx1 {A : Prop} {k : Nat} (h : A) : (k = k → A) ∧ (¬ k = k → False) := ⟨fun _ => h, fun q => q rfl⟩
theorem xx01_0 {A B : Prop} (h : A) : ((0 : Nat) = 0 → A) ∧ ((0 : Nat) = 1 → B) ∧ (¬ (0 : Nat) = 0 → ¬ (0 : Nat) = 1 → False) := ⟨fun _ => h, fun q => absurd q (by decide), fun q => absurd rfl q⟩
theorem xx01_1 {A B : Prop} (h : B) : ((1 : Nat) = 0 → A) ∧ ((1 : Nat) = 1 → B) ∧ (¬ (1 : Nat) = 0 → ¬ (1 : Nat) = 1 → False) := ⟨fun q => absurd q (by decide), fun _ => h, fun _ q => absurd rfl q⟩
theorem xx12_1 {A B : Prop} (h : A) : ((1 : Nat) = 1 → A) ∧ ((1 : Nat) = 2 → B) ∧ (¬ (1 : Nat) = 1 → ¬ (1 : Nat) = 2 → False) := ⟨fun _ => h, fun q => absurd q (by decide), fun q => absurd rfl q⟩
theorem xx12_2 {A B : Prop} (h : B) : ((2 : Nat) = 1 → A) ∧ ((2 : Nat) = 2 → B) ∧ (¬ (2 : Nat) = 1 → ¬ (2 : Nat) = 2 → False) := ⟨fun q => absurd q (by decide), fun _ => h, fun _ q => absurd rfl q⟩
theorem xx012_0 {A B C : Prop} (h : A) : ((0 : Nat) = 0 → A) ∧ ((0 : Nat) = 1 → B) ∧ ((0 : Nat) = 2 → C) ∧ (¬ (0 : Nat) = 0 → ¬ (0 : Nat) = 1 → ¬ (0 : Nat) = 2 → False) := ⟨fun _ => h, fun q => absurd q (by decide), fun q => absurd q (by decide), fun q => absurd rfl q⟩
theorem xx012_1 {A B C : Prop} (h : B) : ((1 : Nat) = 0 → A) ∧ ((1 : Nat) = 1 → B) ∧ ((1 : Nat) = 2 → C) ∧ (¬ (1 : Nat) = 0 → ¬ (1 : Nat) = 1 → ¬ (1 : Nat) = 2 → False) := ⟨fun q => absurd q (by decide), fun _ => h, fun q => absurd q (by decide), fun _ q => absurd rfl q⟩
theorem xx012_2 {A B C : Prop} (h : C) : ((2 : Nat) = 0 → A) ∧ ((2 : Nat) = 1 → B) ∧ ((2 : Nat) = 2 → C) ∧ (¬ (2 : Nat) = 0 → ¬ (2 : Nat) = 1 → ¬ (2 : Nat) = 2 → False) := ⟨fun q => absurd q (by decide), fun q => absurd q (by decide), fun _ => h, fun _ _ q => absurd rfl q⟩
theorem T20000 : (20000 : Int32).toInt = 20000 := rfl
theorem T2000 : (2000 : Int32).toInt = 2000 := rfl
theorem T8 : (8 : Int32).toInt = 8 := rfl
theorem c_crowd {Q : gS → Prop} {X : Nat → gS → Prop} {σ : gS} {a b : Int32} {P : Nat} (hP : P ≤ 8) (e26 : σ 26 0 = nI P) (ok : ∀ j, j < P → a = nI j → 0 ≤ b.toInt ∧ b.toInt ≤ 20000 → Q (gu (gu (gu σ 23 j b) 33 0 (-2)) 34 0 (-2))) (x0 : ¬ (0 ≤ a.toInt ∧ a.toInt < P) → X 0 σ) (x1 : 0 ≤ a.toInt ∧ a.toInt < P → ¬ (0 ≤ b.toInt ∧ b.toInt ≤ 20000) → X 1 σ) : w_X8_crowd Q X σ a b := by
  unfold w_X8_crowd
  have hn : (nI P).toInt = P := t_n (by omega)
  rw [e26]
  refine r_ri (fun c => r_rn (fun c2 => ?_) (fun c2 => ?_)) (fun c => x0 (by rw [hn] at c; exact c))
  · rw [t_0, T20000] at c2
    rw [hn] at c
    obtain ⟨j, -, rfl, ej⟩ := i_ex c.1
    unfold w_X2_setCrowd w_X2_noteChange
    simp (disch := omega) only [l_3, l_4, l_6, l_8, l_9, l_10, l_12, l_14, l_16, l_19, l_20, l_23, l_24, l_26, l_28, l_39, l_40, l_56, l_57, l_60, l_192, l_200, l_255, l_299, l_320, l_400, l_1120, l_2000, l_20000, l_10000, l_1000, l_1000000, nI_1, n_2mul, nI_add, pk_mul, pk_sub, sb_m1, nI_clamp, nI_clamp0, vpT, nI_leI, nI_ltI, nI_eq, nI_0le, nI_lt0, nI_le0, nI_0lt, nI_eq0, nI_eqm1, nI_m1eq, Nat.add_one_sub_one, forall_eq, true_and, and_true, true_implies, not_true_eq_false, not_false_eq_true, false_implies, implies_true, ne_eq, Nat.reduceEqDiff, Nat.reduceAdd, Nat.reduceMul, Nat.reduceLT, Nat.reduceLeDiff, and_self]
    exact ok j (by omega) rfl c2
  · rw [t_0, T20000] at c2
    rw [hn] at c
    exact x1 c c2
theorem m_crowd {Q : gS → Prop} {σ : gS} {a b : Int32} {P : Nat} (hP : P ≤ 8) (e71 : σ 71 0 = nI P) (ok : ∀ j, j < P → a = nI j → 0 ≤ b.toInt ∧ b.toInt ≤ 20000 → Q (gu (gu σ 63 0 0) 68 j b)) (x0 : ¬ (0 ≤ a.toInt ∧ a.toInt < P) → Q (gu (gu σ 63 0 0) 63 0 1)) (x1 : 0 ≤ a.toInt ∧ a.toInt < P → ¬ (0 ≤ b.toInt ∧ b.toInt ≤ 20000) → Q (gu (gu σ 63 0 0) 63 0 2)) : w_X9_crowd Q σ a b := by
  unfold w_X9_crowd w_X9_crowd_35
  rintro _ rfl
  refine r_np (P := P) (by omega) (by simp only [Nat.add_one_sub_one, forall_eq, true_and, and_true, true_implies, not_true_eq_false, not_false_eq_true, false_implies, implies_true, ne_eq, Nat.reduceEqDiff, Nat.reduceAdd, Nat.reduceMul, Nat.reduceLT, Nat.reduceLeDiff, and_self, gu_eq, gu_ne, gu_ne2]; exact e71) (fun c => r_t0 (q_nT rfl (r_in (fun c2 => q_nF (by decide) (r_t0 (q_T rfl ?_))) (fun c2 => q_nT rfl (r_t1 (q_F (by decide) (x1 c (by rw [t_0, T20000] at c2; exact c2)))))))) (fun c => r_t1 (q_nF (by decide) (x0 c)))
  rw [t_0, T20000] at c2
  obtain ⟨j, -, rfl, ej⟩ := i_ex c.1
  simp (disch := omega) only [l_3, l_4, l_6, l_8, l_9, l_10, l_12, l_14, l_16, l_19, l_20, l_23, l_24, l_26, l_28, l_39, l_40, l_56, l_57, l_60, l_192, l_200, l_255, l_299, l_320, l_400, l_1120, l_2000, l_20000, l_10000, l_1000, l_1000000, nI_1, n_2mul, nI_add, pk_mul, pk_sub, sb_m1, nI_clamp, nI_clamp0, vpT, nI_leI, nI_ltI, nI_eq, nI_0le, nI_lt0, nI_le0, nI_0lt, nI_eq0, nI_eqm1, nI_m1eq, Nat.add_one_sub_one, forall_eq, true_and, and_true, true_implies, not_true_eq_false, not_false_eq_true, false_implies, implies_true, ne_eq, Nat.reduceEqDiff, Nat.reduceAdd, Nat.reduceMul, Nat.reduceLT, Nat.reduceLeDiff, and_self]
  exact ok j (by omega) rfl c2
theorem c_shut {Q : Int32 → gS → Prop} {X : Nat → gS → Prop} {σ : gS} {a b : Int32} {P : Nat} (hP : P ≤ 8) (e26 : σ 26 0 = nI P) (hb : b = 0 ∨ b = 1) (ok1 : ∀ j, j < P → a = nI j → ¬ σ 25 j = b → Q 1 (gu (gu (gu σ 25 j b) 33 0 (-2)) 34 0 (-2))) (ok0 : ∀ j, j < P → a = nI j → σ 25 j = b → Q 0 σ) (x0 : ¬ (0 ≤ a.toInt ∧ a.toInt < P) → X 0 σ) : w_X8_shut Q X σ a b := by
  unfold w_X8_shut
  have hn : (nI P).toInt = P := t_n (by omega)
  rw [e26]
  refine r_ri (fun c => ?_) (fun c => x0 (by rw [hn] at c; exact c))
  rw [hn] at c
  obtain ⟨j, -, rfl, ej⟩ := i_ex c.1
  unfold w_X2_setClosed w_X2_noteChange
  rw [vpnb hb]
  simp (disch := omega) only [l_3, l_4, l_6, l_8, l_9, l_10, l_12, l_14, l_16, l_19, l_20, l_23, l_24, l_26, l_28, l_39, l_40, l_56, l_57, l_60, l_192, l_200, l_255, l_299, l_320, l_400, l_1120, l_2000, l_20000, l_10000, l_1000, l_1000000, nI_1, n_2mul, nI_add, pk_mul, pk_sub, sb_m1, nI_clamp, nI_clamp0, vpT, nI_leI, nI_ltI, nI_eq, nI_0le, nI_lt0, nI_le0, nI_0lt, nI_eq0, nI_eqm1, nI_m1eq, Nat.add_one_sub_one, forall_eq, true_and, and_true, true_implies, not_true_eq_false, not_false_eq_true, false_implies, implies_true, ne_eq, Nat.reduceEqDiff, Nat.reduceAdd, Nat.reduceMul, Nat.reduceLT, Nat.reduceLeDiff, and_self, gz_0, gz_1]
  exact ⟨fun c => ok1 j (by omega) rfl c, fun c => ok0 j (by omega) rfl c⟩
theorem m_shut {Q : Int32 → gS → Prop} {σ : gS} {a b : Int32} {P : Nat} (hP : P ≤ 8) (e71 : σ 71 0 = nI P) (hb : b = 0 ∨ b = 1) (ok1 : ∀ j, j < P → a = nI j → ¬ σ 70 j = b → Q 1 (gu (gu σ 63 0 0) 70 j b)) (ok0 : ∀ j, j < P → a = nI j → σ 70 j = b → Q 0 (gu (gu σ 63 0 0) 70 j b)) (x0 : ¬ (0 ≤ a.toInt ∧ a.toInt < P) → Q 0 (gu (gu σ 63 0 0) 63 0 1)) : w_X9_shut Q σ a b := by
  unfold w_X9_shut
  rintro _ rfl
  rw [vpnb hb]
  refine r_np (P := P) (by omega) (by simp only [Nat.add_one_sub_one, forall_eq, true_and, and_true, true_implies, not_true_eq_false, not_false_eq_true, false_implies, implies_true, ne_eq, Nat.reduceEqDiff, Nat.reduceAdd, Nat.reduceMul, Nat.reduceLT, Nat.reduceLeDiff, and_self, gu_eq, gu_ne, gu_ne2]; exact e71) (fun c => r_t0 (q_T rfl ?_)) (fun c => r_t1 (q_F (by decide) (x0 c)))
  obtain ⟨j, -, rfl, ej⟩ := i_ex c.1
  simp (disch := omega) only [l_3, l_4, l_6, l_8, l_9, l_10, l_12, l_14, l_16, l_19, l_20, l_23, l_24, l_26, l_28, l_39, l_40, l_56, l_57, l_60, l_192, l_200, l_255, l_299, l_320, l_400, l_1120, l_2000, l_20000, l_10000, l_1000, l_1000000, nI_1, n_2mul, nI_add, pk_mul, pk_sub, sb_m1, nI_clamp, nI_clamp0, vpT, nI_leI, nI_ltI, nI_eq, nI_0le, nI_lt0, nI_le0, nI_0lt, nI_eq0, nI_eqm1, nI_m1eq, Nat.add_one_sub_one, forall_eq, true_and, and_true, true_implies, not_true_eq_false, not_false_eq_true, false_implies, implies_true, ne_eq, Nat.reduceEqDiff, Nat.reduceAdd, Nat.reduceMul, Nat.reduceLT, Nat.reduceLeDiff, and_self, gu_eq, gu_ne, gu_ne2]
  exact ⟨fun c => ok0 j (by omega) rfl c, fun c => ok1 j (by omega) rfl c⟩
theorem c_place {Q : Int32 → gS → Prop} {X : Nat → gS → Prop} {σ : gS} {a b : Int32} {P : Nat} (hP : P ≤ 8) (e26 : σ 26 0 = nI P) (ok : P < 8 → 0 ≤ a.toInt ∧ a.toInt ≤ 20000 → 0 ≤ b.toInt ∧ b.toInt ≤ 2000 → Q (nI P) (gu (gu (gu (gu (gu σ 23 P a) 24 P b) 26 0 (nI (P + 1))) 33 0 (-2)) 34 0 (-2))) (x1 : ¬ ((0 ≤ a.toInt ∧ a.toInt ≤ 20000) ∧ 0 ≤ b.toInt ∧ b.toInt ≤ 2000) → X 1 σ) (x2 : P = 8 → (0 ≤ a.toInt ∧ a.toInt ≤ 20000) ∧ 0 ≤ b.toInt ∧ b.toInt ≤ 2000 → X 2 σ) : w_X8_place Q X σ a b := by
  unfold w_X8_place
  refine r_rn (fun c => r_rn (fun c2 => ?_) (fun c2 => x1 (by rw [t_0, T2000] at c2; exact fun q => c2 q.2))) (fun c => x1 (by rw [t_0, T20000] at c; exact fun q => c q.1))
  rw [t_0, T20000] at c
  rw [t_0, T2000] at c2
  unfold w_X2_addPlace w_X2_noteChange
  simp (disch := omega) only [l_3, l_4, l_6, l_8, l_9, l_10, l_12, l_14, l_16, l_19, l_20, l_23, l_24, l_26, l_28, l_39, l_40, l_56, l_57, l_60, l_192, l_200, l_255, l_299, l_320, l_400, l_1120, l_2000, l_20000, l_10000, l_1000, l_1000000, nI_1, n_2mul, nI_add, pk_mul, pk_sub, sb_m1, nI_clamp, nI_clamp0, vpT, nI_leI, nI_ltI, nI_eq, nI_0le, nI_lt0, nI_le0, nI_0lt, nI_eq0, nI_eqm1, nI_m1eq, Nat.add_one_sub_one, forall_eq, true_and, and_true, true_implies, not_true_eq_false, not_false_eq_true, false_implies, implies_true, ne_eq, Nat.reduceEqDiff, Nat.reduceAdd, Nat.reduceMul, Nat.reduceLT, Nat.reduceLeDiff, and_self, e26]
  refine ⟨fun q => q_T q ?_, fun q => x2 (by omega) ⟨c, c2⟩⟩
  have e1 : nI (P + 1) - 1 = nI P := nI_pred P
  simp (disch := omega) only [l_3, l_4, l_6, l_8, l_9, l_10, l_12, l_14, l_16, l_19, l_20, l_23, l_24, l_26, l_28, l_39, l_40, l_56, l_57, l_60, l_192, l_200, l_255, l_299, l_320, l_400, l_1120, l_2000, l_20000, l_10000, l_1000, l_1000000, nI_1, n_2mul, nI_add, pk_mul, pk_sub, sb_m1, nI_clamp, nI_clamp0, vpT, nI_leI, nI_ltI, nI_eq, nI_0le, nI_lt0, nI_le0, nI_0lt, nI_eq0, nI_eqm1, nI_m1eq, Nat.add_one_sub_one, forall_eq, true_and, and_true, true_implies, not_true_eq_false, not_false_eq_true, false_implies, implies_true, ne_eq, Nat.reduceEqDiff, Nat.reduceAdd, Nat.reduceMul, Nat.reduceLT, Nat.reduceLeDiff, and_self, gu_eq, gu_ne, gu_ne2, e26, e1]
  exact ok q c c2
theorem m_place {Q : Int32 → gS → Prop} {σ : gS} {a b : Int32} {P : Nat} (hP : P ≤ 8) (e71 : σ 71 0 = nI P) (ok : P < 8 → 0 ≤ a.toInt ∧ a.toInt ≤ 20000 → 0 ≤ b.toInt ∧ b.toInt ≤ 2000 → Q (nI P) (gu (gu (gu (gu σ 63 0 0) 68 P a) 69 P b) 71 0 (nI (P + 1)))) (x1 : ¬ ((0 ≤ a.toInt ∧ a.toInt ≤ 20000) ∧ 0 ≤ b.toInt ∧ b.toInt ≤ 2000) → Q 0 (gu (gu σ 63 0 0) 63 0 1)) (x2 : P = 8 → (0 ≤ a.toInt ∧ a.toInt ≤ 20000) ∧ 0 ≤ b.toInt ∧ b.toInt ≤ 2000 → Q 0 (gu (gu σ 63 0 0) 63 0 2)) : w_X9_place Q σ a b := by
  unfold w_X9_place w_X9_place_33
  rintro _ rfl
  refine r_in (fun c => q_F (by decide) (r_in (fun c2 => q_nF (by decide) (r_t0 (q_nT rfl ?_))) (fun c2 => q_nT rfl (r_t1 (q_nF (by decide) (x1 (by rw [t_0, T2000] at c2; exact fun q => c2 q.2))))))) (fun c => q_T rfl (r_t1 (q_nF (by decide) (x1 (by rw [t_0, T20000] at c; exact fun q => c q.1)))))
  rw [t_0, T20000] at c
  rw [t_0, T2000] at c2
  unfold w_X9_place_55
  simp (disch := omega) only [l_3, l_4, l_6, l_8, l_9, l_10, l_12, l_14, l_16, l_19, l_20, l_23, l_24, l_26, l_28, l_39, l_40, l_56, l_57, l_60, l_192, l_200, l_255, l_299, l_320, l_400, l_1120, l_2000, l_20000, l_10000, l_1000, l_1000000, nI_1, n_2mul, nI_add, pk_mul, pk_sub, sb_m1, nI_clamp, nI_clamp0, vpT, nI_leI, nI_ltI, nI_eq, nI_0le, nI_lt0, nI_le0, nI_0lt, nI_eq0, nI_eqm1, nI_m1eq, Nat.add_one_sub_one, forall_eq, true_and, and_true, true_implies, not_true_eq_false, not_false_eq_true, false_implies, implies_true, ne_eq, Nat.reduceEqDiff, Nat.reduceAdd, Nat.reduceMul, Nat.reduceLT, Nat.reduceLeDiff, and_self, gu_eq, gu_ne, gu_ne2, e71]
  refine ⟨fun q => r_t0 (q_T rfl ?_), fun q => r_t1 (q_F (by decide) (x2 q ⟨c, c2⟩))⟩
  have e1 : nI (P + 1) - 1 = nI P := nI_pred P
  simp (disch := omega) only [l_3, l_4, l_6, l_8, l_9, l_10, l_12, l_14, l_16, l_19, l_20, l_23, l_24, l_26, l_28, l_39, l_40, l_56, l_57, l_60, l_192, l_200, l_255, l_299, l_320, l_400, l_1120, l_2000, l_20000, l_10000, l_1000, l_1000000, nI_1, n_2mul, nI_add, pk_mul, pk_sub, sb_m1, nI_clamp, nI_clamp0, vpT, nI_leI, nI_ltI, nI_eq, nI_0le, nI_lt0, nI_le0, nI_0lt, nI_eq0, nI_eqm1, nI_m1eq, Nat.add_one_sub_one, forall_eq, true_and, and_true, true_implies, not_true_eq_false, not_false_eq_true, false_implies, implies_true, ne_eq, Nat.reduceEqDiff, Nat.reduceAdd, Nat.reduceMul, Nat.reduceLT, Nat.reduceLeDiff, and_self, gu_eq, gu_ne, gu_ne2, e71, e1]
  exact ok (by omega) c c2
section PGR3
variable {Q : Unit} {LN : Nat} {xs : Nat → Int32} {k23 : Int32 → gS → Prop} {x4 : Int32} {σ : gS}
theorem cs_crowd (h1 : vp_in (x4 + 1) LN) (h2 : vp_in (x4 + 2) LN) (hR : RG σ) (K : ∀ σ', RG σ' → ag (fun k => kG k ∨ scr k) σ σ' → WX σ σ' → k23 (x4 + 6) σ') : w_L_law_640 Q LN xs k23 x4 σ := by
  obtain ⟨P, W, fr, tt, ln, wd, hG, h33, h34⟩ := id hR
  have hP := hG.1.1.1
  have e26 : σ 26 0 = nI P := by have := hG.1.1.2.2.2; rw [gu_ne (by omega)] at this; exact this
  have e71 := hG.2.1.1.2.2.1
  have KS : ∀ s, ag scr σ s → k23 (x4 + 6) s := fun s hs => K _ (hR.s hs) (ag_mono hs (fun k hk => Or.inr hk)) (WX.same (hs 75 (by unfold scr; omega)) (hs 76 (by unfold scr; omega)))
  unfold w_L_law_640 w_L_crowd
  generalize xs (x4 + 1).toNatClampNeg = a
  generalize xs (x4 + 2).toNatClampNeg = b
  have A2 : ∀ k, ag scr σ (gu (gu σ 63 0 0) 63 0 k) := fun k => ag_gu' s63 (ag_gu' s63 ag_rf)
  refine ⟨h1, h2, c_crowd hP e26 (fun j hj ej hb => ?_) (fun q => xx01_0 ⟨h1, h2, m_crowd hP e71 (fun j hj ej => absurd (by rw [ej, t_n (by omega)]; omega) q) (fun _ => tl_v gu_eq (KS _ (A2 _))) (fun c => absurd c q)⟩) (fun q q2 => xx01_1 ⟨h1, h2, m_crowd hP e71 (fun j hj ej hb => absurd hb q2) (fun c => absurd q c) (fun _ _ => tl_v gu_eq (KS _ (A2 _)))⟩)⟩
  subst ej
  have hj2 : (nI j).toInt = j := t_n (by omega)
  refine ⟨h1, h2, m_crowd hP (by simp only [Nat.add_one_sub_one, forall_eq, true_and, and_true, true_implies, not_true_eq_false, not_false_eq_true, false_implies, implies_true, ne_eq, Nat.reduceEqDiff, Nat.reduceAdd, Nat.reduceMul, Nat.reduceLT, Nat.reduceLeDiff, and_self, gu_eq, gu_ne, gu_ne2]; exact e71) (fun j' hj' ej' hb => ?_) (fun q => absurd (by omega) q) (fun _ q => absurd hb q)⟩
  have := nI_inj ej' (by omega) (by omega)
  subst this
  have hA : ag (fun k => kG k ∨ scr k) σ (gu (gu (gu (gu (gu σ 23 j b) 33 0 (-2)) 34 0 (-2)) 63 0 0) 68 j b) := by repeat (first | exact ag_rf | refine ag_gu' (by simp [scr, kG]) ?_)
  refine tl_v ?_ (K _ ⟨P, W, fr, tt, ln, wd, hG.re (fun k hk => ?_) (fun p hp => ?_) (fun p hp => ?_), Or.inl ?_, Or.inl ?_⟩ hA (WX.same ?_ ?_))
  · simp only [Nat.add_one_sub_one, forall_eq, true_and, and_true, true_implies, not_true_eq_false, not_false_eq_true, false_implies, implies_true, ne_eq, Nat.reduceEqDiff, Nat.reduceAdd, Nat.reduceMul, Nat.reduceLT, Nat.reduceLeDiff, and_self, gu_eq, gu_ne, gu_ne2]
  · rw [gu_ne (by omega), gu_ne (by omega), gu_ne (by omega), gu_ne (by omega), gu_ne (by omega)]
  · have := hG.2.2.2.1 p hp
    simp only [Nat.add_one_sub_one, forall_eq, true_and, and_true, true_implies, not_true_eq_false, not_false_eq_true, false_implies, implies_true, ne_eq, Nat.reduceEqDiff, Nat.reduceAdd, Nat.reduceMul, Nat.reduceLT, Nat.reduceLeDiff, and_self, gu_eq, gu_ne, gu_ne2, gu_at]
    refine ⟨?_, this.2⟩
    split
    · rfl
    · exact this.1
  · have := hG.2.2.2.2.1 p hp
    simp only [Nat.add_one_sub_one, forall_eq, true_and, and_true, true_implies, not_true_eq_false, not_false_eq_true, false_implies, implies_true, ne_eq, Nat.reduceEqDiff, Nat.reduceAdd, Nat.reduceMul, Nat.reduceLT, Nat.reduceLeDiff, and_self, gu_eq, gu_ne, gu_ne2, gu_at]
    refine ⟨?_, this.2⟩
    split
    · exact hb
    · exact this.1
  · simp only [Nat.add_one_sub_one, forall_eq, true_and, and_true, true_implies, not_true_eq_false, not_false_eq_true, false_implies, implies_true, ne_eq, Nat.reduceEqDiff, Nat.reduceAdd, Nat.reduceMul, Nat.reduceLT, Nat.reduceLeDiff, and_self, gu_eq, gu_ne, gu_ne2]
  · simp only [Nat.add_one_sub_one, forall_eq, true_and, and_true, true_implies, not_true_eq_false, not_false_eq_true, false_implies, implies_true, ne_eq, Nat.reduceEqDiff, Nat.reduceAdd, Nat.reduceMul, Nat.reduceLT, Nat.reduceLeDiff, and_self, gu_eq, gu_ne, gu_ne2]
  · simp only [Nat.add_one_sub_one, forall_eq, true_and, and_true, true_implies, not_true_eq_false, not_false_eq_true, false_implies, implies_true, ne_eq, Nat.reduceEqDiff, Nat.reduceAdd, Nat.reduceMul, Nat.reduceLT, Nat.reduceLeDiff, and_self, gu_eq, gu_ne, gu_ne2]
  · simp only [Nat.add_one_sub_one, forall_eq, true_and, and_true, true_implies, not_true_eq_false, not_false_eq_true, false_implies, implies_true, ne_eq, Nat.reduceEqDiff, Nat.reduceAdd, Nat.reduceMul, Nat.reduceLT, Nat.reduceLeDiff, and_self, gu_eq, gu_ne, gu_ne2]
theorem cs_place (h1 : vp_in (x4 + 1) LN) (h2 : vp_in (x4 + 2) LN) (hR : RG σ) (K : ∀ σ', RG σ' → ag (fun k => kG k ∨ scr k) σ σ' → WX σ σ' → k23 (x4 + 6) σ') : w_L_law_572 Q LN xs k23 x4 σ := by
  obtain ⟨P, W, fr, tt, ln, wd, hG, h33, h34⟩ := id hR
  have hP := hG.1.1.1
  have e26 : σ 26 0 = nI P := by have := hG.1.1.2.2.2; rw [gu_ne (by omega)] at this; exact this
  have e71 := hG.2.1.1.2.2.1
  have KS : ∀ s, ag scr σ s → k23 (x4 + 6) s := fun s hs => K _ (hR.s hs) (ag_mono hs (fun k hk => Or.inr hk)) (WX.same (hs 75 (by unfold scr; omega)) (hs 76 (by unfold scr; omega)))
  unfold w_L_law_572 w_L_place
  generalize xs (x4 + 1).toNatClampNeg = a
  generalize xs (x4 + 2).toNatClampNeg = b
  have A2 : ∀ k, ag scr σ (gu (gu σ 63 0 0) 63 0 k) := fun k => ag_gu' s63 (ag_gu' s63 ag_rf)
  refine ⟨h1, h2, c_place hP e26 (fun hP8 ha hb => ?_) (fun q => xx12_1 ⟨h1, h2, m_place hP e71 (fun _ ha hb => absurd ⟨ha, hb⟩ q) (fun _ => tl_i gu_eq (fun z => absurd z (by decide)) (KS _ (A2 _))) (fun _ c => absurd c q)⟩) (fun q q2 => xx12_2 ⟨h1, h2, m_place hP e71 (fun z => by omega) (fun c => absurd q2 c) (fun _ _ => tl_i gu_eq (fun z => absurd z (by decide)) (KS _ (A2 _)))⟩)⟩
  rintro _ rfl
  refine ⟨h1, h2, m_place hP (by simp only [Nat.add_one_sub_one, forall_eq, true_and, and_true, true_implies, not_true_eq_false, not_false_eq_true, false_implies, implies_true, ne_eq, Nat.reduceEqDiff, Nat.reduceAdd, Nat.reduceMul, Nat.reduceLT, Nat.reduceLeDiff, and_self, gu_eq, gu_ne, gu_ne2]; exact e71) (fun _ _ _ => ?_) (fun q => absurd ⟨ha, hb⟩ q) (fun q => by omega)⟩
  rw [nI_clamp0]
  have hA : ag (fun k => kG k ∨ scr k) σ (gu (gu (gu (gu (gu (gu (gu (gu (gu (gu σ 23 P a) 24 P b) 26 0 (nI (P + 1))) 33 0 (-2)) 34 0 (-2)) 110 0 (nI P)) 63 0 0) 68 P a) 69 P b) 71 0 (nI (P + 1))) := by repeat (first | exact ag_rf | refine ag_gu' (by simp [scr, kG]) ?_)
  refine tl_i ?_ (fun _ => ?_) (K _ ⟨P + 1, W, fr, tt, ln, wd, hG.place (a := a) (b := b) hP8 ha hb (fun k hk => ?_) ?_ ?_ (fun p => ?_) (fun p => ?_) (fun p => ?_) (fun p => ?_), Or.inl ?_, Or.inl ?_⟩ hA (WX.same ?_ ?_))
  · simp only [Nat.add_one_sub_one, forall_eq, true_and, and_true, true_implies, not_true_eq_false, not_false_eq_true, false_implies, implies_true, ne_eq, Nat.reduceEqDiff, Nat.reduceAdd, Nat.reduceMul, Nat.reduceLT, Nat.reduceLeDiff, and_self, gu_eq, gu_ne, gu_ne2]
  · simp only [Nat.add_one_sub_one, forall_eq, true_and, and_true, true_implies, not_true_eq_false, not_false_eq_true, false_implies, implies_true, ne_eq, Nat.reduceEqDiff, Nat.reduceAdd, Nat.reduceMul, Nat.reduceLT, Nat.reduceLeDiff, and_self, gu_eq, gu_ne, gu_ne2]
  · rw [gu_ne (by omega), gu_ne (by omega), gu_ne (by omega), gu_ne (by omega), gu_ne (by omega), gu_ne (by omega), gu_ne (by omega), gu_ne (by omega), gu_ne (by omega), gu_ne (by omega)]
  · simp only [Nat.add_one_sub_one, forall_eq, true_and, and_true, true_implies, not_true_eq_false, not_false_eq_true, false_implies, implies_true, ne_eq, Nat.reduceEqDiff, Nat.reduceAdd, Nat.reduceMul, Nat.reduceLT, Nat.reduceLeDiff, and_self, gu_eq, gu_ne, gu_ne2]
  · simp only [Nat.add_one_sub_one, forall_eq, true_and, and_true, true_implies, not_true_eq_false, not_false_eq_true, false_implies, implies_true, ne_eq, Nat.reduceEqDiff, Nat.reduceAdd, Nat.reduceMul, Nat.reduceLT, Nat.reduceLeDiff, and_self, gu_eq, gu_ne, gu_ne2]
  · simp only [Nat.add_one_sub_one, forall_eq, true_and, and_true, true_implies, not_true_eq_false, not_false_eq_true, false_implies, implies_true, ne_eq, Nat.reduceEqDiff, Nat.reduceAdd, Nat.reduceMul, Nat.reduceLT, Nat.reduceLeDiff, and_self, gu_eq, gu_ne, gu_ne2, gu_at]
  · simp only [Nat.add_one_sub_one, forall_eq, true_and, and_true, true_implies, not_true_eq_false, not_false_eq_true, false_implies, implies_true, ne_eq, Nat.reduceEqDiff, Nat.reduceAdd, Nat.reduceMul, Nat.reduceLT, Nat.reduceLeDiff, and_self, gu_eq, gu_ne, gu_ne2, gu_at]
  · simp only [Nat.add_one_sub_one, forall_eq, true_and, and_true, true_implies, not_true_eq_false, not_false_eq_true, false_implies, implies_true, ne_eq, Nat.reduceEqDiff, Nat.reduceAdd, Nat.reduceMul, Nat.reduceLT, Nat.reduceLeDiff, and_self, gu_eq, gu_ne, gu_ne2, gu_at]
  · simp only [Nat.add_one_sub_one, forall_eq, true_and, and_true, true_implies, not_true_eq_false, not_false_eq_true, false_implies, implies_true, ne_eq, Nat.reduceEqDiff, Nat.reduceAdd, Nat.reduceMul, Nat.reduceLT, Nat.reduceLeDiff, and_self, gu_eq, gu_ne, gu_ne2, gu_at]
  · simp only [Nat.add_one_sub_one, forall_eq, true_and, and_true, true_implies, not_true_eq_false, not_false_eq_true, false_implies, implies_true, ne_eq, Nat.reduceEqDiff, Nat.reduceAdd, Nat.reduceMul, Nat.reduceLT, Nat.reduceLeDiff, and_self, gu_eq, gu_ne, gu_ne2]
  · simp only [Nat.add_one_sub_one, forall_eq, true_and, and_true, true_implies, not_true_eq_false, not_false_eq_true, false_implies, implies_true, ne_eq, Nat.reduceEqDiff, Nat.reduceAdd, Nat.reduceMul, Nat.reduceLT, Nat.reduceLeDiff, and_self, gu_eq, gu_ne, gu_ne2]
  · simp only [Nat.add_one_sub_one, forall_eq, true_and, and_true, true_implies, not_true_eq_false, not_false_eq_true, false_implies, implies_true, ne_eq, Nat.reduceEqDiff, Nat.reduceAdd, Nat.reduceMul, Nat.reduceLT, Nat.reduceLeDiff, and_self, gu_eq, gu_ne, gu_ne2]
  · simp only [Nat.add_one_sub_one, forall_eq, true_and, and_true, true_implies, not_true_eq_false, not_false_eq_true, false_implies, implies_true, ne_eq, Nat.reduceEqDiff, Nat.reduceAdd, Nat.reduceMul, Nat.reduceLT, Nat.reduceLeDiff, and_self, gu_eq, gu_ne, gu_ne2]
theorem cs_shut (h1 : vp_in (x4 + 1) LN) (h2 : vp_in (x4 + 2) LN) (hR : RG σ) (K : ∀ σ', RG σ' → ag (fun k => kG k ∨ scr k) σ σ' → WX σ σ' → k23 (x4 + 6) σ') : w_L_law_688 Q LN xs k23 x4 σ := by
  obtain ⟨P, W, fr, tt, ln, wd, hG, h33, h34⟩ := id hR
  have hP := hG.1.1.1
  have e26 : σ 26 0 = nI P := by have := hG.1.1.2.2.2; rw [gu_ne (by omega)] at this; exact this
  have e71 := hG.2.1.1.2.2.1
  have KS : ∀ s, ag scr σ s → k23 (x4 + 6) s := fun s hs => K _ (hR.s hs) (ag_mono hs (fun k hk => Or.inr hk)) (WX.same (hs 75 (by unfold scr; omega)) (hs 76 (by unfold scr; omega)))
  unfold w_L_law_688 w_L_law_709 w_L_shut w_L_law_736
  generalize xs (x4 + 1).toNatClampNeg = a
  generalize xs (x4 + 2).toNatClampNeg = b
  have A2 : ∀ k, ag scr σ (gu (gu σ 63 0 0) 63 0 k) := fun k => ag_gu' s63 (ag_gu' s63 ag_rf)
  refine ⟨h1, h2, fun c => ?_, fun c => ?_⟩
  · have hv : (0 : Int32) = 0 ∨ (0 : Int32) = 1 := Or.inl rfl
    refine c_shut hP e26 hv (fun j hj ej hne => q_F (by decide) ?_) (fun j hj ej heq => q_T rfl ?_) (fun q => xx1 ⟨h1, h2, q_T c (m_shut hP e71 hv (fun j hj ej => absurd (by rw [ej, t_n (by omega)]; omega) q) (fun j hj ej => absurd (by rw [ej, t_n (by omega)]; omega) q) (fun _ => tl_z gu_eq (fun z => absurd z (by decide)) (Or.inl rfl) (KS _ (A2 _))))⟩)
    · rintro _ rfl
      subst ej
      have hj2 : (nI j).toInt = j := t_n (by omega)
      have h4 := hG.2.2.2.1
      rw [nI_clamp0]
      have fin : ∀ j', j' < P → nI j = nI j' → k23 (x4 + 6) (gu (gu (gu (gu (gu (gu σ 25 j 0) 33 0 (-2)) 34 0 (-2)) 110 0 1) 63 0 0) 70 j' 0) := fun j' hj' ej' => by
        have := nI_inj ej' (by omega) (by omega)
        subst this
        have hA : ag (fun k => kG k ∨ scr k) σ (gu (gu (gu (gu (gu (gu σ 25 j 0) 33 0 (-2)) 34 0 (-2)) 110 0 1) 63 0 0) 70 j 0) := by repeat (first | exact ag_rf | refine ag_gu' (by simp [scr, kG]) ?_)
        refine K _ ⟨P, W, fr, tt, ln, wd, hG.re (fun k hk => ?_) (fun p hp => ?_) (fun p hp => ?_), Or.inl ?_, Or.inl ?_⟩ hA (WX.same ?_ ?_)
        · rw [gu_ne (by omega), gu_ne (by omega), gu_ne (by omega), gu_ne (by omega), gu_ne (by omega), gu_ne (by omega)]
        · have := hG.2.2.2.1 p hp
          simp only [Nat.add_one_sub_one, forall_eq, true_and, and_true, true_implies, not_true_eq_false, not_false_eq_true, false_implies, implies_true, ne_eq, Nat.reduceEqDiff, Nat.reduceAdd, Nat.reduceMul, Nat.reduceLT, Nat.reduceLeDiff, and_self, gu_eq, gu_ne, gu_ne2, gu_at]
          refine ⟨this.1, this.2.1, ?_⟩
          split
          · exact ⟨rfl, hv⟩
          · exact this.2.2
        · have := hG.2.2.2.2.1 p hp
          simp only [Nat.add_one_sub_one, forall_eq, true_and, and_true, true_implies, not_true_eq_false, not_false_eq_true, false_implies, implies_true, ne_eq, Nat.reduceEqDiff, Nat.reduceAdd, Nat.reduceMul, Nat.reduceLT, Nat.reduceLeDiff, and_self, gu_eq, gu_ne, gu_ne2]
          exact this
        · simp only [Nat.add_one_sub_one, forall_eq, true_and, and_true, true_implies, not_true_eq_false, not_false_eq_true, false_implies, implies_true, ne_eq, Nat.reduceEqDiff, Nat.reduceAdd, Nat.reduceMul, Nat.reduceLT, Nat.reduceLeDiff, and_self, gu_eq, gu_ne, gu_ne2]
        · simp only [Nat.add_one_sub_one, forall_eq, true_and, and_true, true_implies, not_true_eq_false, not_false_eq_true, false_implies, implies_true, ne_eq, Nat.reduceEqDiff, Nat.reduceAdd, Nat.reduceMul, Nat.reduceLT, Nat.reduceLeDiff, and_self, gu_eq, gu_ne, gu_ne2]
        · simp only [Nat.add_one_sub_one, forall_eq, true_and, and_true, true_implies, not_true_eq_false, not_false_eq_true, false_implies, implies_true, ne_eq, Nat.reduceEqDiff, Nat.reduceAdd, Nat.reduceMul, Nat.reduceLT, Nat.reduceLeDiff, and_self, gu_eq, gu_ne, gu_ne2]
        · simp only [Nat.add_one_sub_one, forall_eq, true_and, and_true, true_implies, not_true_eq_false, not_false_eq_true, false_implies, implies_true, ne_eq, Nat.reduceEqDiff, Nat.reduceAdd, Nat.reduceMul, Nat.reduceLT, Nat.reduceLeDiff, and_self, gu_eq, gu_ne, gu_ne2]
      refine ⟨h1, h2, q_T c (m_shut hP (by simp only [Nat.add_one_sub_one, forall_eq, true_and, and_true, true_implies, not_true_eq_false, not_false_eq_true, false_implies, implies_true, ne_eq, Nat.reduceEqDiff, Nat.reduceAdd, Nat.reduceMul, Nat.reduceLT, Nat.reduceLeDiff, and_self, gu_eq, gu_ne, gu_ne2]; exact e71) hv (fun j' hj' ej' _ => tl_z ?_ (fun _ => ?_) (Or.inr rfl) (fin j' hj' ej')) (fun j' hj' ej' he => absurd ?_ hne) (fun q => absurd (by omega) q))⟩
      · simp only [Nat.add_one_sub_one, forall_eq, true_and, and_true, true_implies, not_true_eq_false, not_false_eq_true, false_implies, implies_true, ne_eq, Nat.reduceEqDiff, Nat.reduceAdd, Nat.reduceMul, Nat.reduceLT, Nat.reduceLeDiff, and_self, gu_eq, gu_ne, gu_ne2]
      · simp only [Nat.add_one_sub_one, forall_eq, true_and, and_true, true_implies, not_true_eq_false, not_false_eq_true, false_implies, implies_true, ne_eq, Nat.reduceEqDiff, Nat.reduceAdd, Nat.reduceMul, Nat.reduceLT, Nat.reduceLeDiff, and_self, gu_eq, gu_ne, gu_ne2]
      · have := nI_inj ej' (by omega) (by omega)
        subst this
        rw [← (h4 j (by omega)).2.2.1, ← he]
        simp only [Nat.add_one_sub_one, forall_eq, true_and, and_true, true_implies, not_true_eq_false, not_false_eq_true, false_implies, implies_true, ne_eq, Nat.reduceEqDiff, Nat.reduceAdd, Nat.reduceMul, Nat.reduceLT, Nat.reduceLeDiff, and_self, gu_eq, gu_ne, gu_ne2]
    · rintro _ rfl
      subst ej
      have hj2 : (nI j).toInt = j := t_n (by omega)
      have h4 := hG.2.2.2.1
      rw [nI_clamp0]
      refine ⟨h1, h2, q_T c (m_shut hP (by simp only [Nat.add_one_sub_one, forall_eq, true_and, and_true, true_implies, not_true_eq_false, not_false_eq_true, false_implies, implies_true, ne_eq, Nat.reduceEqDiff, Nat.reduceAdd, Nat.reduceMul, Nat.reduceLT, Nat.reduceLeDiff, and_self, gu_eq, gu_ne, gu_ne2]; exact e71) hv (fun j' hj' ej' he => absurd ?_ he) (fun j' hj' ej' _ => tl_z ?_ (fun _ => ?_) (Or.inl rfl) ?_) (fun q => absurd (by omega) q))⟩
      · have := nI_inj ej' (by omega) (by omega)
        subst this
        simp only [Nat.add_one_sub_one, forall_eq, true_and, and_true, true_implies, not_true_eq_false, not_false_eq_true, false_implies, implies_true, ne_eq, Nat.reduceEqDiff, Nat.reduceAdd, Nat.reduceMul, Nat.reduceLT, Nat.reduceLeDiff, and_self, gu_eq, gu_ne, gu_ne2]
        rw [(h4 j (by omega)).2.2.1]; exact heq
      · simp only [Nat.add_one_sub_one, forall_eq, true_and, and_true, true_implies, not_true_eq_false, not_false_eq_true, false_implies, implies_true, ne_eq, Nat.reduceEqDiff, Nat.reduceAdd, Nat.reduceMul, Nat.reduceLT, Nat.reduceLeDiff, and_self, gu_eq, gu_ne, gu_ne2]
      · simp only [Nat.add_one_sub_one, forall_eq, true_and, and_true, true_implies, not_true_eq_false, not_false_eq_true, false_implies, implies_true, ne_eq, Nat.reduceEqDiff, Nat.reduceAdd, Nat.reduceMul, Nat.reduceLT, Nat.reduceLeDiff, and_self, gu_eq, gu_ne, gu_ne2]
      · have := nI_inj ej' (by omega) (by omega)
        subst this
        have hz : gu (gu (gu σ 110 0 0) 63 0 0) 70 j 0 = gu (gu σ 110 0 0) 63 0 0 := by
          funext k i
          by_cases hk : k = 70
          · subst hk
            rw [gu_at]
            split
            · rename_i hi
              subst hi
              rw [gu_ne (by omega), gu_ne (by omega), (h4 i (by omega)).2.2.1]; exact heq.symm
            · rfl
          · rw [gu_ne hk]
        rw [hz]
        exact KS _ (ag_gu' s63 (ag_gu' s110 ag_rf))
  · have hv : (1 : Int32) = 0 ∨ (1 : Int32) = 1 := Or.inr rfl
    refine c_shut hP e26 hv (fun j hj ej hne => q_F (by decide) ?_) (fun j hj ej heq => q_T rfl ?_) (fun q => xx1 ⟨h1, h2, q_F c (m_shut hP e71 hv (fun j hj ej => absurd (by rw [ej, t_n (by omega)]; omega) q) (fun j hj ej => absurd (by rw [ej, t_n (by omega)]; omega) q) (fun _ => tl_z gu_eq (fun z => absurd z (by decide)) (Or.inl rfl) (KS _ (A2 _))))⟩)
    · rintro _ rfl
      subst ej
      have hj2 : (nI j).toInt = j := t_n (by omega)
      have h4 := hG.2.2.2.1
      rw [nI_clamp0]
      have fin : ∀ j', j' < P → nI j = nI j' → k23 (x4 + 6) (gu (gu (gu (gu (gu (gu σ 25 j 1) 33 0 (-2)) 34 0 (-2)) 110 0 1) 63 0 0) 70 j' 1) := fun j' hj' ej' => by
        have := nI_inj ej' (by omega) (by omega)
        subst this
        have hA : ag (fun k => kG k ∨ scr k) σ (gu (gu (gu (gu (gu (gu σ 25 j 1) 33 0 (-2)) 34 0 (-2)) 110 0 1) 63 0 0) 70 j 1) := by repeat (first | exact ag_rf | refine ag_gu' (by simp [scr, kG]) ?_)
        refine K _ ⟨P, W, fr, tt, ln, wd, hG.re (fun k hk => ?_) (fun p hp => ?_) (fun p hp => ?_), Or.inl ?_, Or.inl ?_⟩ hA (WX.same ?_ ?_)
        · rw [gu_ne (by omega), gu_ne (by omega), gu_ne (by omega), gu_ne (by omega), gu_ne (by omega), gu_ne (by omega)]
        · have := hG.2.2.2.1 p hp
          simp only [Nat.add_one_sub_one, forall_eq, true_and, and_true, true_implies, not_true_eq_false, not_false_eq_true, false_implies, implies_true, ne_eq, Nat.reduceEqDiff, Nat.reduceAdd, Nat.reduceMul, Nat.reduceLT, Nat.reduceLeDiff, and_self, gu_eq, gu_ne, gu_ne2, gu_at]
          refine ⟨this.1, this.2.1, ?_⟩
          split
          · exact ⟨rfl, hv⟩
          · exact this.2.2
        · have := hG.2.2.2.2.1 p hp
          simp only [Nat.add_one_sub_one, forall_eq, true_and, and_true, true_implies, not_true_eq_false, not_false_eq_true, false_implies, implies_true, ne_eq, Nat.reduceEqDiff, Nat.reduceAdd, Nat.reduceMul, Nat.reduceLT, Nat.reduceLeDiff, and_self, gu_eq, gu_ne, gu_ne2]
          exact this
        · simp only [Nat.add_one_sub_one, forall_eq, true_and, and_true, true_implies, not_true_eq_false, not_false_eq_true, false_implies, implies_true, ne_eq, Nat.reduceEqDiff, Nat.reduceAdd, Nat.reduceMul, Nat.reduceLT, Nat.reduceLeDiff, and_self, gu_eq, gu_ne, gu_ne2]
        · simp only [Nat.add_one_sub_one, forall_eq, true_and, and_true, true_implies, not_true_eq_false, not_false_eq_true, false_implies, implies_true, ne_eq, Nat.reduceEqDiff, Nat.reduceAdd, Nat.reduceMul, Nat.reduceLT, Nat.reduceLeDiff, and_self, gu_eq, gu_ne, gu_ne2]
        · simp only [Nat.add_one_sub_one, forall_eq, true_and, and_true, true_implies, not_true_eq_false, not_false_eq_true, false_implies, implies_true, ne_eq, Nat.reduceEqDiff, Nat.reduceAdd, Nat.reduceMul, Nat.reduceLT, Nat.reduceLeDiff, and_self, gu_eq, gu_ne, gu_ne2]
        · simp only [Nat.add_one_sub_one, forall_eq, true_and, and_true, true_implies, not_true_eq_false, not_false_eq_true, false_implies, implies_true, ne_eq, Nat.reduceEqDiff, Nat.reduceAdd, Nat.reduceMul, Nat.reduceLT, Nat.reduceLeDiff, and_self, gu_eq, gu_ne, gu_ne2]
      refine ⟨h1, h2, q_F c (m_shut hP (by simp only [Nat.add_one_sub_one, forall_eq, true_and, and_true, true_implies, not_true_eq_false, not_false_eq_true, false_implies, implies_true, ne_eq, Nat.reduceEqDiff, Nat.reduceAdd, Nat.reduceMul, Nat.reduceLT, Nat.reduceLeDiff, and_self, gu_eq, gu_ne, gu_ne2]; exact e71) hv (fun j' hj' ej' _ => tl_z ?_ (fun _ => ?_) (Or.inr rfl) (fin j' hj' ej')) (fun j' hj' ej' he => absurd ?_ hne) (fun q => absurd (by omega) q))⟩
      · simp only [Nat.add_one_sub_one, forall_eq, true_and, and_true, true_implies, not_true_eq_false, not_false_eq_true, false_implies, implies_true, ne_eq, Nat.reduceEqDiff, Nat.reduceAdd, Nat.reduceMul, Nat.reduceLT, Nat.reduceLeDiff, and_self, gu_eq, gu_ne, gu_ne2]
      · simp only [Nat.add_one_sub_one, forall_eq, true_and, and_true, true_implies, not_true_eq_false, not_false_eq_true, false_implies, implies_true, ne_eq, Nat.reduceEqDiff, Nat.reduceAdd, Nat.reduceMul, Nat.reduceLT, Nat.reduceLeDiff, and_self, gu_eq, gu_ne, gu_ne2]
      · have := nI_inj ej' (by omega) (by omega)
        subst this
        rw [← (h4 j (by omega)).2.2.1, ← he]
        simp only [Nat.add_one_sub_one, forall_eq, true_and, and_true, true_implies, not_true_eq_false, not_false_eq_true, false_implies, implies_true, ne_eq, Nat.reduceEqDiff, Nat.reduceAdd, Nat.reduceMul, Nat.reduceLT, Nat.reduceLeDiff, and_self, gu_eq, gu_ne, gu_ne2]
    · rintro _ rfl
      subst ej
      have hj2 : (nI j).toInt = j := t_n (by omega)
      have h4 := hG.2.2.2.1
      rw [nI_clamp0]
      refine ⟨h1, h2, q_F c (m_shut hP (by simp only [Nat.add_one_sub_one, forall_eq, true_and, and_true, true_implies, not_true_eq_false, not_false_eq_true, false_implies, implies_true, ne_eq, Nat.reduceEqDiff, Nat.reduceAdd, Nat.reduceMul, Nat.reduceLT, Nat.reduceLeDiff, and_self, gu_eq, gu_ne, gu_ne2]; exact e71) hv (fun j' hj' ej' he => absurd ?_ he) (fun j' hj' ej' _ => tl_z ?_ (fun _ => ?_) (Or.inl rfl) ?_) (fun q => absurd (by omega) q))⟩
      · have := nI_inj ej' (by omega) (by omega)
        subst this
        simp only [Nat.add_one_sub_one, forall_eq, true_and, and_true, true_implies, not_true_eq_false, not_false_eq_true, false_implies, implies_true, ne_eq, Nat.reduceEqDiff, Nat.reduceAdd, Nat.reduceMul, Nat.reduceLT, Nat.reduceLeDiff, and_self, gu_eq, gu_ne, gu_ne2]
        rw [(h4 j (by omega)).2.2.1]; exact heq
      · simp only [Nat.add_one_sub_one, forall_eq, true_and, and_true, true_implies, not_true_eq_false, not_false_eq_true, false_implies, implies_true, ne_eq, Nat.reduceEqDiff, Nat.reduceAdd, Nat.reduceMul, Nat.reduceLT, Nat.reduceLeDiff, and_self, gu_eq, gu_ne, gu_ne2]
      · simp only [Nat.add_one_sub_one, forall_eq, true_and, and_true, true_implies, not_true_eq_false, not_false_eq_true, false_implies, implies_true, ne_eq, Nat.reduceEqDiff, Nat.reduceAdd, Nat.reduceMul, Nat.reduceLT, Nat.reduceLeDiff, and_self, gu_eq, gu_ne, gu_ne2]
      · have := nI_inj ej' (by omega) (by omega)
        subst this
        have hz : gu (gu (gu σ 110 0 0) 63 0 0) 70 j 1 = gu (gu σ 110 0 0) 63 0 0 := by
          funext k i
          by_cases hk : k = 70
          · subst hk
            rw [gu_at]
            split
            · rename_i hi
              subst hi
              rw [gu_ne (by omega), gu_ne (by omega), (h4 i (by omega)).2.2.1]; exact heq.symm
            · rfl
          · rw [gu_ne hk]
        rw [hz]
        exact KS _ (ag_gu' s63 (ag_gu' s110 ag_rf))
end PGR3
