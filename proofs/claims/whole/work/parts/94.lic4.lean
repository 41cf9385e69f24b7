/-! THE LICENCE: one term of the model -/
def mR (Q : Int32 → gS → Prop) (x2 : Int32) (s19 : gS) : Prop :=
  w_X9_word  (fun (s22 : gS) => w_X9_isWord  (fun (r25 : Int32) (s24 : gS) => (r25 = 0 → Q 0 s24) ∧ (¬ r25 = 0 → w_X9_number  (fun (r28 : Int32) (s27 : gS) => (¬ r28 = 0 → w_X9_word  (fun (s30 : gS) => w_X9_isWord  (fun (r33 : Int32) (s32 : gS) => (r33 = 0 → w_X9_readTerm_249 Q s32) ∧ (¬ r33 = 0 → vp_in (x2 + 2) 48 ∧ w_X9_number  (fun (r37 : Int32) (s36 : gS) => (r37 = 0 → w_X9_readTerm_249 Q s36) ∧ (¬ r37 = 0 → Q 1 s36)) s32 (x2 + 3) (s32 100 (x2 + 2).toNatClampNeg) 23)) 13 s30) s27) ∧ (r28 = 0 → Q 0 s27)) s24 (x2 + 2) 0 23)) 12 s22) s19
section LIC4
variable {B : Nat → Int32} {n : Nat} {σ : gS}
theorem k57_ag {s s' : gS} (h : ag k57 s s') : ag kLi s s' := ag_mono h (fun _ hk => k57_L hk)
theorem MX.ag {s : gS} (h : MX B n σ) (a : ag kLi σ s) : MX B n s := h.re (a 103 (by unfold kLi; omega)) (a 106 (by unfold kLi; omega))
theorem m_91 {Q : Int32 → gS → Prop} {kd e0 b1 e1 t : Nat} (hB : BT B n) (hM : MX B n σ) (e105 : σ 105 0 = nI e0) (hkd : kd < 5) (ht : t < 12) (N : Nm B n e0 b1 e1)
    (ok3 : kd ≠ 4 → nOK B b1 e1 0 (hiN kd) → ∀ s, ag kLi σ s → s 105 0 = nI e1 → (∀ j, s 100 j = if j = 4 * t + 1 then nI (vl B b1 (e1 - b1)) else if j = 4 * t then nI kd else σ 100 j) → Q 1 s)
    (ok4 : kd = 4 → nOK B b1 e1 0 (hiN kd) → ∀ s, ag kLi σ s → s 105 0 = nI e1 → (∀ j, s 100 j = if j = 4 * t + 1 then nI (vl B b1 (e1 - b1)) else if j = 4 * t then nI kd else σ 100 j) → mR Q (nI (4 * t)) s)
    (bad : ¬ nOK B b1 e1 0 (hiN kd) → ∀ s, ag kLi σ s → s 107 0 = nI b1 → Q 0 s) : w_X9_readTerm_91 Q (nI (4 * t)) (nI kd) (nI (4 * t)) σ := by
  unfold w_X9_readTerm_91
  refine ⟨vp_in_nI (by omega) (by omega), ?_⟩
  rintro _ rfl
  rw [nI_clamp (by omega), nI_1]
  have a0 : ag kLi σ (gu σ 100 (4 * t) (nI kd)) := ag_gu' (Or.inl rfl) ag_rf
  have hM0 := hM.ag a0
  have z5 : (gu σ 100 (4 * t) (nI kd)) 105 0 = nI e0 := by rw [gu_ne (by omega)]; exact e105
  have ez : (gu σ 100 (4 * t) (nI kd)) 100 (4 * t) = nI kd := gu_eq
  rw [ez]
  refine ⟨vp_in_nI (by omega) (by omega), ?_⟩
  have P : ∀ (Q' : Int32 → gS → Prop) (hi : Nat), hi = hiN kd → (nOK B b1 e1 0 (hiN kd) → ∀ s, ag kLi σ s → s 105 0 = nI e1 → (∀ j, s 100 j = if j = 4 * t + 1 then nI (vl B b1 (e1 - b1)) else if j = 4 * t then nI kd else σ 100 j) → Q' 1 s) → (¬ nOK B b1 e1 0 (hiN kd) → ∀ s, ag kLi σ s → s 107 0 = nI b1 → Q' 0 s) → w_X9_number Q' (gu σ 100 (4 * t) (nI kd)) (nI (4 * t + 1)) (nI 0) (nI hi) := by
    intro Q' hi e k1 k0
    subst e
    refine m_number hB hM0 z5 N.1 N.2.1 N.2.2 (by omega) (by omega) (hiN_lt kd) (fun q s a f g h => k1 q s (ag_tr a0 a) f (fun j => ?_)) (fun q s a g => k0 q s (ag_tr a0 a) g)
    rw [h j, gu_at]
  have S : kd ≠ 4 → ∀ (hi : Nat), hi = hiN kd → w_X9_number (fun (r8 : Int32) (s7 : gS) => gz r8 ∧ Q r8 s7) (gu σ 100 (4 * t) (nI kd)) (nI (4 * t + 1)) (nI 0) (nI hi) := fun h hi e =>
    P _ hi e (fun q s a f h2 => ⟨gz_1, ok3 h q s a f h2⟩) (fun q s a f => ⟨gz_0, bad q s a f⟩)
  have : kd = 0 ∨ kd = 1 ∨ kd = 2 ∨ kd = 3 ∨ kd = 4 := by omega
  rcases this with rfl | rfl | rfl | rfl | rfl
  · exact q_T rfl (S (by omega) 160000 rfl)
  · exact q_F (by decide) (q_T rfl (S (by omega) 40 rfl))
  · exact q_F (by decide) (q_F (by decide) (q_T rfl (S (by omega) 40 rfl)))
  · exact q_F (by decide) (q_F (by decide) (q_F (by decide) (q_T rfl (S (by omega) 60 rfl))))
  · refine q_F (by decide) (q_F (by decide) (q_F (by decide) (q_F (by decide) (q_T rfl (P _ 200 rfl (fun q s a f h2 => q_nF (by decide) (ok4 rfl q s a f h2)) (fun q s a f => q_nT rfl (bad q s a f)))))))
theorem m_RG {Q : Int32 → gS → Prop} {e1 f l e t : Nat} (hB : BT B n) (hM : MX B n σ) (e105 : σ 105 0 = nI e1) (ht : t < 12) (h : NG B n e1 f l e) (kk : ∀ s, ag kLi σ s → s 105 0 = nI e → (∀ j, s 100 j = if j = 4 * t + 3 then nI l else if j = 4 * t + 2 then nI f else σ 100 j) → Q 1 s) : mR Q (nI (4 * t)) σ := by
  obtain ⟨b2, e2, b3, e3, b4, e4, b5, W2, h5, N3, o3, rfl, W4, h6, N5, o5, rfl⟩ := h
  have hv3 : vl B b3 (e3 - b3) ≤ 23 := o3.2.2.2
  unfold mR
  refine m_word hB hM e105 W2.1 W2.2.1 W2.2.2 (fun s1 a1 f1 g1 => ?_)
  have hM1 := hM.ag (k57_ag a1)
  refine m_isWord (ti := 5) hB hM1 (by omega) f1 g1 W2.2.1 W2.2.2 (fun _ => q_F (by decide) ?_) (fun q => absurd h5 q)
  rw [show nI (4 * t) + 2 = nI (4 * t + 2) by rw [l_2, nI_add], show nI (4 * t) + 3 = nI (4 * t + 3) by rw [l_3, nI_add]]
  refine m_number (lo := 0) (hi := 23) hB hM1 f1 N3.1 N3.2.1 N3.2.2 (by omega) (by omega) (by omega) (fun _ s2 a2 f2 g2 r2 => q_nF (by decide) ?_) (fun q => absurd o3 q)
  have hM2 := hM1.ag a2
  refine m_word hB hM2 f2 W4.1 W4.2.1 W4.2.2 (fun s3 a3 f3 g3 => ?_)
  have hM3 := hM2.ag (k57_ag a3)
  refine m_isWord (ti := 6) hB hM3 (by omega) f3 g3 W4.2.1 W4.2.2 (fun _ => q_F (by decide) ⟨vp_in_nI (by omega) (by omega), ?_⟩) (fun q => absurd h6 q)
  rw [nI_clamp (by omega), a3 100 (by unfold k57; omega), r2 (4 * t + 2), if_pos rfl]
  refine m_number (hi := 23) hB hM3 f3 N5.1 N5.2.1 N5.2.2 (by omega) (by omega) (by omega) (fun _ s4 a4 f4 g4 r4 => q_F (by decide) (kk s4 (ag_tr (k57_ag a1) (ag_tr a2 (ag_tr (k57_ag a3) a4))) f4 (fun j => ?_))) (fun q => absurd o5 q)
  rw [r4 j, a3 100 (by unfold k57; omega), r2 j, a1 100 (by unfold k57; omega)]
theorem m_RB {Q : Int32 → gS → Prop} {e1 b t : Nat} (hB : BT B n) (hM : MX B n σ) (e105 : σ 105 0 = nI e1) (ht : t < 12) (h : NBd B n e1 b) (kk : ∀ s, ag kLi σ s → s 107 0 = nI b → Q 0 s) : mR Q (nI (4 * t)) σ := by
  unfold mR
  rcases h with ⟨e2, W2, n5⟩ | ⟨b2, e2, W2, h5, h⟩
  · refine m_word hB hM e105 W2.1 W2.2.1 W2.2.2 (fun s1 a1 f1 g1 => ?_)
    exact m_isWord (ti := 5) hB (hM.ag (k57_ag a1)) (by omega) f1 g1 W2.2.1 W2.2.2 (fun q => absurd q n5) (fun _ => q_T rfl (kk _ (k57_ag a1) g1))
  refine m_word hB hM e105 W2.1 W2.2.1 W2.2.2 (fun s1 a1 f1 g1 => ?_)
  have hM1 := hM.ag (k57_ag a1)
  refine m_isWord (ti := 5) hB hM1 (by omega) f1 g1 W2.2.1 W2.2.2 (fun _ => q_F (by decide) ?_) (fun q => absurd h5 q)
  rw [show nI (4 * t) + 2 = nI (4 * t + 2) by rw [l_2, nI_add], show nI (4 * t) + 3 = nI (4 * t + 3) by rw [l_3, nI_add]]
  rcases h with ⟨e3, N3, n3⟩ | ⟨b3, e3, N3, o3, h⟩
  · exact m_number (lo := 0) (hi := 23) hB hM1 f1 N3.1 N3.2.1 N3.2.2 (by omega) (by omega) (by omega) (fun q => absurd q n3) (fun _ s2 a2 g2 => q_nT rfl (kk _ (ag_tr (k57_ag a1) a2) g2))
  have hv3 : vl B b3 (e3 - b3) ≤ 23 := o3.2.2.2
  refine m_number (lo := 0) (hi := 23) hB hM1 f1 N3.1 N3.2.1 N3.2.2 (by omega) (by omega) (by omega) (fun _ s2 a2 f2 g2 r2 => q_nF (by decide) ?_) (fun q => absurd o3 q)
  have hM2 := hM1.ag a2
  rcases h with ⟨e4, W4, n6⟩ | ⟨b4, e4, W4, h6, e5, N5, n5⟩
  · refine m_word hB hM2 f2 W4.1 W4.2.1 W4.2.2 (fun s3 a3 f3 g3 => ?_)
    exact m_isWord (ti := 6) hB (hM2.ag (k57_ag a3)) (by omega) f3 g3 W4.2.1 W4.2.2 (fun q => absurd q n6) (fun _ => q_T rfl (kk _ (ag_tr (k57_ag a1) (ag_tr a2 (k57_ag a3))) g3))
  refine m_word hB hM2 f2 W4.1 W4.2.1 W4.2.2 (fun s3 a3 f3 g3 => ?_)
  have hM3 := hM2.ag (k57_ag a3)
  refine m_isWord (ti := 6) hB hM3 (by omega) f3 g3 W4.2.1 W4.2.2 (fun _ => q_F (by decide) ⟨vp_in_nI (by omega) (by omega), ?_⟩) (fun q => absurd h6 q)
  rw [nI_clamp (by omega), a3 100 (by unfold k57; omega), r2 (4 * t + 2), if_pos rfl]
  exact m_number (hi := 23) hB hM3 f3 N5.1 N5.2.1 N5.2.2 (by omega) (by omega) (by omega) (fun q => absurd q n5) (fun _ s4 a4 g4 => q_T rfl (kk s4 (ag_tr (k57_ag a1) (ag_tr a2 (ag_tr (k57_ag a3) a4))) g4))
theorem KD.uniq {b kd kd' : Nat} (h : KD B b kd) (h' : KD B b kd') : kd = kd' := by
  rcases Nat.lt_trichotomy kd kd' with c | c | c
  · exact absurd h.2.1 (h'.2.2 kd c)
  · exact c
  · exact absurd h'.2.1 (h.2.2 kd' c)
/-- from the word on -/
theorem m_kind {Q : Int32 → gS → Prop} {b0 e0 t : Nat} (hB : BT B n) (hM : MX B n σ) (e105 : σ 105 0 = nI e0) (e107 : σ 107 0 = nI b0) (w : Rn (isC B 97 122) b0 e0) (he : e0 ≤ n) (ht : t ≤ 12) (full : t = 12 → Q 0 σ) (yes : t < 12 → ∀ kd, KD B b0 kd → w_X9_readTerm_91 Q (nI (4 * t)) (nI kd) (nI (4 * t)) σ) (no : t < 12 → (∀ kd, kd < 5 → ¬ WH B b0 kd) → w_X9_readTerm_91 Q (nI (4 * t)) (-1) (nI (4 * t)) σ) : (¬ nI t = 12 → ∀ y42 : Int32, y42 = (4 * nI t) → w_X9_isWord  (fun (r44 : Int32) (s43 : gS) => (r44 = 0 → w_X9_isWord  (fun (r47 : Int32) (s46 : gS) => (r47 = 0 → w_X9_isWord  (fun (r50 : Int32) (s49 : gS) => (r50 = 0 → w_X9_isWord  (fun (r53 : Int32) (s52 : gS) => (r53 = 0 → w_X9_isWord  (fun (r56 : Int32) (s55 : gS) => (r56 = 0 → w_X9_readTerm_91 Q y42 (-1) y42 s55) ∧ (¬ r56 = 0 → w_X9_readTerm_91 Q y42 4 y42 s55)) 11 s52) ∧ (¬ r53 = 0 → w_X9_readTerm_91 Q y42 3 y42 s52)) 10 s49) ∧ (¬ r50 = 0 → w_X9_readTerm_91 Q y42 2 y42 s49)) 9 s46) ∧ (¬ r47 = 0 → w_X9_readTerm_91 Q y42 1 y42 s46)) 8 s43) ∧ (¬ r44 = 0 → w_X9_readTerm_91 Q y42 0 y42 s43)) 7 σ) ∧ (nI t = 12 → Q 0 σ) := by
  rw [l_12, nI_eq (by omega) (by omega)]
  refine ⟨fun c => ?_, fun c => full c⟩
  rintro _ rfl
  rw [show (4 : Int32) * nI t = nI (4 * t) by rw [l_4, pk_mul]]
  have Y := yes (by omega)
  refine m_isWord (ti := 0) hB hM (by omega) e105 e107 w he (fun q0 => q_F (by decide) (Y 0 ⟨by omega, q0, fun t h => by omega⟩)) (fun q0 => q_T rfl ?_)
  refine m_isWord (ti := 1) hB hM (by omega) e105 e107 w he (fun q1 => q_F (by decide) (Y 1 ⟨by omega, q1, fun t h => by rw [show t = 0 by omega]; exact q0⟩)) (fun q1 => q_T rfl ?_)
  refine m_isWord (ti := 2) hB hM (by omega) e105 e107 w he (fun q2 => q_F (by decide) (Y 2 ⟨by omega, q2, fun t h => ?_⟩)) (fun q2 => q_T rfl ?_)
  · have : t = 0 ∨ t = 1 := by omega
    rcases this with rfl | rfl
    · exact q0
    · exact q1
  refine m_isWord (ti := 3) hB hM (by omega) e105 e107 w he (fun q3 => q_F (by decide) (Y 3 ⟨by omega, q3, fun t h => ?_⟩)) (fun q3 => q_T rfl ?_)
  · have : t = 0 ∨ t = 1 ∨ t = 2 := by omega
    rcases this with rfl | rfl | rfl
    · exact q0
    · exact q1
    · exact q2
  refine m_isWord (ti := 4) hB hM (by omega) e105 e107 w he (fun q4 => q_F (by decide) (Y 4 ⟨by omega, q4, fun t h => ?_⟩)) (fun q4 => q_T rfl (no (by omega) (fun t h => ?_)))
  · have : t = 0 ∨ t = 1 ∨ t = 2 ∨ t = 3 := by omega
    rcases this with rfl | rfl | rfl | rfl
    · exact q0
    · exact q1
    · exact q2
    · exact q3
  · have : t = 0 ∨ t = 1 ∨ t = 2 ∨ t = 3 ∨ t = 4 := by omega
    rcases this with rfl | rfl | rfl | rfl | rfl
    · exact q0
    · exact q1
    · exact q2
    · exact q3
    · exact q4
theorem m_termG {Q : Int32 → gS → Prop} {i t kd v f l e : Nat} (hB : BT B n) (hM : MX B n σ) (e105 : σ 105 0 = nI i) (ht : t < 12) (h : TG B n i kd v f l e) (kk : ∀ s, ag kLi σ s → s 105 0 = nI e → s 100 (4 * t) = nI kd → s 100 (4 * t + 1) = nI v → (kd = 4 → s 100 (4 * t + 2) = nI f ∧ s 100 (4 * t + 3) = nI l) → (∀ j, j < 4 * t → s 100 j = σ 100 j) → Q 1 s) : w_X9_readTerm Q σ (nI t) := by
  obtain ⟨b0, e0, b1, e1, W0, K0, N1, o1, rfl, h⟩ := h
  unfold w_X9_readTerm
  refine m_word hB hM e105 W0.1 W0.2.1 W0.2.2 (fun s1 a1 f1 g1 => ?_)
  have hM1 := hM.ag (k57_ag a1)
  refine m_kind hB hM1 f1 g1 W0.2.1 W0.2.2 (by omega) (fun q => by omega) (fun _ kd' K' => ?_) (fun _ q => absurd K0.2.1 (q kd K0.1))
  have := K'.uniq K0
  subst this
  refine m_91 hB hM1 f1 K0.1 ht N1 (fun k4 _ s2 a2 f2 r2 => ?_) (fun k4 _ s2 a2 f2 r2 => ?_) (fun q => absurd o1 q)
  · rcases h with ⟨-, rfl, rfl, rfl⟩ | ⟨q, -⟩
    · refine kk s2 (ag_tr (k57_ag a1) a2) f2 (by rw [r2, if_neg (by omega), if_pos rfl]) (by rw [r2, if_pos rfl]) (fun q => absurd q k4) (fun j hj => ?_)
      rw [r2, if_neg (by omega), if_neg (by omega), a1 100 (by unfold k57; omega)]
    · exact absurd q k4
  · rcases h with ⟨q, -⟩ | ⟨-, h⟩
    · exact absurd k4 q
    · refine m_RG hB (hM1.ag a2) f2 ht h (fun s3 a3 f3 r3 => kk s3 (ag_tr (k57_ag a1) (ag_tr a2 a3)) f3 ?_ ?_ (fun _ => ⟨?_, ?_⟩) (fun j hj => ?_))
      · rw [r3, if_neg (by omega), if_neg (by omega), r2, if_neg (by omega), if_pos rfl]
      · rw [r3, if_neg (by omega), if_neg (by omega), r2, if_pos rfl]
      · rw [r3, if_neg (by omega), if_pos rfl]
      · rw [r3, if_pos rfl]
      · rw [r3, if_neg (by omega), if_neg (by omega), r2, if_neg (by omega), if_neg (by omega), a1 100 (by unfold k57; omega)]
theorem m_termB {Q : Int32 → gS → Prop} {i t b : Nat} (hB : BT B n) (hM : MX B n σ) (e105 : σ 105 0 = nI i) (ht : t ≤ 12) (h : TB B n i t b) (kk : ∀ s, ag kLi σ s → s 107 0 = nI b → Q 0 s) : w_X9_readTerm Q σ (nI t) := by
  unfold w_X9_readTerm
  rcases h with ⟨e0, W0, h⟩ | ⟨kd, b0, e0, ht2, W0, K0, h⟩
  · refine m_word hB hM e105 W0.1 W0.2.1 W0.2.2 (fun s1 a1 f1 g1 => ?_)
    have hM1 := hM.ag (k57_ag a1)
    refine m_kind hB hM1 f1 g1 W0.2.1 W0.2.2 ht (fun q => kk _ (k57_ag a1) g1) (fun t12 kd' K' => ?_) (fun t12 q => ?_)
    · rcases h with h | h
      · omega
      · exact absurd K'.2.1 (h kd' K'.1)
    · unfold w_X9_readTerm_91
      refine ⟨vp_in_nI (by omega) (by omega), ?_⟩
      rintro _ rfl
      rw [nI_clamp (by omega), gu_eq]
      exact ⟨vp_in_nI (by omega) (by omega), q_F (by decide) (q_F (by decide) (q_F (by decide) (q_F (by decide) (q_F (by decide) (kk _ (ag_gu' (Or.inl rfl) (k57_ag a1)) (by rw [gu_ne (by omega)]; exact g1))))))⟩
  · refine m_word hB hM e105 W0.1 W0.2.1 W0.2.2 (fun s1 a1 f1 g1 => ?_)
    have hM1 := hM.ag (k57_ag a1)
    refine m_kind hB hM1 f1 g1 W0.2.1 W0.2.2 ht (fun q => by omega) (fun _ kd' K' => ?_) (fun _ q => absurd K0.2.1 (q kd K0.1))
    have := K'.uniq K0
    subst this
    rcases h with ⟨e1, N1, n1⟩ | ⟨k4, b1, e1, N1, o1, h⟩
    · exact m_91 hB hM1 f1 K0.1 ht2 N1 (fun _ q => absurd q n1) (fun _ q => absurd q n1) (fun _ s2 a2 g2 => kk s2 (ag_tr (k57_ag a1) a2) g2)
    · exact m_91 hB hM1 f1 K0.1 ht2 N1 (fun q => absurd k4 q) (fun _ _ s2 a2 f2 _ => m_RB hB (hM1.ag a2) f2 ht2 h (fun s3 a3 g3 => kk s3 (ag_tr (k57_ag a1) (ag_tr a2 a3)) g3)) (fun q => absurd o1 q)
end LIC4
