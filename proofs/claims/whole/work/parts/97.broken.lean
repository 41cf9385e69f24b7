/-! BROKEN: a term holds in the class just where it does in the model -/
def HB (s : gS) (k : Nat) (r : Int32) : Prop := ∀ (s' : gS) (Q' : Int32 → gS → Prop), ag kK s s' → RG s' → (∀ s'', ag kX s' s'' → Q' r s'') → w_X9_holds Q' s' (nI k)
theorem kK_M {σ s : gS} (h : RM σ) (a : ag kK σ s) : RM s := h.cong (fun k hk => a k (by unfold kM at hk; unfold kK scr; omega))
theorem kK_N {σ s : gS} (h : RN σ) (a : ag kK σ s) : RN s := h.cong (fun k hk => a k (by unfold kN at hk; unfold kK scr; omega))
section BROKEN
variable {σ : gS}
theorem p_standing {Q : Int32 → gS → Prop} {t : Nat} (ht : t ≤ 60) (e66 : σ 66 0 = nI t) (h : ∀ i, i < 60 → σ 65 i = 0 ∨ σ 65 i = 1) (kk : Q (nI (fcnt (fun i => decide (σ 65 i = 1)) t)) σ) : w_X9_standing Q σ := by
  have key : ∀ (d i : Nat) (x : Int32), i + d = t → x = nI (fcnt (fun i => decide (σ 65 i = 1)) i) → w_X9_standing_4 Q (d + 1) x (nI i) σ := by
    intro d
    induction d with
    | zero =>
      intro i x hd hx
      have : i = t := by omega
      subst this
      unfold w_X9_standing_4
      rw [e66, hx]
      exact q_T (nI_le (by omega) (by omega)) kk
    | succ d ih =>
      intro i x hd hx
      unfold w_X9_standing_4 w_X9_standing_27
      rw [e66, nI_leI (by omega) (by omega), nI_clamp (by omega)]
      refine q_F (by omega) ⟨vp_in_nI (by omega) (by omega), fun c => ?_, fun c => ?_⟩
      · rintro _ rfl _ rfl
        rw [nI_1]
        refine ih (i + 1) _ (by omega) ?_
        rw [fcnt_F (p := fun i => decide (σ 65 i = 1)) (n := i) (by rw [c]; decide), hx, Int32.add_zero]
      · rintro _ rfl _ rfl
        rw [nI_1]
        refine ih (i + 1) _ (by omega) ?_
        rw [fcnt_T (p := fun i => decide (σ 65 i = 1)) (n := i) (by rw [(h i (by omega)).resolve_left c]; decide), hx, nI_1]
  unfold w_X9_standing
  have := key t 0 (nI 0) (by omega) rfl
  rw [nI_0] at this
  exact ⟨_, this⟩
theorem p_quiet {Q : Int32 → gS → Prop} {f l v : Nat} (hf : f ≤ 23) (hl : l ≤ 23) (t : (∀ h, f ≤ h → h ≤ l → σ 10 h ≤ nI v) → Q 1 σ) (n : ¬ (∀ h, f ≤ h → h ≤ l → σ 10 h ≤ nI v) → Q 0 σ) : w_X8_isQuiet Q σ (nI f) (nI l) (nI v) := by
  have key : ∀ (d h : Nat), h + d = 25 → f ≤ h → h ≤ 24 → (∀ x, f ≤ x → x < h → x ≤ l → σ 10 x ≤ nI v) → w_X8_isQuiet_3 Q d (nI l) (nI v) (nI h) σ := by
    intro d
    induction d with
    | zero => intro h h1 h2 h3; omega
    | succ d ih =>
      intro h hd hfh hh H
      unfold w_X8_isQuiet_3
      rw [nI_ltI (by omega) (by omega), l_24, nI_leI (by omega) (by omega)]
      refine ⟨fun c => t (fun x h1 h2 => H x h1 (by omega) h2), fun c => q_F (by omega) ⟨vp_in_nI (by omega) (by omega), ?_⟩⟩
      rw [nI_clamp (by omega)]
      refine ⟨fun c2 => ?_, fun c2 => n (fun q => c2 (q h hfh (by omega)))⟩
      rintro _ rfl
      rw [nI_1]
      refine ih (h + 1) (by omega) (by omega) (by omega) (fun x h1 h2 h3 => ?_)
      by_cases e : x = h
      · rw [e]; exact c2
      · exact H x h1 (by omega) h3
  unfold w_X8_isQuiet
  exact ⟨_, key (25 - f) f (by omega) (Nat.le_refl _) (by omega) (fun x h1 h2 => by omega)⟩
theorem m_quiet {Q : Int32 → gS → Prop} {f l v k : Nat} (hf : f ≤ 23) (hl : l ≤ 23) (hk : k < 12) (e3 : σ 99 (4 * k + 3) = nI l) (t : (∀ h, f ≤ h → h ≤ l → σ 102 h ≤ nI v) → Q 1 σ) (n : ¬ (∀ h, f ≤ h → h ≤ l → σ 102 h ≤ nI v) → Q 0 σ) : ∃ n111, w_X9_holds_111 Q n111 (nI k) (nI v) 1 (nI f) σ := by
  have e4 : (4 : Int32) * nI k + 3 = nI (4 * k + 3) := by rw [l_4, pk_mul, l_3, nI_add]
  have no : ∀ (d h : Nat), h + d = 25 → ¬ (∀ h, f ≤ h → h ≤ l → σ 102 h ≤ nI v) → w_X9_holds_111 Q (d + 1) (nI k) (nI v) 0 (nI h) σ := by
    intro d
    induction d with
    | zero =>
      intro h hd q
      unfold w_X9_holds_111
      rw [e4, nI_clamp (by omega), e3, nI_ltI (by omega) (by omega)]
      exact ⟨vp_in_nI (by omega) (by omega), q_T (by omega) ⟨gz_0, n q⟩⟩
    | succ d ih =>
      intro h hd q
      unfold w_X9_holds_111 w_X9_holds_145
      rw [e4, nI_clamp (by omega), e3, nI_ltI (by omega) (by omega)]
      refine ⟨vp_in_nI (by omega) (by omega), fun _ => ⟨gz_0, n q⟩, fun _ => q_T rfl ?_⟩
      rintro _ rfl
      rw [nI_1]
      exact ih (h + 1) (by omega) q
  have key : ∀ (d h : Nat), h + d = 25 → f ≤ h → h ≤ 24 → (∀ x, f ≤ x → x < h → x ≤ l → σ 102 x ≤ nI v) → w_X9_holds_111 Q (d + 1) (nI k) (nI v) 1 (nI h) σ := by
    intro d
    induction d with
    | zero => intro h h1 h2 h3; omega
    | succ d ih =>
      intro h hd hfh hh H
      unfold w_X9_holds_111 w_X9_holds_145
      rw [e4, nI_clamp (by omega), e3, nI_ltI (by omega) (by omega)]
      refine ⟨vp_in_nI (by omega) (by omega), fun c => ⟨gz_1, t (fun x h1 h2 => H x h1 (by omega) h2)⟩, fun c => q_F (by decide) ⟨vp_in_nI (by omega) (by omega), ?_⟩⟩
      rw [nI_clamp (by omega)]
      refine ⟨fun c2 => ?_, fun c2 => ?_⟩
      · rintro _ rfl
        rw [nI_1]
        refine no d (h + 1) (by omega) (fun q => ?_)
        have := q h hfh (by omega)
        rw [i_le] at this
        rw [i_lt] at c2
        omega
      · rintro _ rfl
        rw [nI_1]
        refine ih (h + 1) (by omega) (by omega) (by omega) (fun x h1 h2 h3 => ?_)
        by_cases e : x = h
        · rw [e, i_le]
          rw [i_lt] at c2
          omega
        · exact H x h1 (by omega) h3
  exact ⟨_, key (25 - f) f (by omega) (Nat.le_refl _) (by omega) (fun x h1 h2 => by omega)⟩
theorem m_hold {Q' : Int32 → gS → Prop} {k kd v : Nat} (hk : k < 12) (hkd : kd < 5) (e0 : σ 99 (4 * k) = nI kd) (e1 : σ 99 (4 * k + 1) = nI v)
    (c0 : kd = 0 → w_X9_crowdOfAll  (fun (r18 : Int32) (s17 : gS) => (nI v < r18 → Q' 0 s17) ∧ (¬ nI v < r18 → Q' 1 s17)) σ)
    (c1 : kd = 1 → w_X9_emptied  (fun (r22 : Int32) (s21 : gS) => w_X9_in  (fun (r24 : Int32) (s23 : gS) => gz r24 ∧ Q' r24 s23) s21 r22 0 (nI v)) σ (-1))
    (c2 : kd = 2 → w_X9_worstOf  (fun (r27 : Int32) (s26 : gS) => w_X9_in  (fun (r29 : Int32) (s28 : gS) => gz r29 ∧ Q' r29 s28) s26 r27 0 (nI v)) σ)
    (c3 : kd = 3 → w_X9_standing  (fun (r32 : Int32) (s31 : gS) => (nI v < r32 → Q' 0 s31) ∧ (¬ nI v < r32 → Q' 1 s31)) σ)
    (c4 : kd = 4 → ∃ n111, w_X9_holds_111 Q' n111 (nI k) (nI v) 1 (σ 99 (4 * k + 2)) σ) : w_X9_holds Q' σ (nI k) := by
  unfold w_X9_holds
  rw [show (4 : Int32) * nI k = nI (4 * k) by rw [l_4, pk_mul], nI_1, nI_clamp (by omega), nI_clamp (by omega), e0, e1]
  refine ⟨vp_in_nI (by omega) (by omega), ?_⟩
  rintro _ rfl
  refine ⟨vp_in_nI (by omega) (by omega), ?_⟩
  have : kd = 0 ∨ kd = 1 ∨ kd = 2 ∨ kd = 3 ∨ kd = 4 := by omega
  rcases this with rfl | rfl | rfl | rfl | rfl
  · exact q_T rfl (c0 rfl)
  · exact q_F (by decide) (q_T rfl (c1 rfl))
  · exact q_F (by decide) (q_F (by decide) (q_T rfl (c2 rfl)))
  · exact q_F (by decide) (q_F (by decide) (q_F (by decide) (q_T rfl (c3 rfl))))
  · rw [show nI (4 * k) + 2 = nI (4 * k + 2) by rw [l_2, nI_add], nI_clamp (by omega)]
    refine q_F (by decide) (q_F (by decide) (q_F (by decide) (q_F (by decide) ⟨vp_in_nI (by omega) (by omega), ?_⟩)))
    rintro _ rfl
    exact c4 rfl
theorem p_hold {Q : Int32 → gS → Prop} {j k kd v f l : Nat} (hk : k < 12) (hkd : kd < 5) (ej : gtj (σ 11 0) = j) (e0 : σ (gtk j + 0) k = nI kd) (e1 : σ (gtk j + 1) k = nI v) (e2 : kd = 4 → σ (gtk j + 2) k = nI f ∧ σ (gtk j + 3) k = nI l)
    (c0 : kd = 0 → w_X2_allCrowd  (fun (r10 : Int32) (s9 : gS) => (nI v < r10 → Q 0 s9) ∧ (¬ nI v < r10 → Q 1 s9)) σ)
    (c1 : kd = 1 → w_X2_leastMinutes  (fun (r14 : Int32) (s13 : gS) => w_X8_isAtMost  (fun (r16 : Int32) (s15 : gS) => gz r16 ∧ Q r16 s15) s13 r14 (nI v)) σ)
    (c2 : kd = 2 → w_X2_worstMinutes  (fun (r19 : Int32) (s18 : gS) => w_X8_isAtMost  (fun (r21 : Int32) (s20 : gS) => gz r21 ∧ Q r21 s20) s18 r19 (nI v)) σ)
    (c3 : kd = 3 → (nI v < (σ 22 0) → Q 0 σ) ∧ (¬ nI v < (σ 22 0) → Q 1 σ))
    (c4 : kd = 4 → w_X8_isQuiet  (fun (r27 : Int32) (s26 : gS) => gz r27 ∧ Q r27 s26) σ (nI f) (nI l) (nI v)) : w_X8_holds Q σ (nI k) := by
  unfold w_X8_holds
  rw [ej, nI_clamp (by omega), e0, e1]
  have V : vp_in (nI k) 12 := vp_in_nI (by omega) (by omega)
  refine ⟨V, ?_⟩
  rintro _ rfl
  refine ⟨V, ?_⟩
  have : kd = 0 ∨ kd = 1 ∨ kd = 2 ∨ kd = 3 ∨ kd = 4 := by omega
  rcases this with rfl | rfl | rfl | rfl | rfl
  · exact q_T rfl (c0 rfl)
  · exact q_F (by decide) (q_T rfl (c1 rfl))
  · exact q_F (by decide) (q_F (by decide) (q_T rfl (c2 rfl)))
  · exact q_F (by decide) (q_F (by decide) (q_F (by decide) (q_T rfl (c3 rfl))))
  · rw [(e2 rfl).1, (e2 rfl).2]
    exact q_F (by decide) (q_F (by decide) (q_F (by decide) (q_F (by decide) ⟨V, V, c4 rfl⟩)))
theorem p_atMost {Q : Int32 → gS → Prop} {r a : Int32} (hr : -1 ≤ r.toInt) (t : 0 ≤ r.toInt ∧ r.toInt ≤ a.toInt → Q 1 σ) (n : ¬ (0 ≤ r.toInt ∧ r.toInt ≤ a.toInt) → Q 0 σ) : w_X8_isAtMost Q σ r a := by
  unfold w_X8_isAtMost w_X8_isAtMost_14
  refine q_eq (fun c => n ?_) (fun c => q_lt (fun c2 => n ?_) (fun c2 => t ?_))
  · rw [t_m1] at c; omega
  · omega
  · rw [t_m1] at c; omega
/-- what the sum of crowds is in both -/
theorem RG.crowds (h : RG σ) : ∃ P, P ≤ 8 ∧ σ 26 0 = nI P ∧ σ 71 0 = nI P ∧ (∀ p, p < P → 0 ≤ (σ 23 p).toInt ∧ (σ 23 p).toInt ≤ 20000) ∧ (∀ p, p < P → σ 68 p = σ 23 p) := by
  obtain ⟨P, W, fr, tt, ln, wd, hG, h33, h34⟩ := h
  obtain ⟨a1, a2, a3, a4, a5, a6, a7, a8⟩ := hG
  have hP := a1.1.1
  have e26 : σ 26 0 = nI P := by have := a1.1.2.2.2; rw [gu_ne (by omega)] at this; exact this
  exact ⟨P, hP, e26, a2.1.2.2.1, fun p hp => (a5 p (by omega)).1, fun p hp => (a4 p (by omega)).1⟩
theorem p_crowdsB {Q : Int32 → gS → Prop} (hG : RG σ) (kk : ∀ r, (∀ (s' : gS) (Q' : Int32 → gS → Prop), ag kK σ s' → Q' r s' → w_X9_crowdOfAll Q' s') → Q r σ) : w_X2_allCrowd Q σ := by
  obtain ⟨P, hP, e26, e71, hc, he⟩ := hG.crowds
  refine p_allCrowd hP e26 hc (fun r hr => kk r (fun s' Q' a k => ?_))
  have b71 : s' 71 = σ 71 := a 71 (by unfold kK scr; omega)
  have b68 : s' 68 = σ 68 := a 68 (by unfold kK scr; omega)
  refine p_crowdOfAll hP (by rw [b71]; exact e71) (fun p hp => by rw [b68, he p hp]; exact hc p hp) (fun r2 hr2 => ?_)
  have : r2 = r := i_eq.mpr (by
    rw [hr2, hr, b68]
    exact fsum_cong (fun p hp => by rw [he p hp]))
  rw [this]; exact k
theorem p_holdsB {Q : Int32 → gS → Prop} {k T j : Nat} (hN : RN σ) (hM : RM σ) (hG : RG σ) (hT : T ≤ 12) (ej : gtj (σ 11 0) = j) (hD : DM j T 99 σ σ) (hk : k < T) (kk : ∀ r s, (r = 0 ∨ r = 1) → ag kK σ s → RG s → HB s k r → Q r s) : w_X8_holds Q σ (nI k) := by
  obtain ⟨kd, v, f, l, h1, h2, h3, h4, h5, h6, h7⟩ := hD k hk
  have hk12 : k < 12 := by omega
  have hv : v < 2 ^ 31 := by omega
  have r99 : ∀ {s s' : gS}, ag kK σ s → ag kK s s' → s' 99 = σ 99 := fun a b => by rw [b 99 (by unfold kK scr; omega), a 99 (by unfold kK scr; omega)]
  have rfl' : ag kK σ σ := ag_rf
  refine p_hold (f := f) (l := l) hk12 h1 ej h3 h4 (fun q => ⟨(h7 q).2.2.1, (h7 q).2.2.2.1⟩) (fun q => ?_) (fun q => ?_) (fun q => ?_) (fun q => ?_) (fun q => ?_)
  · refine p_crowdsB hG (fun r m => ?_)
    have C : ∀ (s' : gS) (Q' : Int32 → gS → Prop), ag kK σ s' → ((nI v < r → Q' 0 s') ∧ (¬ nI v < r → Q' 1 s')) → w_X9_holds Q' s' (nI k) := fun s' Q' a' h => by
      have e99 := r99 rfl' a'
      exact m_hold hk12 h1 (by rw [e99]; exact h5) (by rw [e99]; exact h6) (fun _ => m s' _ a' h) (fun q' => by omega) (fun q' => by omega) (fun q' => by omega) (fun q' => by omega)
    exact ⟨fun c => kk 0 σ (Or.inl rfl) rfl' hG (fun s' Q' a' R' k' => C s' Q' a' (q_T c (k' s' ag_rf))), fun c => kk 1 σ (Or.inr rfl) rfl' hG (fun s' Q' a' R' k' => C s' Q' a' (q_F c (k' s' ag_rf)))⟩
  · refine p_leastB hG (fun r s ha Rs hm hr => ?_)
    have C : ∀ (s' : gS) (Q' : Int32 → gS → Prop), ag kK s s' → RG s' → (∀ s'', ag kX s' s'' → w_X9_in  (fun (r24 : Int32) (s23 : gS) => gz r24 ∧ Q' r24 s23) s'' r 0 (nI v)) → w_X9_holds Q' s' (nI k) := fun s' Q' a' R' h => by
      have e99 := r99 ha a'
      exact m_hold hk12 h1 (by rw [e99]; exact h5) (by rw [e99]; exact h6) (fun q' => by omega) (fun _ => hm s' _ a' R' h) (fun q' => by omega) (fun q' => by omega) (fun q' => by omega)
    refine p_atMost hr.1 (fun c => ⟨gz_1, kk 1 s (Or.inr rfl) ha Rs (fun s' Q' a' R' k' => C s' Q' a' R' (fun s'' a'' => r_in (fun _ => ⟨gz_1, k' s'' a''⟩) (fun c2 => absurd c c2)))⟩) (fun c => ⟨gz_0, kk 0 s (Or.inl rfl) ha Rs (fun s' Q' a' R' k' => C s' Q' a' R' (fun s'' a'' => r_in (fun c2 => absurd c2 c) (fun _ => ⟨gz_0, k' s'' a''⟩)))⟩)
  · refine p_worstB hG (fun r s ha Rs hm hr => ?_)
    have C : ∀ (s' : gS) (Q' : Int32 → gS → Prop), ag kK s s' → RG s' → (∀ s'', ag kX s' s'' → w_X9_in  (fun (r24 : Int32) (s23 : gS) => gz r24 ∧ Q' r24 s23) s'' r 0 (nI v)) → w_X9_holds Q' s' (nI k) := fun s' Q' a' R' h => by
      have e99 := r99 ha a'
      exact m_hold hk12 h1 (by rw [e99]; exact h5) (by rw [e99]; exact h6) (fun q' => by omega) (fun q' => by omega) (fun _ => hm s' _ a' R' h) (fun q' => by omega) (fun q' => by omega)
    refine p_atMost hr.1 (fun c => ⟨gz_1, kk 1 s (Or.inr rfl) ha Rs (fun s' Q' a' R' k' => C s' Q' a' R' (fun s'' a'' => r_in (fun _ => ⟨gz_1, k' s'' a''⟩) (fun c2 => absurd c c2)))⟩) (fun c => ⟨gz_0, kk 0 s (Or.inl rfl) ha Rs (fun s' Q' a' R' k' => C s' Q' a' R' (fun s'' a'' => r_in (fun c2 => absurd c2 c) (fun _ => ⟨gz_0, k' s'' a''⟩)))⟩)
  · obtain ⟨g, t, m1, m2, m3, m4, m5, m6, m7, m8, m9, m10, m11⟩ := hM
    have C : ∀ (s' : gS) (Q' : Int32 → gS → Prop), ag kK σ s' → ((nI v < σ 22 0 → Q' 0 s') ∧ (¬ nI v < σ 22 0 → Q' 1 s')) → w_X9_holds Q' s' (nI k) := fun s' Q' a' h => by
      have e99 := r99 rfl' a'
      have b65 : s' 65 = σ 65 := a' 65 (by unfold kK scr; omega)
      have b66 : s' 66 = σ 66 := a' 66 (by unfold kK scr; omega)
      refine m_hold hk12 h1 (by rw [e99]; exact h5) (by rw [e99]; exact h6) (fun q' => by omega) (fun q' => by omega) (fun q' => by omega) (fun _ => p_standing m2 (by rw [b66]; exact m6) (by rw [b65]; exact m9) ?_) (fun q' => by omega)
      rw [b65, ← m11]
      exact h
    exact ⟨fun c => kk 0 σ (Or.inl rfl) rfl' hG (fun s' Q' a' R' k' => C s' Q' a' (q_T c (k' s' ag_rf))), fun c => kk 1 σ (Or.inr rfl) rfl' hG (fun s' Q' a' R' k' => C s' Q' a' (q_F c (k' s' ag_rf)))⟩
  · obtain ⟨g1, g2, g3, g4, g5, g6⟩ := h7 q
    have e10 : ∀ h, h ≤ l → σ 10 h = σ 102 h := fun h hh => hN.2.2.1 h (by omega)
    have C : ∀ (s' : gS) (Q' : Int32 → gS → Prop), ag kK σ s' → ((∀ h, f ≤ h → h ≤ l → σ 10 h ≤ nI v) → Q' 1 s') → (¬ (∀ h, f ≤ h → h ≤ l → σ 10 h ≤ nI v) → Q' 0 s') → w_X9_holds Q' s' (nI k) := fun s' Q' a' t n => by
      have e99 := r99 rfl' a'
      have b102 : s' 102 = σ 102 := a' 102 (by unfold kK scr; omega)
      refine m_hold hk12 h1 (by rw [e99]; exact h5) (by rw [e99]; exact h6) (fun q' => by omega) (fun q' => by omega) (fun q' => by omega) (fun q' => by omega) (fun _ => ?_)
      rw [e99, g5]
      refine m_quiet g1 g2 hk12 (by rw [e99]; exact g6) (fun H => t (fun h ha hb => ?_)) (fun H => n (fun H2 => H (fun h ha hb => ?_)))
      · rw [e10 h hb, ← b102]; exact H h ha hb
      · rw [b102, ← e10 h hb]; exact H2 h ha hb
    refine p_quiet g1 g2 (fun H => ⟨gz_1, kk 1 σ (Or.inr rfl) rfl' hG (fun s' Q' a' R' k' => C s' Q' a' (fun _ => k' s' ag_rf) (fun H2 => absurd H H2))⟩) (fun H => ⟨gz_0, kk 0 σ (Or.inl rfl) rfl' hG (fun s' Q' a' R' k' => C s' Q' a' (fun H2 => absurd H2 H) (fun _ => k' s' ag_rf))⟩)
theorem kX_kK {s s' : gS} (h : ag kX s s') : ag kK s s' := ag_mono h (fun k hk => Or.inr (Or.inr (kX_scr hk)))
theorem RG.X {s s' : gS} (h : RG s) (a : ag kX s s') : RG s' := h.s (ag_mono a (fun k hk => kX_scr hk))
theorem p_brokenB {Q : Int32 → gS → Prop} {T j j' : Nat} (hN : RN σ) (hM : RM σ) (hG : RG σ) (hT : T ≤ 12) (hj : j = 8 ∨ j = 9) (e11 : σ 11 0 = gtv j) (es : σ (gtk j + 4) 0 = nI T) (e101 : σ 101 0 = nI T) (hD : DM j T 99 σ σ)
    (kk : ∀ r s, ag kK σ s → RG s → (∀ (Q' : Int32 → gS → Prop) (S0 : gS), ag kK s S0 → RG S0 → (∀ S, ag kX S0 S → Q' r S) → w_X9_broken_7 Q' (T + 1) 0 S0) → Q r s) : w_X8_broken Q σ := by
  have hg := gtk_le j
  have gj : gtj (gtv j) = j := gtj_v hj
  have r1 : ∀ {s : gS}, ag kK σ s → s 101 0 = nI T := fun a => by rw [a 101 (by unfold kK scr; omega)]; exact e101
  have key : ∀ (d k : Nat) (s : gS), k + d = T → ag kK σ s → RG s → (∀ (Q' : Int32 → gS → Prop) (S0 : gS), ag kK s S0 → RG S0 → (∀ S, ag kX S0 S → w_X9_broken_7 Q' (d + 1) (nI k) S) → w_X9_broken_7 Q' (T + 1) 0 S0) → w_X8_broken_2 Q (d + 1) (nI k) s := by
    intro d
    induction d with
    | zero =>
      intro k s hd a R MB
      have x11 : s 11 0 = gtv j := by rw [a 11 (by unfold kK scr; omega)]; exact e11
      have x4 : s (gtk j + 4) 0 = nI T := by rw [a _ (by unfold kK scr; omega)]; exact es
      unfold w_X8_broken_2
      rw [x11, gj, x4]
      refine q_T (nI_le (by omega) (by omega)) (kk _ s a R (fun Q' S0 a0 R0 k' => MB Q' S0 a0 R0 (fun S aS => ?_)))
      unfold w_X9_broken_7
      rw [r1 (ag_tr a (ag_tr a0 (kX_kK aS)))]
      exact q_T (nI_le (by omega) (by omega)) (k' S aS)
    | succ d ih =>
      intro k s hd a R MB
      have x11 : s 11 0 = gtv j := by rw [a 11 (by unfold kK scr; omega)]; exact e11
      have x4 : s (gtk j + 4) 0 = nI T := by rw [a _ (by unfold kK scr; omega)]; exact es
      have xD : DM j T 99 s s := hD.cong (fun x hx => a _ (by unfold kK scr; omega)) (fun y hy => by rw [a 99 (by unfold kK scr; omega)])
      unfold w_X8_broken_2
      rw [x11, gj, x4, nI_leI (by omega) (by omega)]
      refine q_F (by omega) (p_holdsB (kK_N hN a) (kK_M hM a) R hT (by rw [x11]; exact gj) xD (by omega) (fun r s2 hr a2 R2 H => ?_))
      have step : ∀ (Q' : Int32 → gS → Prop) (S0 : gS), ag kK s2 S0 → RG S0 → (∀ S, ag kX S0 S → (¬ r = 0 → ∀ y5 : Int32, y5 = nI k + 1 → w_X9_broken_7 Q' (d + 1) y5 S) ∧ (r = 0 → Q' (nI k) S)) → w_X9_broken_7 Q' (T + 1) 0 S0 := fun Q' S0 a0 R0 k' => by
        refine MB Q' S0 (ag_tr a2 a0) R0 (fun S aS => ?_)
        unfold w_X9_broken_7
        rw [r1 (ag_tr a (ag_tr a2 (ag_tr a0 (kX_kK aS)))), nI_leI (by omega) (by omega)]
        exact q_F (by omega) (H S _ (ag_tr a0 (kX_kK aS)) (R0.X aS) (fun s'' a'' => k' s'' (ag_tr aS a'')))
      rcases hr with rfl | rfl
      · exact q_nT rfl (kk _ s2 (ag_tr a a2) R2 (fun Q' S0 a0 R0 k' => step Q' S0 a0 R0 (fun S aS => q_nT rfl (k' S aS))))
      · refine q_nF (by decide) ?_
        rintro _ rfl
        rw [nI_1]
        refine ih (k + 1) s2 (by omega) (ag_tr a a2) R2 (fun Q' S0 a0 R0 k' => step Q' S0 a0 R0 (fun S aS => q_nF (by decide) ?_))
        rintro _ rfl
        rw [nI_1]
        exact k' S aS
  unfold w_X8_broken
  have := key T 0 σ (by omega) ag_rf hG (fun Q' S0 a0 R0 k' => by
    have := k' S0 ag_rf
    rw [nI_0] at this
    exact this)
  rw [nI_0] at this
  exact ⟨_, this⟩
end BROKEN
section PBR
variable {Q : Unit} {LN : Nat} {xs : Nat → Int32} {k23 : Int32 → gS → Prop} {x4 : Int32} {σ : gS}
theorem cs_broken (hN : RN σ) (hM : RM σ) (hG : RG σ) (hL : RLc σ) (K : ∀ σ', RG σ' → ag kK σ σ' → k23 (x4 + 6) σ') : w_L_law_1496 Q LN xs k23 x4 σ := by
  obtain ⟨T, j, j', h1, h2, h3, h4, h5, h6, h7⟩ := hL
  unfold w_L_law_1496 w_X9_broken
  refine p_brokenB (j' := j') hN hM hG h1 (by omega) h3 h5 h6 h7 (fun r s a R M => ?_)
  rintro _ rfl
  have a1 : ag kK s (gu s 63 0 0) := ag_gu (Or.inr (Or.inr s63))
  have R1 := R.s (ag_gu (P := scr) (i := 0) (v := 0) s63)
  exact ⟨_, M _ _ a1 R1 (fun S aS => tl_e rfl (K S (R1.X aS) (ag_tr a (ag_tr a1 (kX_kK aS)))))⟩
theorem cs_empty2 (hR : RG σ) (K : ∀ σ', RG σ' → ag kK σ σ' → k23 (x4 + 6) σ') : w_L_law_871 Q LN xs k23 x4 σ := by
  unfold w_L_law_871 w_X8_empty w_X9_empty
  refine p_leastB hR (fun r s ha Rs hm _ => ?_)
  rintro _ rfl
  have a1 : ag kK s (gu s 63 0 0) := ag_gu (Or.inr (Or.inr s63))
  have R1 := Rs.s (ag_gu (P := scr) (i := 0) (v := 0) s63)
  exact hm _ _ a1 R1 (fun S aS => tl_e rfl (K S (R1.X aS) (ag_tr ha (ag_tr a1 (kX_kK aS)))))
theorem cs_worst2 (hR : RG σ) (K : ∀ σ', RG σ' → ag kK σ σ' → k23 (x4 + 6) σ') : w_L_law_884 Q LN xs k23 x4 σ := by
  unfold w_L_law_884 w_X8_worst w_X9_worst
  refine p_worstB hR (fun r s ha Rs hm _ => ?_)
  rintro _ rfl
  have a1 : ag kK s (gu s 63 0 0) := ag_gu (Or.inr (Or.inr s63))
  have R1 := Rs.s (ag_gu (P := scr) (i := 0) (v := 0) s63)
  exact hm _ _ a1 R1 (fun S aS => tl_e rfl (K S (R1.X aS) (ag_tr ha (ag_tr a1 (kX_kK aS)))))
end PBR
