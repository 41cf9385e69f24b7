/-! THE PROGRAMME: the model's search -/
def QR (n : Nat) (A : Nat → Int32) (W P E : Nat → Nat) (σ : gS) : Prop := n ≤ 6 ∧ σ 90 0 = nI n ∧ ∀ i, i < n → σ 87 i = A i ∧ σ 88 i = nI (E i) ∧ σ 89 i = nI (P i) ∧ (∃ c, c < 28 ∧ A i = nI c ∧ σ 75 c = nI (W i)) ∧ W i ≤ 2000 ∧ E i ≤ 1000 ∧ P i ≤ 1000
section PROG4
variable {A : Nat → Int32} {W P E f : Nat → Nat} {n : Nat} {σ : gS}
theorem QR.re {σ' : gS} (h : QR n A W P E σ) (e : ∀ k, k = 75 ∨ (87 ≤ k ∧ k ≤ 90) → σ' k = σ k) : QR n A W P E σ' := by
  unfold QR at *
  rw [e 75 (by omega), e 87 (by omega), e 88 (by omega), e 89 (by omega), e 90 (by omega)]
  exact h
theorem p_above {Q : Int32 → gS → Prop} {a t : Nat} (hR : QR n A W P E σ) (ha : a < n) (ht : t < 3000) (hf : ∀ i, i < n → σ 91 i = nI (10 * f i) ∧ f i ≤ 2) (kk : Q (nI (abv A W P E f n a t)) σ) : w_X9_above Q σ (nI a) (nI t) := by
  obtain ⟨hn, e90, hi⟩ := id hR
  have e87a := (hi a ha).1
  have key : ∀ (d j : Nat), j + d = n → (∀ k, k < j → k < a → ¬ (A k = A a ∧ E k + 10 * f k ≤ t ∧ t < E k + 10 * f k + 10)) → w_X9_above_5 Q (d + 1) (nI a) (nI t) (nI (sbf A P E f a t j)) (nI j) σ := by
    intro d
    induction d with
    | zero =>
      intro j hd h
      have : j = n := by omega
      subst this
      obtain ⟨e87, e88, e89, ⟨c, hc, eA, e75⟩, b1, b2, b3⟩ := hi a ha
      have ne : ¬ eb A E f a t := fun ⟨k, k1, k2⟩ => h k (by omega) k1 k2
      rw [abv_F ne] at kk
      have b := sbf_bd (A := A) (E := E) (f := f) (a := a) (t := t) (j := j) (fun i h => (hi i h).2.2.2.2.2.2)
      unfold w_X9_above_5
      rw [e90]
      refine q_T (nI_le (Nat.le_refl _) (by omega)) ⟨vp_in_nI (by omega) (by omega), ?_⟩
      rw [nI_clamp (by omega), e87, eA]
      refine ⟨vp_in_nI hc (by omega), ?_⟩
      rw [nI_clamp (by omega), e75, mx_sub (by omega) (by omega)]
      exact kk
    | succ d ih =>
      intro j hd h
      obtain ⟨e87, e88, e89, -, b1, b2, b3⟩ := hi j (by omega)
      obtain ⟨e91, b91⟩ := hf j (by omega)
      have skip : ¬ (A j = A a ∧ E j + 10 * f j ≤ t ∧ t < E j + 10 * f j + 10) → w_X9_above_5 Q (d + 1) (nI a) (nI t) (nI (sbf A P E f a t j)) (nI (j + 1)) σ := fun q => by
        have := ih (j + 1) (by omega) (fun k k1 k2 => by
          by_cases e : k = j
          · rw [e]; exact q
          · exact h k (by omega) k2)
        rw [sbf_F q] at this
        exact this
      unfold w_X9_above_5
      rw [e90]
      simp (disch := omega) only [l_3, l_4, l_6, l_8, l_9, l_10, l_12, l_14, l_16, l_19, l_20, l_23, l_24, l_26, l_28, l_39, l_40, l_56, l_57, l_60, l_192, l_200, l_255, l_299, l_320, l_400, l_1120, l_2000, l_20000, l_10000, l_1000, l_1000000, nI_1, n_2mul, nI_add, pk_mul, pk_sub, sb_m1, nI_clamp, nI_clamp0, vpT, nI_leI, nI_ltI, nI_eq, nI_0le, nI_lt0, nI_le0, nI_0lt, nI_eq0, nI_eqm1, nI_m1eq, Nat.add_one_sub_one, forall_eq, true_and, and_true, true_implies, not_true_eq_false, not_false_eq_true, false_implies, implies_true, ne_eq, Nat.reduceEqDiff, Nat.reduceAdd, Nat.reduceMul, Nat.reduceLT, Nat.reduceLeDiff, and_self, e87, e88, e91, e87a]
      refine q_F (by omega) ⟨fun c => skip (fun q => c q.1), fun c => r_in (fun q => ?_) (fun q => ?_)⟩
      · rw [t_n (by omega), t_n (by omega), t_n (by omega)] at q
        refine q_nF (by decide) ⟨fun d1 => ?_, fun d1 => ?_⟩
        · rw [e89, nI_add]
          have := ih (j + 1) (by omega) (fun k k1 k2 => h k (by omega) k2)
          rw [sbf_T ⟨c, by omega, by omega⟩] at this
          exact this
        · rw [abv_T ⟨j, by omega, c, by omega, by omega⟩, nI_0] at kk
          exact kk
      · rw [t_n (by omega), t_n (by omega), t_n (by omega)] at q
        exact q_nT rfl (skip (fun q2 => q ⟨by omega, by omega⟩))
  unfold w_X9_above
  have := key n 0 (by omega) (fun k hk => by omega)
  simp only [sbf, nsum, nI_0] at this
  exact ⟨_, this⟩
theorem p_aboveAll {Q : Int32 → gS → Prop} (hR : QR n A W P E σ) (hf : ∀ i, i < n → σ 91 i = nI (10 * f i) ∧ f i ≤ 2) (kk : Q (nI (mAl A W P E f n)) σ) : w_X9_aboveOfAll Q σ := by
  obtain ⟨hn, e90, hi⟩ := id hR
  have key : ∀ (d a : Nat), a + d = n → w_X9_aboveOfAll_4 Q (d + 1) (nI (nsum a (fun a => nsum 10 (fun m => abv A W P E f n a (E a + 10 * f a + m))))) (nI a) σ := by
    intro d
    induction d with
    | zero =>
      intro a hd
      have : a = n := by omega
      subst this
      unfold w_X9_aboveOfAll_4
      rw [e90]
      exact q_T (nI_le (Nat.le_refl _) (by omega)) kk
    | succ d ih =>
      intro a hd
      obtain ⟨e87, e88, e89, -, b1, b2, b3⟩ := hi a (by omega)
      obtain ⟨e91, b91⟩ := hf a (by omega)
      have key2 : ∀ (r m : Nat), m + r = 10 → w_X9_aboveOfAll_14 Q (w_X9_aboveOfAll_4 Q (d + 1)) (r + 1) (nI (nsum a (fun a => nsum 10 (fun m => abv A W P E f n a (E a + 10 * f a + m))) + nsum m (fun m => abv A W P E f n a (E a + 10 * f a + m)))) (nI a) (nI m) σ := by
        intro r
        induction r with
        | zero =>
          intro m hm
          have : m = 10 := by omega
          subst this
          unfold w_X9_aboveOfAll_14
          refine q_T (by decide) ?_
          rintro _ rfl
          rw [nI_1]
          exact ih (a + 1) (by omega)
        | succ r ih2 =>
          intro m hm
          unfold w_X9_aboveOfAll_14
          refine q_F (by rw [l_10, nI_leI (by omega) (by omega)]; omega) ⟨vp_in_nI (by omega) (by omega), vp_in_nI (by omega) (by omega), ?_⟩
          rw [nI_clamp (by omega), e88, e91, nI_add, nI_add]
          refine p_above (f := f) hR (by omega) (by omega) hf ?_
          rintro _ rfl _ rfl
          rw [nI_add, nI_1, Nat.add_assoc]
          exact ih2 (m + 1) (by omega)
      unfold w_X9_aboveOfAll_4
      rw [e90]
      refine q_F (fun c => by rw [nI_leI (by omega) (by omega)] at c; omega) ?_
      have := key2 10 0 (by omega)
      rw [nI_0] at this
      exact ⟨_, this⟩
  unfold w_X9_aboveOfAll
  have := key n 0 (by omega)
  simp only [nsum, nI_0] at this
  exact ⟨_, this⟩
def kr (k : Nat) : Prop := k = 91 ∨ k = 92
def xJ (j : Nat) : Int32 := if j = 0 then -1 else nI (j - 1)
theorem xJ_s (j : Nat) : xJ (j + 1) = nI j := if_neg (by omega)
theorem xJ_p (j : Nat) : nI j + (-1) = xJ j := by
  unfold xJ
  by_cases e : j = 0
  · rw [if_pos e, e]; decide
  · rw [if_neg e, sb_m1 (by omega)]
theorem VB (hR : QR n A W P E σ) {g : Nat → Nat} (hg : dok n g) : vF A W P E n g < 100000 ∧ sF n g < 1000 := by
  have h1 := VC_bd (A := A) (W := W) (E := E) (f := g) (a := n) (fun i h => (hR.2.2 i h).2.2.2.2.2.2)
  have h2 := sSh_bd hg
  have := hR.1
  unfold vF sF
  omega
/-- one turn of the model's search -/
theorem p_turn {Q : Int32 → gS → Prop} {K27 : Int32 → Int32 → gS → Prop} {x1 x2 : Int32} {s : gS} (hR : QR n A W P E σ) (hW : ∀ a b, a < n → b < n → A a = A b → W a = W b) (hd : dok n f) (ag1 : ag kr σ s) (h91 : ∀ i, i < n → s 91 i = nI (10 * f i))
    (hx : (cd n f = 0 ∧ x1 = -1) ∨ ∃ g, LB (vF A W P E n) (sF n) n (cd n f) g ∧ x1 = nI (vF A W P E n g) ∧ x2 = nI (sF n g) ∧ ∀ i, i < n → s 92 i = nI (10 * g i))
    (IH : ∀ f' x1 x2 s, dok n f' → cd n f' = cd n f + 1 → ag kr σ s → (∀ i, i < n → s 91 i = nI (10 * f' i)) → (∃ g, LB (vF A W P E n) (sF n) n (cd n f') g ∧ x1 = nI (vF A W P E n g) ∧ x2 = nI (sF n g) ∧ ∀ i, i < n → s 92 i = nI (10 * g i)) → K27 x1 x2 s)
    (kk : ∀ s g, ag kr σ s → LB (vF A W P E n) (sF n) n (lo n 1) g → (∀ i, i < n → s 92 i = nI (10 * g i)) → Q (nI (vF A W P E n g)) s) : w_X9_aboveOfAll (fun r s => ∃ n38, w_X9_seeks_38 Q K27 n38 x1 x2 r 0 0 s) s := by
  have hRs : ∀ s', ag kr σ s' → QR n A W P E s' := fun s' a' => hR.re (fun k hk => a' k (by unfold kr; omega))
  obtain ⟨hn, e90, hi⟩ := id hR
  refine p_aboveAll (f := f) (hRs s ag1) (fun i hi => ⟨h91 i hi, hd i hi⟩) ?_
  rw [MA_VC (fun a ha => by have := (hi a ha).2.2.2.2.2.1; have := hd a ha; omega) hW]
  -- going on to the next code
  have nx : ∀ (g : Nat → Nat) (s' : gS), ag kr σ s' → (∀ i, i < n → s' 91 i = nI (10 * f i)) → LB (vF A W P E n) (sF n) n (cd n f + 1) g → (∀ i, i < n → s' 92 i = nI (10 * g i)) → w_X9_seeks_122 Q K27 (nI (vF A W P E n g)) (nI (sF n g)) s' := by
    intro g s' ag' h91' hL h92'
    have key : ∀ (j : Nat) (s2 : gS), j ≤ n → ag kr σ s2 → (∀ i, i < n → s2 92 i = nI (10 * g i)) → (∀ i, i < j → s2 91 i = nI (10 * f i)) → (∀ i, j ≤ i → i < n → s2 91 i = 0 ∧ f i = 2) → w_X9_seeks_130 Q K27 (j + 1) (nI (vF A W P E n g)) (nI (sF n g)) (xJ j) s2 := by
      intro j
      induction j with
      | zero =>
        intro s2 hj ag2 h92 h91a h91b
        have e : lo n 1 = cd n f + 1 := by
          have := cd_2 (k := n) (j := 0) (f := f) (fun i h1 h2 => (h91b i (by omega) (by omega)).2)
          rw [Nat.zero_add] at this
          exact this
        unfold w_X9_seeks_130 w_X9_seeks_161
        exact q_T (by decide) (q_F (by decide) (kk s2 g ag2 (by rw [e]; exact hL) h92))
      | succ j ih =>
        intro s2 hj ag2 h92 h91a h91b
        have hj91 := h91a j (by omega)
        have hfj := hd j (by omega)
        unfold w_X9_seeks_130 w_X9_seeks_161
        rw [xJ_s]
        refine q_F (nI_pos (by omega)) ⟨vp_in_nI (by omega) (by omega), ?_⟩
        rw [nI_clamp (by omega), hj91, l_20]
        refine ⟨fun c => q_T (nI_pos' (by omega)) ⟨vp_in_nI (by omega) (by omega), vp_in_nI (by omega) (by omega), ?_⟩, fun c => ⟨vp_in_nI (by omega) (by omega), ?_⟩⟩
        · rw [nI_eq (by omega) (by omega)] at c
          rintro _ rfl
          rw [l_10, nI_add]
          have hz : lo (n - (j + 1)) (cd (j + 1) (fun i => if i < j then f i else if i = j then f j + 1 else 0)) = cd n (fun i => if i < j then f i else if i = j then f j + 1 else 0) := by
            have := cd_z (k := n - (j + 1)) (j := j + 1) (f := fun i => if i < j then f i else if i = j then f j + 1 else 0) (fun i h1 h2 => by
              show (if i < j then f i else if i = j then f j + 1 else 0) = 0
              rw [if_neg (by omega), if_neg (by omega)])
            rw [show j + 1 + (n - (j + 1)) = n by omega] at this
            exact this
          have h2 : lo (n - (j + 1)) (cd (j + 1) f + 1) = cd n f + 1 := by
            have := cd_2 (k := n - (j + 1)) (j := j + 1) (f := f) (fun i h1 h2 => (h91b i (by omega) (by omega)).2)
            rw [show j + 1 + (n - (j + 1)) = n by omega] at this
            exact this
          have h3 : cd (j + 1) (fun i => if i < j then f i else if i = j then f j + 1 else 0) = cd (j + 1) f + 1 := by
            rw [cd, cd, cd_cong (g := f) (fun i hi => if_pos hi), if_neg (by omega), if_pos rfl]
            omega
          have h4 : cd n (fun i => if i < j then f i else if i = j then f j + 1 else 0) = cd n f + 1 := by rw [← hz, h3, h2]
          refine IH (fun i => if i < j then f i else if i = j then f j + 1 else 0) _ _ _ (fun i hi => ?_) h4 (ag_gu' (Or.inl rfl) ag2) (fun i hi => ?_) ⟨g, by rw [h4]; exact hL, rfl, rfl, fun i hi => by rw [gu_ne (by omega)]; exact h92 i hi⟩
          · show (if i < j then f i else if i = j then f j + 1 else 0) ≤ 2
            split
            · exact hd i hi
            · split
              · omega
              · omega
          · show gu s2 91 j (nI (10 * f j + 10)) 91 i = nI (10 * (if i < j then f i else if i = j then f j + 1 else 0))
            rw [gu_at]
            rcases Nat.lt_trichotomy i j with c1 | c1 | c1
            · rw [if_neg (by omega), if_pos c1]; exact h91a i (by omega)
            · rw [if_pos c1, if_neg (by omega), if_pos c1]; rfl
            · rw [if_neg (by omega), if_neg (by omega), if_neg (by omega), (h91b i (by omega) hi).1]; rfl
        · rw [nI_eq (by omega) (by omega)] at c
          rintro _ rfl _ rfl
          rw [xJ_p]
          refine ih _ (by omega) (ag_gu' (Or.inl rfl) ag2) (fun i hi => by rw [gu_ne (by omega)]; exact h92 i hi) (fun i hi => by rw [gu_ne2 (by omega)]; exact h91a i (by omega)) (fun i h1 h2 => ?_)
          by_cases e : i = j
          · rw [e, gu_eq]; exact ⟨rfl, by omega⟩
          · rw [gu_ne2 e]; exact h91b i (by omega) h2
    unfold w_X9_seeks_122
    have e90' : s' 90 0 = nI n := (hRs s' ag').2.1
    rintro _ rfl
    rw [e90']
    have e5 : nI n - 1 = xJ n := by
      rw [← xJ_p]
      cases n with
      | zero => decide
      | succ n => rw [nI_pred, sb_m1 (by omega)]; rfl
    rw [e5]
    exact ⟨_, key n s' (Nat.le_refl _) ag' h92' h91' (fun i h1 h2 => by omega)⟩
  -- a better one
  have up : LB (vF A W P E n) (sF n) n (cd n f + 1) f → w_X9_seeks_85 Q K27 (nI (VC A W P E f n)) (nI (sSh f n)) s := by
    intro hL
    have key : ∀ (d j : Nat) (s2 : gS), j + d = n → ag kr σ s2 → (∀ i, i < n → s2 91 i = nI (10 * f i)) → (∀ i, i < j → s2 92 i = nI (10 * f i)) → w_X9_seeks_93 Q K27 (d + 1) (nI (VC A W P E f n)) (nI (sSh f n)) (nI j) s2 := by
      intro d
      induction d with
      | zero =>
        intro j s2 hj ag2 h912 h922
        have : j = n := by omega
        subst this
        unfold w_X9_seeks_93
        rw [(hRs s2 ag2).2.1]
        exact q_T (nI_le (Nat.le_refl _) (by omega)) (nx f s2 ag2 h912 hL h922)
      | succ d ih =>
        intro j s2 hj ag2 h912 h922
        unfold w_X9_seeks_93
        rw [(hRs s2 ag2).2.1]
        refine q_F (fun c => by rw [nI_leI (by omega) (by omega)] at c; omega) ⟨vp_in_nI (by omega) (by omega), vp_in_nI (by omega) (by omega), ?_⟩
        rintro _ rfl _ rfl
        rw [nI_1, nI_clamp (by omega)]
        refine ih (j + 1) _ (by omega) (ag_gu' (Or.inr rfl) ag2) (fun i hi => by rw [gu_ne (by omega)]; exact h912 i hi) (fun i hi => ?_)
        rw [gu_at]
        split
        · rename_i e; rw [e]; exact h912 j (by omega)
        · exact h922 i (by omega)
    unfold w_X9_seeks_85
    have := key n 0 s (by omega) ag1 h91 (fun i hi => by omega)
    rw [nI_0] at this
    exact ⟨_, this⟩
  have vb := VB hR hd
  have key : ∀ (d j : Nat), j + d = n → w_X9_seeks_38 Q K27 (d + 1) x1 x2 (nI (VC A W P E f n)) (nI (sSh f j)) (nI j) s := by
    intro d
    induction d with
    | zero =>
      intro j hj
      have : j = n := by omega
      subst this
      unfold w_X9_seeks_38
      rw [(hRs s ag1).2.1]
      refine q_T (nI_le (Nat.le_refl _) (by omega)) ?_
      rcases hx with ⟨h0, h1⟩ | ⟨g, hL, h1, h2, h92⟩
      · rw [h1]
        exact q_T (by decide) (up (by rw [h0]; exact LB.new (Or.inl rfl) vs_cong hd h0))
      · have gb := VB hR hL.1
        have hup : btr (vF A W P E j f) (sF j f) (vF A W P E j g) (sF j g) → w_X9_seeks_85 Q K27 (nI (VC A W P E f j)) (nI (sSh f j)) s := fun q => up (LB.new (Or.inr ⟨g, hL, q⟩) vs_cong hd rfl)
        have hkp : ¬ btr (vF A W P E j f) (sF j f) (vF A W P E j g) (sF j g) → w_X9_seeks_122 Q K27 x1 x2 s := fun q => by
          rw [h1, h2]
          refine nx g s ag1 h91 (hL.ext (by omega) (fun f' hf' c1 c2 => ?_)) h92
          have := vs_cong (A := A) (W := W) (P := P) (E := E) f' f (cd_inj hf' hd (by omega))
          rw [this.1, this.2]
          exact q
        rw [h1, h2] at hkp ⊢
        have ev : VC A W P E f j = vF A W P E j f := rfl
        have es : sSh f j = sF j f := rfl
        rw [ev, es] at hup ⊢
        rw [nI_ltI (by omega) (by omega), nI_eq (by omega) (by omega), nI_leI (by omega) (by omega)]
        refine q_F (nI_pos (by omega)) ⟨fun c => hup (Or.inl c), fun c => ⟨fun c2 => hkp (fun q => by unfold btr at q; omega), fun c2 => ⟨fun c3 => hkp (fun q => by unfold btr at q; omega), fun c3 => hup (Or.inr ⟨c2, by omega⟩)⟩⟩⟩
    | succ d ih =>
      intro j hj
      unfold w_X9_seeks_38
      rw [(hRs s ag1).2.1]
      refine q_F (fun c => by rw [nI_leI (by omega) (by omega)] at c; omega) ⟨vp_in_nI (by omega) (by omega), ?_⟩
      rintro _ rfl _ rfl
      rw [nI_1, nI_clamp (by omega), h91 j (by omega), nI_add]
      exact ih (j + 1) (by omega)
  have := key n 0 (by omega)
  simp only [sSh, nsum, nI_0] at this
  exact ⟨_, this⟩
theorem p_seeks {Q : Int32 → gS → Prop} (hR : QR n A W P E σ) (hW : ∀ a b, a < n → b < n → A a = A b → W a = W b) (kk : ∀ s g, ag kr σ s → LB (vF A W P E n) (sF n) n (lo n 1) g → (∀ i, i < n → s 92 i = nI (10 * g i)) → Q (nI (vF A W P E n g)) s) : w_X9_seeks Q σ := by
  obtain ⟨hn, e90, hi⟩ := id hR
  have top : ∀ f, dok n f → cd n f < lo n 1 := fun f hf => by
    have := (cd_lo (a := 0) (k := n) (f := f) (by rw [Nat.zero_add]; exact hf)).2
    rw [Nat.zero_add] at this
    exact this
  have key : ∀ (d : Nat) (f : Nat → Nat) (x1 x2 : Int32) (s : gS), cd n f + d = lo n 1 → dok n f → ag kr σ s → (∀ i, i < n → s 91 i = nI (10 * f i)) → ((cd n f = 0 ∧ x1 = -1) ∨ ∃ g, LB (vF A W P E n) (sF n) n (cd n f) g ∧ x1 = nI (vF A W P E n g) ∧ x2 = nI (sF n g) ∧ ∀ i, i < n → s 92 i = nI (10 * g i)) → w_X9_seeks_27 Q d x1 x2 s := by
    intro d
    induction d with
    | zero =>
      intro f x1 x2 s h1 hd
      have := top f hd
      omega
    | succ d ih =>
      intro f x1 x2 s h1 hd ag1 h91 hx
      unfold w_X9_seeks_27
      exact p_turn (f := f) hR hW hd ag1 h91 hx (fun f' y1 y2 s' a1 a2 a3 a4 a5 => ih f' y1 y2 s' (by omega) a1 a3 a4 (Or.inr a5)) kk
  have key6 : ∀ (d j : Nat) (s : gS), j + d = n → ag kr σ s → (∀ i, i < j → s 91 i = 0) → w_X9_seeks_6 Q (d + 1) (-1) 0 (nI j) s := by
    intro d
    induction d with
    | zero =>
      intro j s hj ag1 h91
      have : j = n := by omega
      subst this
      unfold w_X9_seeks_6
      rw [ag1 90 (by unfold kr; omega), e90]
      refine q_T (nI_le (Nat.le_refl _) (by omega)) ?_
      have h0 : cd j (fun _ => 0) = 0 := by
        have := cd_z (k := j) (j := 0) (f := fun _ => 0) (fun i _ _ => rfl)
        have z : ∀ k, lo k 0 = 0 := fun k => by
          induction k with
          | zero => rfl
          | succ k ih => exact ih
        rw [Nat.zero_add] at this
        rw [← this]
        exact z j
      exact ⟨_, key (lo j 1) (fun _ => 0) (-1) 0 s (by rw [h0]; omega) (fun i _ => Nat.zero_le 2) ag1 (fun i hi => by rw [h91 i hi]; rfl) (Or.inl ⟨h0, rfl⟩)⟩
    | succ d ih =>
      intro j s hj ag1 h91
      unfold w_X9_seeks_6
      rw [ag1 90 (by unfold kr; omega), e90]
      refine q_F (fun c => by rw [nI_leI (by omega) (by omega)] at c; omega) ⟨vp_in_nI (by omega) (by omega), ?_⟩
      rintro _ rfl _ rfl
      rw [nI_1, nI_clamp (by omega)]
      refine ih (j + 1) _ (by omega) (ag_gu' (Or.inl rfl) ag1) (fun i hi => ?_)
      rw [gu_at]
      split
      · rfl
      · exact h91 i (by omega)
  unfold w_X9_seeks
  have := key6 n 0 σ (by omega) ag_rf (fun i hi => by omega)
  rw [nI_0] at this
  exact ⟨_, this⟩
end PROG4
