/-! THE PROGRAMME: the class's search -/
theorem nI_subT {a b : Nat} (ha : a < 2 ^ 31) (hb : b < 2 ^ 31) : (nI a - nI b).toInt = (a : Int) - b := by
  rw [i_sub (by rw [t_n ha, t_n hb]; omega) (by rw [t_n ha, t_n hb]; omega), t_n ha, t_n hb]
theorem mx_sub {a b : Nat} (ha : a < 2 ^ 31) (hb : b < 2 ^ 31) : (if 0 < nI a - nI b then nI a - nI b else 0) = nI (a - b) := by
  have h := nI_subT ha hb
  split
  · rename_i c
    rw [i_lt, t_0, h] at c
    exact i_nat (by rw [h]; omega)
  · rename_i c
    rw [i_lt, t_0, h] at c
    rw [show a - b = 0 by omega, nI_0]
theorem gcp_ne {σ : gS} {k0 k1 n k : Nat} (h : k ≠ k1) : gcp σ k0 k1 n k = σ k := by unfold gcp; rw [if_neg h]
theorem gcp_at {σ : gS} {k0 k1 n i : Nat} (h : i < n) : gcp σ k0 k1 n k1 i = σ k0 i := by
  unfold gcp va_cpy
  rw [if_pos rfl, if_pos (by omega)]
  show σ k0 (0 + (i - 0)) = σ k0 i
  rw [Nat.zero_add, Nat.sub_zero]
section PROG2
variable {A : Nat → Int32} {W P E f g : Nat → Nat} {n : Nat} {σ : gS}
theorem sbf_f {a t j : Nat} (h : ∀ i, i < j → f i = g i) : sbf A P E f a t j = sbf A P E g a t j := by
  unfold sbf
  exact nsum_cong (fun i hi => by rw [h i hi])
theorem AO_f {a : Nat} (h : ∀ i, i < a + 1 → f i = g i) : AO A W P E f a = AO A W P E g a := by
  unfold AO gO
  rw [h a (by omega)]
  exact nsum_cong (fun m _ => by rw [sbf_f (fun i hi => h i (by omega))])
theorem VC_f {a : Nat} (h : ∀ i, i < a → f i = g i) : VC A W P E f a = VC A W P E g a := by
  unfold VC
  exact nsum_cong (fun i hi => AO_f (fun j hj => h j (by omega)))
theorem sSh_f {a : Nat} (h : ∀ i, i < a → f i = g i) : sSh f a = sSh g a := by
  unfold sSh
  exact nsum_cong (fun i hi => by rw [h i hi])
theorem sbf_bd {a t j : Nat} (hP : ∀ i, i < j → P i ≤ 1000) : sbf A P E f a t j ≤ j * 1000 := by
  unfold sbf
  refine nsum_bd (fun i hi => ?_)
  split
  · exact hP i hi
  · omega
theorem AO_bd {a : Nat} (hP : P a ≤ 1000) : AO A W P E f a ≤ 10000 := by
  have := nsum_bd (n := 10) (c := 1000) (f := fun m => gO A W P E f a (E a + 10 * f a + m)) (fun i _ => by
    show P a - _ ≤ 1000
    omega)
  unfold AO
  omega
theorem VC_bd {a : Nat} (hP : ∀ i, i < a → P i ≤ 1000) : VC A W P E f a ≤ a * 10000 := nsum_bd (fun i hi => AO_bd (hP i hi))
theorem sSh_bd {a : Nat} (hf : dok a f) : sSh f a ≤ a * 20 := nsum_bd (fun i hi => by have := hf i hi; omega)
def PR (n : Nat) (A : Nat → Int32) (W P E : Nat → Nat) (σ : gS) : Prop := n ≤ 6 ∧ σ 51 0 = nI n ∧ ∀ i, i < n → σ 47 i = A i ∧ σ 48 i = nI (W i) ∧ σ 49 i = nI (E i) ∧ σ 50 i = nI (P i) ∧ W i ≤ 2000 ∧ E i ≤ 1000 ∧ P i ≤ 1000
theorem PR.re {σ' : gS} (h : PR n A W P E σ) (e : ∀ k, 47 ≤ k → k ≤ 51 → σ' k = σ k) : PR n A W P E σ' := by
  unfold PR at *
  rw [e 47 (by omega) (by omega), e 48 (by omega) (by omega), e 49 (by omega) (by omega), e 50 (by omega) (by omega), e 51 (by omega) (by omega)]
  exact h
theorem p_sent {Q : Int32 → gS → Prop} {a t : Nat} (hR : PR n A W P E σ) (ha : a < n) (ht : t < 3000) (hf : ∀ i, i < a → σ 52 i = nI (10 * f i) ∧ f i ≤ 2) (kk : Q (nI (sbf A P E f a t a)) σ) : w_X4_sentBefore Q σ (nI a) (nI t) := by
  obtain ⟨hn, e51, hi⟩ := hR
  have key : ∀ (d j : Nat), j + d = a → w_X4_sentBefore_5 Q (d + 1) (nI a) (nI t) (nI (sbf A P E f a t j)) (nI j) σ := by
    intro d
    induction d with
    | zero =>
      intro j hd
      have : j = a := by omega
      subst this
      unfold w_X4_sentBefore_5
      exact q_T (nI_le (Nat.le_refl _) (by omega)) kk
    | succ d ih =>
      intro j hd
      obtain ⟨e47, e48, e49, e50, -, b49, b50⟩ := hi j (by omega)
      obtain ⟨e52, b52⟩ := hf j (by omega)
      have e47a := (hi a ha).1
      have h1 := nI_subT (a := t) (b := E j) (by omega) (by omega)
      have h2 : (nI (10 * f j)).toInt = 10 * f j := by rw [t_n (by omega)]; omega
      have hy : (nI t - nI (E j) - nI (10 * f j)).toInt = (t : Int) - E j - 10 * f j := by rw [i_sub (by rw [h1, h2]; omega) (by rw [h1, h2]; omega), h1, h2]
      have skip : ¬ (A j = A a ∧ E j + 10 * f j ≤ t ∧ t < E j + 10 * f j + 10) → w_X4_sentBefore_5 Q (d + 1) (nI a) (nI t) (nI (sbf A P E f a t j)) (nI (j + 1)) σ := fun q => by
        have := ih (j + 1) (by omega)
        rw [sbf_F q] at this
        exact this
      have take : (A j = A a ∧ E j + 10 * f j ≤ t ∧ t < E j + 10 * f j + 10) → w_X4_sentBefore_5 Q (d + 1) (nI a) (nI t) (nI (sbf A P E f a t j + P j)) (nI (j + 1)) σ := fun q => by
        have := ih (j + 1) (by omega)
        rw [sbf_T q] at this
        exact this
      have t10 : (nI 10).toInt = 10 := rfl
      unfold w_X4_sentBefore_5
      simp (disch := omega) only [l_3, l_4, l_6, l_8, l_9, l_10, l_12, l_14, l_16, l_19, l_20, l_23, l_24, l_26, l_28, l_39, l_40, l_56, l_57, l_60, l_192, l_200, l_255, l_299, l_320, l_400, l_1120, l_2000, l_20000, l_10000, l_1000, l_1000000, nI_1, n_2mul, nI_add, pk_mul, pk_sub, sb_m1, nI_clamp, nI_clamp0, vpT, nI_leI, nI_ltI, nI_eq, nI_0le, nI_lt0, nI_le0, nI_0lt, nI_eq0, nI_eqm1, nI_m1eq, Nat.add_one_sub_one, forall_eq, true_and, and_true, true_implies, not_true_eq_false, not_false_eq_true, false_implies, implies_true, ne_eq, Nat.reduceEqDiff, Nat.reduceAdd, Nat.reduceMul, Nat.reduceLT, Nat.reduceLeDiff, and_self, e47, e49, e50, e52, e47a]
      refine q_F (by omega) ?_
      exact ⟨fun c => skip (fun q => c q.1), fun c => ⟨fun c2 => skip (fun q => by rw [i_lt, hy, t_0] at c2; omega), fun c2 => ⟨fun c3 => skip (fun q => by rw [i_le, hy, t10] at c3; omega), fun c3 => take ⟨c, by rw [i_lt, hy, t_0] at c2; omega, by rw [i_le, hy, t10] at c3; omega⟩⟩⟩⟩
  unfold w_X4_sentBefore
  have := key a 0 (by omega)
  simp only [sbf, nsum, nI_0] at this
  exact ⟨_, this⟩
theorem p_added {Q : Int32 → gS → Prop} {a : Nat} (hR : PR n A W P E σ) (ha : a < n) (hf : ∀ i, i < a + 1 → σ 52 i = nI (10 * f i) ∧ f i ≤ 2) (kk : Q (nI (AO A W P E f a)) σ) : w_X4_addedOver Q σ (nI a) := by
  obtain ⟨hn, e51, hi⟩ := id hR
  obtain ⟨e47, e48, e49, e50, b48, b49, b50⟩ := hi a ha
  obtain ⟨e52, b52⟩ := hf a (by omega)
  have key : ∀ (d m : Nat), m + d = 10 → w_X4_addedOver_19 Q (d + 1) (nI a) (nI (E a + 10 * f a)) (nI (nsum m (fun m => gO A W P E f a (E a + 10 * f a + m)))) (nI (E a + 10 * f a + m)) σ := by
    intro d
    induction d with
    | zero =>
      intro m hd
      have : m = 10 := by omega
      subst this
      unfold w_X4_addedOver_19
      refine q_T ?_ kk
      rw [l_10, nI_add]
      exact nI_le (Nat.le_refl _) (by omega)
    | succ d ih =>
      intro m hd
      unfold w_X4_addedOver_19
      simp (disch := omega) only [l_3, l_4, l_6, l_8, l_9, l_10, l_12, l_14, l_16, l_19, l_20, l_23, l_24, l_26, l_28, l_39, l_40, l_56, l_57, l_60, l_192, l_200, l_255, l_299, l_320, l_400, l_1120, l_2000, l_20000, l_10000, l_1000, l_1000000, nI_1, n_2mul, nI_add, pk_mul, pk_sub, sb_m1, nI_clamp, nI_clamp0, vpT, nI_leI, nI_ltI, nI_eq, nI_0le, nI_lt0, nI_le0, nI_0lt, nI_eq0, nI_eqm1, nI_m1eq, Nat.add_one_sub_one, forall_eq, true_and, and_true, true_implies, not_true_eq_false, not_false_eq_true, false_implies, implies_true, ne_eq, Nat.reduceEqDiff, Nat.reduceAdd, Nat.reduceMul, Nat.reduceLT, Nat.reduceLeDiff, and_self, e48]
      refine q_F (by omega) (p_sent (f := f) hR ha (by omega) (fun i hi => hf i (by omega)) ?_)
      try dsimp only
      have b := sbf_bd (A := A) (E := E) (f := f) (a := a) (t := E a + 10 * f a + m) (j := a) (fun i h => (hi i (by omega)).2.2.2.2.2.2)
      rw [mx_sub (by omega) (by omega), e50, mx_sub (by omega) (by omega), nI_add]
      exact ih (m + 1) (by omega)
  unfold w_X4_addedOver
  simp (disch := omega) only [l_3, l_4, l_6, l_8, l_9, l_10, l_12, l_14, l_16, l_19, l_20, l_23, l_24, l_26, l_28, l_39, l_40, l_56, l_57, l_60, l_192, l_200, l_255, l_299, l_320, l_400, l_1120, l_2000, l_20000, l_10000, l_1000, l_1000000, nI_1, n_2mul, nI_add, pk_mul, pk_sub, sb_m1, nI_clamp, nI_clamp0, vpT, nI_leI, nI_ltI, nI_eq, nI_0le, nI_lt0, nI_le0, nI_0lt, nI_eq0, nI_eqm1, nI_m1eq, Nat.add_one_sub_one, forall_eq, true_and, and_true, true_implies, not_true_eq_false, not_false_eq_true, false_implies, implies_true, ne_eq, Nat.reduceEqDiff, Nat.reduceAdd, Nat.reduceMul, Nat.reduceLT, Nat.reduceLeDiff, and_self, e49, e52]
  have := key 10 0 (by omega)
  simp only [nsum, nI_0, Nat.add_zero] at this
  exact ⟨_, this⟩
end PROG2
def vF (A : Nat → Int32) (W P E : Nat → Nat) (n : Nat) (f : Nat → Nat) : Nat := VC A W P E f n
def sF (n : Nat) (f : Nat → Nat) : Nat := sSh f n
def CB (A : Nat → Int32) (W P E : Nat → Nat) (n N : Nat) (σ : gS) : Prop := ∃ bo bs : Nat, σ 54 0 = nI bo ∧ σ 55 0 = nI bs ∧ ((N = 0 ∧ bo = 2147483647 ∧ bs = 2147483647) ∨ ∃ g, LB (vF A W P E n) (sF n) n N g ∧ bo = vF A W P E n g ∧ bs = sF n g ∧ ∀ i, i < n → σ 53 i = nI (10 * g i))
def kq (k : Nat) : Prop := 52 ≤ k ∧ k ≤ 55
section PROG3
variable {A : Nat → Int32} {W P E f g : Nat → Nat} {n : Nat} {σ : gS}
theorem vs_cong : ∀ f f' : Nat → Nat, (∀ i, i < n → f i = f' i) → vF A W P E n f = vF A W P E n f' ∧ sF n f = sF n f' := fun f f' h => ⟨VC_f h, sSh_f h⟩
theorem CB.cong {N : Nat} {σ' : gS} (h : CB A W P E n N σ) (e : ∀ k, 53 ≤ k → k ≤ 55 → σ' k = σ k) : CB A W P E n N σ' := by
  unfold CB at *
  rw [e 53 (by omega) (by omega), e 54 (by omega) (by omega), e 55 (by omega) (by omega)]
  exact h
theorem p_tryb {Q : gS → Prop} {rc : (gS → Prop) → gS → Int32 → Int32 → Int32 → Prop} {a v s bo bs : Nat} (e54 : σ 54 0 = nI bo) (e55 : σ 55 0 = nI bs) (b1 : bo < 2 ^ 31) (b2 : bs < 2 ^ 31) (b3 : v < 2 ^ 31) (b4 : s < 2 ^ 31) (go : btr v s bo bs → w_X4_tryShifts_25 Q rc (nI a) (nI v) (nI s) σ) (st : ¬ btr v s bo bs → Q σ) : w_X4_tryShifts_b Q rc σ (nI a) (nI v) (nI s) := by
  unfold w_X4_tryShifts_b
  simp (disch := omega) only [l_3, l_4, l_6, l_8, l_9, l_10, l_12, l_14, l_16, l_19, l_20, l_23, l_24, l_26, l_28, l_39, l_40, l_56, l_57, l_60, l_192, l_200, l_255, l_299, l_320, l_400, l_1120, l_2000, l_20000, l_10000, l_1000, l_1000000, nI_1, n_2mul, nI_add, pk_mul, pk_sub, sb_m1, nI_clamp, nI_clamp0, vpT, nI_leI, nI_ltI, nI_eq, nI_0le, nI_lt0, nI_le0, nI_0lt, nI_eq0, nI_eqm1, nI_m1eq, Nat.add_one_sub_one, forall_eq, true_and, and_true, true_implies, not_true_eq_false, not_false_eq_true, false_implies, implies_true, ne_eq, Nat.reduceEqDiff, Nat.reduceAdd, Nat.reduceMul, Nat.reduceLT, Nat.reduceLeDiff, and_self, e54, e55]
  refine ⟨fun c => st (fun q => by unfold btr at q; omega), fun c => ⟨fun c2 => go (Or.inl (by omega)), fun c2 => ⟨fun c3 => go (Or.inr ⟨c2, c3⟩), fun c3 => st (fun q => by unfold btr at q; omega)⟩⟩⟩
theorem p_try (d0 : Nat) : ∀ (k a d : Nat) (f : Nat → Nat) (s : gS) (Q : gS → Prop), a + k = n → k < d → dok a f → PR n A W P E s → (∀ i, i < a → s 52 i = nI (10 * f i)) → CB A W P E n (lo k (cd a f)) s → (∀ s', ag kq s s' → (∀ i, i < a → s' 52 i = s 52 i) → CB A W P E n (lo k (cd a f + 1)) s' → Q s') → w_X4_tryShifts d Q s (nI a) (nI (VC A W P E f a)) (nI (sSh f a)) := by
  intro k
  induction k with
  | zero =>
    intro a d f s Q hk hd hf hR h52 hC kk
    have han : a = n := by omega
    subst han
    obtain ⟨hn, e51, hi⟩ := id hR
    obtain ⟨bo, bs, e54, e55, hc⟩ := id hC
    have v1 := VC_bd (A := A) (W := W) (E := E) (f := f) (a := a) (fun i h => (hi i h).2.2.2.2.2.2)
    have v2 := sSh_bd hf
    obtain ⟨d, rfl⟩ : ∃ d', d = d' + 1 := ⟨d - 1, by omega⟩
    unfold w_X4_tryShifts
    have hb : bo < 2 ^ 31 ∧ bs < 2 ^ 31 := by
      rcases hc with ⟨-, q1, q2⟩ | ⟨g, hL, q1, q2, -⟩
      · omega
      · have w1 := VC_bd (A := A) (W := W) (E := E) (f := g) (a := a) (fun i h => (hi i h).2.2.2.2.2.2)
        have w2 := sSh_bd hL.1
        unfold vF at q1
        unfold sF at q2
        omega
    refine p_tryb e54 e55 hb.1 hb.2 (by omega) (by omega) (fun q => ?_) (fun q => kk s ag_rf (fun i _ => rfl) ⟨bo, bs, e54, e55, ?_⟩)
    · unfold w_X4_tryShifts_25 w_X4_tryShifts_39
      rw [e51]
      refine q_T (nI_le (Nat.le_refl _) (by omega)) ?_
      rintro _ rfl _ rfl _ rfl
      refine kk _ (fun k hk => ?_) (fun i hi => ?_) ⟨VC A W P E f a, sSh f a, ?_, ?_, Or.inr ⟨f, ?_, rfl, rfl, fun i hi => ?_⟩⟩
      · unfold kq at hk
        rw [gcp_ne (by omega), gu_ne (by omega), gu_ne (by omega)]
      · rw [gcp_ne (by omega), gu_ne (by omega), gu_ne (by omega)]
      · rw [gcp_ne (by omega), gu_ne (by omega), gu_eq]
      · rw [gcp_ne (by omega), gu_eq]
      · refine LB.new ?_ vs_cong hf rfl
        rcases hc with ⟨q1, -⟩ | ⟨g, hL, q1, q2, -⟩
        · exact Or.inl q1
        · refine Or.inr ⟨g, hL, ?_⟩
          rw [q1, q2] at q
          exact q
      · rw [gcp_at (by omega), gu_ne (by omega), gu_ne (by omega)]
        exact h52 i hi
    · rcases hc with ⟨q1, q2, q3⟩ | ⟨g, hL, q1, q2, q3⟩
      · exfalso
        apply q
        unfold btr
        omega
      · refine Or.inr ⟨g, hL.ext (lo_mono (k := 0) (by omega)) (fun f' hf' h1 h2 => ?_), q1, q2, q3⟩
        have := vs_cong (A := A) (W := W) (P := P) (E := E) f' f (cd_in (a := a) (k := 0) hf' hf h1 h2)
        rw [this.1, this.2, ← q1, ← q2]
        exact q
  | succ k ih =>
    intro a d f s Q hk hd hf hR h52 hC kk
    obtain ⟨hn, e51, hi⟩ := id hR
    obtain ⟨bo, bs, e54, e55, hc⟩ := id hC
    have v1 := VC_bd (A := A) (W := W) (E := E) (f := f) (a := a) (fun i h => (hi i (by omega)).2.2.2.2.2.2)
    have v2 := sSh_bd hf
    obtain ⟨d, rfl⟩ : ∃ d', d = d' + 1 := ⟨d - 1, by omega⟩
    unfold w_X4_tryShifts
    have hb : bo < 2 ^ 31 ∧ bs < 2 ^ 31 := by
      rcases hc with ⟨-, q1, q2⟩ | ⟨g, hL, q1, q2, -⟩
      · omega
      · have w1 := VC_bd (A := A) (W := W) (E := E) (f := g) (a := n) (fun i h => (hi i h).2.2.2.2.2.2)
        have w2 := sSh_bd hL.1
        unfold vF at q1
        unfold sF at q2
        omega
    refine p_tryb e54 e55 hb.1 hb.2 (by omega) (by omega) (fun q => ?_) (fun q => kk s ag_rf (fun i _ => rfl) ⟨bo, bs, e54, e55, ?_⟩)
    · unfold w_X4_tryShifts_25
      have key : ∀ (r j : Nat) (s1 : gS), j + r = 3 → ag kq s s1 → (∀ i, i < a → s1 52 i = s 52 i) → CB A W P E n (lo k (3 * cd a f + j)) s1 → w_X4_tryShifts_68 Q (w_X4_tryShifts d) (r + 1) (nI a) (nI (VC A W P E f a)) (nI (sSh f a)) (nI (10 * j)) s1 := by
        intro r
        induction r with
        | zero =>
          intro j s1 hj ag1 h521 hC1
          have : j = 3 := by omega
          subst this
          unfold w_X4_tryShifts_68
          exact q_T (by decide) (kk s1 ag1 h521 hC1)
        | succ r ih2 =>
          intro j s1 hj ag1 h521 hC1
          have hR1 : PR n A W P E (gu s1 52 a (nI (10 * j))) := hR.re (fun k h1 h2 => by rw [gu_ne (by omega), ag1 k (by unfold kq; omega)])
          have hfa : ∀ i, i < a → (fun i => if i = a then j else f i) i = f i := fun i hi => if_neg (by omega)
          have haa : (fun i => if i = a then j else f i) a = j := if_pos rfl
          have hff : ∀ i, i < a + 1 → (gu s1 52 a (nI (10 * j))) 52 i = nI (10 * (fun i => if i = a then j else f i) i) ∧ (fun i => if i = a then j else f i) i ≤ 2 := fun i hi => by
            by_cases e : i = a
            · subst e
              rw [gu_eq, haa]
              exact ⟨rfl, by omega⟩
            · rw [gu_ne2 e, hfa i (by omega), h521 i (by omega), h52 i (by omega)]
              exact ⟨rfl, hf i (by omega)⟩
          unfold w_X4_tryShifts_68
          refine q_F (by rw [l_20, nI_ltI (by omega) (by omega)]; omega) ⟨vp_in_nI (by omega) (by omega), ?_⟩
          rw [nI_clamp (by omega)]
          rintro _ rfl
          refine p_added (f := fun i => if i = a then j else f i) hR1 (by omega) hff ?_
          try dsimp only
          have eV : VC A W P E f a + AO A W P E (fun i => if i = a then j else f i) a = VC A W P E (fun i => if i = a then j else f i) (a + 1) := by
            rw [VC_f (f := f) (g := fun i => if i = a then j else f i) (fun i hi => (hfa i hi).symm)]
            rfl
          have eS : sSh f a + 10 * j = sSh (fun i => if i = a then j else f i) (a + 1) := by
            rw [sSh_f (f := f) (g := fun i => if i = a then j else f i) (fun i hi => (hfa i hi).symm)]
            show _ = nsum a _ + 10 * (fun i => if i = a then j else f i) a
            rw [haa]
            rfl
          have ec : cd (a + 1) (fun i => if i = a then j else f i) = 3 * cd a f + j := by
            rw [cd, cd_cong (g := f) hfa]
            show 3 * cd a f + (if a = a then j else f a) = _
            rw [if_pos rfl]
          rw [nI_add, nI_add, nI_1, eV, eS]
          refine ih (a + 1) d (fun i => if i = a then j else f i) _ _ (by omega) (by omega) (fun i hi => (hff i hi).2) hR1 (fun i hi => (hff i hi).1) ?_ (fun s' ag' h52' hC' => ?_)
          · rw [ec]
            exact hC1.cong (fun k h1 h2 => gu_ne (by omega))
          · rintro _ rfl
            rw [ec] at hC'
            rw [l_10, nI_add]
            refine ih2 (j + 1) s' (by omega) (ag_tr ag1 (ag_tr (ag_gu (by unfold kq; omega)) ag')) (fun i hi => ?_) hC'
            rw [h52' i (by omega), gu_ne2 (by omega)]
            exact h521 i hi
      rw [e51]
      refine q_F (fun c => by rw [nI_leI (by omega) (by omega)] at c; omega) (q_T (by rw [l_6]; exact nI_lt (by omega) (by omega)) ?_)
      have := key 3 0 s (by omega) ag_rf (fun i _ => rfl) hC
      exact ⟨_, this⟩
    · rcases hc with ⟨q1, q2, q3⟩ | ⟨g, hL, q1, q2, q3⟩
      · exfalso
        apply q
        unfold btr
        omega
      · refine Or.inr ⟨g, hL.ext (lo_mono (by omega)) (fun f' hf' h1 h2 => ?_), q1, q2, q3⟩
        have hp := cd_in (a := a) (k := k + 1) (by rw [hk]; exact hf') hf (by rw [hk]; exact h1) (by rw [hk]; exact h2)
        have m1 : VC A W P E f' a ≤ VC A W P E f' n := nsum_mono (by omega)
        have m2 : sSh f' a ≤ sSh f' n := nsum_mono (by omega)
        rw [VC_f hp] at m1
        rw [sSh_f hp] at m2
        rw [← q1, ← q2]
        unfold vF sF
        unfold btr at *
        omega
end PROG3
