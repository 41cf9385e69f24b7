/-! ESCAPE: sendFrom, gates, the start -/
section FEW
variable {P K : Nat} {fr tt ln : Nat → Nat} {wd cr ra : Nat → Int}
theorem fsum_40 (n : Nat) : fsum n (fun _ => 40) = 40 * n := by
  induction n with
  | zero => rfl
  | succ n ih => rw [fsum, ih]; push_cast; omega
theorem p_send {Q : Int32 → gS → Prop} {M st : Nat} {B : Int} {oh : Nat → Nat → Int} {C : Nat → Nat → Prop} {σ : gS} (hM : M < 40) (hG : GC P K fr tt ln wd σ) (hS : SIx P K fr tt ln wd M σ) (hst : st < P) (hu : 0 < (σ 40 st).toInt) (hl : 0 ≤ (σ 42 st).toInt) (hB : 0 ≤ B ∧ B ≤ 60000000) (hA : FA P K ln wd cr ra M B σ) (hE : FE P fr tt ln cr ra M oh σ (fun _ => 0)) (hC : CC P K fr tt ln wd ra M oh C σ)
    (kk : ∀ (xn : Int32) (n : Int) (σ' : gS), xn.toInt = n → 0 < n → n ≤ (σ 40 st).toInt → ag kF σ σ' → (σ' 40 st).toInt = (σ 40 st).toInt - n → (∀ p, p ≠ st → σ' 40 p = σ 40 p) → FA P K ln wd cr ra M (B + 321 * n) σ' → FE P fr tt ln cr ra M oh σ' (fun _ => 0) → CC P K fr tt ln wd ra M oh C σ' → Q xn σ') : w_X0_sendFrom Q σ (nI st) := by
  obtain ⟨⟨hP, hK, e35, e26⟩, g1, g2, g3, g4⟩ := id hG
  obtain ⟨rs, ts, c, h1, h2, h3, h4, h5⟩ := hS
  have a6 := hA.2.2.2.2.2 st hst
  have hlM := h1 st hst
  obtain ⟨l, -, el, el'⟩ := i_ex (x := σ 42 st) hl
  have hr := h3 st l hst (by omega)
  have hv := (h4 st l hr).1
  unfold w_X0_sendFrom
  simp (disch := omega) only [l_3, l_4, l_6, l_8, l_9, l_10, l_12, l_14, l_16, l_19, l_20, l_23, l_24, l_26, l_28, l_39, l_40, l_56, l_57, l_60, l_192, l_200, l_255, l_299, l_320, l_400, l_1120, l_2000, l_20000, l_10000, l_1000, l_1000000, nI_1, n_2mul, nI_add, pk_mul, pk_sub, sb_m1, nI_clamp, nI_clamp0, vpT, nI_leI, nI_ltI, nI_eq, nI_0le, nI_lt0, nI_le0, nI_0lt, nI_eq0, nI_eqm1, nI_m1eq, Nat.add_one_sub_one, forall_eq, true_and, and_true, true_implies, not_true_eq_false, not_false_eq_true, false_implies, implies_true, ne_eq, Nat.reduceEqDiff, Nat.reduceAdd, Nat.reduceMul, Nat.reduceLT, Nat.reduceLeDiff, and_self, el]
  have en : (if σ 46 (40 * st + l) < σ 40 st then σ 46 (40 * st + l) else σ 40 st).toInt = min (σ 46 (40 * st + l)).toInt (σ 40 st).toInt := i_mins
  generalize (if σ 46 (40 * st + l) < σ 40 st then σ 46 (40 * st + l) else σ 40 st) = xn at *
  obtain ⟨n, hn⟩ : ∃ n, xn.toInt = n := ⟨_, rfl⟩
  have es : (σ 40 st - xn).toInt = (σ 40 st).toInt - n := by rw [i_sub (by omega) (by omega), hn]
  obtain ⟨A1, E1, C1⟩ := F_start (σ' := gu σ 40 st (σ 40 st - xn)) (n := n) hP hA hE hC hst (by omega) (by omega) (by rw [gu_eq, es]) (fun i hi => gu_ne2 hi) (fun i hi => gu_ne hi)
  have hs0 : ∀ k, k ≠ 40 → (gu σ 40 st (σ 40 st - xn)) k = σ k := fun k hk => gu_ne hk
  have hs1 : (gu σ 40 st (σ 40 st - xn)) 40 st = σ 40 st - xn := gu_eq
  have hs2 : ∀ p, p ≠ st → (gu σ 40 st (σ 40 st - xn)) 40 p = σ 40 p := fun p hp => gu_ne2 hp
  generalize gu σ 40 st (σ 40 st - xn) = s0 at *
  rw [← nI_0]
  refine p_letWait (n := n) (by omega) (by omega) (by omega) hn (by omega) (fun m m1 m2 => by have := A1.2.2.1 st m hst (by omega); omega) (fun s1 a1 o1 w1 => ?_)
  have ao : ∀ i, i ≠ 38 → s1 i = s0 i := fun i hi => a1 i hi
  have hc0 : C st 0 := hC.1 st hst (by omega)
  have cup : ∀ d, d ≤ M → C st d := fun d => by
    induction d with
    | zero => intro _; exact hc0
    | succ d ihd => intro h; exact hC.2.1 st d hst (by omega) (ihd (by omega))
  obtain ⟨A2, E2, C2⟩ := F_wait (σ' := s1) (B' := bd B n (0 + 1)) (a := 0) (b := l) (δ := n) (p := st) hM hP A1 E1 C1 hst (by omega) (by omega) (fun m m1 m2 => by have := A1.2.2.1 st m hst (by omega); simp only [bd]; omega) (by simp only [bd]; omega) (fun m m1 m2 => cup m (by omega)) w1 o1 ao
  have hts : ts st l ≤ 319 := by
    have q := (h2 st l hr).2.2
    have q2 : fsum P (fun p => (σ 42 p).toInt + 1) ≤ fsum P (fun _ => 40) := fsum_le (fun p hp => by have := h1 p hp; omega)
    rw [fsum_40] at q2
    omega
  refine ⟨ts st l + 1, ?_⟩
  have := p_send54 (Q := Q) (σ := s1) (rs := rs) (ts := ts) (xn := xn) hM (hG.cong (fun k hk => by rw [ao k (by omega), hs0 k (by omega)])) (fun p m hpm => by have q := h2 p m hpm; have := h1 p q.1; exact ⟨q.1, by omega⟩) hn (by omega) (B := B) (by omega) (fun s2 a2 A3 E3 C3 => ?_) (ts st l + 1) st l 0 s1 (by omega) (by omega) hr ag_rf (fun p' m' hr' ht' => ?_) A2 (fun φ => by rw [E2 φ]; dsimp only; rw [Int.mul_sub]; omega) C2 (cup l (by omega)) (by rw [ao 46 (by omega), hs0 46 (by omega)]; omega)
  · rw [nI_0] at this; exact this
  · refine kk xn n s2 hn (by omega) (by omega) (fun k hk => ?_) ?_ (fun p hp => ?_) A3 E3 C3
    · unfold kF at hk
      rw [a2 k (by unfold kF'; omega), ao k (by omega), hs0 k (by omega)]
    · rw [a2 40 (by unfold kF'; omega), ao 40 (by omega), hs1, es]
    · rw [a2 40 (by unfold kF'; omega), ao 40 (by omega), hs2 p hp]
  · have q := h2 p' m' hr'
    have q1 := h1 p' q.1
    have v := h4 p' m' hr'
    have v1 : VS K fr tt ln wd M s0 rs ts p' m' := by
      refine v.keep (hs0 _ (by omega)) (hs0 _ (by omega)) (hs0 _ (by omega)) (hs0 _ (by omega)) (fun _ => by rw [hs0 38 (by omega)]; omega) (fun k _ _ _ => by rw [hs0 37 (by omega)]; omega) (fun k _ _ _ _ => by rw [hs0 37 (by omega)]; omega)
    refine v1.keepw ao (fun j hj => ?_) (by omega)
    by_cases e : p' = st ∧ 0 ≤ j ∧ j < l
    · rw [e.1, w1 j e.2.1 e.2.2]; omega
    · rw [o1 _ (fun j' h1 h2 => by omega)]; omega
theorem p_fill {Q : gS → Prop} {ka na : Nat} {σ : gS} {v : Int32} (hn : na < 2 ^ 31) (k : ∀ σ', ag (fun k => k = ka) σ σ' → (∀ i, i < na → σ' ka i = v) → (∀ i, na ≤ i → σ' ka i = σ ka i) → Q σ') : w_J7_fill_53178 Q ka na σ v := by
  unfold w_J7_fill_53178
  simp (disch := omega) only [l_3, l_4, l_6, l_8, l_9, l_10, l_12, l_14, l_16, l_19, l_20, l_23, l_24, l_26, l_28, l_39, l_40, l_56, l_57, l_60, l_192, l_200, l_255, l_299, l_320, l_400, l_1120, l_2000, l_20000, l_10000, l_1000, l_1000000, nI_1, n_2mul, nI_add, pk_mul, pk_sub, sb_m1, nI_clamp, nI_clamp0, vpT, nI_leI, nI_ltI, nI_eq, nI_0le, nI_lt0, nI_le0, nI_0lt, nI_eq0, nI_eqm1, nI_m1eq, Nat.add_one_sub_one, forall_eq, true_and, and_true, true_implies, not_true_eq_false, not_false_eq_true, false_implies, implies_true, ne_eq, Nat.reduceEqDiff, Nat.reduceAdd, Nat.reduceMul, Nat.reduceLT, Nat.reduceLeDiff, and_self]
  have key : ∀ (d j : Nat) (s : gS), j + d = na → ag (fun k => k = ka) σ s → (∀ i, i < j → s ka i = v) → (∀ i, na ≤ i → s ka i = σ ka i) → w_J7_fill_53178_5 Q ka na (d + 1) v (nI j) (nI na) s := by
    intro d
    induction d with
    | zero =>
      intro j s hd ha h1 h2
      unfold w_J7_fill_53178_5
      exact q_T (nI_le (by omega) (by omega)) (k s ha (fun i hi => h1 i (by omega)) h2)
    | succ d ih =>
      intro j s hd ha h1 h2
      unfold w_J7_fill_53178_5
      refine q_F (nI_ge (by omega) (by omega)) ?_
      simp (disch := omega) only [l_3, l_4, l_6, l_8, l_9, l_10, l_12, l_14, l_16, l_19, l_20, l_23, l_24, l_26, l_28, l_39, l_40, l_56, l_57, l_60, l_192, l_200, l_255, l_299, l_320, l_400, l_1120, l_2000, l_20000, l_10000, l_1000, l_1000000, nI_1, n_2mul, nI_add, pk_mul, pk_sub, sb_m1, nI_clamp, nI_clamp0, vpT, nI_leI, nI_ltI, nI_eq, nI_0le, nI_lt0, nI_le0, nI_0lt, nI_eq0, nI_eqm1, nI_m1eq, Nat.add_one_sub_one, forall_eq, true_and, and_true, true_implies, not_true_eq_false, not_false_eq_true, false_implies, implies_true, ne_eq, Nat.reduceEqDiff, Nat.reduceAdd, Nat.reduceMul, Nat.reduceLT, Nat.reduceLeDiff, and_self]
      refine ih (j + 1) _ (by omega) (ag_gu' rfl ha) (fun i hi => ?_) (fun i hi => ?_)
      · by_cases e : i = j
        · rw [e, gu_eq]
        · rw [gu_ne2 e]; exact h1 i (by omega)
      · rw [gu_ne2 (by omega)]; exact h2 i hi
  exact ⟨na + 1, by rw [← nI_0]; exact key na 0 σ (by omega) ag_rf (fun i hi => by omega) (fun _ _ => rfl)⟩
theorem p_startAnew {Q : Int32 → gS → Prop} {σ : gS} (hP : P ≤ 8) (e35 : ¬ σ 35 0 = 0) (e26 : σ 26 0 = nI P) (hc : ∀ p, p < P → 0 ≤ (σ 23 p).toInt ∧ (σ 23 p).toInt ≤ 20000)
    (k : ∀ (r : Int32) (σ' : gS), ag kF σ σ' → (∀ i, i < 1120 → σ' 37 i = 0) → (∀ i, i < 320 → σ' 38 i = 0) → (∀ i, i < 28 → σ' 39 i = 0) → (∀ p, p < P → σ' 40 p = σ 23 p) → r.toInt = fsum P (fun p => (σ 23 p).toInt) → Q r σ') : w_X0_startAnew Q σ := by
  unfold w_X0_startAnew
  refine p_fill (by omega) (fun s1 a1 f1 _ => p_fill (by omega) (fun s2 a2 f2 _ => p_fill (by omega) (fun s3 a3 f3 _ => ?_)))
  have hbd : ∀ j, j ≤ P → 0 ≤ fsum j (fun p => (σ 23 p).toInt) ∧ fsum j (fun p => (σ 23 p).toInt) ≤ 20000 * j := by
    intro j
    induction j with
    | zero => intro _; simp [fsum]
    | succ j ih => intro hj; have := ih (by omega); have := hc j (by omega); simp only [fsum]; push_cast; omega
  have key : ∀ (d j : Nat) (r : Int32) (s : gS), j + d = P → ag kF σ s → s 37 = s3 37 → s 38 = s3 38 → s 39 = s3 39 → (∀ p, p < j → s 40 p = σ 23 p) → r.toInt = fsum j (fun p => (σ 23 p).toInt) → w_X0_startAnew_28 Q (d + 1) r (nI j) s := by
    intro d
    induction d with
    | zero =>
      intro j r s hd ha h7 h8 h9 hu hr
      have : j = P := by omega
      subst this
      unfold w_X0_startAnew_28
      rw [ha 35 (by unfold kF; omega), ha 26 (by unfold kF; omega)]
      simp (disch := omega) only [l_3, l_4, l_6, l_8, l_9, l_10, l_12, l_14, l_16, l_19, l_20, l_23, l_24, l_26, l_28, l_39, l_40, l_56, l_57, l_60, l_192, l_200, l_255, l_299, l_320, l_400, l_1120, l_2000, l_20000, l_10000, l_1000, l_1000000, nI_1, n_2mul, nI_add, pk_mul, pk_sub, sb_m1, nI_clamp, nI_clamp0, vpT, nI_leI, nI_ltI, nI_eq, nI_0le, nI_lt0, nI_le0, nI_0lt, nI_eq0, nI_eqm1, nI_m1eq, Nat.add_one_sub_one, forall_eq, true_and, and_true, true_implies, not_true_eq_false, not_false_eq_true, false_implies, implies_true, ne_eq, Nat.reduceEqDiff, Nat.reduceAdd, Nat.reduceMul, Nat.reduceLT, Nat.reduceLeDiff, and_self, e35, e26]
      refine q_T (by omega) (k r s ha (fun i hi => ?_) (fun i hi => ?_) (fun i hi => ?_) hu hr)
      · rw [h7, a3 37 (by omega), a2 37 (by omega)]; exact f1 i hi
      · rw [h8, a3 38 (by omega)]; exact f2 i hi
      · rw [h9]; exact f3 i hi
    | succ d ih =>
      intro j r s hd ha h7 h8 h9 hu hr
      unfold w_X0_startAnew_28
      have e23 : s 23 = σ 23 := ha 23 (by unfold kF; omega)
      rw [ha 35 (by unfold kF; omega), ha 26 (by unfold kF; omega)]
      simp (disch := omega) only [l_3, l_4, l_6, l_8, l_9, l_10, l_12, l_14, l_16, l_19, l_20, l_23, l_24, l_26, l_28, l_39, l_40, l_56, l_57, l_60, l_192, l_200, l_255, l_299, l_320, l_400, l_1120, l_2000, l_20000, l_10000, l_1000, l_1000000, nI_1, n_2mul, nI_add, pk_mul, pk_sub, sb_m1, nI_clamp, nI_clamp0, vpT, nI_leI, nI_ltI, nI_eq, nI_0le, nI_lt0, nI_le0, nI_0lt, nI_eq0, nI_eqm1, nI_m1eq, Nat.add_one_sub_one, forall_eq, true_and, and_true, true_implies, not_true_eq_false, not_false_eq_true, false_implies, implies_true, ne_eq, Nat.reduceEqDiff, Nat.reduceAdd, Nat.reduceMul, Nat.reduceLT, Nat.reduceLeDiff, and_self, gu_eq, gu_ne, gu_ne2, e35, e26, e23]
      refine q_F (by omega) ?_
      have b1 := hbd j (by omega)
      have b2 := hc j (by omega)
      refine ih (j + 1) _ _ (by omega) (ag_gu' (by unfold kF; omega) ha) (by rw [gu_ne (by omega)]; exact h7) (by rw [gu_ne (by omega)]; exact h8) (by rw [gu_ne (by omega)]; exact h9) (fun p hp => ?_) ?_
      · by_cases e : p = j
        · rw [e, gu_eq]
        · rw [gu_ne2 e]; exact hu p (by omega)
      · rw [i_add (by omega) (by omega), hr]; rfl
  refine ⟨P + 1, ?_⟩
  rw [← nI_0]
  refine key P 0 (nI 0) s3 (by omega) (fun k hk => ?_) rfl rfl rfl (fun p hp => by omega) (t_n (by omega))
  unfold kF at hk
  rw [a3 k (by omega), a2 k (by omega), a1 k (by omega)]
theorem p_isOpen {Q : Int32 → gS → Prop} {σ : gS} {p : Nat} (hp : p < 8) (hr : 0 ≤ (σ 24 p).toInt) (k1 : 0 < (σ 24 p).toInt → σ 25 p = 0 → Q 1 σ) (k0 : ((σ 24 p).toInt = 0 ∨ ¬ σ 25 p = 0) → Q 0 σ) : w_X2_isOpen Q σ (nI p) := by
  unfold w_X2_isOpen w_X2_isOpen_22
  simp (disch := omega) only [l_3, l_4, l_6, l_8, l_9, l_10, l_12, l_14, l_16, l_19, l_20, l_23, l_24, l_26, l_28, l_39, l_40, l_56, l_57, l_60, l_192, l_200, l_255, l_299, l_320, l_400, l_1120, l_2000, l_20000, l_10000, l_1000, l_1000000, nI_1, n_2mul, nI_add, pk_mul, pk_sub, sb_m1, nI_clamp, nI_clamp0, vpT, nI_leI, nI_ltI, nI_eq, nI_0le, nI_lt0, nI_le0, nI_0lt, nI_eq0, nI_eqm1, nI_m1eq, Nat.add_one_sub_one, forall_eq, true_and, and_true, true_implies, not_true_eq_false, not_false_eq_true, false_implies, implies_true, ne_eq, Nat.reduceEqDiff, Nat.reduceAdd, Nat.reduceMul, Nat.reduceLT, Nat.reduceLeDiff, and_self]
  refine q_le (fun c => k0 (by rw [t_0] at c; omega)) (fun c => ?_)
  rw [t_0] at c
  exact ⟨fun c2 => k0 (Or.inr c2), fun c2 => k1 c c2⟩
/-- what a gate lets out -/
def rA (P : Nat) (f g : Nat → Int32) (a : Int32) (p : Nat) : Int := if p < P ∧ ¬ nI p = a ∧ g p = 0 then (f p).toInt else 0
theorem p_open {Q : gS → Prop} {σ : gS} {a : Int32} (hP : P ≤ 8) (e35 : ¬ σ 35 0 = 0) (e26 : σ 26 0 = nI P) (hr : ∀ p, p < P → 0 ≤ (σ 24 p).toInt) (k : ∀ σ', ag (fun k => k = 41) σ σ' → (∀ p, p < P → (σ' 41 p).toInt = rA P (σ 24) (σ 25) a p) → Q σ') : w_X0_openGates Q σ a := by
  unfold w_X0_openGates
  have key : ∀ (d j : Nat) (s : gS), j + d = P → ag (fun k => k = 41) σ s → (∀ p, p < j → (s 41 p).toInt = rA P (σ 24) (σ 25) a p) → w_X0_openGates_2 Q (d + 1) a (nI j) s := by
    intro d
    induction d with
    | zero =>
      intro j s hd ha h
      have : j = P := by omega
      subst this
      unfold w_X0_openGates_2
      rw [ha 35 (by omega), ha 26 (by omega)]
      simp (disch := omega) only [l_3, l_4, l_6, l_8, l_9, l_10, l_12, l_14, l_16, l_19, l_20, l_23, l_24, l_26, l_28, l_39, l_40, l_56, l_57, l_60, l_192, l_200, l_255, l_299, l_320, l_400, l_1120, l_2000, l_20000, l_10000, l_1000, l_1000000, nI_1, n_2mul, nI_add, pk_mul, pk_sub, sb_m1, nI_clamp, nI_clamp0, vpT, nI_leI, nI_ltI, nI_eq, nI_0le, nI_lt0, nI_le0, nI_0lt, nI_eq0, nI_eqm1, nI_m1eq, Nat.add_one_sub_one, forall_eq, true_and, and_true, true_implies, not_true_eq_false, not_false_eq_true, false_implies, implies_true, ne_eq, Nat.reduceEqDiff, Nat.reduceAdd, Nat.reduceMul, Nat.reduceLT, Nat.reduceLeDiff, and_self, e35, e26]
      exact q_T (by omega) (k s ha h)
    | succ d ih =>
      intro j s hd ha h
      have e24 := ha 24 (by omega)
      have e25 := ha 25 (by omega)
      unfold w_X0_openGates_2
      rw [ha 35 (by omega), ha 26 (by omega)]
      simp (disch := omega) only [l_3, l_4, l_6, l_8, l_9, l_10, l_12, l_14, l_16, l_19, l_20, l_23, l_24, l_26, l_28, l_39, l_40, l_56, l_57, l_60, l_192, l_200, l_255, l_299, l_320, l_400, l_1120, l_2000, l_20000, l_10000, l_1000, l_1000000, nI_1, n_2mul, nI_add, pk_mul, pk_sub, sb_m1, nI_clamp, nI_clamp0, vpT, nI_leI, nI_ltI, nI_eq, nI_0le, nI_lt0, nI_le0, nI_0lt, nI_eq0, nI_eqm1, nI_m1eq, Nat.add_one_sub_one, forall_eq, true_and, and_true, true_implies, not_true_eq_false, not_false_eq_true, false_implies, implies_true, ne_eq, Nat.reduceEqDiff, Nat.reduceAdd, Nat.reduceMul, Nat.reduceLT, Nat.reduceLeDiff, and_self, e35, e26]
      refine q_F (by omega) ?_
      have shut : rA P (σ 24) (σ 25) a j = 0 → w_X0_openGates_33 Q (w_X0_openGates_2 Q (d + 1)) a (nI j) s := fun hz => by
        unfold w_X0_openGates_33 w_X0_openGates_34
        simp (disch := omega) only [l_3, l_4, l_6, l_8, l_9, l_10, l_12, l_14, l_16, l_19, l_20, l_23, l_24, l_26, l_28, l_39, l_40, l_56, l_57, l_60, l_192, l_200, l_255, l_299, l_320, l_400, l_1120, l_2000, l_20000, l_10000, l_1000, l_1000000, nI_1, n_2mul, nI_add, pk_mul, pk_sub, sb_m1, nI_clamp, nI_clamp0, vpT, nI_leI, nI_ltI, nI_eq, nI_0le, nI_lt0, nI_le0, nI_0lt, nI_eq0, nI_eqm1, nI_m1eq, Nat.add_one_sub_one, forall_eq, true_and, and_true, true_implies, not_true_eq_false, not_false_eq_true, false_implies, implies_true, ne_eq, Nat.reduceEqDiff, Nat.reduceAdd, Nat.reduceMul, Nat.reduceLT, Nat.reduceLeDiff, and_self]
        refine ih (j + 1) _ (by omega) (ag_gu' rfl ha) (fun p hp => ?_)
        by_cases e : p = j
        · rw [e, gu_eq, hz]; rfl
        · rw [gu_ne2 e]; exact h p (by omega)
      refine ⟨fun c => shut (by unfold rA; rw [if_neg (by intro q; exact q.2.1 c)]), fun c => ?_⟩
      refine p_isOpen (by omega) (by rw [e24]; exact hr j (by omega)) (fun o1 o2 => q_F (by decide) ?_) (fun o => q_T rfl (shut ?_))
      · unfold w_X0_openGates_34
        rw [ha 35 (by omega)]
        simp (disch := omega) only [l_3, l_4, l_6, l_8, l_9, l_10, l_12, l_14, l_16, l_19, l_20, l_23, l_24, l_26, l_28, l_39, l_40, l_56, l_57, l_60, l_192, l_200, l_255, l_299, l_320, l_400, l_1120, l_2000, l_20000, l_10000, l_1000, l_1000000, nI_1, n_2mul, nI_add, pk_mul, pk_sub, sb_m1, nI_clamp, nI_clamp0, vpT, nI_leI, nI_ltI, nI_eq, nI_0le, nI_lt0, nI_le0, nI_0lt, nI_eq0, nI_eqm1, nI_m1eq, Nat.add_one_sub_one, forall_eq, true_and, and_true, true_implies, not_true_eq_false, not_false_eq_true, false_implies, implies_true, ne_eq, Nat.reduceEqDiff, Nat.reduceAdd, Nat.reduceMul, Nat.reduceLT, Nat.reduceLeDiff, and_self, e35]
        refine q_F (by decide) (ih (j + 1) _ (by omega) (ag_gu' rfl ha) (fun p hp => ?_))
        by_cases e : p = j
        · rw [e, gu_eq, e24]; unfold rA; rw [if_pos ⟨by omega, c, by rw [← e25]; exact o2⟩]
        · rw [gu_ne2 e]; exact h p (by omega)
      · unfold rA
        rw [e24, e25] at o
        split
        · rename_i q
          rcases o with o | o
          · exact o
          · exact absurd q.2.2 o
        · rfl
  exact ⟨P + 1, by rw [← nI_0]; exact key P 0 σ (by omega) ag_rf (fun p hp => by omega)⟩
end FEW
