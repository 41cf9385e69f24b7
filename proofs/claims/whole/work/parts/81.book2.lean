/-! THE GATE BOOK: the class's loops and the model's -/
def MT (b m t : Nat → Int32) (a M k : Int32) (j : Nat) : Prop := b j = a ∧ ¬ M < m j ∧ ¬ k < t j
def PA (b m t : Nat → Int32) (k : Int32) (j j' : Nat) : Prop := b j' = b j ∧ ¬ k < t j' ∧ lx m j' j
def PB (b t : Nat → Int32) (B k : Int32) (j : Nat) : Prop := b j = B ∧ ¬ k < t j
def OD (b f m t : Nat → Int32) (n : Nat) (k : Int32) (j : Nat) : Prop := ¬ k < t j ∧ IS n (PA b m t k j) f m (f j)
noncomputable def ODb (b f m t : Nat → Int32) (n : Nat) (k : Int32) (j : Nat) : Bool := dc (OD b f m t n k j)
noncomputable def INb (b f m t : Nat → Int32) (n : Nat) (M k : Int32) (a : Nat) : Bool := dc (IS n (MT b m t (nI a) M k) f m 1)
/-- the class's book -/
def BK (σ : gS) (n : Nat) (o : Nat → Nat) : Prop := n ≤ 200 ∧ σ 62 0 = nI n ∧ (∀ i, i < n → σ 61 i = nI (o i)) ∧ (∀ i, i < n → σ 58 i = 0 ∨ σ 58 i = 1) ∧ (∀ i, i < n → 0 ≤ (σ 57 i).toInt ∧ (σ 57 i).toInt < 300) ∧ (∀ i, i < n → 0 ≤ (σ 59 i).toInt ∧ (σ 59 i).toInt ≤ 10000) ∧ OB n o (σ 57) (σ 59)
def LO (n : Nat) (P : Nat → Prop) (m : Nat → Int32) (r : Int32) : Prop := (r = -1 ∧ ∀ k, k < n → ¬ P k) ∨ ∃ k, k < n ∧ P k ∧ r = nI k ∧ ∀ k', k' < n → P k' → k' = k ∨ lx m k' k
theorem LO.skip {i : Nat} {P : Nat → Prop} {m : Nat → Int32} {r : Int32} (h : LO i P m r) (q : ¬ P i) : LO (i + 1) P m r := by
  rcases h with ⟨e, h⟩ | ⟨k, h1, h2, h3, h4⟩
  · refine Or.inl ⟨e, fun p hp => ?_⟩
    by_cases c : p = i
    · rw [c]; exact q
    · exact h p (by omega)
  · refine Or.inr ⟨k, by omega, h2, h3, fun p' a b => ?_⟩
    by_cases c : p' = i
    · rw [c] at b; exact absurd b q
    · exact h4 p' (by omega) b
def lpP (σ : gS) (a m k x : Int32) (j : Nat) : Prop := σ 94 j = a ∧ ¬ k < σ 97 j ∧ σ 96 j ≤ m ∧ (x < 0 ∨ (¬ σ 96 x.toNatClampNeg < σ 96 j ∧ (¬ σ 96 j = σ 96 x.toNatClampNeg ∨ nI j < x)))
section BOOK2
variable {Q : Int32 → gS → Prop} {σ : gS} {n : Nat} {o : Nat → Nat}
theorem p_isIn {a m k : Int32} (hB : BK σ n o) (kk : ∀ r, (r = 0 ∨ r = 1) → IS n (MT (σ 57) (σ 59) (σ 60) a m k) (σ 58) (σ 59) r → Q r σ) : w_X1_isInside Q σ a m k := by
  obtain ⟨hn, e62, e61, hz, h57, h59, hO⟩ := hB
  have key : ∀ (d i : Nat) (r : Int32), i + d = n → LI i o (MT (σ 57) (σ 59) (σ 60) a m k) (σ 58) r → w_X1_isInside_6 Q (d + 1) a m k r (nI i) σ := by
    intro d
    induction d with
    | zero =>
      intro i r hd hr
      have : i = n := by omega
      subst this
      unfold w_X1_isInside_6
      rw [e62]
      have hb := hr.b (fun p hp => hz _ (hO.1 p hp))
      exact q_T (nI_le (by omega) (by omega)) ⟨gz_of hb, kk r hb (LI_IS hO (Nat.le_refl _) (B := a) (fun k _ q => q.1) (fun k hk => ⟨fun q => by obtain ⟨p, hp, ep⟩ := hO.2.1 k hk; exact ⟨p, hp, ep, q⟩, fun ⟨_, _, _, q⟩ => q⟩) hr)⟩
    | succ d ih =>
      intro i r hd hr
      have hoi := hO.1 i (by omega)
      have skip : ¬ MT (σ 57) (σ 59) (σ 60) a m k (o i) → w_X1_isInside_6 Q (d + 1) a m k r (nI (i + 1)) σ := fun q => ih (i + 1) r (by omega) (hr.skip q)
      unfold w_X1_isInside_6
      rw [e62]
      simp (disch := omega) only [l_3, l_4, l_6, l_8, l_9, l_10, l_12, l_14, l_16, l_19, l_20, l_23, l_24, l_26, l_28, l_39, l_40, l_56, l_57, l_60, l_192, l_200, l_255, l_299, l_320, l_400, l_1120, l_2000, l_20000, l_10000, l_1000, l_1000000, nI_1, n_2mul, nI_add, pk_mul, pk_sub, sb_m1, nI_clamp, nI_clamp0, vpT, nI_leI, nI_ltI, nI_eq, nI_0le, nI_lt0, nI_le0, nI_0lt, nI_eq0, nI_eqm1, nI_m1eq, Nat.add_one_sub_one, forall_eq, true_and, and_true, true_implies, not_true_eq_false, not_false_eq_true, false_implies, implies_true, ne_eq, Nat.reduceEqDiff, Nat.reduceAdd, Nat.reduceMul, Nat.reduceLT, Nat.reduceLeDiff, and_self, e61 i (show i < n by omega)]
      refine q_F (by omega) ?_
      exact ⟨fun c => skip (fun q => c q.1), fun c => ⟨fun c2 => skip (fun q => q.2.1 c2), fun c2 => ⟨fun c3 => skip (fun q => q.2.2 c3), fun c3 => ih (i + 1) _ (by omega) (LI_take ⟨c, c2, c3⟩)⟩⟩⟩
  unfold w_X1_isInside
  have := key n 0 0 (by omega) LI_0
  rw [nI_0] at this
  exact ⟨_, this⟩
theorem p_lastOf {a m k x : Int32} (hn : n ≤ 200) (e98 : σ 98 0 = nI n) (hx : x = -1 ∨ ∃ A, A < n ∧ x = nI A) (kk : ∀ r, LO n (lpP σ a m k x) (σ 96) r → Q r σ) : w_X9_lastOf Q σ a m k x := by
  have key : ∀ (d i : Nat) (r : Int32), i + d = n → LO i (lpP σ a m k x) (σ 96) r → w_X9_lastOf_6 Q (d + 1) a m k x r (nI i) σ := by
    intro d
    induction d with
    | zero =>
      intro i r hd hr
      have : i = n := by omega
      subst this
      unfold w_X9_lastOf_6
      rw [e98]
      exact q_T (nI_le (by omega) (by omega)) (kk r hr)
    | succ d ih =>
      intro i r hd hr
      have skip : ¬ lpP σ a m k x i → w_X9_lastOf_6 Q (d + 1) a m k x r (nI (i + 1)) σ := fun q => ih (i + 1) r (by omega) (hr.skip q)
      have take : lpP σ a m k x i → w_X9_lastOf_100 Q (w_X9_lastOf_6 Q (d + 1)) a m k x r (nI i) σ := fun q => by
        unfold w_X9_lastOf_100 w_X9_lastOf_122
        rcases hr with ⟨e, h⟩ | ⟨j, h1, h2, h3, h4⟩
        · subst e
          refine q_T (by decide) ?_
          simp (disch := omega) only [l_3, l_4, l_6, l_8, l_9, l_10, l_12, l_14, l_16, l_19, l_20, l_23, l_24, l_26, l_28, l_39, l_40, l_56, l_57, l_60, l_192, l_200, l_255, l_299, l_320, l_400, l_1120, l_2000, l_20000, l_10000, l_1000, l_1000000, nI_1, n_2mul, nI_add, pk_mul, pk_sub, sb_m1, nI_clamp, nI_clamp0, vpT, nI_leI, nI_ltI, nI_eq, nI_0le, nI_lt0, nI_le0, nI_0lt, nI_eq0, nI_eqm1, nI_m1eq, Nat.add_one_sub_one, forall_eq, true_and, and_true, true_implies, not_true_eq_false, not_false_eq_true, false_implies, implies_true, ne_eq, Nat.reduceEqDiff, Nat.reduceAdd, Nat.reduceMul, Nat.reduceLT, Nat.reduceLeDiff, and_self]
          refine ih (i + 1) (nI i) (by omega) (Or.inr ⟨i, by omega, q, rfl, fun j' a b => ?_⟩)
          by_cases c : j' = i
          · exact Or.inl c
          · exact absurd b (h j' (by omega))
        · subst h3
          simp (disch := omega) only [l_3, l_4, l_6, l_8, l_9, l_10, l_12, l_14, l_16, l_19, l_20, l_23, l_24, l_26, l_28, l_39, l_40, l_56, l_57, l_60, l_192, l_200, l_255, l_299, l_320, l_400, l_1120, l_2000, l_20000, l_10000, l_1000, l_1000000, nI_1, n_2mul, nI_add, pk_mul, pk_sub, sb_m1, nI_clamp, nI_clamp0, vpT, nI_leI, nI_ltI, nI_eq, nI_0le, nI_lt0, nI_le0, nI_0lt, nI_eq0, nI_eqm1, nI_m1eq, Nat.add_one_sub_one, forall_eq, true_and, and_true, true_implies, not_true_eq_false, not_false_eq_true, false_implies, implies_true, ne_eq, Nat.reduceEqDiff, Nat.reduceAdd, Nat.reduceMul, Nat.reduceLT, Nat.reduceLeDiff, and_self]
          refine ⟨fun c => ih (i + 1) (nI j) (by omega) (Or.inr ⟨j, by omega, h2, rfl, fun j' a b => ?_⟩), fun c => ih (i + 1) (nI i) (by omega) (Or.inr ⟨i, by omega, q, rfl, fun j' a b => ?_⟩)⟩
          · by_cases e : j' = i
            · right; subst e; left; exact i_lt.mp c
            · exact h4 j' (by omega) b
          · by_cases e : j' = i
            · exact Or.inl e
            · right
              have hji : lx (σ 96) j i := by
                rw [i_lt] at c
                by_cases q2 : (σ 96 j).toInt < (σ 96 i).toInt
                · exact Or.inl q2
                · exact Or.inr ⟨i_eq.mpr (by omega), by omega⟩
              rcases h4 j' (by omega) b with q3 | q3
              · rw [q3]; exact hji
              · exact lx_tr q3 hji
      unfold w_X9_lastOf_6
      rw [e98]
      rcases hx with hx | ⟨A, hA, hx⟩
      · subst hx
        simp (disch := omega) only [l_3, l_4, l_6, l_8, l_9, l_10, l_12, l_14, l_16, l_19, l_20, l_23, l_24, l_26, l_28, l_39, l_40, l_56, l_57, l_60, l_192, l_200, l_255, l_299, l_320, l_400, l_1120, l_2000, l_20000, l_10000, l_1000, l_1000000, nI_1, n_2mul, nI_add, pk_mul, pk_sub, sb_m1, nI_clamp, nI_clamp0, vpT, nI_leI, nI_ltI, nI_eq, nI_0le, nI_lt0, nI_le0, nI_0lt, nI_eq0, nI_eqm1, nI_m1eq, Nat.add_one_sub_one, forall_eq, true_and, and_true, true_implies, not_true_eq_false, not_false_eq_true, false_implies, implies_true, ne_eq, Nat.reduceEqDiff, Nat.reduceAdd, Nat.reduceMul, Nat.reduceLT, Nat.reduceLeDiff, and_self]
        refine q_F (by omega) ⟨fun c => skip (fun q => c q.1), fun c => ⟨fun c2 => skip (fun q => q.2.1 c2), fun c2 => ⟨fun c3 => ?_, fun c3 => skip (fun q => c3 q.2.2.1)⟩⟩⟩
        exact q_T (by decide) (take ⟨c, c2, c3, Or.inl (by decide)⟩)
      · subst hx
        have hA2 : (nI A).toNatClampNeg = A := nI_clamp (by omega)
        simp (disch := omega) only [l_3, l_4, l_6, l_8, l_9, l_10, l_12, l_14, l_16, l_19, l_20, l_23, l_24, l_26, l_28, l_39, l_40, l_56, l_57, l_60, l_192, l_200, l_255, l_299, l_320, l_400, l_1120, l_2000, l_20000, l_10000, l_1000, l_1000000, nI_1, n_2mul, nI_add, pk_mul, pk_sub, sb_m1, nI_clamp, nI_clamp0, vpT, nI_leI, nI_ltI, nI_eq, nI_0le, nI_lt0, nI_le0, nI_0lt, nI_eq0, nI_eqm1, nI_m1eq, Nat.add_one_sub_one, forall_eq, true_and, and_true, true_implies, not_true_eq_false, not_false_eq_true, false_implies, implies_true, ne_eq, Nat.reduceEqDiff, Nat.reduceAdd, Nat.reduceMul, Nat.reduceLT, Nat.reduceLeDiff, and_self]
        refine q_F (by omega) ⟨fun c => skip (fun q => c q.1), fun c => ⟨fun c2 => skip (fun q => q.2.1 c2), fun c2 => ⟨fun c3 => ?_, fun c3 => skip (fun q => c3 q.2.2.1)⟩⟩⟩
        refine ⟨fun d1 => skip (fun q => ?_), fun d1 => ⟨fun d2 => take ⟨c, c2, c3, Or.inr ⟨by rw [hA2]; exact d1, Or.inl (by rw [hA2]; exact d2)⟩⟩, fun d2 => ⟨fun d3 => take ⟨c, c2, c3, Or.inr ⟨by rw [hA2]; exact d1, Or.inr (nI_lt d3 (by omega))⟩⟩, fun d3 => skip (fun q => ?_)⟩⟩⟩
        · rcases q.2.2.2 with q | q
          · exact absurd q (nI_pos (by omega))
          · rw [hA2] at q; exact q.1 d1
        · rcases q.2.2.2 with q | q
          · exact absurd q (nI_pos (by omega))
          · rw [hA2] at q
            rcases q.2 with q | q
            · exact q d2
            · rw [nI_ltI (by omega) (by omega)] at q; exact d3 q
  unfold w_X9_lastOf
  have := key n 0 (-1) (by omega) (Or.inl ⟨rfl, fun k hk => by omega⟩)
  rw [nI_0] at this
  exact ⟨_, this⟩
theorem p_isInM {a m k : Int32} (hn : n ≤ 200) (e98 : σ 98 0 = nI n) (h95 : ∀ i, i < n → σ 95 i = 0 ∨ σ 95 i = 1) (kk : ∀ r, (r = 0 ∨ r = 1) → IS n (MT (σ 94) (σ 96) (σ 97) a m k) (σ 95) (σ 96) r → Q r σ) : w_X9_isInside Q σ a m k := by
  unfold w_X9_isInside w_X9_isInside_29
  refine p_lastOf hn e98 (Or.inl rfl) (fun r hr => ?_)
  have eqv : ∀ j, lpP σ a m k (-1) j ↔ MT (σ 94) (σ 96) (σ 97) a m k j := fun j => by
    unfold lpP MT
    constructor
    · rintro ⟨q1, q2, q3, -⟩
      exact ⟨q1, fun q => by rw [i_le] at q3; rw [i_lt] at q; omega, q2⟩
    · rintro ⟨q1, q2, q3⟩
      exact ⟨q1, q3, by rw [i_le]; rw [i_lt] at q2; omega, Or.inl (by decide)⟩
  rcases hr with ⟨e, h⟩ | ⟨j, h1, h2, h3, h4⟩
  · subst e
    exact q_T (by decide) (kk 0 (Or.inl rfl) (Or.inl ⟨rfl, fun k' hk' q => h k' hk' ((eqv k').mpr q)⟩))
  · subst h3
    simp (disch := omega) only [l_3, l_4, l_6, l_8, l_9, l_10, l_12, l_14, l_16, l_19, l_20, l_23, l_24, l_26, l_28, l_39, l_40, l_56, l_57, l_60, l_192, l_200, l_255, l_299, l_320, l_400, l_1120, l_2000, l_20000, l_10000, l_1000, l_1000000, nI_1, n_2mul, nI_add, pk_mul, pk_sub, sb_m1, nI_clamp, nI_clamp0, vpT, nI_leI, nI_ltI, nI_eq, nI_0le, nI_lt0, nI_le0, nI_0lt, nI_eq0, nI_eqm1, nI_m1eq, Nat.add_one_sub_one, forall_eq, true_and, and_true, true_implies, not_true_eq_false, not_false_eq_true, false_implies, implies_true, ne_eq, Nat.reduceEqDiff, Nat.reduceAdd, Nat.reduceMul, Nat.reduceLT, Nat.reduceLeDiff, and_self]
    have hs : ∀ v, v = σ 95 j → Q v σ := fun v hv => kk v (hv ▸ h95 j h1) (Or.inr ⟨j, h1, (eqv j).mp h2, hv, fun k' a b => h4 k' a ((eqv k').mpr b)⟩)
    exact ⟨fun c => hs 0 c.symm, fun c => hs 1 ((h95 j h1).resolve_left c).symm⟩
theorem p_bandsIn {m k : Int32} (hB : BK σ n o) (kk : Q (nI (fcnt (INb (σ 57) (σ 58) (σ 59) (σ 60) n m k) 300)) σ) : w_X1_bandsInside Q σ m k := by
  obtain ⟨hn, e62, e61, hz, h57, h59, hO⟩ := id hB
  have ex : ∀ b, b < 300 → IS n (MT (σ 57) (σ 59) (σ 60) (nI b) m k) (σ 58) (σ 59) 1 → ∃ p, p < n ∧ (σ 57 (o p)).toInt = b := by
    intro b hb h
    rcases h with ⟨q, -⟩ | ⟨k', h1, h2, -⟩
    · exact absurd q (by decide)
    · obtain ⟨p, hp, ep⟩ := hO.2.1 k' h1
      exact ⟨p, hp, by rw [ep, h2.1, t_n (by omega)]⟩
  have fin : ∀ (i B : Nat) (v : Int32), i ≤ n → LI i o (MT (σ 57) (σ 59) (σ 60) (nI B) m k) (σ 58) v → (∀ p, i ≤ p → p < n → ¬ σ 57 (o p) = nI B) → (v = 0 → fcnt (INb (σ 57) (σ 58) (σ 59) (σ 60) n m k) (B + 1) = fcnt (INb (σ 57) (σ 58) (σ 59) (σ 60) n m k) B) ∧ (¬ v = 0 → fcnt (INb (σ 57) (σ 58) (σ 59) (σ 60) n m k) (B + 1) = fcnt (INb (σ 57) (σ 58) (σ 59) (σ 60) n m k) B + 1) := by
    intro i B v hi hl hno
    have h1 : IS n (MT (σ 57) (σ 59) (σ 60) (nI B) m k) (σ 58) (σ 59) v := LI_IS hO (Nat.le_refl _) (B := nI B) (fun k _ q => q.1) (fun k hk => ⟨fun q => by obtain ⟨p, hp, ep⟩ := hO.2.1 k hk; exact ⟨p, hp, ep, q⟩, fun ⟨_, _, _, q⟩ => q⟩) (hl.more hi (fun p a b q => hno p a b q.1))
    refine ⟨fun c => fcnt_F (p := INb (σ 57) (σ 58) (σ 59) (σ 60) n m k) (dc_F (fun q => ?_)), fun c => fcnt_T (p := INb (σ 57) (σ 58) (σ 59) (σ 60) n m k) (dc_T ?_)⟩
    · rw [c] at h1; exact absurd (h1.uniq q) (by decide)
    · rw [(h1.b hz).resolve_left c] at h1; exact h1
  have key : ∀ (d i : Nat) (x3 x4 x5 : Int32), i + d = n → ((i = 0 ∧ x3 = 0 ∧ x4 = -1 ∧ x5 = 0) ∨ (0 < i ∧ ∃ B, B < 300 ∧ x4 = nI B ∧ σ 57 (o (i - 1)) = nI B ∧ x3 = nI (fcnt (INb (σ 57) (σ 58) (σ 59) (σ 60) n m k) B) ∧ LI i o (MT (σ 57) (σ 59) (σ 60) (nI B) m k) (σ 58) x5)) → w_X1_bandsInside_11 Q (d + 1) m k x3 x4 x5 (nI i) σ := by
    intro d
    induction d with
    | zero =>
      intro i x3 x4 x5 hd h
      have hin : i = n := by omega
      unfold w_X1_bandsInside_11
      rw [e62, hin]
      refine q_T (nI_le (by omega) (by omega)) ?_
      rcases h with ⟨h0, h1, -, h3⟩ | ⟨h0, B, hB3, h1, h2, h3, h4⟩
      · subst h3
        refine q_T rfl ?_
        have e0 : fcnt (INb (σ 57) (σ 58) (σ 59) (σ 60) n m k) 300 = 0 := fcnt_gap (a := 0) (by omega) (fun b _ hb => dc_F (fun q => by obtain ⟨p, hp, -⟩ := ex b hb q; omega))
        rw [e0, nI_0] at kk
        rw [h1]; exact kk
      · have f := fin i B x5 (by omega) h4 (fun p a b => by omega)
        have h2' : (σ 57 (o (i - 1))).toInt = B := by rw [h2, t_n (by omega)]
        have g : fcnt (INb (σ 57) (σ 58) (σ 59) (σ 60) n m k) 300 = fcnt (INb (σ 57) (σ 58) (σ 59) (σ 60) n m k) (B + 1) := fcnt_gap (by omega) (fun b hb1 hb2 => dc_F (fun q => by
          obtain ⟨p, hp, ep⟩ := ex b hb2 q
          have := hO.mono (i := p) (j := i - 1) (by omega) (by omega)
          omega))
        refine ⟨fun c => ?_, fun c => ?_⟩
        · rw [h3, ← f.1 c, ← g]; exact kk
        · rw [h3, nI_1, ← f.2 c, ← g]; exact kk
    | succ d ih =>
      intro i x3 x4 x5 hd h
      have hoi := hO.1 i (by omega)
      obtain ⟨B', -, eB, eB2⟩ := i_ex (h57 (o i) hoi).1
      have hB' : B' < 300 := by have := (h57 (o i) hoi).2; omega
      have half : ∀ v3 v5, v3 = nI (fcnt (INb (σ 57) (σ 58) (σ 59) (σ 60) n m k) B') → LI i o (MT (σ 57) (σ 59) (σ 60) (nI B') m k) (σ 58) v5 → w_X1_bandsInside_66 Q (w_X1_bandsInside_11 Q (d + 1)) m k v3 (nI B') v5 (nI i) (nI (o i)) σ := by
        intro v3 v5 e3 hl
        unfold w_X1_bandsInside_66
        simp (disch := omega) only [l_3, l_4, l_6, l_8, l_9, l_10, l_12, l_14, l_16, l_19, l_20, l_23, l_24, l_26, l_28, l_39, l_40, l_56, l_57, l_60, l_192, l_200, l_255, l_299, l_320, l_400, l_1120, l_2000, l_20000, l_10000, l_1000, l_1000000, nI_1, n_2mul, nI_add, pk_mul, pk_sub, sb_m1, nI_clamp, nI_clamp0, vpT, nI_leI, nI_ltI, nI_eq, nI_0le, nI_lt0, nI_le0, nI_0lt, nI_eq0, nI_eqm1, nI_m1eq, Nat.add_one_sub_one, forall_eq, true_and, and_true, true_implies, not_true_eq_false, not_false_eq_true, false_implies, implies_true, ne_eq, Nat.reduceEqDiff, Nat.reduceAdd, Nat.reduceMul, Nat.reduceLT, Nat.reduceLeDiff, and_self]
        have nx : ∀ v, LI (i + 1) o (MT (σ 57) (σ 59) (σ 60) (nI B') m k) (σ 58) v → w_X1_bandsInside_11 Q (d + 1) m k v3 (nI B') v (nI (i + 1)) σ := fun v hv => ih (i + 1) v3 (nI B') v (by omega) (Or.inr ⟨by omega, B', hB', rfl, eB, e3, hv⟩)
        exact ⟨fun c => nx v5 (hl.skip (fun q => q.2.1 c)), fun c => ⟨fun c2 => nx v5 (hl.skip (fun q => q.2.2 c2)), fun c2 => nx _ (LI_take ⟨eB, c, c2⟩)⟩⟩
      unfold w_X1_bandsInside_11 w_X1_bandsInside_52
      rw [e62]
      simp (disch := omega) only [l_3, l_4, l_6, l_8, l_9, l_10, l_12, l_14, l_16, l_19, l_20, l_23, l_24, l_26, l_28, l_39, l_40, l_56, l_57, l_60, l_192, l_200, l_255, l_299, l_320, l_400, l_1120, l_2000, l_20000, l_10000, l_1000, l_1000000, nI_1, n_2mul, nI_add, pk_mul, pk_sub, sb_m1, nI_clamp, nI_clamp0, vpT, nI_leI, nI_ltI, nI_eq, nI_0le, nI_lt0, nI_le0, nI_0lt, nI_eq0, nI_eqm1, nI_m1eq, Nat.add_one_sub_one, forall_eq, true_and, and_true, true_implies, not_true_eq_false, not_false_eq_true, false_implies, implies_true, ne_eq, Nat.reduceEqDiff, Nat.reduceAdd, Nat.reduceMul, Nat.reduceLT, Nat.reduceLeDiff, and_self, e61 i (show i < n by omega), eB]
      refine q_F (by omega) ?_
      rcases h with ⟨h0, h1, h2, h3⟩ | ⟨h0, B, hB3, h1, h2, h3, h4⟩
      · subst h0 h1 h2 h3
        refine q_F (by rw [nI_eqm1 (by omega)]; exact id) (q_T rfl (half _ _ ?_ LI_0))
        have e0 : fcnt (INb (σ 57) (σ 58) (σ 59) (σ 60) n m k) B' = 0 := fcnt_gap (a := 0) (by omega) (fun b _ hb => dc_F (fun q => by
          obtain ⟨p, hp, ep⟩ := ex b (by omega) q
          have := hO.mono (i := 0) (j := p) (by omega) hp
          omega))
        rw [e0, nI_0]; rfl
      · have h2' : (σ 57 (o (i - 1))).toInt = B := by rw [h2, t_n (by omega)]
        have hmon := hO.mono (i := i - 1) (j := i) (by omega) (by omega)
        subst h1
        refine ⟨fun c => ?_, fun c => ?_⟩
        · have := nI_inj c (by omega) (by omega)
          subst this
          exact half x3 x5 h3 h4
        · have hne : B' ≠ B := fun q => c (by rw [q])
          have f := fin i B x5 (by omega) h4 (fun p a b q => by
            have := hO.mono (i := i) (j := p) a b
            rw [q, t_n (by omega)] at this
            omega)
          have g : fcnt (INb (σ 57) (σ 58) (σ 59) (σ 60) n m k) B' = fcnt (INb (σ 57) (σ 58) (σ 59) (σ 60) n m k) (B + 1) := fcnt_gap (by omega) (fun b hb1 hb2 => dc_F (fun q => by
            obtain ⟨p, hp, ep⟩ := ex b (by omega) q
            by_cases cp : p < i
            · have := hO.mono (i := p) (j := i - 1) (by omega) (by omega)
              omega
            · have := hO.mono (i := i) (j := p) (by omega) hp
              omega))
          have lz : LI i o (MT (σ 57) (σ 59) (σ 60) (nI B') m k) (σ 58) 0 := Or.inl ⟨rfl, fun p hp q => by
            have := hO.mono (i := p) (j := i - 1) (by omega) (by omega)
            rw [q.1, t_n (by omega)] at this
            omega⟩
          refine ⟨fun c0 => half _ _ ?_ lz, fun c0 => half _ _ ?_ lz⟩
          · rw [h3, g, f.1 c0, Int32.add_zero]
          · rw [h3, g, f.2 c0, nI_1]
  unfold w_X1_bandsInside
  have := key n 0 0 (-1) 0 (by omega) (Or.inl ⟨rfl, rfl, rfl, rfl⟩)
  rw [nI_0] at this
  exact ⟨_, this⟩
theorem p_odd {k : Int32} (hB : BK σ n o) (kk : Q (nI (fcnt (ODb (σ 57) (σ 58) (σ 59) (σ 60) n k) n)) σ) : w_X1_oddPasses Q σ k := by
  obtain ⟨hn, e62, e61, hz, h57, h59, hO⟩ := id hB
  have hp : fcnt (fun i => ODb (σ 57) (σ 58) (σ 59) (σ 60) n k (o i)) n = fcnt (ODb (σ 57) (σ 58) (σ 59) (σ 60) n k) n := fcnt_perm hO.1 hO.2.1 hO.inj
  rw [← hp] at kk
  have key : ∀ (d i : Nat) (x2 x3 x4 : Int32), i + d = n → x2 = nI (fcnt (fun p => ODb (σ 57) (σ 58) (σ 59) (σ 60) n k (o p)) i) → ((i = 0 ∧ x3 = -1 ∧ x4 = 0) ∨ (0 < i ∧ x3 = σ 57 (o (i - 1)) ∧ LI i o (PB (σ 57) (σ 60) x3 k) (σ 58) x4)) → w_X1_oddPasses_10 Q (d + 1) k x2 x3 x4 (nI i) σ := by
    intro d
    induction d with
    | zero =>
      intro i x2 x3 x4 hd h2 h
      have hin : i = n := by omega
      unfold w_X1_oddPasses_10
      rw [e62, h2, hin]
      exact q_T (nI_le (by omega) (by omega)) kk
    | succ d ih =>
      intro i x2 x3 x4 hd h2 h
      have hoi := hO.1 i (by omega)
      have half : ∀ v4, LI i o (PB (σ 57) (σ 60) (σ 57 (o i)) k) (σ 58) v4 → w_X1_oddPasses_50 Q (w_X1_oddPasses_10 Q (d + 1)) k x2 (σ 57 (o i)) v4 (nI i) (nI (o i)) σ := by
        intro v4 hl
        have hIS : IS n (PA (σ 57) (σ 59) (σ 60) k (o i)) (σ 58) (σ 59) v4 := by
          refine LI_IS hO (i := i) (by omega) (P := PB (σ 57) (σ 60) (σ 57 (o i)) k) (B := σ 57 (o i)) (fun k _ q => q.1) (fun k' hk' => ⟨fun q => ?_, fun ⟨p, hp, ep, q⟩ => ⟨q.1, q.2, ?_⟩⟩) hl
          · obtain ⟨p, hp, ep⟩ := hO.2.1 k' hk'
            refine ⟨p, ?_, ep, q.1, q.2.1⟩
            rcases Nat.lt_trichotomy p i with c | c | c
            · exact c
            · have := q.2.2
              rw [← ep, c] at this
              exact (lx_irr this).elim
            · have := hO.2.2 i p c hp
              rw [ep] at this
              exact (lx_asym q.2.2 (bfr_lx this q.1.symm)).elim
          · have := hO.2.2 p i hp (by omega)
            rw [ep] at this
            exact bfr_lx this q.1
        unfold w_X1_oddPasses_50 w_X1_oddPasses_79
        simp (disch := omega) only [l_3, l_4, l_6, l_8, l_9, l_10, l_12, l_14, l_16, l_19, l_20, l_23, l_24, l_26, l_28, l_39, l_40, l_56, l_57, l_60, l_192, l_200, l_255, l_299, l_320, l_400, l_1120, l_2000, l_20000, l_10000, l_1000, l_1000000, nI_1, n_2mul, nI_add, pk_mul, pk_sub, sb_m1, nI_clamp, nI_clamp0, vpT, nI_leI, nI_ltI, nI_eq, nI_0le, nI_lt0, nI_le0, nI_0lt, nI_eq0, nI_eqm1, nI_m1eq, Nat.add_one_sub_one, forall_eq, true_and, and_true, true_implies, not_true_eq_false, not_false_eq_true, false_implies, implies_true, ne_eq, Nat.reduceEqDiff, Nat.reduceAdd, Nat.reduceMul, Nat.reduceLT, Nat.reduceLeDiff, and_self]
        have nx : ∀ v2 v, v2 = nI (fcnt (fun p => ODb (σ 57) (σ 58) (σ 59) (σ 60) n k (o p)) (i + 1)) → LI (i + 1) o (PB (σ 57) (σ 60) (σ 57 (o i)) k) (σ 58) v → w_X1_oddPasses_10 Q (d + 1) k v2 (σ 57 (o i)) v (nI (i + 1)) σ := fun v2 v e hv => ih (i + 1) v2 _ v (by omega) e (Or.inr ⟨by omega, rfl, hv⟩)
        refine ⟨fun c => nx x2 v4 ?_ (hl.skip (fun q => q.2 c)), fun c => ⟨fun c2 => nx _ _ ?_ (LI_take ⟨rfl, c⟩), fun c2 => nx _ _ ?_ (LI_take ⟨rfl, c⟩)⟩⟩
        · rw [fcnt_F (p := fun p => ODb (σ 57) (σ 58) (σ 59) (σ 60) n k (o p)) (dc_F (fun q => q.1 c))]; exact h2
        · rw [fcnt_F (p := fun p => ODb (σ 57) (σ 58) (σ 59) (σ 60) n k (o p)) (dc_F (fun q => c2 (q.2.uniq hIS))), h2, Int32.add_zero]
        · rw [fcnt_T (p := fun p => ODb (σ 57) (σ 58) (σ 59) (σ 60) n k (o p)) (dc_T ⟨c, by rw [c2]; exact hIS⟩), h2, nI_1]
      unfold w_X1_oddPasses_10
      rw [e62]
      simp (disch := omega) only [l_3, l_4, l_6, l_8, l_9, l_10, l_12, l_14, l_16, l_19, l_20, l_23, l_24, l_26, l_28, l_39, l_40, l_56, l_57, l_60, l_192, l_200, l_255, l_299, l_320, l_400, l_1120, l_2000, l_20000, l_10000, l_1000, l_1000000, nI_1, n_2mul, nI_add, pk_mul, pk_sub, sb_m1, nI_clamp, nI_clamp0, vpT, nI_leI, nI_ltI, nI_eq, nI_0le, nI_lt0, nI_le0, nI_0lt, nI_eq0, nI_eqm1, nI_m1eq, Nat.add_one_sub_one, forall_eq, true_and, and_true, true_implies, not_true_eq_false, not_false_eq_true, false_implies, implies_true, ne_eq, Nat.reduceEqDiff, Nat.reduceAdd, Nat.reduceMul, Nat.reduceLT, Nat.reduceLeDiff, and_self, e61 i (show i < n by omega)]
      refine q_F (by omega) ?_
      rcases h with ⟨h0, h1, h3⟩ | ⟨h0, h1, h3⟩
      · subst h0 h1 h3
        refine ⟨fun c => ?_, fun c => half 0 LI_0⟩
        have := (h57 _ hoi).1
        rw [c, t_m1] at this
        omega
      · refine ⟨fun c => ?_, fun c => half 0 (Or.inl ⟨rfl, fun p hp q => c ?_⟩)⟩
        · have := half x4 (by rw [c]; exact h3)
          rw [c] at this
          exact this
        · have m1 := hO.mono (i := p) (j := i - 1) (by omega) (by omega)
          have m2 := hO.mono (i := i - 1) (j := i) (by omega) (by omega)
          rw [q.1] at m1
          rw [h1]
          exact i_eq.mpr (by omega)
  unfold w_X1_oddPasses
  have := key n 0 0 (-1) 0 (by omega) nI_0.symm (Or.inl ⟨rfl, rfl, rfl⟩)
  rw [nI_0] at this
  exact ⟨_, this⟩
end BOOK2
