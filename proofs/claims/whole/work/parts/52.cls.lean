/-! ESCAPE, the class's search: what is reached, what is closed -/
def rv (k : Nat) : Nat := if k % 2 = 0 then k + 1 else k - 1
theorem rv_xor : ∀ k, k < 28 → nI k ^^^ 1 = nI (rv k) := by decide
theorem rv_rv (k : Nat) : rv (rv k) = k := by unfold rv; split <;> split <;> omega
section CLS
variable (P K : Nat) (fr tt ln : Nat → Nat) (wd : Nat → Int)
/-- the class's ground -/
def GC (σ : gS) : Prop :=
  (P ≤ 8 ∧ K ≤ 28 ∧ ¬ σ 35 0 = 0 ∧ σ 26 0 = nI P) ∧ (∀ k, k < K → fr k < P ∧ tt k < P ∧ fr k ≠ tt k ∧ 1 ≤ ln k ∧ ln k ≤ 8 ∧ 1 ≤ wd k ∧ wd k ≤ 2000) ∧ (∀ k, k < K → σ 27 k = nI (tt k) ∧ σ 28 k = nI (ln k) ∧ (σ 29 k).toInt = wd k) ∧ (∀ k, k < K → rv k < K ∧ fr (rv k) = tt k ∧ tt (rv k) = fr k ∧ ln (rv k) = ln k ∧ wd (rv k) = wd k) ∧ (∀ p, p < P → ∃ c : Nat, c ≤ 14 ∧ σ 32 p = nI c ∧ (∀ j, j < c → ∃ k, k < K ∧ fr k = p ∧ σ 31 (14 * p + j) = nI k) ∧ (∀ k, k < K → fr k = p → ∃ j, j < c ∧ σ 31 (14 * p + j) = nI k))
/-- a reached spot's next step -/
def VS (M : Nat) (σ : gS) (rs : Nat → Nat → Prop) (ts : Nat → Nat → Nat) (p m : Nat) : Prop :=
  0 < (σ 46 (40 * p + m)).toInt ∧ (((σ 44 (40 * p + m)) = nI 57 ∧ m = M ∧ (σ 46 (40 * p + m)).toInt ≤ (σ 41 p).toInt) ∨ ((σ 44 (40 * p + m)) = nI 56 ∧ 1 ≤ m ∧ (σ 45 (40 * p + m)) = nI (m - 1) ∧ rs p (m - 1) ∧ ts p (m - 1) < ts p m ∧ (σ 46 (40 * p + m)).toInt ≤ (σ 38 (40 * p + (m - 1))).toInt ∧ (σ 46 (40 * p + m)).toInt ≤ (σ 46 (40 * p + (m - 1))).toInt) ∨ (∃ k g, k < K ∧ fr k = p ∧ (σ 44 (40 * p + m)) = nI k ∧ (σ 45 (40 * p + m)) = nI g ∧ m + ln k ≤ g ∧ rs (tt k) g ∧ ts (tt k) g < ts p m ∧ (σ 46 (40 * p + m)).toInt ≤ wd k - (σ 37 (40 * k + m)).toInt ∧ (σ 46 (40 * p + m)).toInt ≤ (σ 46 (40 * (tt k) + g)).toInt) ∨ (∃ k g, k < K ∧ tt k = p ∧ (σ 44 (40 * p + m)) = nI (28 + k) ∧ (σ 45 (40 * p + m)) = nI g ∧ ln k ≤ m ∧ m - ln k ≤ g ∧ rs (fr k) g ∧ ts (fr k) g < ts p m ∧ (σ 46 (40 * p + m)).toInt ≤ (σ 37 (40 * k + (m - ln k))).toInt ∧ (σ 46 (40 * p + m)).toInt ≤ (σ 46 (40 * (fr k) + g)).toInt))
def SI (J M : Nat) (σ : gS) (rs : Nat → Nat → Prop) (ts : Nat → Nat → Nat) (c : Nat) : Prop :=
  (∀ p, p < J → -1 ≤ (σ 42 p).toInt ∧ (σ 42 p).toInt ≤ M ∧ True) ∧ (∀ p m, rs p m → p < J ∧ (m : Int) ≤ (σ 42 p).toInt ∧ ts p m < c) ∧ (∀ (p m : Nat), p < J → (m : Int) = (σ 42 p).toInt → rs p m) ∧ (∀ p m, rs p m → VS K fr tt ln wd M σ rs ts p m) ∧ (c : Int) ≤ fsum J (fun p => (σ 42 p).toInt + 1)
def rsU (rs : Nat → Nat → Prop) (p m : Nat) : Nat → Nat → Prop := fun a b => rs a b ∨ (a = p ∧ b = m)
def tsU (ts : Nat → Nat → Nat) (p m c : Nat) : Nat → Nat → Nat := fun a b => if a = p ∧ b = m then c else ts a b
theorem tsU_eq {ts : Nat → Nat → Nat} {p m c : Nat} : tsU ts p m c p m = c := if_pos ⟨rfl, rfl⟩
theorem tsU_ne {ts : Nat → Nat → Nat} {p m c a b : Nat} (h : ¬ (a = p ∧ b = m)) : tsU ts p m c a b = ts a b := if_neg h
theorem vpn1 : vp_nar .boolean 1 = 1 := rfl
theorem vpn0 : vp_nar .boolean 0 = 0 := rfl
/-- the state after reach -/
def rch (σ : gS) (p m : Nat) (st nx rm : Int32) : gS := gu (gu (gu (gu (gu σ 42 p (nI m)) 43 p 1) 44 (40 * p + m) st) 45 (40 * p + m) nx) 46 (40 * p + m) rm
theorem rch_ne {σ : gS} {p m k : Nat} {st nx rm : Int32} (h : k < 42 ∨ 46 < k) : rch σ p m st nx rm k = σ k := by
  unfold rch
  rw [gu_ne (by omega), gu_ne (by omega), gu_ne (by omega), gu_ne (by omega), gu_ne (by omega)]
theorem rch_42 {σ : gS} {p m q : Nat} {st nx rm : Int32} : rch σ p m st nx rm 42 q = if q = p then nI m else σ 42 q := by
  unfold rch
  rw [gu_ne (by omega), gu_ne (by omega), gu_ne (by omega), gu_ne (by omega), gu_at]
theorem rch_43 {σ : gS} {p m q : Nat} {st nx rm : Int32} : rch σ p m st nx rm 43 q = if q = p then 1 else σ 43 q := by
  unfold rch
  rw [gu_ne (by omega), gu_ne (by omega), gu_ne (by omega), gu_at, gu_ne (by omega)]
theorem rch_44 {σ : gS} {p m q : Nat} {st nx rm : Int32} : rch σ p m st nx rm 44 q = if q = 40 * p + m then st else σ 44 q := by
  unfold rch
  rw [gu_ne (by omega), gu_ne (by omega), gu_at, gu_ne (by omega), gu_ne (by omega)]
theorem rch_45 {σ : gS} {p m q : Nat} {st nx rm : Int32} : rch σ p m st nx rm 45 q = if q = 40 * p + m then nx else σ 45 q := by
  unfold rch
  rw [gu_ne (by omega), gu_at, gu_ne (by omega), gu_ne (by omega), gu_ne (by omega)]
theorem rch_46 {σ : gS} {p m q : Nat} {st nx rm : Int32} : rch σ p m st nx rm 46 q = if q = 40 * p + m then rm else σ 46 q := by
  unfold rch
  rw [gu_at, gu_ne (by omega), gu_ne (by omega), gu_ne (by omega), gu_ne (by omega)]
variable {P K fr tt ln wd}
theorem p_reach {Q : gS → Prop} {σ : gS} {p m : Nat} {st nx rm : Int32} (hp : p < 8) (hm : m < 40) (h : Q (rch σ p m st nx rm)) : w_X0_reach Q σ (nI p) (nI m) st nx rm := by
  unfold w_X0_reach
  simp (disch := omega) only [l_3, l_4, l_6, l_8, l_9, l_10, l_12, l_14, l_16, l_19, l_20, l_23, l_24, l_26, l_28, l_39, l_40, l_56, l_57, l_60, l_192, l_200, l_255, l_299, l_320, l_400, l_1120, l_2000, l_20000, l_10000, l_1000, l_1000000, nI_1, n_2mul, nI_add, pk_mul, pk_sub, sb_m1, nI_clamp, nI_clamp0, vpT, nI_leI, nI_ltI, nI_eq, nI_0le, nI_lt0, nI_le0, nI_0lt, nI_eq0, nI_eqm1, nI_m1eq, Nat.add_one_sub_one, forall_eq, true_and, and_true, true_implies, not_true_eq_false, not_false_eq_true, false_implies, implies_true, ne_eq, Nat.reduceEqDiff, Nat.reduceAdd, Nat.reduceMul, Nat.reduceLT, Nat.reduceLeDiff, and_self, vpn1]
  exact h
theorem SI_reach {J M : Nat} {σ : gS} {rs : Nat → Nat → Prop} {ts : Nat → Nat → Nat} {c p m : Nat} {st nx rm : Int32} (hM : M < 40) (h : SI K fr tt ln wd J M σ rs ts c) (hp : p < J) (hm : (σ 42 p).toInt < m) (hmM : m ≤ M)
    (hv : VS K fr tt ln wd M (rch σ p m st nx rm) (rsU rs p m) (tsU ts p m c) p m) :
    SI K fr tt ln wd J M (rch σ p m st nx rm) (rsU rs p m) (tsU ts p m c) (c + 1) := by
  obtain ⟨h1, h2, h3, h4, h5⟩ := h
  have hn : (nI m).toInt = m := t_n (by omega)
  have hnr : ¬ rs p m := fun q => by have := (h2 p m q).2.1; omega
  refine ⟨fun q hq => ?_, fun a b hab => ?_, fun q b hq hb => ?_, fun a b hab => ?_, ?_⟩
  · rw [rch_42]
    have := h1 q hq
    split
    · subst q
      rw [hn]
      exact ⟨by omega, by omega, trivial⟩
    · exact this
  · rw [rch_42]
    rcases hab with hab | ⟨rfl, rfl⟩
    · obtain ⟨x1, x2, x3⟩ := h2 a b hab
      have hne : ¬ (a = p ∧ b = m) := fun q => hnr (by rw [← q.1, ← q.2]; exact hab)
      rw [tsU_ne hne]
      refine ⟨x1, ?_, by omega⟩
      split
      · subst a; rw [hn]; omega
      · exact x2
    · rw [if_pos rfl, tsU_eq, hn]
      exact ⟨hp, by omega, by omega⟩
  · rw [rch_42] at hb
    split at hb
    · rename_i e
      subst e
      rw [hn] at hb
      exact Or.inr ⟨rfl, by omega⟩
    · exact Or.inl (h3 q b hq hb)
  · rcases hab with hab | ⟨rfl, rfl⟩
    · have hne : ¬ (a = p ∧ b = m) := fun q => hnr (by rw [← q.1, ← q.2]; exact hab)
      have hb40 : b < 40 := by
        have := h2 a b hab
        have := (h1 a this.1).2.1
        omega
      have hix : 40 * a + b ≠ 40 * p + m := by omega
      have key : ∀ a' b', rs a' b' → 40 * a' + b' ≠ 40 * p + m ∧ ¬ (a' = p ∧ b' = m) := fun a' b' hr => by
        have hne' : ¬ (a' = p ∧ b' = m) := fun q => hnr (by rw [← q.1, ← q.2]; exact hr)
        have x := h2 a' b' hr
        have := (h1 a' x.1).2.1
        exact ⟨by omega, hne'⟩
      obtain ⟨v0, v⟩ := h4 a b hab
      refine ⟨by rw [rch_46, if_neg hix]; exact v0, ?_⟩
      rcases v with ⟨v1, v2, v3⟩ | ⟨v1, v2, v3, v4, v5, v6, v7⟩ | ⟨k, g, v1, v2, v3, v4, v5, v6, v7, v8, v9⟩ | ⟨k, g, v1, v2, v3, v4, v5, v5', v6, v7, v8, v9⟩
      · exact Or.inl ⟨by rw [rch_44, if_neg hix]; exact v1, v2, by rw [rch_46, if_neg hix, rch_ne (by omega)]; exact v3⟩
      · obtain ⟨k1, k2⟩ := key _ _ v4
        exact Or.inr (Or.inl ⟨by rw [rch_44, if_neg hix]; exact v1, v2, by rw [rch_45, if_neg hix]; exact v3, Or.inl v4, by rw [tsU_ne k2, tsU_ne hne]; exact v5, by rw [rch_46, if_neg hix, rch_ne (by omega)]; exact v6, by rw [rch_46, rch_46, if_neg hix, if_neg k1]; exact v7⟩)
      · obtain ⟨k1, k2⟩ := key _ _ v6
        exact Or.inr (Or.inr (Or.inl ⟨k, g, v1, v2, by rw [rch_44, if_neg hix]; exact v3, by rw [rch_45, if_neg hix]; exact v4, v5, Or.inl v6, by rw [tsU_ne k2, tsU_ne hne]; exact v7, by rw [rch_46, if_neg hix, rch_ne (by omega)]; exact v8, by rw [rch_46, rch_46, if_neg hix, if_neg k1]; exact v9⟩))
      · obtain ⟨k1, k2⟩ := key _ _ v6
        exact Or.inr (Or.inr (Or.inr ⟨k, g, v1, v2, by rw [rch_44, if_neg hix]; exact v3, by rw [rch_45, if_neg hix]; exact v4, v5, v5', Or.inl v6, by rw [tsU_ne k2, tsU_ne hne]; exact v7, by rw [rch_46, if_neg hix, rch_ne (by omega)]; exact v8, by rw [rch_46, rch_46, if_neg hix, if_neg k1]; exact v9⟩))
    · exact hv
  · have := fsum_up (n := J) (f := fun q => (σ 42 q).toInt + 1) (g := fun q => (rch σ p m st nx rm 42 q).toInt + 1) (k := p) hp (fun i hi => by rw [rch_42, if_neg hi])
    rw [this, rch_42, if_pos rfl, hn]
    push_cast
    omega
end CLS
