/-! THE MODEL'S SEARCH -/
theorem fcnt_cong {n : Nat} {p p' : Nat → Bool} (h : ∀ i, i < n → p' i = p i) : fcnt p' n = fcnt p n := by
  induction n with
  | zero => rfl
  | succ n ih => rw [fcnt, fcnt, ih (fun i hi => h i (by omega)), h n (by omega)]
theorem fcnt_le (p : Nat → Bool) (n : Nat) : fcnt p n ≤ n := by
  induction n with
  | zero => exact Nat.le_refl _
  | succ n ih => rw [fcnt]; split <;> omega
theorem fcnt_lt {n x : Nat} {p : Nat → Bool} (hx : x < n) (h : p x = false) : fcnt p n < n := by
  induction n with
  | zero => omega
  | succ n ih =>
    rw [fcnt]
    by_cases e : x = n
    · subst e; rw [h]; have := fcnt_le p x; simp; omega
    · have := ih (by omega); split <;> omega
theorem fcnt_up {n x : Nat} {p p' : Nat → Bool} (hx : x < n) (h : p x = false) (h' : p' x = true) (ho : ∀ i, i ≠ x → p' i = p i) : fcnt p' n = fcnt p n + 1 := by
  induction n with
  | zero => omega
  | succ n ih =>
    rw [fcnt, fcnt]
    by_cases e : x = n
    · subst e; rw [fcnt_cong (fun i hi => ho i (by omega)), h, h']; simp
    · rw [ih (by omega), ho n (by omega)]; omega
theorem fcnt_0 {n : Nat} {p : Nat → Bool} (h : ∀ i, i < n → p i = false) : fcnt p n = 0 := by
  induction n with
  | zero => rfl
  | succ n ih => rw [fcnt, ih (fun i hi => h i (by omega)), h n (by omega)]; rfl
def kB (k : Nat) : Prop := 81 ≤ k ∧ k ≤ 86
section BFS
variable (P K : Nat) (fr tt ln : Nat → Nat) (wd : Nat → Int)
def GM (σ : gS) : Prop := (P ≤ 8 ∧ K ≤ 28 ∧ σ 71 0 = nI P ∧ ∃ W : Nat, σ 76 0 = nI W ∧ K = 2 * W) ∧ (∀ k, k < K → fr k < P ∧ tt k < P ∧ fr k ≠ tt k ∧ 1 ≤ ln k ∧ ln k ≤ 8 ∧ 1 ≤ wd k ∧ wd k ≤ 2000) ∧ (∀ k, k < K → σ 72 k = nI (fr k) ∧ σ 73 k = nI (tt k) ∧ σ 74 k = nI (ln k) ∧ (σ 75 k).toInt = wd k)
/-- by which step from (q, l) to (p, m), with room for n -/
def EV (T : Nat) (σ : gS) (by' bk : Int32) (p m q l : Nat) (n : Int) : Prop :=
  (by' = -1 ∧ bk = 0 ∧ q = p ∧ m = l + 1 ∧ m < T ∧ n ≤ 1000000) ∨ (by' = -1 ∧ bk = 1 ∧ q = p ∧ l = m + 1 ∧ n ≤ (σ 77 (40 * p + m)).toInt) ∨ (∃ k, k < K ∧ by' = nI k ∧ bk = 0 ∧ fr k = q ∧ tt k = p ∧ m = l + ln k ∧ m < T ∧ n ≤ wd k - (σ 78 (40 * k + l)).toInt) ∨ (∃ k, k < K ∧ by' = nI k ∧ bk = 1 ∧ tt k = q ∧ fr k = p ∧ l = m + ln k ∧ n ≤ (σ 78 (40 * k + m)).toInt)
def VM (T : Nat) (σ : gS) (pos : Nat → Nat) (x : Nat) : Prop :=
  ∃ p m, x = 40 * p + m ∧ p < P ∧ m < T ∧ ((σ 81 x = -5 ∧ m = 0 ∧ 0 < (σ 80 p).toInt) ∨ ∃ q l, σ 81 x = nI (40 * q + l) ∧ q < P ∧ l < T ∧ σ 84 (40 * q + l) = 1 ∧ pos (40 * q + l) < pos x ∧ EV K fr tt ln wd T σ (σ 82 x) (σ 83 x) p m q l 1)
def BI (T : Nat) (σ : gS) (c : Nat) (pos : Nat → Nat) : Prop :=
  σ 86 0 = nI c ∧ c = fcnt (fun x => decide (σ 84 x = 1)) 320 ∧ (∀ j, j < c → ∃ p m, p < P ∧ m < T ∧ σ 85 j = nI (40 * p + m) ∧ σ 84 (40 * p + m) = 1 ∧ pos (40 * p + m) = j) ∧ (∀ x, x < 320 → σ 84 x = 0 ∨ (σ 84 x = 1 ∧ pos x < c ∧ σ 85 (pos x) = nI x ∧ VM P K fr tt ln wd T σ pos x))
def BX (σ : gS) (c : Nat) (σ' : gS) (c' : Nat) : Prop := ag kB σ σ' ∧ c ≤ c' ∧ (∀ j, j < c → σ' 85 j = σ 85 j) ∧ (∀ y, σ 84 y = 1 → σ' 84 y = 1)
variable {P K fr tt ln wd}
theorem BX.rf {σ : gS} {c : Nat} : BX σ c σ c := ⟨ag_rf, Nat.le_refl _, fun _ _ => rfl, fun _ h => h⟩
theorem BX.tr {σ σ' σ'' : gS} {c c' c'' : Nat} (h : BX σ c σ' c') (h2 : BX σ' c' σ'' c'') : BX σ c σ'' c'' := by
  obtain ⟨h1, h3, h4, h5⟩ := h
  obtain ⟨g1, g3, g4, g5⟩ := h2
  exact ⟨ag_tr h1 g1, by omega, fun j hj => by rw [g4 j (by omega), h4 j hj], fun y hy => g5 y (h5 y hy)⟩
theorem EV.cong {T : Nat} {σ σ' : gS} {b k : Int32} {p m q l : Nat} {n : Int} (h : EV K fr tt ln wd T σ b k p m q l n) (e1 : σ' 77 = σ 77) (e2 : σ' 78 = σ 78) : EV K fr tt ln wd T σ' b k p m q l n := by
  unfold EV at *
  rw [e1, e2]; exact h
theorem ag_kB {σ σ' : gS} (h : ag kB σ σ') {k : Nat} (hk : k < 81 ∨ 86 < k) : σ' k = σ k := h k (by unfold kB; omega)
def psU (pos : Nat → Nat) (x c : Nat) : Nat → Nat := fun y => if y = x then c else pos y
theorem psU_eq {pos : Nat → Nat} {x c y : Nat} (h : y = x) : psU pos x c y = c := if_pos h
theorem psU_ne {pos : Nat → Nat} {x c y : Nat} (h : y ≠ x) : psU pos x c y = pos y := if_neg h
theorem vpnb {a : Int32} (h : a = 0 ∨ a = 1) : vp_nar .boolean a = a := by rcases h with rfl | rfl <;> rfl
theorem p_comes {Q : gS → Prop} {T : Nat} {σ : gS} {c : Nat} {pos : Nat → Nat} {p m : Nat} {a2 a3 a4 : Int32} (hP : P ≤ 8) (hT : T ≤ 40) (hB : BI P K fr tt ln wd T σ c pos) (hp : p < P) (hm : m < T) (h4 : a4 = 0 ∨ a4 = 1)
    (hE : (a2 = -5 ∧ m = 0 ∧ 0 < (σ 80 p).toInt) ∨ ∃ q l, a2 = nI (40 * q + l) ∧ q < P ∧ l < T ∧ σ 84 (40 * q + l) = 1 ∧ EV K fr tt ln wd T σ a3 a4 p m q l 1)
    (kk : ∀ σ' c' pos', BI P K fr tt ln wd T σ' c' pos' → BX σ c σ' c' → σ' 84 (40 * p + m) = 1 → Q σ') : w_X9_comes Q σ (nI (40 * p + m)) a2 a3 a4 := by
  obtain ⟨b1, b2, b3, b4⟩ := id hB
  have hx : 40 * p + m < 320 := by omega
  have hc320 := fcnt_le (fun x => decide (σ 84 x = 1)) 320
  unfold w_X9_comes
  rw [vpnb h4]
  simp (disch := omega) only [l_3, l_4, l_6, l_8, l_9, l_10, l_12, l_14, l_16, l_19, l_20, l_23, l_24, l_26, l_28, l_39, l_40, l_56, l_57, l_60, l_192, l_200, l_255, l_299, l_320, l_400, l_1120, l_2000, l_20000, l_10000, l_1000, l_1000000, nI_1, n_2mul, nI_add, pk_mul, pk_sub, sb_m1, nI_clamp, nI_clamp0, vpT, nI_leI, nI_ltI, nI_eq, nI_0le, nI_lt0, nI_le0, nI_0lt, nI_eq0, nI_eqm1, nI_m1eq, Nat.add_one_sub_one, forall_eq, true_and, and_true, true_implies, not_true_eq_false, not_false_eq_true, false_implies, implies_true, ne_eq, Nat.reduceEqDiff, Nat.reduceAdd, Nat.reduceMul, Nat.reduceLT, Nat.reduceLeDiff, and_self, gu_eq, gu_ne, gu_ne2, vpn1, b1]
  refine ⟨fun h0 => ?_, fun h0 => ?_⟩
  · have hc : c < 320 := by
      rw [b2]; exact fcnt_lt hx (by simp [h0])
    simp (disch := omega) only [l_3, l_4, l_6, l_8, l_9, l_10, l_12, l_14, l_16, l_19, l_20, l_23, l_24, l_26, l_28, l_39, l_40, l_56, l_57, l_60, l_192, l_200, l_255, l_299, l_320, l_400, l_1120, l_2000, l_20000, l_10000, l_1000, l_1000000, nI_1, n_2mul, nI_add, pk_mul, pk_sub, sb_m1, nI_clamp, nI_clamp0, vpT, nI_leI, nI_ltI, nI_eq, nI_0le, nI_lt0, nI_le0, nI_0lt, nI_eq0, nI_eqm1, nI_m1eq, Nat.add_one_sub_one, forall_eq, true_and, and_true, true_implies, not_true_eq_false, not_false_eq_true, false_implies, implies_true, ne_eq, Nat.reduceEqDiff, Nat.reduceAdd, Nat.reduceMul, Nat.reduceLT, Nat.reduceLeDiff, and_self, gu_eq, gu_ne, gu_ne2]
    obtain ⟨x, hxe⟩ : ∃ x, x = 40 * p + m := ⟨_, rfl⟩
    rw [← hxe] at h0 hx kk ⊢
    generalize hs : gu (gu (gu (gu (gu (gu σ 84 x 1) 81 x a2) 82 x a3) 83 x a4) 85 c (nI x)) 86 0 (nI (c + 1)) = s
    have e84 : ∀ y, s 84 y = if y = x then 1 else σ 84 y := fun y => by
      rw [← hs, gu_ne (by omega), gu_ne (by omega), gu_ne (by omega), gu_ne (by omega), gu_ne (by omega), gu_at]
    have e81 : ∀ y, s 81 y = if y = x then a2 else σ 81 y := fun y => by
      rw [← hs, gu_ne (by omega), gu_ne (by omega), gu_ne (by omega), gu_ne (by omega), gu_at, gu_ne (by omega)]
    have e82 : ∀ y, s 82 y = if y = x then a3 else σ 82 y := fun y => by
      rw [← hs, gu_ne (by omega), gu_ne (by omega), gu_ne (by omega), gu_at, gu_ne (by omega), gu_ne (by omega)]
    have e83 : ∀ y, s 83 y = if y = x then a4 else σ 83 y := fun y => by
      rw [← hs, gu_ne (by omega), gu_ne (by omega), gu_at, gu_ne (by omega), gu_ne (by omega), gu_ne (by omega)]
    have e85 : ∀ y, s 85 y = if y = c then nI x else σ 85 y := fun y => by
      rw [← hs, gu_ne (by omega), gu_at, gu_ne (by omega), gu_ne (by omega), gu_ne (by omega), gu_ne (by omega)]
    have e86 : s 86 0 = nI (c + 1) := by rw [← hs, gu_eq]
    have ea : ag kB σ s := fun k hk => by
      unfold kB at hk
      rw [← hs, gu_ne (by omega), gu_ne (by omega), gu_ne (by omega), gu_ne (by omega), gu_ne (by omega), gu_ne (by omega)]
    clear hs
    have e77 := ag_kB ea (k := 77) (by omega)
    have e78 := ag_kB ea (k := 78) (by omega)
    have e80 := ag_kB ea (k := 80) (by omega)
    have hnx : ∀ y, σ 84 y = 1 → y ≠ x := fun y hy e => by rw [e, h0] at hy; exact absurd hy (by decide)
    refine kk s (c + 1) (psU pos x c) ⟨e86, ?_, fun j hj => ?_, fun y hy => ?_⟩ ⟨ea, by omega, fun j hj => by rw [e85, if_neg (by omega)], fun y hy => by rw [e84, if_neg (hnx y hy)]; exact hy⟩ (by rw [e84, if_pos rfl])
    · rw [fcnt_up (p := fun x => decide (σ 84 x = 1)) (p' := fun y => decide (s 84 y = 1)) hx (by simp [h0]) (by simp [e84]) (fun i hi => by simp [e84, hi]), ← b2]
    · by_cases e : j = c
      · exact ⟨p, m, hp, hm, by rw [e85, if_pos e, hxe], by rw [e84, if_pos hxe.symm], by rw [psU_eq hxe.symm]; exact e.symm⟩
      · obtain ⟨p', m', h1, h2, h3, h4', h5⟩ := b3 j (by omega)
        have := hnx _ h4'
        exact ⟨p', m', h1, h2, by rw [e85, if_neg e]; exact h3, by rw [e84, if_neg this]; exact h4', by rw [psU_ne this]; exact h5⟩
    · by_cases e : y = x
      · refine Or.inr ⟨by rw [e84, if_pos e], by rw [psU_eq e]; omega, by rw [psU_eq e, e85, if_pos rfl, e], p, m, by rw [e, hxe], hp, hm, ?_⟩
        rw [e81, e82, e83, if_pos e, if_pos e, if_pos e, psU_eq e, e80]
        rcases hE with hE | ⟨q, l, h1, h2, h3, h5, h6⟩
        · exact Or.inl hE
        · have hq := hnx _ h5
          refine Or.inr ⟨q, l, h1, h2, h3, by rw [e84, if_neg hq]; exact h5, ?_, h6.cong e77 e78⟩
          rw [psU_ne hq]
          rcases b4 (40 * q + l) (by omega) with z | z
          · rw [z] at h5; exact absurd h5 (by decide)
          · exact z.2.1
      · rcases b4 y hy with z | ⟨z1, z2, z3, z4⟩
        · exact Or.inl (by rw [e84, if_neg e]; exact z)
        · refine Or.inr ⟨by rw [e84, if_neg e]; exact z1, by rw [psU_ne e]; omega, by rw [psU_ne e, e85, if_neg (by omega)]; exact z3, ?_⟩
          obtain ⟨p', m', v1, v2, v3, v4⟩ := z4
          refine ⟨p', m', v1, v2, v3, ?_⟩
          rw [e81, e82, e83, if_neg e, if_neg e, if_neg e, psU_ne e, e80]
          rcases v4 with v4 | ⟨q, l, w1, w2, w3, w4, w5, w6⟩
          · exact Or.inl v4
          · have hq := hnx _ w4
            exact Or.inr ⟨q, l, w1, w2, w3, by rw [e84, if_neg hq]; exact w4, by rw [psU_ne hq]; exact w5, w6.cong e77 e78⟩
  · refine kk σ c pos hB BX.rf ?_
    rcases b4 (40 * p + m) hx with z | z
    · exact absurd z h0
    · exact z.1
end BFS
