/-! THE MEADOW: tent -/
def ad (a b : Nat) : Nat := (a - b) + (b - a)
theorem ad_abs {a b : Nat} (ha : a < 2 ^ 31) (hb : b < 2 ^ 31) : (if 0 ≤ nI a - nI b then nI a - nI b else 0 - (nI a - nI b)) = nI (ad a b) := by
  have h := nI_subT ha hb
  unfold ad
  split
  · rename_i c
    rw [i_le, t_0, h] at c
    exact i_nat (by rw [h]; omega)
  · rename_i c
    rw [i_le, t_0, h] at c
    exact i_nat (by rw [i_sub (by rw [t_0, h]; omega) (by rw [t_0, h]; omega), t_0, h]; omega)
def FRq (sq : Nat → Int32) (s w h : Nat) : Prop := ∀ y x, y < h → x < w → sq (s + 16 * y + x) = -1
def okT (sq : Nat → Int32) (w h s : Nat) : Prop := s % 16 + w ≤ 16 ∧ s / 16 + h ≤ 12 ∧ FRq sq s w h
def stT (g s : Nat) : Nat := ad (s % 16) (g % 16) + ad (s / 16) (g / 16)
def nBc (ok : Nat → Prop) (st : Nat → Nat) (N : Nat) (r t : Int32) : Prop := (r = -1 ∧ t = 2147483647 ∧ ∀ s, s < N → ¬ ok s) ∨ ∃ s, s < N ∧ ok s ∧ r = nI s ∧ t = nI (st s) ∧ ∀ s', s' < N → ok s' → st s < st s' ∨ (st s = st s' ∧ s ≤ s')
def nMc (ok : Nat → Prop) (st : Nat → Nat) (N : Nat) (r t : Int32) : Prop := (r = -1 ∧ ∀ s, s < N → ¬ ok s) ∨ ∃ s, s < N ∧ ok s ∧ r = nI s ∧ t = nI (st s) ∧ ∀ s', s' < N → ok s' → st s < st s' ∨ (st s = st s' ∧ s ≤ s')
def nRc (ok : Nat → Prop) (st : Nat → Nat) (s : Nat) : Prop := s < 192 ∧ ok s ∧ ∀ s', s' < 192 → ok s' → st s < st s' ∨ (st s = st s' ∧ s ≤ s')
theorem nRc.uniq {ok : Nat → Prop} {st : Nat → Nat} {s s' : Nat} (h : nRc ok st s) (h' : nRc ok st s') : s = s' := by
  have h1 := h.2.2 s' h'.1 h'.2.1
  have h2 := h'.2.2 s h.1 h.2.1
  omega
theorem stT_bd (g s : Nat) (hg : g < 192) (hs : s < 192) : stT g s ≤ 60 := by unfold stT ad; omega
theorem nBc.ext {ok : Nat → Prop} {st : Nat → Nat} {N N' : Nat} {r t : Int32} (h : nBc ok st N r t) (hN : N ≤ N') (hx : ∀ s, N ≤ s → s < N' → ¬ ok s) : nBc ok st N' r t := by
  rcases h with ⟨a, b, c⟩ | ⟨s, h1, h2, h3, h4, h5⟩
  · refine Or.inl ⟨a, b, fun s hs => ?_⟩
    by_cases q : s < N
    · exact c s q
    · exact hx s (by omega) hs
  · refine Or.inr ⟨s, by omega, h2, h3, h4, fun s' hs' ho => ?_⟩
    by_cases q : s' < N
    · exact h5 s' q ho
    · exact absurd ho (hx s' (by omega) hs')
section TENT
variable {Q : Int32 → gS → Prop} {σ : gS} {w h g : Nat}
theorem p_free {X Y : Nat} (hw : X + w ≤ 16) (hh : Y + h ≤ 12) (t : FRq (σ 19) (16 * Y + X) w h → Q 1 σ) (f : ¬ FRq (σ 19) (16 * Y + X) w h → Q 0 σ) : w_X3_isFree Q σ (nI X) (nI Y) (nI w) (nI h) := by
  have key : ∀ (d y : Nat), y + d = h → (∀ y' x', y' < y → x' < w → σ 19 (16 * Y + X + 16 * y' + x') = -1) → w_X3_isFree_3 Q (d + 1) (nI X) (nI Y) (nI w) (nI h) (nI (Y + y)) σ := by
    intro d
    induction d with
    | zero =>
      intro y hy H
      have : y = h := by omega
      subst this
      unfold w_X3_isFree_3
      refine q_T ?_ (t H)
      rw [nI_add]
      exact nI_le (Nat.le_refl _) (by omega)
    | succ d ih =>
      intro y hy H
      have key2 : ∀ (e x : Nat), x + e = w → (∀ x', x' < x → σ 19 (16 * Y + X + 16 * y + x') = -1) → w_X3_isFree_22 Q (w_X3_isFree_3 Q (d + 1)) (e + 1) (nI X) (nI Y) (nI w) (nI h) (nI (Y + y)) (nI (X + x)) σ := by
        intro e
        induction e with
        | zero =>
          intro x hx H2
          have : x = w := by omega
          subst this
          unfold w_X3_isFree_22
          refine q_T (by rw [nI_add]; exact nI_le (Nat.le_refl _) (by omega)) ?_
          rintro _ rfl
          rw [nI_1]
          refine ih (y + 1) (by omega) (fun y' x' h1 h2 => ?_)
          by_cases e : y' = y
          · rw [e]; exact H2 x' h2
          · exact H y' x' (by omega) h2
        | succ e ih2 =>
          intro x hx H2
          unfold w_X3_isFree_22
          simp (disch := omega) only [l_3, l_4, l_6, l_8, l_9, l_10, l_12, l_14, l_16, l_19, l_20, l_23, l_24, l_26, l_28, l_39, l_40, l_56, l_57, l_60, l_192, l_200, l_255, l_299, l_320, l_400, l_1120, l_2000, l_20000, l_10000, l_1000, l_1000000, nI_1, n_2mul, nI_add, pk_mul, pk_sub, sb_m1, nI_clamp, nI_clamp0, vpT, nI_leI, nI_ltI, nI_eq, nI_0le, nI_lt0, nI_le0, nI_0lt, nI_eq0, nI_eqm1, nI_m1eq, Nat.add_one_sub_one, forall_eq, true_and, and_true, true_implies, not_true_eq_false, not_false_eq_true, false_implies, implies_true, ne_eq, Nat.reduceEqDiff, Nat.reduceAdd, Nat.reduceMul, Nat.reduceLT, Nat.reduceLeDiff, and_self]
          refine q_F (by omega) (q_F (by omega) ?_)
          rw [show 16 * (Y + y) + (X + x) = 16 * Y + X + 16 * y + x by omega]
          refine ⟨fun c => ih2 (x + 1) (by omega) (fun x' h1 => ?_), fun c => f (fun q => c (q y x (by omega) (by omega)))⟩
          by_cases e : x' = x
          · rw [e]; exact c
          · exact H2 x' (by omega)
      unfold w_X3_isFree_3
      simp (disch := omega) only [l_3, l_4, l_6, l_8, l_9, l_10, l_12, l_14, l_16, l_19, l_20, l_23, l_24, l_26, l_28, l_39, l_40, l_56, l_57, l_60, l_192, l_200, l_255, l_299, l_320, l_400, l_1120, l_2000, l_20000, l_10000, l_1000, l_1000000, nI_1, n_2mul, nI_add, pk_mul, pk_sub, sb_m1, nI_clamp, nI_clamp0, vpT, nI_leI, nI_ltI, nI_eq, nI_0le, nI_lt0, nI_le0, nI_0lt, nI_eq0, nI_eqm1, nI_m1eq, Nat.add_one_sub_one, forall_eq, true_and, and_true, true_implies, not_true_eq_false, not_false_eq_true, false_implies, implies_true, ne_eq, Nat.reduceEqDiff, Nat.reduceAdd, Nat.reduceMul, Nat.reduceLT, Nat.reduceLeDiff, and_self]
      refine q_F (by omega) (q_F (by omega) ?_)
      have := key2 w 0 (by omega) (fun x' h1 => by omega)
      rw [Nat.add_zero] at this
      exact ⟨_, this⟩
  unfold w_X3_isFree
  have := key h 0 (by omega) (fun y' x' h1 => by omega)
  rw [Nat.add_zero] at this
  exact ⟨_, this⟩
theorem p_steps {x y : Nat} (hg : g < 192) (hx : x < 16) (hy : y < 12) (e20 : σ 20 0 = nI g) (kk : Q (nI (stT g (16 * y + x))) σ) : w_X3_stepsFromGate Q σ (nI x) (nI y) := by
  unfold w_X3_stepsFromGate
  unfold stT at kk
  rw [show (16 * y + x) % 16 = x by omega, show (16 * y + x) / 16 = y by omega] at kk
  rw [e20, l_16, pk_div (by omega) (by omega) (by omega), pk_mul, pk_sub (by omega), ad_abs (by omega) (by omega), ad_abs (by omega) (by omega), nI_add, show g - g / 16 * 16 = g % 16 by omega]
  exact kk
theorem p_corner (hw : 1 ≤ w ∧ w ≤ 5) (hh : 1 ≤ h ∧ h ≤ 5) (hg : g < 192) (e20 : σ 20 0 = nI g) (no : (∀ s, s < 192 → ¬ okT (σ 19) w h s) → Q (-1) σ) (yes : ∀ s, nRc (okT (σ 19) w h) (stT g) s → Q (nI s) σ) : w_X3_nearestCorner Q σ (nI w) (nI h) := by
  have key : ∀ (d Y : Nat) (r t : Int32), Y + d = 13 - h → nBc (okT (σ 19) w h) (stT g) (16 * Y) r t → w_X3_nearestCorner_9 Q (d + 1) (nI w) (nI h) r t (nI Y) σ := by
    intro d
    induction d with
    | zero =>
      intro Y r t hY hB
      unfold w_X3_nearestCorner_9
      refine q_T (by rw [l_12, nI_add]; exact nI_lt (by omega) (by omega)) ?_
      have hB2 := hB.ext (N' := 192) (by omega) (fun s h1 h2 q => by have := q.2.1; omega)
      rcases hB2 with ⟨a, b, c⟩ | ⟨s, h1, h2, h3, h4, h5⟩
      · rw [a]; exact no c
      · rw [h3]; exact yes s ⟨h1, h2, h5⟩
    | succ d ih =>
      intro Y r t hY hB
      have key2 : ∀ (e X : Nat) (r t : Int32), X + e = 17 - w → nBc (okT (σ 19) w h) (stT g) (16 * Y + X) r t → w_X3_nearestCorner_21 Q (w_X3_nearestCorner_9 Q (d + 1)) (e + 1) (nI w) (nI h) r t (nI Y) (nI X) σ := by
        intro e
        induction e with
        | zero =>
          intro X r t hX hB
          unfold w_X3_nearestCorner_21
          refine q_T (by rw [l_16, nI_add]; exact nI_lt (by omega) (by omega)) ?_
          rintro _ rfl
          rw [nI_1]
          exact ih (Y + 1) r t (by omega) (hB.ext (by omega) (fun s h1 h2 q => by have := q.1; omega))
        | succ e ih2 =>
          intro X r t hX hB
          have b1 := stT_bd g (16 * Y + X) hg (by omega)
          have eX : (16 * Y + X) % 16 = X := by omega
          have eY : (16 * Y + X) / 16 = Y := by omega
          unfold w_X3_nearestCorner_21
          refine q_F (fun c => by rw [l_16, nI_add, nI_ltI (by omega) (by omega)] at c; omega) (p_steps hg (by omega) (by omega) e20 ⟨fun c => ?_, fun c => p_free (by omega) (by omega) (fun q => q_F (by decide) ?_) (fun q => q_T rfl ?_)⟩)
          · rintro _ rfl
            rw [nI_1]
            refine ih2 (X + 1) r t (by omega) ?_
            rcases hB with ⟨a, b, c'⟩ | ⟨s, h1, h2, h3, h4, h5⟩
            · exfalso
              rw [b, i_le, t_n (by omega)] at c
              have : (2147483647 : Int32).toInt = 2147483647 := rfl
              omega
            · have := stT_bd g s hg (by omega)
              rw [h4, nI_leI (by omega) (by omega)] at c
              refine Or.inr ⟨s, by omega, h2, h3, h4, fun s' hs' ho => ?_⟩
              by_cases e : s' = 16 * Y + X
              · rw [e]; omega
              · exact h5 s' (by omega) ho
          · rintro _ rfl _ rfl
            rw [nI_1, l_16, pk_mul, nI_add]
            refine ih2 (X + 1) _ _ (by omega) (Or.inr ⟨16 * Y + X, by omega, ⟨by omega, by omega, q⟩, rfl, rfl, fun s' hs' ho => ?_⟩)
            by_cases e : s' = 16 * Y + X
            · rw [e]; omega
            · rcases hB with ⟨a, b, c'⟩ | ⟨s, h1, h2, h3, h4, h5⟩
              · exact absurd ho (c' s' (by omega))
              · have := stT_bd g s hg (by omega)
                rw [h4, nI_leI (by omega) (by omega)] at c
                have := h5 s' (by omega) ho
                omega
          · rintro _ rfl
            rw [nI_1]
            refine ih2 (X + 1) r t (by omega) (hB.ext (by omega) (fun s h1 h2 ho => ?_))
            have : s = 16 * Y + X := by omega
            rw [this] at ho
            exact q ho.2.2
      unfold w_X3_nearestCorner_9
      refine q_F (fun c => by rw [l_12, nI_add, nI_ltI (by omega) (by omega)] at c; omega) ?_
      have := key2 (17 - w) 0 r t (by omega) hB
      rw [nI_0] at this
      exact ⟨_, this⟩
  unfold w_X3_nearestCorner
  have := key (13 - h) 0 (-1) 2147483647 (by omega) (Or.inl ⟨rfl, rfl, fun s hs => by omega⟩)
  rw [nI_0] at this
  exact ⟨_, this⟩
/-- a square of the tent, as far as it has been put -/
def inP (s w y x j : Nat) : Prop := (s / 16 ≤ j / 16 ∧ j / 16 < s / 16 + y ∧ s % 16 ≤ j % 16 ∧ j % 16 < s % 16 + w) ∨ (j / 16 = s / 16 + y ∧ s % 16 ≤ j % 16 ∧ j % 16 < s % 16 + x)
def FP (s w y x : Nat) (v : Int32) (f f' : Nat → Int32) : Prop := ∀ j, f' j = if dc (inP s w y x j) then v else f j
theorem FP_0 {s w : Nat} {v : Int32} {f : Nat → Int32} : FP s w 0 0 v f f := fun j => by
  rw [dc_F (fun q => by unfold inP at q; omega)]; rfl
theorem FP.x {s w y x : Nat} {v : Int32} {f f' : Nat → Int32} (h : FP s w y x v f f') (hx : s % 16 + x < 16) : FP s w y (x + 1) v f (upd f' (s + 16 * y + x) v) := fun j => by
  unfold upd
  by_cases e : j = s + 16 * y + x
  · rw [if_pos e, dc_T (by unfold inP; right; omega)]; rfl
  · rw [if_neg e, h j, dc_iff (q := inP s w y (x + 1) j)]
    unfold inP
    omega
theorem FP.y {s w y : Nat} {v : Int32} {f f' : Nat → Int32} (h : FP s w y w v f f') : FP s w (y + 1) 0 v f f' := fun j => by
  rw [h j, dc_iff (q := inP s w (y + 1) 0 j)]
  unfold inP
  omega
theorem p_fillC {s t : Nat} (ht : t < 60) (hs : s % 16 + w ≤ 16 ∧ s / 16 + h ≤ 12) (kk : ∀ s', ag (fun k => k = 19) σ s' → FP s w h 0 (nI t) (σ 19) (s' 19) → Q (nI t) (gu (gu s' 21 0 (s' 21 0 + 1)) 22 0 (s' 22 0 + 1))) : ∃ n45, w_X3_putTent_45 Q n45 (nI w) (nI h) (nI t) (nI (s % 16)) (nI (s / 16)) (nI (s / 16)) σ := by
  have key : ∀ (d y : Nat) (s1 : gS), y + d = h → ag (fun k => k = 19) σ s1 → FP s w y 0 (nI t) (σ 19) (s1 19) → w_X3_putTent_45 Q (d + 1) (nI w) (nI h) (nI t) (nI (s % 16)) (nI (s / 16)) (nI (s / 16 + y)) s1 := by
    intro d
    induction d with
    | zero =>
      intro y s1 hy a1 H
      have : y = h := by omega
      subst this
      unfold w_X3_putTent_45 w_X3_putTent_108
      refine q_T (by rw [nI_add]; exact nI_le (Nat.le_refl _) (by omega)) ?_
      rintro _ rfl _ rfl
      rw [gu_ne (k' := 22) (by omega)]
      exact kk s1 a1 H
    | succ d ih =>
      intro y s1 hy a1 H
      have key2 : ∀ (e x : Nat) (s2 : gS), x + e = w → ag (fun k => k = 19) σ s2 → FP s w y x (nI t) (σ 19) (s2 19) → w_X3_putTent_65 Q (w_X3_putTent_45 Q (d + 1)) (e + 1) (nI w) (nI h) (nI t) (nI (s % 16)) (nI (s / 16)) (nI (s / 16 + y)) (nI (s % 16 + x)) s2 := by
        intro e
        induction e with
        | zero =>
          intro x s2 hx a2 H2
          have : x = w := by omega
          subst this
          unfold w_X3_putTent_65
          refine q_T (by rw [nI_add]; exact nI_le (Nat.le_refl _) (by omega)) ?_
          rintro _ rfl
          rw [nI_1]
          exact ih (y + 1) s2 (by omega) a2 H2.y
        | succ e ih2 =>
          intro x s2 hx a2 H2
          unfold w_X3_putTent_65
          simp (disch := omega) only [l_3, l_4, l_6, l_8, l_9, l_10, l_12, l_14, l_16, l_19, l_20, l_23, l_24, l_26, l_28, l_39, l_40, l_56, l_57, l_60, l_192, l_200, l_255, l_299, l_320, l_400, l_1120, l_2000, l_20000, l_10000, l_1000, l_1000000, nI_1, n_2mul, nI_add, pk_mul, pk_sub, sb_m1, nI_clamp, nI_clamp0, vpT, nI_leI, nI_ltI, nI_eq, nI_0le, nI_lt0, nI_le0, nI_0lt, nI_eq0, nI_eqm1, nI_m1eq, Nat.add_one_sub_one, forall_eq, true_and, and_true, true_implies, not_true_eq_false, not_false_eq_true, false_implies, implies_true, ne_eq, Nat.reduceEqDiff, Nat.reduceAdd, Nat.reduceMul, Nat.reduceLT, Nat.reduceLeDiff, and_self]
          refine q_F (by omega) (q_F (by omega) ?_)
          refine ih2 (x + 1) _ (by omega) (ag_gu' rfl a2) ?_
          rw [gu_row, show 16 * (s / 16 + y) + (s % 16 + x) = s + 16 * y + x by omega]
          exact H2.x (by omega)
      unfold w_X3_putTent_45
      simp (disch := omega) only [l_3, l_4, l_6, l_8, l_9, l_10, l_12, l_14, l_16, l_19, l_20, l_23, l_24, l_26, l_28, l_39, l_40, l_56, l_57, l_60, l_192, l_200, l_255, l_299, l_320, l_400, l_1120, l_2000, l_20000, l_10000, l_1000, l_1000000, nI_1, n_2mul, nI_add, pk_mul, pk_sub, sb_m1, nI_clamp, nI_clamp0, vpT, nI_leI, nI_ltI, nI_eq, nI_0le, nI_lt0, nI_le0, nI_0lt, nI_eq0, nI_eqm1, nI_m1eq, Nat.add_one_sub_one, forall_eq, true_and, and_true, true_implies, not_true_eq_false, not_false_eq_true, false_implies, implies_true, ne_eq, Nat.reduceEqDiff, Nat.reduceAdd, Nat.reduceMul, Nat.reduceLT, Nat.reduceLeDiff, and_self]
      refine q_F (by omega) (q_F (by omega) ?_)
      have := key2 w 0 s1 (by omega) a1 H
      rw [Nat.add_zero] at this
      exact ⟨_, this⟩
  have := key h 0 σ (by omega) ag_rf FP_0
  rw [Nat.add_zero] at this
  exact ⟨_, this⟩
theorem p_fillM {s t : Nat} (ht : t < 60) (e66 : σ 66 0 = nI t) (hs : s % 16 + w ≤ 16 ∧ s / 16 + h ≤ 12) (kk : ∀ s', ag (fun k => k = 64) σ s' → FP s w h 0 (nI t) (σ 64) (s' 64) → Q (nI t) (gu (gu s' 65 t 1) 66 0 (nI (t + 1)))) : ∃ n158, w_X9_tent_158 Q n158 (nI w) (nI h) (nI s) 0 σ := by
  have key : ∀ (d y : Nat) (s1 : gS), y + d = h → ag (fun k => k = 64) σ s1 → FP s w y 0 (nI t) (σ 64) (s1 64) → w_X9_tent_158 Q (d + 1) (nI w) (nI h) (nI s) (nI y) s1 := by
    intro d
    induction d with
    | zero =>
      intro y s1 hy a1 H
      have : y = h := by omega
      subst this
      have e : s1 66 0 = nI t := by rw [a1 66 (by omega)]; exact e66
      unfold w_X9_tent_158
      simp (disch := omega) only [l_3, l_4, l_6, l_8, l_9, l_10, l_12, l_14, l_16, l_19, l_20, l_23, l_24, l_26, l_28, l_39, l_40, l_56, l_57, l_60, l_192, l_200, l_255, l_299, l_320, l_400, l_1120, l_2000, l_20000, l_10000, l_1000, l_1000000, nI_1, n_2mul, nI_add, pk_mul, pk_sub, sb_m1, nI_clamp, nI_clamp0, vpT, nI_leI, nI_ltI, nI_eq, nI_0le, nI_lt0, nI_le0, nI_0lt, nI_eq0, nI_eqm1, nI_m1eq, Nat.add_one_sub_one, forall_eq, true_and, and_true, true_implies, not_true_eq_false, not_false_eq_true, false_implies, implies_true, ne_eq, Nat.reduceEqDiff, Nat.reduceAdd, Nat.reduceMul, Nat.reduceLT, Nat.reduceLeDiff, and_self, gu_eq, gu_ne, gu_ne2, e, vpn1]
      rw [nI_pred]
      exact q_T (Nat.le_refl _) (kk s1 a1 H)
    | succ d ih =>
      intro y s1 hy a1 H
      have key2 : ∀ (e x : Nat) (s2 : gS), x + e = w → ag (fun k => k = 64) σ s2 → FP s w y x (nI t) (σ 64) (s2 64) → w_X9_tent_167 Q (w_X9_tent_158 Q (d + 1)) (e + 1) (nI w) (nI h) (nI s) (nI y) (nI x) s2 := by
        intro e
        induction e with
        | zero =>
          intro x s2 hx a2 H2
          have : x = w := by omega
          subst this
          unfold w_X9_tent_167
          refine q_T (nI_le (Nat.le_refl _) (by omega)) ?_
          rintro _ rfl
          rw [nI_1]
          exact ih (y + 1) s2 (by omega) a2 H2.y
        | succ e ih2 =>
          intro x s2 hx a2 H2
          have e : s2 66 0 = nI t := by rw [a2 66 (by omega)]; exact e66
          unfold w_X9_tent_167
          simp (disch := omega) only [l_3, l_4, l_6, l_8, l_9, l_10, l_12, l_14, l_16, l_19, l_20, l_23, l_24, l_26, l_28, l_39, l_40, l_56, l_57, l_60, l_192, l_200, l_255, l_299, l_320, l_400, l_1120, l_2000, l_20000, l_10000, l_1000, l_1000000, nI_1, n_2mul, nI_add, pk_mul, pk_sub, sb_m1, nI_clamp, nI_clamp0, vpT, nI_leI, nI_ltI, nI_eq, nI_0le, nI_lt0, nI_le0, nI_0lt, nI_eq0, nI_eqm1, nI_m1eq, Nat.add_one_sub_one, forall_eq, true_and, and_true, true_implies, not_true_eq_false, not_false_eq_true, false_implies, implies_true, ne_eq, Nat.reduceEqDiff, Nat.reduceAdd, Nat.reduceMul, Nat.reduceLT, Nat.reduceLeDiff, and_self, e]
          refine q_F (by omega) ?_
          refine ih2 (x + 1) _ (by omega) (ag_gu' rfl a2) ?_
          rw [gu_row]
          exact H2.x (by omega)
      unfold w_X9_tent_158
      refine q_F (fun c => by rw [nI_leI (by omega) (by omega)] at c; omega) ?_
      have := key2 w 0 s1 (by omega) a1 H
      rw [nI_0] at this
      exact ⟨_, this⟩
  have := key h 0 σ (by omega) ag_rf FP_0
  rw [nI_0] at this
  exact ⟨_, this⟩
theorem m_free {s : Nat} (hs : s < 192) (hw : 1 ≤ w ∧ w ≤ 5) (hh : 1 ≤ h ∧ h ≤ 5) (t : okT (σ 64) w h s → Q 1 σ) (f : ¬ okT (σ 64) w h s → Q 0 σ) : w_X9_isFree Q σ (nI s) (nI w) (nI h) := by
  unfold w_X9_isFree
  rw [l_16, l_12, pk_div (by omega) (by omega) (by omega), pk_mul, pk_sub (by omega), nI_add, nI_add, nI_ltI (by omega) (by omega), nI_leI (by omega) (by omega)]
  refine ⟨fun c => f (fun q => by have := q.1; omega), fun c => ⟨fun c2 => ?_, fun c2 => f (fun q => c2 q.2.1)⟩⟩
  have key : ∀ (d y : Nat) (b : Int32), y + d = h → (b = 1 ∧ (∀ y' x', y' < y → x' < w → σ 64 (s + 16 * y' + x') = -1) ∨ b = 0 ∧ ¬ FRq (σ 64) s w h) → w_X9_isFree_30 Q (d + 1) (nI s) (nI w) (nI h) b (nI y) σ := by
    intro d
    induction d with
    | zero =>
      intro y b hy H
      have : y = h := by omega
      subst this
      unfold w_X9_isFree_30
      refine q_T (nI_le (Nat.le_refl _) (by omega)) ?_
      rcases H with ⟨rfl, H⟩ | ⟨rfl, H⟩
      · exact ⟨gz_1, t ⟨by omega, c2, H⟩⟩
      · exact ⟨gz_0, f (fun q => H q.2.2)⟩
    | succ d ih =>
      intro y b hy H
      have key2 : ∀ (e x : Nat) (b : Int32), x + e = w → (b = 1 ∧ (∀ y' x', y' < y → x' < w → σ 64 (s + 16 * y' + x') = -1) ∧ (∀ x', x' < x → σ 64 (s + 16 * y + x') = -1) ∨ b = 0 ∧ ¬ FRq (σ 64) s w h) → w_X9_isFree_39 Q (w_X9_isFree_30 Q (d + 1)) (e + 1) (nI s) (nI w) (nI h) b (nI y) (nI x) σ := by
        intro e
        induction e with
        | zero =>
          intro x b hx H2
          have : x = w := by omega
          subst this
          unfold w_X9_isFree_39
          refine q_T (nI_le (Nat.le_refl _) (by omega)) ?_
          rintro _ rfl
          rw [nI_1]
          refine ih (y + 1) b (by omega) ?_
          rcases H2 with ⟨b1, H3, H4⟩ | H3
          · refine Or.inl ⟨b1, fun y' x' h1 h2 => ?_⟩
            by_cases e : y' = y
            · rw [e]; exact H4 x' h2
            · exact H3 y' x' (by omega) h2
          · exact Or.inr H3
        | succ e ih2 =>
          intro x b hx H2
          unfold w_X9_isFree_39 w_X9_isFree_73
          simp (disch := omega) only [l_3, l_4, l_6, l_8, l_9, l_10, l_12, l_14, l_16, l_19, l_20, l_23, l_24, l_26, l_28, l_39, l_40, l_56, l_57, l_60, l_192, l_200, l_255, l_299, l_320, l_400, l_1120, l_2000, l_20000, l_10000, l_1000, l_1000000, nI_1, n_2mul, nI_add, pk_mul, pk_sub, sb_m1, nI_clamp, nI_clamp0, vpT, nI_leI, nI_ltI, nI_eq, nI_0le, nI_lt0, nI_le0, nI_0lt, nI_eq0, nI_eqm1, nI_m1eq, Nat.add_one_sub_one, forall_eq, true_and, and_true, true_implies, not_true_eq_false, not_false_eq_true, false_implies, implies_true, ne_eq, Nat.reduceEqDiff, Nat.reduceAdd, Nat.reduceMul, Nat.reduceLT, Nat.reduceLeDiff, and_self]
          refine q_F (by omega) ⟨fun c3 => ih2 (x + 1) 0 (by omega) ?_, fun c3 => ⟨fun c4 => ih2 (x + 1) 0 (by omega) (Or.inr ⟨rfl, fun q => c4 (q y x (by omega) (by omega))⟩), fun c4 => ih2 (x + 1) 1 (by omega) ?_⟩⟩
          · rcases H2 with ⟨b1, -⟩ | ⟨-, H3⟩
            · rw [b1] at c3; exact absurd c3 (by decide)
            · exact Or.inr ⟨rfl, H3⟩
          · rcases H2 with ⟨b1, H3, H4⟩ | ⟨b0, -⟩
            · refine Or.inl ⟨rfl, H3, fun x' h1 => ?_⟩
              by_cases e : x' = x
              · rw [e]; exact c4
              · exact H4 x' (by omega)
            · exact absurd b0 c3
      unfold w_X9_isFree_30
      refine q_F (fun c3 => by rw [nI_leI (by omega) (by omega)] at c3; omega) ?_
      have := key2 w 0 b (by omega) (by
        rcases H with ⟨b1, H⟩ | H
        · exact Or.inl ⟨b1, H, fun x' h1 => by omega⟩
        · exact Or.inr H)
      rw [nI_0] at this
      exact ⟨_, this⟩
  have := key h 0 1 (by omega) (Or.inl ⟨rfl, fun y' x' h1 => by omega⟩)
  rw [nI_0] at this
  exact ⟨_, this⟩
end TENT
