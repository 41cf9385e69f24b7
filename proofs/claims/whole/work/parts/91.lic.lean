/-! THE LICENCE: the tape, runs of bytes, words -/
def isC (B : Nat → Int32) (lo hi : Int) (j : Nat) : Prop := lo ≤ (B j).toInt ∧ (B j).toInt ≤ hi
def Rn (p : Nat → Prop) (i k : Nat) : Prop := i ≤ k ∧ (∀ j, i ≤ j → j < k → p j) ∧ ¬ p k
theorem Rn.uniq {p : Nat → Prop} {i k k' : Nat} (h : Rn p i k) (h' : Rn p i k') : k = k' := by
  rcases Nat.lt_trichotomy k k' with c | c | c
  · exact absurd (h'.2.1 k h.1 c) h.2.2
  · exact c
  · exact absurd (h.2.1 k' h'.1 c) h'.2.2
def BT (B : Nat → Int32) (n : Nat) : Prop := n ≤ 400 ∧ (∀ j, j < n → 0 ≤ (B j).toInt ∧ (B j).toInt ≤ 255) ∧ (∀ j, n ≤ j → B j = -1)
def CT (B : Nat → Int32) (n : Nat) (σ : gS) : Prop := σ 16 0 = nI n ∧ ∀ j, j < n → σ 15 j = B j
def MX (B : Nat → Int32) (n : Nat) (S : gS) : Prop := S 106 0 = nI n ∧ ∀ j, j < n → (S 103 j).toInt = if (B j).toInt < 128 then (B j).toInt else (B j).toInt - 256
section LIC
variable {B : Nat → Int32} {n : Nat} {σ : gS}
theorem isC_lt (hB : BT B n) {lo hi : Int} {j : Nat} (hlo : 0 ≤ lo) (q : isC B lo hi j) : j < n := by
  by_cases c : j < n
  · exact c
  · have := hB.2.2 j (by omega)
    unfold isC at q
    rw [this, t_m1] at q
    omega
theorem CT.re {s : gS} (h : CT B n σ) (e15 : s 15 = σ 15) (e16 : s 16 = σ 16) : CT B n s := by
  unfold CT at *; rw [e15, e16]; exact h
theorem MX.re {s : gS} (h : MX B n σ) (e1 : s 103 = σ 103) (e2 : s 106 = σ 106) : MX B n s := by
  unfold MX at *; rw [e1, e2]; exact h
theorem p_byteAt {Q : Int32 → gS → Prop} {j : Nat} (hB : BT B n) (hC : CT B n σ) (hj : j < 1000) (kk : Q (B j) σ) : w_X6_byteAt Q σ (nI j) := by
  have hn := hB.1
  unfold w_X6_byteAt w_X6_byteAt_21
  rw [hC.1, nI_leI (by omega) (by omega), nI_clamp (by omega)]
  refine q_F (nI_pos (by omega)) ⟨fun c => ?_, fun c => ⟨vp_in_nI (by omega) (by omega), ?_⟩⟩
  · rw [← hB.2.2 j c]; exact kk
  · rw [hC.2 j (by omega)]; exact kk
theorem p_let {Q : Int32 → gS → Prop} {a : Int32} (t : 97 ≤ a.toInt ∧ a.toInt ≤ 122 → Q 1 σ) (f : ¬ (97 ≤ a.toInt ∧ a.toInt ≤ 122) → Q 0 σ) : w_X5_isLetter Q σ a := by
  have h1 : (97 : Int32).toInt = 97 := rfl
  have h2 : (122 : Int32).toInt = 122 := rfl
  unfold w_X5_isLetter w_X5_isLetter_16
  refine ⟨fun c => f (fun q => ?_), fun c => ⟨fun c2 => f (fun q => ?_), fun c2 => t ?_⟩⟩
  · rw [i_lt, h1] at c; omega
  · rw [i_lt, h2] at c2; omega
  · rw [i_lt, h1] at c; rw [i_lt, h2] at c2; omega
theorem p_dig {Q : Int32 → gS → Prop} {a : Int32} (t : 48 ≤ a.toInt ∧ a.toInt ≤ 57 → Q 1 σ) (f : ¬ (48 ≤ a.toInt ∧ a.toInt ≤ 57) → Q 0 σ) : w_X5_isDigit Q σ a := by
  have h1 : (48 : Int32).toInt = 48 := rfl
  have h2 : (57 : Int32).toInt = 57 := rfl
  unfold w_X5_isDigit w_X5_isDigit_16
  refine ⟨fun c => f (fun q => ?_), fun c => ⟨fun c2 => f (fun q => ?_), fun c2 => t ?_⟩⟩
  · rw [i_lt, h1] at c; omega
  · rw [i_lt, h2] at c2; omega
  · rw [i_lt, h1] at c; rw [i_lt, h2] at c2; omega
theorem p_skipB {Q : gS → Prop} {i : Nat} (hB : BT B n) (hC : CT B n σ) (e17 : σ 17 0 = nI i) (hi : i ≤ n) (kk : ∀ s k, ag (fun k => k = 17) σ s → s 17 0 = nI k → Rn (isC B 32 32) i k → k ≤ n → Q s) : w_X5_skipBlanks Q σ := by
  have hn := hB.1
  have h32 : (32 : Int32).toInt = 32 := rfl
  have key : ∀ (d k : Nat) (s : gS), k + d = n → i ≤ k → ag (fun k => k = 17) σ s → s 17 0 = nI k → (∀ j, i ≤ j → j < k → isC B 32 32 j) → w_X5_skipBlanks_0 Q (d + 1) s := by
    intro d
    induction d with
    | zero =>
      intro k s hk hik a1 e H
      have hCs : CT B n s := hC.re (a1 15 (by omega)) (a1 16 (by omega))
      unfold w_X5_skipBlanks_0
      rw [hCs.1, e]
      refine q_T (nI_le (by omega) (by omega)) (kk s k a1 e ⟨hik, H, fun q => ?_⟩ (by omega))
      have := isC_lt hB (by omega) q
      omega
    | succ d ih =>
      intro k s hk hik a1 e H
      have hCs : CT B n s := hC.re (a1 15 (by omega)) (a1 16 (by omega))
      unfold w_X5_skipBlanks_0
      rw [hCs.1, e]
      refine q_F (by rw [nI_leI (by omega) (by omega)]; omega) (p_byteAt hB hCs (by omega) ⟨fun c => kk s k a1 e ⟨hik, H, fun q => c ?_⟩ (by omega), fun c => ?_⟩)
      · exact i_eq.mpr (by unfold isC at q; rw [h32]; omega)
      · rintro _ rfl
        refine ih (k + 1) _ (by omega) (by omega) (ag_gu' rfl a1) (by rw [gu_eq, e, nI_1]) (fun j h1 h2 => ?_)
        by_cases ej : j = k
        · rw [ej]; unfold isC; rw [c, h32]; omega
        · exact H j h1 (by omega)
  unfold w_X5_skipBlanks
  exact ⟨_, key (n - i) i σ (by omega) (Nat.le_refl _) ag_rf e17 (fun j a b => by omega)⟩
theorem p_skipW {Q : gS → Prop} {i : Nat} (hB : BT B n) (hC : CT B n σ) (e17 : σ 17 0 = nI i) (hi : i ≤ n) (kk : ∀ s k, ag (fun k => k = 17) σ s → s 17 0 = nI k → Rn (isC B 97 122) i k → k ≤ n → Q s) : w_X5_skipWord Q σ := by
  have hn := hB.1
  have key : ∀ (d k : Nat) (s : gS), k + d = n → i ≤ k → ag (fun k => k = 17) σ s → s 17 0 = nI k → (∀ j, i ≤ j → j < k → isC B 97 122 j) → w_X5_skipWord_0 Q (d + 1) s := by
    intro d
    induction d with
    | zero =>
      intro k s hk hik a1 e H
      have hCs : CT B n s := hC.re (a1 15 (by omega)) (a1 16 (by omega))
      unfold w_X5_skipWord_0
      rw [hCs.1, e]
      refine q_T (nI_le (by omega) (by omega)) (kk s k a1 e ⟨hik, H, fun q => ?_⟩ (by omega))
      have := isC_lt hB (by omega) q
      omega
    | succ d ih =>
      intro k s hk hik a1 e H
      have hCs : CT B n s := hC.re (a1 15 (by omega)) (a1 16 (by omega))
      unfold w_X5_skipWord_0
      rw [hCs.1, e]
      refine q_F (by rw [nI_leI (by omega) (by omega)]; omega) (p_byteAt hB hCs (by omega) (p_let (fun c => q_F (by decide) ?_) (fun c => q_T rfl (kk s k a1 e ⟨hik, H, c⟩ (by omega)))))
      rintro _ rfl
      refine ih (k + 1) _ (by omega) (by omega) (ag_gu' rfl a1) (by rw [gu_eq, e, nI_1]) (fun j h1 h2 => ?_)
      by_cases ej : j = k
      · rw [ej]; exact c
      · exact H j h1 (by omega)
  unfold w_X5_skipWord
  exact ⟨_, key (n - i) i σ (by omega) (Nat.le_refl _) ag_rf e17 (fun j a b => by omega)⟩
-- the texts
theorem tx_c : ∀ ti, ti < 14 → ∀ j, j < gTn ti → ((((gTc ti j) &&& 255).toUInt32 % 65536).toInt32) = gTc ti j := by decide
theorem tx_l : ∀ ti, ti < 14 → ∀ j, j < gTn ti → 97 ≤ (gTc ti j).toInt ∧ (gTc ti j).toInt ≤ 122 := by decide
theorem tx_n : ∀ ti, ti < 14 → 2 ≤ gTn ti ∧ gTn ti ≤ 7 := by decide
theorem tx_7 : ∀ ti, ti < 7 → gTx.getD (ti + 7) [] = gTx.getD ti [] := by decide
theorem tx_n7 {ti : Nat} (h : ti < 7) : gTn (ti + 7) = gTn ti := by unfold gTn; rw [tx_7 ti h]
theorem tx_c7 {ti j : Nat} (h : ti < 7) : gTc (ti + 7) j = gTc ti j := by unfold gTc; rw [tx_7 ti h]
theorem p_len {Q : Int32 → gS → Prop} {ti : Nat} (kk : Q (nI (gTn ti)) σ) : w_J0_length_8abf5 Q ti σ := by
  unfold w_J0_length_8abf5
  rw [show (0 &&& 31 : Int32) = 0 from rfl, Int32.shiftRight_zero]
  exact kk
theorem p_chr {Q : Int32 → gS → Prop} {ti j : Nat} (ht : ti < 14) (hj : j < gTn ti) (kk : Q (gTc ti j) σ) : w_J0_charAt_5068e Q ti σ (nI j) := by
  have hn := tx_n ti ht
  unfold w_J0_charAt_5068e w_J1_charAt_3b067 w_J0_checkIndex_df160 w_J3_checkIndex_8e157
  refine q_F (nI_pos (by omega)) (q_T (nI_lt hj (by omega)) ⟨vp_in_nI hj (by omega), pk_nc _, pk_nc _, ?_⟩)
  rw [nI_clamp (by omega), tx_c ti ht j hj]
  exact kk
/-- a word stands there, and no letter behind it -/
def WH (B : Nat → Int32) (i ti : Nat) : Prop := (∀ t, t < gTn ti → B (i + t) = gTc ti t) ∧ ¬ isC B 97 122 (i + gTn ti)
theorem p_isWH {Q : Int32 → gS → Prop} {i ti : Nat} (hB : BT B n) (hC : CT B n σ) (ht : ti < 14) (e17 : σ 17 0 = nI i) (hi : i ≤ n) (t : WH B i ti → Q 1 σ) (f : ¬ WH B i ti → Q 0 σ) : w_X5_isWordHere Q ti σ := by
  have hn := hB.1
  have hL := tx_n ti ht
  have key : ∀ (d j : Nat), j + d = gTn ti → (∀ t, t < j → B (i + t) = gTc ti t) → w_X5_isWordHere_7 Q ti (d + 1) (nI (gTn ti)) (nI j) σ := by
    intro d
    induction d with
    | zero =>
      intro j hj H
      unfold w_X5_isWordHere_7
      rw [e17, nI_add]
      refine q_T (nI_le (by omega) (by omega)) (p_byteAt hB hC (by omega) (p_let (fun c => q_nF (by decide) (f (fun q => q.2 c))) (fun c => q_nT rfl (t ⟨fun t h => H t (by omega), c⟩))))
    | succ d ih =>
      intro j hj H
      unfold w_X5_isWordHere_7
      rw [e17, nI_add, nI_add]
      refine q_F (by rw [nI_leI (by omega) (by omega)]; omega) (p_byteAt hB hC (by omega) (p_chr ht (by omega) ⟨fun c => ?_, fun c => f (fun q => c (q.1 j (by omega)))⟩))
      rintro _ rfl
      rw [nI_1]
      refine ih (j + 1) (by omega) (fun t h => ?_)
      by_cases e : t = j
      · rw [e]; exact c
      · exact H t (by omega)
  unfold w_X5_isWordHere
  refine p_len ?_
  have := key (gTn ti) 0 (by omega) (fun t h => by omega)
  rw [nI_0] at this
  exact ⟨_, this⟩
theorem p_kind {Q : Int32 → gS → Prop} {i : Nat} (hB : BT B n) (hC : CT B n σ) (e17 : σ 17 0 = nI i) (hi : i ≤ n) (yes : ∀ kd, kd < 5 → WH B i kd → (∀ t, t < kd → ¬ WH B i t) → Q (nI kd) σ) (no : (∀ t, t < 5 → ¬ WH B i t) → Q (-1) σ) : w_X5_kindHere Q σ := by
  unfold w_X5_kindHere
  refine p_isWH hB hC (by omega) e17 hi (fun q0 => q_F (by decide) (yes 0 (by omega) q0 (fun t h => by omega))) (fun q0 => q_T rfl ?_)
  refine p_isWH hB hC (by omega) e17 hi (fun q1 => q_F (by decide) (yes 1 (by omega) q1 (fun t h => by rw [show t = 0 by omega]; exact q0))) (fun q1 => q_T rfl ?_)
  refine p_isWH hB hC (by omega) e17 hi (fun q2 => q_F (by decide) (yes 2 (by omega) q2 (fun t h => ?_))) (fun q2 => q_T rfl ?_)
  · have : t = 0 ∨ t = 1 := by omega
    rcases this with rfl | rfl
    · exact q0
    · exact q1
  refine p_isWH hB hC (by omega) e17 hi (fun q3 => q_F (by decide) (yes 3 (by omega) q3 (fun t h => ?_))) (fun q3 => q_T rfl ?_)
  · have : t = 0 ∨ t = 1 ∨ t = 2 := by omega
    rcases this with rfl | rfl | rfl
    · exact q0
    · exact q1
    · exact q2
  refine p_isWH hB hC (by omega) e17 hi (fun q4 => q_F (by decide) (yes 4 (by omega) q4 (fun t h => ?_))) (fun q4 => q_T rfl (no (fun t h => ?_)))
  · have : t = 0 ∨ t = 1 ∨ t = 2 ∨ t = 3 := by omega
    rcases this with rfl | rfl | rfl | rfl
    · exact q0
    · exact q1
    · exact q2
    · exact q3
  · have : t = 0 ∨ t = 1 ∨ t = 2 ∨ t = 3 ∨ t = 4 := by omega
    rcases this with rfl | rfl | rfl | rfl | rfl
    · exact q0
    · exact q1
    · exact q2
    · exact q3
    · exact q4
-- the model
theorem m_isAt {Q : Int32 → gS → Prop} {p : Nat} {lo hi : Int32} {l h : Int} (hB : BT B n) (hM : MX B n σ) (e105 : σ 105 0 = nI p) (hp : p ≤ n) (el : lo.toInt = l) (eh : hi.toInt = h) (hl : 0 ≤ l) (hh : h ≤ 127) (t : isC B l h p → Q 1 σ) (f : ¬ isC B l h p → Q 0 σ) : w_X9_isAt Q σ lo hi := by
  have hn := hB.1
  unfold w_X9_isAt w_X9_isAt_41
  rw [hM.1, e105, nI_leI (by omega) (by omega), nI_clamp (by omega)]
  refine ⟨fun c => f (fun q => ?_), fun c => ?_⟩
  · have := isC_lt hB hl q
    omega
  · have v : vp_in (nI p) 400 := vp_in_nI (by omega) (by omega)
    have hm := hM.2 p (by omega)
    have hb := hB.2.1 p (by omega)
    rw [i_lt, i_lt, el, eh]
    refine ⟨v, fun c2 => f (fun q => ?_), fun c2 => ⟨v, fun c3 => f (fun q => ?_), fun c3 => t ?_⟩⟩
    · unfold isC at q; rw [hm] at c2; split at c2 <;> omega
    · unfold isC at q; rw [hm] at c3; split at c3 <;> omega
    · unfold isC; rw [hm] at c2 c3; split at c2 <;> split at c3 <;> omega
def k57 (k : Nat) : Prop := k = 105 ∨ k = 107
theorem m_blanks {Q : gS → Prop} {i k : Nat} (hB : BT B n) (hM : MX B n σ) (e105 : σ 105 0 = nI i) (hr : Rn (isC B 32 32) i k) (hk : k ≤ n) (kk : ∀ s, ag k57 σ s → s 105 0 = nI k → s 107 0 = nI k → Q s) : w_X9_blanks Q σ := by
  have hn := hB.1
  have key : ∀ (d p : Nat) (s : gS), p + d = k → i ≤ p → ag k57 σ s → s 105 0 = nI p → w_X9_blanks_0 Q (d + 1) s := by
    intro d
    induction d with
    | zero =>
      intro p s hp hip a1 e
      have : p = k := by omega
      subst this
      unfold w_X9_blanks_0
      refine m_isAt hB (hM.re (a1 103 (by unfold k57; omega)) (a1 106 (by unfold k57; omega))) e hk rfl rfl (by decide) (by decide) (fun q => absurd q hr.2.2) (fun _ => q_T rfl ?_)
      rintro _ rfl
      exact kk _ (ag_gu' (Or.inr rfl) a1) (by rw [gu_ne (by omega)]; exact e) (by rw [gu_eq]; exact e)
    | succ d ih =>
      intro p s hp hip a1 e
      unfold w_X9_blanks_0
      refine m_isAt hB (hM.re (a1 103 (by unfold k57; omega)) (a1 106 (by unfold k57; omega))) e (by omega) rfl rfl (by decide) (by decide) (fun _ => q_F (by decide) ?_) (fun q => absurd (hr.2.1 p hip (by omega)) q)
      rintro _ rfl
      exact ih (p + 1) _ (by omega) (by omega) (ag_gu' (Or.inl rfl) a1) (by rw [gu_eq, e, nI_1])
  unfold w_X9_blanks
  exact ⟨_, key (k - i) i σ (by have := hr.1; omega) (Nat.le_refl _) ag_rf e105⟩
theorem m_word {Q : gS → Prop} {i k k1 : Nat} (hB : BT B n) (hM : MX B n σ) (e105 : σ 105 0 = nI i) (hr : Rn (isC B 32 32) i k) (hr1 : Rn (isC B 97 122) k k1) (hk1 : k1 ≤ n) (kk : ∀ s, ag k57 σ s → s 105 0 = nI k1 → s 107 0 = nI k → Q s) : w_X9_word Q σ := by
  have hn := hB.1
  have hkk := hr1.1
  unfold w_X9_word
  refine m_blanks hB hM e105 hr (by omega) (fun s0 a0 e0 e7 => ?_)
  have key : ∀ (d p : Nat) (s : gS), p + d = k1 → k ≤ p → ag k57 σ s → s 105 0 = nI p → s 107 0 = nI k → w_X9_word_4 Q (d + 1) s := by
    intro d
    induction d with
    | zero =>
      intro p s hp hip a1 e e7
      have : p = k1 := by omega
      subst this
      unfold w_X9_word_4
      exact m_isAt hB (hM.re (a1 103 (by unfold k57; omega)) (a1 106 (by unfold k57; omega))) e hk1 rfl rfl (by decide) (by decide) (fun q => absurd q hr1.2.2) (fun _ => q_T rfl (kk s a1 e e7))
    | succ d ih =>
      intro p s hp hip a1 e e7
      unfold w_X9_word_4
      refine m_isAt hB (hM.re (a1 103 (by unfold k57; omega)) (a1 106 (by unfold k57; omega))) e (by omega) rfl rfl (by decide) (by decide) (fun _ => q_F (by decide) ?_) (fun q => absurd (hr1.2.1 p hip (by omega)) q)
      rintro _ rfl
      exact ih (p + 1) _ (by omega) (by omega) (ag_gu' (Or.inl rfl) a1) (by rw [gu_eq, e, nI_1]) (by rw [gu_ne (by omega)]; exact e7)
  exact ⟨_, key (k1 - k) k s0 (by omega) (Nat.le_refl _) a0 e0 e7⟩
theorem m_isWord {Q : Int32 → gS → Prop} {k k1 ti : Nat} (hB : BT B n) (hM : MX B n σ) (ht : ti < 7) (e105 : σ 105 0 = nI k1) (e107 : σ 107 0 = nI k) (hr1 : Rn (isC B 97 122) k k1) (hk1 : k1 ≤ n) (t : WH B k ti → Q 1 σ) (f : ¬ WH B k ti → Q 0 σ) : w_X9_isWord Q (ti + 7) σ := by
  have hn := hB.1
  have hkk := hr1.1
  have hL := tx_n ti (by omega)
  unfold w_X9_isWord w_X9_isWord_21
  refine p_len ?_
  rw [e105, e107, pk_sub hkk, tx_n7 ht, nI_eq (by omega) (by omega)]
  have key : ∀ (d j : Nat), k1 = k + gTn ti → j + d = gTn ti → (∀ t, t < j → B (k + t) = gTc ti t) → w_X9_isWord_24 Q (ti + 7) (d + 2) 1 (nI j) σ := by
    intro d
    induction d with
    | zero =>
      intro j he hj H
      unfold w_X9_isWord_24
      refine q_F (by decide) (p_len ?_)
      rw [tx_n7 ht]
      exact q_T (nI_le (by omega) (by omega)) ⟨gz_1, t ⟨fun t h => H t (by omega), by rw [← he]; exact hr1.2.2⟩⟩
    | succ d ih =>
      intro j he hj H
      unfold w_X9_isWord_24
      refine q_F (by decide) (p_len ?_)
      rw [tx_n7 ht]
      refine q_F (by rw [nI_leI (by omega) (by omega)]; omega) ?_
      rw [e107, nI_add, nI_clamp (by omega)]
      refine ⟨vp_in_nI (by omega) (by omega), p_chr (by omega) (by rw [tx_n7 ht]; omega) ?_⟩
      rw [tx_c7 ht]
      have hm := hM.2 (k + j) (by omega)
      have hb := hB.2.1 (k + j) (by omega)
      have hc := tx_l ti (by omega) j (by omega)
      refine ⟨fun c => ?_, fun c => ?_⟩
      · rintro _ rfl
        unfold w_X9_isWord_24
        refine q_T rfl ⟨gz_0, f (fun q => c ?_)⟩
        have := q.1 j (by omega)
        apply i_eq.mpr
        rw [hm, this]
        split <;> omega
      · rintro _ rfl
        rw [nI_1]
        refine ih (j + 1) he (by omega) (fun t h => ?_)
        by_cases e : t = j
        · rw [e]
          apply i_eq.mpr
          rw [c] at hm
          split at hm <;> omega
        · exact H t (by omega)
  refine ⟨fun c => ⟨1, ?_⟩, fun c => ?_⟩
  · unfold w_X9_isWord_24
    refine q_T rfl ⟨gz_0, f (fun q => c ?_)⟩
    have : Rn (isC B 97 122) k (k + gTn ti) := ⟨by omega, fun j h1 h2 => by
      have h3 := q.1 (j - k) (by omega)
      have h4 := tx_l ti (by omega) (j - k) (by omega)
      rw [show k + (j - k) = j by omega] at h3
      unfold isC
      rw [h3]; exact h4, q.2⟩
    have := hr1.uniq this
    omega
  · have := key (gTn ti) 0 (by omega) (by omega) (fun t h => by omega)
    rw [nI_0] at this
    exact ⟨_, this⟩
end LIC
