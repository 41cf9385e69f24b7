/-! THE LICENCE: numbers and words -/
def dgt (B : Nat → Int32) (j : Nat) : Nat := (B j).toInt.toNat - 48
def vl (B : Nat → Int32) (b : Nat) : Nat → Nat
  | 0 => 0
  | m + 1 => if m < 6 then 10 * vl B b m + dgt B (b + m) else vl B b m
def nOK (B : Nat → Int32) (k0 k1 lo hi : Nat) : Prop := 0 < k1 - k0 ∧ k1 - k0 ≤ 6 ∧ lo ≤ vl B k0 (k1 - k0) ∧ vl B k0 (k1 - k0) ≤ hi
def kLi (k : Nat) : Prop := k = 100 ∨ k = 105 ∨ k = 107
theorem k57_L {k : Nat} (h : k57 k) : kLi k := by unfold k57 at h; unfold kLi; omega
section LIC2
variable {B : Nat → Int32} {n : Nat} {σ : gS}
theorem vl_bd {b : Nat} : ∀ m : Nat, (∀ t, t < m → isC B 48 57 (b + t)) → vl B b m < 10 ^ (min m 6) := by
  intro m
  induction m with
  | zero => intro _; exact Nat.one_pos
  | succ m ih =>
    intro h
    have h1 := ih (fun t ht => h t (by omega))
    have h2 := h m (by omega)
    unfold isC at h2
    show (if m < 6 then 10 * vl B b m + dgt B (b + m) else vl B b m) < _
    by_cases c : m < 6
    · rw [if_pos c, show min (m + 1) 6 = m + 1 by omega, Nat.pow_succ]
      rw [show min m 6 = m by omega] at h1
      unfold dgt
      omega
    · rw [if_neg c, show min (m + 1) 6 = 6 by omega]
      rw [show min m 6 = 6 by omega] at h1
      exact h1
theorem vl_lt {b m : Nat} (h : ∀ t, t < m → isC B 48 57 (b + t)) : vl B b m < 1000000 := by
  have h1 := vl_bd m h
  have h2 : 10 ^ (min m 6) ≤ 10 ^ 6 := Nat.pow_le_pow_right (by omega) (by omega)
  omega
theorem Rn_ex (hB : BT B n) {lo hi : Int} (hlo : 0 ≤ lo) : ∀ (d i : Nat), i + d = n → ∃ k, Rn (isC B lo hi) i k ∧ k ≤ n := by
  intro d
  induction d with
  | zero =>
    intro i hin
    exact ⟨i, ⟨Nat.le_refl _, fun j a b => by omega, fun q => by have := isC_lt hB hlo q; omega⟩, by omega⟩
  | succ d ih =>
    intro i hin
    by_cases c : isC B lo hi i
    · obtain ⟨k, hk, hn⟩ := ih (i + 1) (by omega)
      refine ⟨k, ⟨by have := hk.1; omega, fun j a b => ?_, hk.2.2⟩, hn⟩
      by_cases e : j = i
      · rw [e]; exact c
      · exact hk.2.1 j (by omega) b
    · exact ⟨i, ⟨Nat.le_refl _, fun j a b => by omega, c⟩, by omega⟩
theorem p_readN {Q : Int32 → gS → Prop} {i lo hi : Nat} (hB : BT B n) (hC : CT B n σ) (e18 : σ 18 0 = -1) (e17 : σ 17 0 = nI i) (hin : i ≤ n) (hlo : lo < 2 ^ 31) (hhi : hi < 2 ^ 31) (ok : ∀ s k0 k1, Rn (isC B 32 32) i k0 → Rn (isC B 48 57) k0 k1 → k1 ≤ n → nOK B k0 k1 lo hi → ag (fun k => k = 17) σ s → s 17 0 = nI k1 → Q (nI (vl B k0 (k1 - k0))) s) (bad : ∀ s k0 k1, Rn (isC B 32 32) i k0 → Rn (isC B 48 57) k0 k1 → k1 ≤ n → ¬ nOK B k0 k1 lo hi → ag (fun k => k = 17 ∨ k = 18) σ s → s 18 0 = nI k0 → Q (-1) s) : w_X5_readNumber Q σ (nI lo) (nI hi) := by
  have hn := hB.1
  unfold w_X5_readNumber
  refine q_T e18 (p_skipB hB hC e17 hin (fun s0 k0 a0 f0 r0 hk0 => ?_))
  rintro _ rfl
  rw [f0]
  have fin : ∀ (k : Nat) (s : gS), Rn (isC B 48 57) k0 k → k ≤ n → ag (fun k => k = 17) σ s → s 17 0 = nI k → w_X5_readNumber_99 Q (nI lo) (nI hi) (nI k0) (nI (vl B k0 (k - k0))) s := by
    intro k s hr hk a e
    have hkk := hr.1
    have hv := vl_lt (B := B) (b := k0) (m := k - k0) (fun t ht => hr.2.1 (k0 + t) (by omega) (by omega))
    have bd : ¬ nOK B k0 k lo hi → w_X5_readNumber_131 Q (nI k0) s := fun q => by
      unfold w_X5_readNumber_131
      rintro _ rfl
      exact bad _ k0 k r0 hr hk q (ag_gu' (Or.inr rfl) (ag_mono a (fun k hk => Or.inl hk))) gu_eq
    unfold w_X5_readNumber_99
    rintro _ rfl
    rw [e, pk_sub hkk, nI_eq0 (by omega), l_6, nI_ltI (by omega) (by omega), nI_ltI (by omega) (by omega), nI_leI (by omega) (by omega)]
    exact ⟨fun c => bd (fun q => by have := q.1; omega), fun c => ⟨fun c2 => bd (fun q => by have := q.2.1; omega), fun c2 => ⟨fun c3 => bd (fun q => by have := q.2.2.1; omega), fun c3 => ⟨fun c4 => ok s k0 k r0 hr hk ⟨by omega, by omega, by omega, c4⟩ a e, fun c4 => bd (fun q => c4 q.2.2.2)⟩⟩⟩⟩
  have key : ∀ (d k : Nat) (s : gS), k + d = n → k0 ≤ k → ag (fun k => k = 17) σ s → s 17 0 = nI k → (∀ j, k0 ≤ j → j < k → isC B 48 57 j) → w_X5_readNumber_22 Q (d + 1) (nI lo) (nI hi) (nI k0) (nI (vl B k0 (k - k0))) s := by
    intro d
    induction d with
    | zero =>
      intro k s hk hik a1 e H
      have hCs : CT B n s := hC.re (a1 15 (by omega)) (a1 16 (by omega))
      unfold w_X5_readNumber_22
      rw [hCs.1, e]
      refine q_T (nI_le (by omega) (by omega)) (fin k s ⟨hik, H, fun q => ?_⟩ (by omega) a1 e)
      have := isC_lt hB (by omega) q
      omega
    | succ d ih =>
      intro k s hk hik a1 e H
      have hCs : CT B n s := hC.re (a1 15 (by omega)) (a1 16 (by omega))
      unfold w_X5_readNumber_22 w_X5_readNumber_86
      rw [hCs.1, e]
      refine q_F (by rw [nI_leI (by omega) (by omega)]; omega) (p_byteAt hB hCs (by omega) (p_dig (fun c => q_F (by decide) ?_) (fun c => q_T rfl (fin k s ⟨hik, H, c⟩ (by omega) a1 e))))
      have H2 : ∀ j, k0 ≤ j → j < k + 1 → isC B 48 57 j := fun j h1 h2 => by
        by_cases ej : j = k
        · rw [ej]; exact c
        · exact H j h1 (by omega)
      have nx := fun s' a' e' => ih (k + 1) s' (by omega) (by omega) a' e' H2
      have ev : vl B k0 (k + 1 - k0) = if k - k0 < 6 then 10 * vl B k0 (k - k0) + dgt B k else vl B k0 (k - k0) := by
        rw [show k + 1 - k0 = (k - k0) + 1 by omega]
        show (if k - k0 < 6 then 10 * vl B k0 (k - k0) + dgt B (k0 + (k - k0)) else vl B k0 (k - k0)) = _
        rw [show k0 + (k - k0) = k by omega]
      rw [ev] at nx
      rw [e, l_6, pk_sub hik, nI_leI (by omega) (by omega)]
      refine ⟨fun c2 => ?_, fun c2 => p_byteAt hB hCs (by omega) ?_⟩
      · rintro _ rfl
        rw [if_neg (by omega)] at nx
        exact nx _ (ag_gu' rfl a1) (by rw [gu_eq]; first | rw [e, nI_1] | rw [nI_1])
      · rintro _ rfl _ rfl
        rw [if_pos (by omega)] at nx
        obtain ⟨cc, -, ec, ec2⟩ := i_ex (x := B k) (by omega)
        have ed : dgt B k = cc - 48 := by unfold dgt; rw [ec2]; rfl
        rw [ed] at nx
        rw [ec, l_10, pk_mul, nI_add, show (48 : Int32) = nI 48 from rfl, pk_sub (by omega), show 10 * vl B k0 (k - k0) + cc - 48 = 10 * vl B k0 (k - k0) + (cc - 48) by omega]
        exact nx _ (ag_gu' rfl a1) (by rw [gu_eq]; first | rw [e, nI_1] | rw [nI_1])
  have := key (n - k0) k0 s0 (by omega) (Nat.le_refl _) a0 f0 (fun j a b => by omega)
  rw [Nat.sub_self] at this
  exact ⟨_, this⟩
theorem p_readNx {Q : Int32 → gS → Prop} {a b : Int32} (e18 : ¬ σ 18 0 = -1) (kk : Q (-1) σ) : w_X5_readNumber Q σ a b := by
  unfold w_X5_readNumber
  exact q_F e18 kk
theorem p_readWx {Q : gS → Prop} {ti : Nat} (e18 : ¬ σ 18 0 = -1) (kk : Q σ) : w_X5_readWord Q ti σ := by
  unfold w_X5_readWord
  exact q_F e18 kk
theorem p_readW {Q : gS → Prop} {i ti : Nat} (hB : BT B n) (hC : CT B n σ) (ht : ti < 14) (e18 : σ 18 0 = -1) (e17 : σ 17 0 = nI i) (hin : i ≤ n) (ok : ∀ s k0 k1, Rn (isC B 32 32) i k0 → Rn (isC B 97 122) k0 k1 → k1 ≤ n → WH B k0 ti → ag (fun k => k = 17) σ s → s 17 0 = nI k1 → Q s) (bad : ∀ s k0 k1, Rn (isC B 32 32) i k0 → Rn (isC B 97 122) k0 k1 → k1 ≤ n → ¬ WH B k0 ti → ag (fun k => k = 17 ∨ k = 18) σ s → s 18 0 = nI k0 → Q s) : w_X5_readWord Q ti σ := by
  unfold w_X5_readWord
  refine q_T e18 (p_skipB hB hC e17 hin (fun s0 k0 a0 f0 r0 hk0 => ?_))
  have hC0 : CT B n s0 := hC.re (a0 15 (by omega)) (a0 16 (by omega))
  obtain ⟨k1, r1, hk1⟩ := Rn_ex hB (lo := 97) (hi := 122) (by omega) (n - k0) k0 (by omega)
  refine p_isWH hB hC0 ht f0 hk0 (fun q => q_F (by decide) (p_skipW hB hC0 f0 hk0 (fun s1 k2 a1 f1 r2 hk2 => ok s1 k0 k2 r0 r2 hk2 q (ag_tr a0 a1) f1))) (fun q => q_T rfl ?_)
  rintro _ rfl
  exact bad _ k0 k1 r0 r1 hk1 q (ag_gu' (Or.inr rfl) (ag_mono a0 (fun k hk => Or.inl hk))) (by rw [gu_eq]; exact f0)
theorem m_number {Q : Int32 → gS → Prop} {i k0 k1 x lo hi : Nat} (hB : BT B n) (hM : MX B n σ) (e105 : σ 105 0 = nI i) (r0 : Rn (isC B 32 32) i k0) (r1 : Rn (isC B 48 57) k0 k1) (hk1 : k1 ≤ n) (hx : x < 48) (hlo : lo < 2 ^ 31) (hhi : hi < 2 ^ 31) (ok : nOK B k0 k1 lo hi → ∀ s, ag kLi σ s → s 105 0 = nI k1 → s 107 0 = nI k0 → (∀ j, s 100 j = if j = x then nI (vl B k0 (k1 - k0)) else σ 100 j) → Q 1 s) (bad : ¬ nOK B k0 k1 lo hi → ∀ s, ag kLi σ s → s 107 0 = nI k0 → Q 0 s) : w_X9_number Q σ (nI x) (nI lo) (nI hi) := by
  have hn := hB.1
  have hkk := r1.1
  unfold w_X9_number
  refine m_blanks hB hM e105 r0 (by omega) (fun s0 a0 f0 g0 => ?_)
  have key : ∀ (d p : Nat) (s : gS), p + d = k1 → k0 ≤ p → ag k57 σ s → s 105 0 = nI p → s 107 0 = nI k0 → w_X9_number_7 Q (d + 1) (nI x) (nI lo) (nI hi) (nI (vl B k0 (p - k0))) s := by
    intro d
    induction d with
    | zero =>
      intro p s hp hip a1 e e7
      have : p = k1 := by omega
      subst this
      have hv := vl_lt (B := B) (b := k0) (m := p - k0) (fun t ht => r1.2.1 (k0 + t) (by omega) (by omega))
      unfold w_X9_number_7 w_X9_number_119
      refine m_isAt hB (hM.re (a1 103 (by unfold k57; omega)) (a1 106 (by unfold k57; omega))) e hk1 rfl rfl (by decide) (by decide) (fun q => absurd q r1.2.2) (fun _ => q_T rfl ⟨vp_in_nI hx (by omega), ?_⟩)
      rintro _ rfl
      rw [nI_clamp (by omega)]
      have z5 : (gu s 100 x (nI (vl B k0 (p - k0)))) 105 0 = nI p := by rw [gu_ne (by omega)]; exact e
      have z7 : (gu s 100 x (nI (vl B k0 (p - k0)))) 107 0 = nI k0 := by rw [gu_ne (by omega)]; exact e7
      have az : ag kLi σ (gu s 100 x (nI (vl B k0 (p - k0)))) := ag_gu' (Or.inl rfl) (ag_mono a1 (fun k hk => k57_L hk))
      have bd := fun q => bad q _ az z7
      rw [z5, z7, pk_sub hip, show (7 : Int32) = nI 7 from rfl, nI_leI (by omega) (by omega), nI_leI (by omega) (by omega), nI_ltI (by omega) (by omega), nI_ltI (by omega) (by omega)]
      refine ⟨fun c => bd (fun q => by have := q.1; omega), fun c => ⟨fun c2 => bd (fun q => by have := q.2.1; omega), fun c2 => ⟨fun c3 => bd (fun q => by have := q.2.2.1; omega), fun c3 => ⟨fun c4 => bd (fun q => by have := q.2.2.2; omega), fun c4 => ok ⟨by omega, by omega, by omega, by omega⟩ _ az z5 z7 (fun j => ?_)⟩⟩⟩⟩
      rw [gu_at, a1 100 (by unfold k57; omega)]
    | succ d ih =>
      intro p s hp hip a1 e e7
      have hMs := hM.re (a1 103 (by unfold k57; omega)) (a1 106 (by unfold k57; omega))
      have hdg := r1.2.1 p hip (by omega)
      have nx := fun s' a' e' e7' => ih (p + 1) s' (by omega) (by omega) a' e' e7'
      have ev : vl B k0 (p + 1 - k0) = if p - k0 < 6 then 10 * vl B k0 (p - k0) + dgt B p else vl B k0 (p - k0) := by
        rw [show p + 1 - k0 = (p - k0) + 1 by omega]
        show (if p - k0 < 6 then 10 * vl B k0 (p - k0) + dgt B (k0 + (p - k0)) else vl B k0 (p - k0)) = _
        rw [show k0 + (p - k0) = p by omega]
      rw [ev] at nx
      unfold w_X9_number_7 w_X9_number_55
      refine m_isAt hB hMs e (by omega) rfl rfl (by decide) (by decide) (fun _ => q_F (by decide) ?_) (fun q => absurd hdg q)
      rw [e, e7, pk_sub hip, l_6, nI_leI (by omega) (by omega), nI_clamp (by omega)]
      refine ⟨fun c2 => ?_, fun c2 => ⟨vp_in_nI (by omega) (by omega), ?_⟩⟩
      · rintro _ rfl
        rw [if_neg (by omega)] at nx
        exact nx _ (ag_gu' (Or.inl rfl) a1) (by rw [gu_eq, nI_1]) (by rw [gu_ne (by omega)]; exact e7)
      · rintro _ rfl
        rw [if_pos (by omega)] at nx
        unfold isC at hdg
        obtain ⟨cc, -, ec, ec2⟩ := i_ex (x := B p) (by omega)
        have ed : dgt B p = cc - 48 := by unfold dgt; rw [ec2]; rfl
        have em : s 103 p = nI cc := by
          apply i_nat
          rw [hMs.2 p (by omega), if_pos (by omega), ec2]
        rw [ed] at nx
        rw [em, l_10, pk_mul, nI_add, show (48 : Int32) = nI 48 from rfl, pk_sub (by omega), show 10 * vl B k0 (p - k0) + cc - 48 = 10 * vl B k0 (p - k0) + (cc - 48) by omega]
        exact nx _ (ag_gu' (Or.inl rfl) a1) (by rw [gu_eq, nI_1]) (by rw [gu_ne (by omega)]; exact e7)
  have := key (k1 - k0) k0 s0 (by omega) (Nat.le_refl _) a0 f0 g0
  rw [Nat.sub_self] at this
  exact ⟨_, this⟩
end LIC2
