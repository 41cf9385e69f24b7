/-! THE TAPE: feed -/
def cb (a s : Int32) : Int32 := ((a.toUInt32 >>> (s.toUInt32 &&& Int32.toUInt32 31)).toInt32) &&& 255
def mb (a : Int32) (s : Nat) : Int32 := vp_nar .byte ((a >>> (nI s &&& 31)).toInt8.toInt32)
theorem b255 : ∀ j, j < 32 → (255 : Int32).toBitVec.getLsbD j = decide (j < 8) := by decide
theorem sh_bits {x : BitVec 32} {s i : Nat} (hs : s ≤ 24) (hi : i < 8) : (x >>> s).getLsbD i = (((x.sshiftRight s).signExtend 8).signExtend 32).getLsbD i := by
  rw [BitVec.getLsbD_ushiftRight, BitVec.getLsbD_signExtend, BitVec.getLsbD_signExtend, BitVec.getLsbD_sshiftRight]
  have h1 : i < 32 := by omega
  have h2 : s + i < 32 := by omega
  have h3 : ¬ 32 ≤ i := by omega
  simp [hi, h1, h2, h3]
theorem sh_eq (a : Int32) {s : Nat} (hs : s = 0 ∨ s = 8 ∨ s = 16 ∨ s = 24) : cb a (nI s) = mb a s &&& 255 := by
  unfold cb mb
  rw [pk_vb]
  have e1 : ((a.toUInt32 >>> ((nI s).toUInt32 &&& Int32.toUInt32 31)).toInt32).toBitVec = a.toBitVec >>> s := by
    rcases hs with rfl | rfl | rfl | rfl <;> rfl
  have e2 : ((a >>> (nI s &&& 31)).toInt8.toInt32).toBitVec = ((a.toBitVec.sshiftRight s).signExtend 8).signExtend 32 := by
    rcases hs with rfl | rfl | rfl | rfl <;> rfl
  refine Int32.toBitVec_inj.mp (BitVec.eq_of_getLsbD_eq (fun i hi => ?_))
  rw [Int32.toBitVec_and, Int32.toBitVec_and, BitVec.getLsbD_and, BitVec.getLsbD_and, b255 i hi, e1, e2]
  by_cases c : i < 8
  · rw [sh_bits (by omega) c]
  · simp [c]
theorem mb_b (a : Int32) (s : Nat) : (mb a s).toInt8.toInt32 = mb a s := by
  unfold mb
  rw [pk_vb]
  have := pk_vb ((a >>> (nI s &&& 31)).toInt8.toInt32)
  rw [vp_nar_byte] at this
  simpa using this
section FEED
variable {σ : gS} {n : Nat}
theorem p_append {Q : gS → Prop} {a : Int32} (hn : n + 4 ≤ 400) (e16 : σ 16 0 = nI n) (kk : ∀ s, ag (fun k => k = 15 ∨ k = 16) σ s → s 16 0 = nI (n + 4) → (∀ j, s 15 j = if n ≤ j ∧ j < n + 4 then cb a (nI (24 - 8 * (j - n))) else σ 15 j) → Q s) : w_X6_append Q σ a := by
  have key : ∀ (d i : Nat) (s : gS), i + d = 4 → ag (fun k => k = 15 ∨ k = 16) σ s → s 16 0 = nI (n + i) → (∀ j, s 15 j = if n ≤ j ∧ j < n + i then cb a (nI (24 - 8 * (j - n))) else σ 15 j) → w_X6_append_3 Q (d + 1) a (if i = 4 then -8 else nI (24 - 8 * i)) s := by
    intro d
    induction d with
    | zero =>
      intro i s hi a1 e H
      have : i = 4 := by omega
      subst this
      unfold w_X6_append_3
      rw [if_pos rfl]
      exact q_T (by decide) (kk s a1 e H)
    | succ d ih =>
      intro i s hi a1 e H
      unfold w_X6_append_3
      rw [if_neg (by omega), e]
      refine q_F (nI_pos (by omega)) (q_F (by rw [l_400, nI_leI (by omega) (by omega)]; omega) ⟨vp_in_nI (by omega) (by omega), ?_⟩)
      rw [nI_clamp (by omega)]
      rintro _ rfl _ rfl _ rfl
      have e8 : nI (24 - 8 * i) + (-8) = if i + 1 = 4 then -8 else nI (24 - 8 * (i + 1)) := by
        have : i = 0 ∨ i = 1 ∨ i = 2 ∨ i = 3 := by omega
        rcases this with rfl | rfl | rfl | rfl <;> rfl
      rw [e8]
      refine ih (i + 1) _ (by omega) (ag_gu' (Or.inr rfl) (ag_gu' (Or.inl rfl) a1)) ?_ (fun j => ?_)
      · rw [gu_eq, gu_ne (by omega), e, nI_1]; rfl
      · rw [gu_ne (by omega), gu_at]
        by_cases c : j = n + i
        · rw [if_pos c, if_pos (by omega), show j - n = i by omega]; rfl
        · rw [if_neg c, H j]
          by_cases c2 : n ≤ j ∧ j < n + i
          · rw [if_pos c2, if_pos (by omega)]
          · rw [if_neg c2, if_neg (by omega)]
  unfold w_X6_append
  have := key 4 0 σ (by omega) ag_rf (by rw [Nat.add_zero]; exact e16) (fun j => by rw [if_neg (by omega)])
  exact ⟨_, this⟩
theorem p_feed60 {Q : Int32 → gS → Prop} (hn : n + 20 ≤ 400) (e104 : σ 104 0 = nI n) (kk : ∀ s, ag (fun k => k = 103) σ s → (∀ j, s 103 j = if n ≤ j ∧ j < n + 20 then mb (σ 109 ((j - n) / 4)) (24 - 8 * ((j - n) - (j - n) / 4 * 4)) else σ 103 j) → Q (nI (n + 20)) (gu s 104 0 (nI (n + 20)))) : ∃ n60, w_X9_feed_60 Q n60 0 σ := by
  have key : ∀ (d k : Nat) (s : gS), k + d = 20 → ag (fun k => k = 103) σ s → (∀ j, s 103 j = if n ≤ j ∧ j < n + k then mb (σ 109 ((j - n) / 4)) (24 - 8 * ((j - n) - (j - n) / 4 * 4)) else σ 103 j) → w_X9_feed_60 Q (d + 1) (nI k) s := by
    intro d
    induction d with
    | zero =>
      intro k s hk a1 H
      have : k = 20 := by omega
      subst this
      unfold w_X9_feed_60
      refine q_T (by decide) ?_
      rintro _ rfl
      rw [gu_eq, a1 104 (by omega), e104, l_20, nI_add]
      exact kk s a1 H
    | succ d ih =>
      intro k s hk a1 H
      unfold w_X9_feed_60
      rw [a1 104 (by omega), e104, a1 109 (by omega), l_20, l_4, pk_div (by omega) (by omega) (by omega)]
      refine q_F (by rw [nI_leI (by omega) (by omega)]; omega) ⟨vp_in_nI (by omega) (by omega), ?_⟩
      rw [nI_add, pk_mul, pk_sub (by omega), l_8, l_24, pk_mul, pk_sub (by omega)]
      refine ⟨vp_in_nI (by omega) (by omega), ?_⟩
      rw [nI_clamp (by omega), nI_clamp (by omega)]
      rintro _ rfl _ rfl
      rw [nI_1]
      refine ih (k + 1) _ (by omega) (ag_gu' rfl a1) (fun j => ?_)
      rw [gu_at]
      by_cases c : j = n + k
      · rw [if_pos c, if_pos (by omega), show j - n = k by omega]; rfl
      · rw [if_neg c, H j]
        by_cases c2 : n ≤ j ∧ j < n + k
        · rw [if_pos c2, if_pos (by omega)]
        · rw [if_neg c2, if_neg (by omega)]
  have := key 20 0 σ (by omega) ag_rf (fun j => by rw [if_neg (by omega)])
  rw [nI_0] at this
  exact ⟨_, this⟩
end FEED
section PFE
variable {Q : Unit} {LN : Nat} {xs : Nat → Int32} {k23 : Int32 → gS → Prop} {x4 : Int32} {σ : gS}
theorem cs_feed (h1 : vp_in (x4 + 1) LN) (h2 : vp_in (x4 + 2) LN) (h3 : vp_in (x4 + 3) LN) (h4 : vp_in (x4 + 4) LN) (h5 : vp_in (x4 + 5) LN) (hR : RT σ) (K : ∀ σ', RT σ' → ag (fun k => kT k ∨ scr k) σ σ' → k23 (x4 + 6) σ') : w_L_law_160 Q LN xs k23 x4 σ := by
  obtain ⟨n, hn, e16, e104, hb⟩ := id hR
  unfold w_L_law_160 w_X8_feed w_X6_hasRoom w_X9_feed
  generalize xs (x4 + 1).toNatClampNeg = a
  generalize xs (x4 + 2).toNatClampNeg = b
  generalize xs (x4 + 3).toNatClampNeg = c
  generalize xs (x4 + 4).toNatClampNeg = d
  generalize xs (x4 + 5).toNatClampNeg = e
  refine ⟨h1, h2, h3, h4, h5, ?_⟩
  rw [e16, l_400, l_20, nI_add, nI_ltI (by omega) (by omega)]
  refine ⟨fun q => q_nT rfl ⟨h1, h2, h3, h4, h5, ?_⟩, fun q => q_nF (by decide) ?_⟩
  · rintro _ rfl
    have A : ag scr σ (gu σ 63 0 0) := ag_gu' s63 ag_rf
    rw [gu_ne (by omega), e104, nI_add, nI_leI (by omega) (by omega)]
    exact q_F (by omega) (tl_e rfl (K _ (hR.s A) (ag_mono A (fun k hk => Or.inr hk))))
  · refine p_append (n := n) (by omega) e16 (fun s1 a1 f1 g1 => ?_)
    refine p_append (n := n + 4) (by omega) f1 (fun s2 a2 f2 g2 => ?_)
    refine p_append (n := n + 8) (by omega) f2 (fun s3 a3 f3 g3 => ?_)
    refine p_append (n := n + 12) (by omega) f3 (fun s4 a4 f4 g4 => ?_)
    refine p_append (n := n + 16) (by omega) f4 (fun s5 a5 f5 g5 => ?_)
    refine ⟨h1, h2, h3, h4, h5, ?_⟩
    have ag5 : ag (fun k => k = 15 ∨ k = 16) σ s5 := ag_tr a1 (ag_tr a2 (ag_tr a3 (ag_tr a4 a5)))
    have z104 : s5 104 0 = nI n := by rw [ag5 104 (by omega)]; exact e104
    rintro _ rfl
    rw [gu_ne (by omega), z104, nI_add, nI_leI (by omega) (by omega)]
    refine q_T (by omega) ?_
    rintro _ rfl _ rfl _ rfl _ rfl _ rfl
    refine p_feed60 (n := n) (by omega) (by simp only [Nat.add_one_sub_one, forall_eq, true_and, and_true, true_implies, not_true_eq_false, not_false_eq_true, false_implies, implies_true, ne_eq, Nat.reduceEqDiff, Nat.reduceAdd, Nat.reduceMul, Nat.reduceLT, Nat.reduceLeDiff, and_self, gu_eq, gu_ne, gu_ne2]; exact z104) (fun s6 a6 g6 => tl_e ?_ (K _ ⟨n + 20, by omega, ?_, ?_, fun j hj => ?_⟩ ?_))
    · rw [f5]
    · rw [gu_ne (by omega), a6 16 (by omega)]; simp only [Nat.add_one_sub_one, forall_eq, true_and, and_true, true_implies, not_true_eq_false, not_false_eq_true, false_implies, implies_true, ne_eq, Nat.reduceEqDiff, Nat.reduceAdd, Nat.reduceMul, Nat.reduceLT, Nat.reduceLeDiff, and_self, gu_eq, gu_ne, gu_ne2]; exact f5
    · rw [gu_eq]
    · rw [gu_ne (by omega), gu_ne (by omega), a6 15 (by omega), g6 j]
      have z103 : ∀ x y z u v w : Int32, (gu (gu (gu (gu (gu (gu s5 63 0 x) 109 (0 : Int32).toNatClampNeg y) 109 (1 : Int32).toNatClampNeg z) 109 (2 : Int32).toNatClampNeg u) 109 (3 : Int32).toNatClampNeg v) 109 (4 : Int32).toNatClampNeg w) 103 j = σ 103 j := fun x y z u v w => by simp only [Nat.add_one_sub_one, forall_eq, true_and, and_true, true_implies, not_true_eq_false, not_false_eq_true, false_implies, implies_true, ne_eq, Nat.reduceEqDiff, Nat.reduceAdd, Nat.reduceMul, Nat.reduceLT, Nat.reduceLeDiff, and_self, gu_eq, gu_ne, gu_ne2]; rw [ag5 103 (by omega)]
      have z109 : ∀ i : Nat, (gu (gu (gu (gu (gu (gu s5 63 0 0) 109 (0 : Int32).toNatClampNeg a) 109 (1 : Int32).toNatClampNeg b) 109 (2 : Int32).toNatClampNeg c) 109 (3 : Int32).toNatClampNeg d) 109 (4 : Int32).toNatClampNeg e) 109 i = if i = 4 then e else if i = 3 then d else if i = 2 then c else if i = 1 then b else if i = 0 then a else s5 109 i := fun i => by
        rw [gu_at, gu_at, gu_at, gu_at, gu_at, gu_ne (by omega)]; rfl
      have z15 : (gu (gu (gu (gu (gu (gu s5 63 0 0) 109 (0 : Int32).toNatClampNeg a) 109 (1 : Int32).toNatClampNeg b) 109 (2 : Int32).toNatClampNeg c) 109 (3 : Int32).toNatClampNeg d) 109 (4 : Int32).toNatClampNeg e) 15 j = s5 15 j := by simp only [Nat.add_one_sub_one, forall_eq, true_and, and_true, true_implies, not_true_eq_false, not_false_eq_true, false_implies, implies_true, ne_eq, Nat.reduceEqDiff, Nat.reduceAdd, Nat.reduceMul, Nat.reduceLT, Nat.reduceLeDiff, and_self, gu_eq, gu_ne, gu_ne2]
      rw [z15, z103, z109, g5 j]
      by_cases c5 : n + 16 ≤ j ∧ j < n + 16 + 4
      · rw [if_pos c5, if_pos (by omega), if_pos (by omega), sh_eq _ (by omega), show 24 - 8 * (j - (n + 16)) = 24 - 8 * (j - n - (j - n) / 4 * 4) by omega]
        exact ⟨rfl, mb_b _ _⟩
      rw [if_neg c5, g4 j]
      by_cases c4 : n + 12 ≤ j ∧ j < n + 12 + 4
      · rw [if_pos c4, if_pos (by omega), if_neg (by omega), if_pos (by omega), sh_eq _ (by omega), show 24 - 8 * (j - (n + 12)) = 24 - 8 * (j - n - (j - n) / 4 * 4) by omega]
        exact ⟨rfl, mb_b _ _⟩
      rw [if_neg c4, g3 j]
      by_cases c3 : n + 8 ≤ j ∧ j < n + 8 + 4
      · rw [if_pos c3, if_pos (by omega), if_neg (by omega), if_neg (by omega), if_pos (by omega), sh_eq _ (by omega), show 24 - 8 * (j - (n + 8)) = 24 - 8 * (j - n - (j - n) / 4 * 4) by omega]
        exact ⟨rfl, mb_b _ _⟩
      rw [if_neg c3, g2 j]
      by_cases c2 : n + 4 ≤ j ∧ j < n + 4 + 4
      · rw [if_pos c2, if_pos (by omega), if_neg (by omega), if_neg (by omega), if_neg (by omega), if_pos (by omega), sh_eq _ (by omega), show 24 - 8 * (j - (n + 4)) = 24 - 8 * (j - n - (j - n) / 4 * 4) by omega]
        exact ⟨rfl, mb_b _ _⟩
      rw [if_neg c2, g1 j]
      by_cases c1 : n ≤ j ∧ j < n + 4
      · rw [if_pos c1, if_pos (by omega), if_neg (by omega), if_neg (by omega), if_neg (by omega), if_neg (by omega), if_pos (by omega), sh_eq _ (by omega), show 24 - 8 * (j - n) = 24 - 8 * (j - n - (j - n) / 4 * 4) by omega]
        exact ⟨rfl, mb_b _ _⟩
      rw [if_neg c1, if_neg (by omega)]
      exact hb j hj
    · have b5 : ag (fun k => kT k ∨ scr k) σ s5 := ag_mono ag5 (fun k hk => Or.inl (by unfold kT; omega))
      refine ag_gu' (Or.inl (by unfold kT; omega)) (ag_tr ?_ (ag_mono a6 (fun k hk => Or.inl (by unfold kT; omega))))
      repeat (first | exact b5 | refine ag_gu' (by simp [scr]) ?_)
end PFE
