/-! COUNT, and the run of calls -/
section CNT
variable {σ : gS}
theorem p_sq {Q : Int32 → gS → Prop} (kk : Q (nI (fcnt (fun i => decide (¬ σ 19 i < 0)) 192)) σ) : w_X3_squaresWithTent Q σ := by
  have key : ∀ (d i : Nat) (x : Int32), i + d = 192 → x = nI (fcnt (fun i => decide (¬ σ 19 i < 0)) i) → w_X3_squaresWithTent_4 Q (d + 1) x (nI i) σ := by
    intro d
    induction d with
    | zero =>
      intro i x hd hx
      have : i = 192 := by omega
      subst this
      unfold w_X3_squaresWithTent_4
      rw [hx]
      exact q_T (by decide) kk
    | succ d ih =>
      intro i x hd hx
      unfold w_X3_squaresWithTent_4
      rw [l_192, nI_leI (by omega) (by omega), nI_clamp (by omega)]
      refine q_F (by omega) ⟨vp_in_nI (by omega) (by omega), fun c => ?_, fun c => ?_⟩
      · rintro _ rfl
        rw [nI_1]
        refine ih (i + 1) _ (by omega) ?_
        rw [fcnt_F (p := fun i => decide (¬ σ 19 i < 0)) (n := i) (decide_eq_false (fun q => q c)), hx]
      · rintro _ rfl _ rfl
        rw [nI_1]
        refine ih (i + 1) _ (by omega) ?_
        rw [fcnt_T (p := fun i => decide (¬ σ 19 i < 0)) (n := i) (decide_eq_true c), hx, nI_1]
  unfold w_X3_squaresWithTent
  have := key 192 0 (nI 0) (by omega) rfl
  rw [nI_0] at this
  exact ⟨_, this⟩
theorem p_ln {Q : Int32 → gS → Prop} (kk : Q (nI (fcnt (fun i => decide (σ 19 i = -2)) 192)) σ) : w_X3_laneSquares Q σ := by
  have key : ∀ (d i : Nat) (x : Int32), i + d = 192 → x = nI (fcnt (fun i => decide (σ 19 i = -2)) i) → w_X3_laneSquares_4 Q (d + 1) x (nI i) σ := by
    intro d
    induction d with
    | zero =>
      intro i x hd hx
      have : i = 192 := by omega
      subst this
      unfold w_X3_laneSquares_4
      rw [hx]
      exact q_T (by decide) kk
    | succ d ih =>
      intro i x hd hx
      unfold w_X3_laneSquares_4
      rw [l_192, nI_leI (by omega) (by omega), nI_clamp (by omega)]
      refine q_F (by omega) ⟨vp_in_nI (by omega) (by omega), fun c => ?_, fun c => ?_⟩
      · rintro _ rfl
        rw [nI_1]
        refine ih (i + 1) _ (by omega) ?_
        rw [fcnt_F (p := fun i => decide (σ 19 i = -2)) (n := i) (decide_eq_false c), hx]
      · rintro _ rfl _ rfl
        rw [nI_1]
        refine ih (i + 1) _ (by omega) ?_
        rw [fcnt_T (p := fun i => decide (σ 19 i = -2)) (n := i) (decide_eq_true c), hx, nI_1]
  unfold w_X3_laneSquares
  have := key 192 0 (nI 0) (by omega) rfl
  rw [nI_0] at this
  exact ⟨_, this⟩
theorem m_sq {Q : Int32 → gS → Prop} (kk : Q (nI (fcnt (fun i => decide (¬ σ 64 i < 0)) 192)) σ) : ∃ n76, w_X9_count_76 Q n76 0 0 σ := by
  have key : ∀ (d i : Nat) (x : Int32), i + d = 192 → x = nI (fcnt (fun i => decide (¬ σ 64 i < 0)) i) → w_X9_count_76 Q (d + 1) x (nI i) σ := by
    intro d
    induction d with
    | zero =>
      intro i x hd hx
      have : i = 192 := by omega
      subst this
      unfold w_X9_count_76
      rw [hx]
      exact q_T (by decide) kk
    | succ d ih =>
      intro i x hd hx
      unfold w_X9_count_76 w_X9_count_98
      rw [l_192, nI_leI (by omega) (by omega), nI_clamp (by omega)]
      refine q_F (by omega) ⟨vp_in_nI (by omega) (by omega), fun c => ?_, fun c => ?_⟩
      · rintro _ rfl _ rfl
        rw [nI_1]
        refine ih (i + 1) _ (by omega) ?_
        rw [fcnt_F (p := fun i => decide (¬ σ 64 i < 0)) (n := i) (decide_eq_false (fun q => q c)), hx, Int32.add_zero]
      · rintro _ rfl _ rfl
        rw [nI_1]
        refine ih (i + 1) _ (by omega) ?_
        rw [fcnt_T (p := fun i => decide (¬ σ 64 i < 0)) (n := i) (decide_eq_true c), hx, nI_1]
  have := key 192 0 (nI 0) (by omega) rfl
  rw [nI_0] at this
  exact ⟨_, this⟩
theorem m_ln {Q : Int32 → gS → Prop} (kk : Q (nI (fcnt (fun i => decide (σ 64 i = -2)) 192)) σ) : ∃ n140, w_X9_count_140 Q n140 0 0 σ := by
  have key : ∀ (d i : Nat) (x : Int32), i + d = 192 → x = nI (fcnt (fun i => decide (σ 64 i = -2)) i) → w_X9_count_140 Q (d + 1) x (nI i) σ := by
    intro d
    induction d with
    | zero =>
      intro i x hd hx
      have : i = 192 := by omega
      subst this
      unfold w_X9_count_140
      rw [hx]
      exact q_T (by decide) kk
    | succ d ih =>
      intro i x hd hx
      unfold w_X9_count_140 w_X9_count_164
      rw [l_192, nI_leI (by omega) (by omega), nI_clamp (by omega)]
      refine q_F (by omega) ⟨vp_in_nI (by omega) (by omega), fun c => ?_, fun c => ?_⟩
      · rintro _ rfl _ rfl
        rw [nI_1]
        refine ih (i + 1) _ (by omega) ?_
        rw [fcnt_F (p := fun i => decide (σ 64 i = -2)) (n := i) (decide_eq_false c), hx, Int32.add_zero]
      · rintro _ rfl _ rfl
        rw [nI_1]
        refine ih (i + 1) _ (by omega) ?_
        rw [fcnt_T (p := fun i => decide (σ 64 i = -2)) (n := i) (decide_eq_true c), hx, nI_1]
  have := key 192 0 (nI 0) (by omega) rfl
  rw [nI_0] at this
  exact ⟨_, this⟩
end CNT
section PCN
variable {Q : Unit} {LN : Nat} {xs : Nat → Int32} {k23 : Int32 → gS → Prop} {x4 : Int32} {σ : gS}
theorem cs_count (h1 : vp_in (x4 + 1) LN) (hN : RN σ) (hM : RM σ) (hG : RG σ) (hP : RP σ) (hB : RB σ) (hL : RLc σ) (K : ∀ σ', ag scr σ σ' → k23 (x4 + 6) σ') : w_L_law_1509 Q LN xs k23 x4 σ := by
  have A : ag scr σ (gu σ 63 0 0) := ag_gu' s63 ag_rf
  have AK : ag kK σ (gu σ 63 0 0) := ag_mono A (fun k hk => Or.inr (Or.inr hk))
  have K0 := K _ A
  obtain ⟨g, t, m1, m2, m3, m4, m5, m6, m7, m8, m9, m10, m11⟩ := hM
  obtain ⟨T, j, j', l1, l2, l3, l4, l5, l6, l7⟩ := hL
  obtain ⟨n, a1, a2, a3, a4, w, p1, p2, p3⟩ := hP
  unfold w_L_law_1509 w_X8_count w_X9_count
  generalize xs (x4 + 1).toNatClampNeg = a
  refine ⟨h1, fun c => ⟨h1, ?_⟩, fun c0 => ⟨fun c => ⟨h1, ?_⟩, fun c1 => ⟨fun c => ?_, fun c2 => ⟨fun c => ⟨h1, ?_⟩, fun c3 => ⟨fun c => ?_, fun c4 => ⟨fun c => ⟨h1, ?_⟩, fun c5 => ⟨fun c => ⟨h1, ?_⟩, fun c6 => ⟨fun c => ⟨h1, ?_⟩, fun c7 => ⟨fun c => ⟨h1, ?_⟩, fun c8 => ⟨fun c => ?_, fun c9 => ⟨h1, ?_⟩⟩⟩⟩⟩⟩⟩⟩⟩⟩⟩
  · rintro _ rfl
    exact q_T c (tl_e (by rw [gu_ne (by omega)]; exact hN.1) K0)
  · rintro _ rfl
    refine q_F c0 (q_T c (p_standing m2 (by rw [gu_ne (by omega)]; exact m6) (by rw [gu_ne (by omega)]; exact m9) (tl_e ?_ K0)))
    rw [gu_ne (by omega)]; exact m11
  · refine p_sq ⟨h1, ?_⟩
    rintro _ rfl
    refine q_F c0 (q_F c1 (q_T c (m_sq (tl_e ?_ K0))))
    rw [gu_ne (by omega)]
    exact congrArg nI (fcnt_ext (fun i hi => by rw [m7 i hi]))
  · rintro _ rfl
    obtain ⟨P, hP, e26, e71, hc, he⟩ := hG.crowds
    exact q_F c0 (q_F c1 (q_F c2 (q_T c (tl_e (by rw [gu_ne (by omega), e26, e71]) K0))))
  · refine p_crowdsB hG (fun r M => ⟨h1, ?_⟩)
    rintro _ rfl
    exact q_F c0 (q_F c1 (q_F c2 (q_F c3 (q_T c (M _ _ AK (tl_e rfl K0))))))
  · rintro _ rfl
    obtain ⟨P, W, fr, tt, ln, wd, hG, h33, h34⟩ := hG
    exact q_F c0 (q_F c1 (q_F c2 (q_F c3 (q_F c4 (q_T c (tl_e (by rw [gu_ne (by omega), hG.2.2.1.2.1, hG.2.2.1.2.2]) K0))))))
  · rintro _ rfl
    exact q_F c0 (q_F c1 (q_F c2 (q_F c3 (q_F c4 (q_F c5 (q_T c (tl_e (by rw [gu_ne (by omega), p1.2.1, p2.2.1]) K0)))))))
  · rintro _ rfl
    exact q_F c0 (q_F c1 (q_F c2 (q_F c3 (q_F c4 (q_F c5 (q_F c6 (q_T c (tl_e (by rw [gu_ne (by omega)]; exact hB.2.2.2.2.1.symm) K0))))))))
  · rintro _ rfl
    exact q_F c0 (q_F c1 (q_F c2 (q_F c3 (q_F c4 (q_F c5 (q_F c6 (q_F c7 (q_T c (tl_e (by rw [gu_ne (by omega), l3, gtj_v (by omega), l5, l6]) K0)))))))))
  · refine p_ln ⟨h1, ?_⟩
    rintro _ rfl
    refine q_F c0 (q_F c1 (q_F c2 (q_F c3 (q_F c4 (q_F c5 (q_F c6 (q_F c7 (q_F c8 (q_T c (m_ln (tl_e ?_ K0)))))))))))
    rw [gu_ne (by omega)]
    exact congrArg nI (fcnt_ext (fun i hi => by rw [m7 i hi]))
  · rintro _ rfl
    exact q_F c0 (q_F c1 (q_F c2 (q_F c3 (q_F c4 (q_F c5 (q_F c6 (q_F c7 (q_F c8 (q_F c9 (tl_e rfl K0))))))))))
end PCN
def RA (σ : gS) : Prop := RN σ ∧ RT σ ∧ RM σ ∧ RG σ ∧ RP σ ∧ RB σ ∧ RLc σ
section RAS
variable {σ σ' : gS}
/-- what changed among P touches nothing of the others -/
theorem RA.of {P : Nat → Prop} (h : RA σ) (a : ag P σ σ') (hn : (∀ k, kN k → ¬ P k) ∨ RN σ') (ht : (∀ k, kT k → ¬ P k) ∨ RT σ') (hm : (∀ k, kM k → ¬ P k) ∨ RM σ') (hg : (∀ k, kG k → ¬ P k) ∨ RG σ') (hp : ((∀ k, kP k → ¬ P k) ∧ WX σ σ') ∨ RP σ') (hb : (∀ k, kBk k → ¬ P k) ∨ RB σ') (hl : (∀ k, kLc k → ¬ P k) ∨ RLc σ') : RA σ' := by
  obtain ⟨h1, h2, h3, h4, h5, h6, h7⟩ := h
  exact ⟨hn.elim (fun q => h1.cong (fun k hk => a k (q k hk))) id, ht.elim (fun q => h2.cong (fun k hk => a k (q k hk))) id, hm.elim (fun q => h3.cong (fun k hk => a k (q k hk))) id, hg.elim (fun q => h4.cong (fun k hk => a k (q k hk))) id, hp.elim (fun q => h5.cong (fun k hk => a k (q.1 k hk)) q.2) id, hb.elim (fun q => h6.cong (fun k hk => a k (q k hk))) id, hl.elim (fun q => h7.cong (fun k hk => a k (q k hk))) id⟩
theorem wx75 {P : Nat → Prop} (a : ag P σ σ') (h1 : ¬ P 75) (h2 : ¬ P 76) : WX σ σ' := WX.same (a 75 h1) (a 76 h2)
theorem RA.n (h : RA σ) (hN : RN σ') (a : ag (fun k => kN k ∨ scr k) σ σ') : RA σ' := h.of a (Or.inr hN) (Or.inl (fun k => by unfold kT kN scr; omega)) (Or.inl (fun k => by unfold kM kN scr; omega)) (Or.inl (fun k => by unfold kG kN scr; omega)) (Or.inl ⟨fun k => by unfold kP kN scr; omega, wx75 a (by unfold kN scr; omega) (by unfold kN scr; omega)⟩) (Or.inl (fun k => by unfold kBk kN scr; omega)) (Or.inl (fun k => by unfold kLc kN scr; omega))
theorem RA.t (h : RA σ) (hT : RT σ') (a : ag (fun k => kT k ∨ scr k) σ σ') : RA σ' := h.of a (Or.inl (fun k => by unfold kT kN scr; omega)) (Or.inr hT) (Or.inl (fun k => by unfold kM kT scr; omega)) (Or.inl (fun k => by unfold kG kT scr; omega)) (Or.inl ⟨fun k => by unfold kP kT scr; omega, wx75 a (by unfold kT scr; omega) (by unfold kT scr; omega)⟩) (Or.inl (fun k => by unfold kBk kT scr; omega)) (Or.inl (fun k => by unfold kLc kT scr; omega))
theorem RA.m (h : RA σ) (hM : RM σ') (a : ag (fun k => kM k ∨ scr k) σ σ') : RA σ' := h.of a (Or.inl (fun k => by unfold kM kN scr; omega)) (Or.inl (fun k => by unfold kT kM scr; omega)) (Or.inr hM) (Or.inl (fun k => by unfold kG kM scr; omega)) (Or.inl ⟨fun k => by unfold kP kM scr; omega, wx75 a (by unfold kM scr; omega) (by unfold kM scr; omega)⟩) (Or.inl (fun k => by unfold kBk kM scr; omega)) (Or.inl (fun k => by unfold kLc kM scr; omega))
theorem RA.g (h : RA σ) (hG : RG σ') (a : ag (fun k => kG k ∨ scr k) σ σ') (hw : WX σ σ') : RA σ' := h.of a (Or.inl (fun k => by unfold kG kN scr; omega)) (Or.inl (fun k => by unfold kT kG scr; omega)) (Or.inl (fun k => by unfold kM kG scr; omega)) (Or.inr hG) (Or.inl ⟨fun k => by unfold kP kG scr; omega, hw⟩) (Or.inl (fun k => by unfold kBk kG scr; omega)) (Or.inl (fun k => by unfold kLc kG scr; omega))
theorem RA.k (h : RA σ) (hG : RG σ') (a : ag kK σ σ') : RA σ' := h.of a (Or.inl (fun k => by unfold kK kN scr; omega)) (Or.inl (fun k => by unfold kT kK scr; omega)) (Or.inl (fun k => by unfold kM kK scr; omega)) (Or.inr hG) (Or.inl ⟨fun k => by unfold kP kK scr; omega, wx75 a (by unfold kK scr; omega) (by unfold kK scr; omega)⟩) (Or.inl (fun k => by unfold kBk kK scr; omega)) (Or.inl (fun k => by unfold kLc kK scr; omega))
theorem RA.p (h : RA σ) (hP : RP σ') (a : ag (fun k => kP k ∨ scr k) σ σ') : RA σ' := h.of a (Or.inl (fun k => by unfold kP kN scr; omega)) (Or.inl (fun k => by unfold kT kP scr; omega)) (Or.inl (fun k => by unfold kM kP scr; omega)) (Or.inl (fun k => by unfold kG kP scr; omega)) (Or.inr hP) (Or.inl (fun k => by unfold kBk kP scr; omega)) (Or.inl (fun k => by unfold kLc kP scr; omega))
theorem RA.b (h : RA σ) (hB : RB σ') (a : ag (fun k => kBk k ∨ scr k) σ σ') : RA σ' := h.of a (Or.inl (fun k => by unfold kBk kN scr; omega)) (Or.inl (fun k => by unfold kT kBk scr; omega)) (Or.inl (fun k => by unfold kM kBk scr; omega)) (Or.inl (fun k => by unfold kG kBk scr; omega)) (Or.inl ⟨fun k => by unfold kP kBk scr; omega, wx75 a (by unfold kBk scr; omega) (by unfold kBk scr; omega)⟩) (Or.inr hB) (Or.inl (fun k => by unfold kLc kBk scr; omega))
theorem RA.l (h : RA σ) (hN : RN σ') (hT : RT σ') (hL : RLc σ') (a : ag (fun k => kN k ∨ kT k ∨ kLc k ∨ scr k) σ σ') : RA σ' := h.of a (Or.inr hN) (Or.inr hT) (Or.inl (fun k => by unfold kM kN kT kLc scr; omega)) (Or.inl (fun k => by unfold kG kN kT kLc scr; omega)) (Or.inl ⟨fun k => by unfold kP kN kT kLc scr; omega, wx75 a (by unfold kN kT kLc scr; omega) (by unfold kN kT kLc scr; omega)⟩) (Or.inl (fun k => by unfold kBk kN kT kLc scr; omega)) (Or.inr hL)
theorem RA.s (h : RA σ) (a : ag scr σ σ') : RA σ' := h.k (h.2.2.2.1.s a) (ag_mono a (fun k hk => Or.inr (Or.inr hk)))
end RAS
theorem RA_0 : RA gS0 := by
  refine ⟨⟨rfl, ⟨by decide, by decide⟩, fun j _ => rfl, rfl⟩, ⟨0, by omega, rfl, rfl, fun j _ => ⟨(by decide : (0 : Int32) = 0 &&& 255), (by decide : (0 : Int32).toInt8.toInt32 = 0)⟩⟩, ⟨0, 0, by omega, by omega, rfl, rfl, rfl, rfl, fun j _ => rfl, fun j hj => Or.inl ?_, fun i _ => Or.inl rfl, fun i hi => by omega, rfl⟩, ⟨0, 0, fun _ => 0, fun _ => 0, fun _ => 0, fun _ => 0, ⟨?_, ?_, ⟨by omega, rfl, rfl⟩, fun p _ => ⟨rfl, rfl, rfl, Or.inl rfl⟩, fun p _ => ⟨⟨(by decide : 0 ≤ (0 : Int32).toInt), (by decide : (0 : Int32).toInt ≤ 20000)⟩, ⟨(by decide : 0 ≤ (0 : Int32).toInt), (by decide : (0 : Int32).toInt ≤ 2000)⟩⟩, fun k hk => by omega, fun p hp => by omega, fun p _ _ => rfl⟩, Or.inl rfl, Or.inl rfl⟩, ⟨0, fun _ => 0, fun _ => 0, fun _ => 0, fun _ => 0, 0, ⟨by omega, rfl, fun i hi => by omega⟩, ⟨by omega, rfl, fun i hi => by omega⟩, ⟨by omega, rfl⟩, fun i hi => by omega, Or.inl rfl⟩, ⟨rfl, rfl, rfl, rfl, rfl, 0, fun i => i, by omega, rfl, fun i hi => by omega, fun i hi => by omega, fun i hi => by omega, fun i hi => by omega, fun i hi => by omega, fun i hi => by omega, fun i j h1 h2 => by omega⟩, ⟨0, 8, 9, by omega, by omega, rfl, rfl, rfl, rfl, fun k hk => by omega⟩⟩
  · show hfill (fun _ => 0) (-1) 192 j = -1
    unfold hfill
    rw [if_pos hj]
  · exact ⟨⟨by omega, by omega, g35 _, rfl⟩, fun k hk => by omega, fun k hk => by omega, fun k hk => by omega, fun p hp => by omega⟩
  · exact ⟨⟨by omega, by omega, rfl, 0, rfl, rfl⟩, fun k hk => by omega, fun k hk => by omega⟩
theorem pure_main (L : Nat) (xs : Nat → Int32) (hL : L ≤ 3072) : w_L_law_23 () L xs 513 0 gS0 := by
  have key : ∀ (n i : Nat) (σ : gS), n + i = 513 → (i = 0 ∨ 6 * i ≤ L) → RA σ → w_L_law_23 () L xs n (nI (6 * i)) σ := by
    intro n
    induction n with
    | zero => intro i σ h1 h2; omega
    | succ n ih =>
      intro i σ hd hi R
      have e6 : (Int32.ofNat L - 6).toInt = (L : Int) - 6 := by
        have h6 : (6 : Int32).toInt = 6 := rfl
        have hl : (Int32.ofNat L).toInt = L := nI_toInt (n := L) (by omega)
        rw [i_sub (by rw [h6, hl]; omega) (by rw [h6, hl]; omega), h6, hl]
      unfold w_L_law_23
      refine ⟨fun _ => trivial, fun c => ?_⟩
      rw [i_lt, e6, t_n (by omega)] at c
      have hnx : nI (6 * i) + 6 = nI (6 * (i + 1)) := by rw [l_6, nI_add, Nat.mul_add]
      have nx : ∀ σ', RA σ' → w_L_law_23 () L xs n (nI (6 * i) + 6) σ' := fun σ' R' => by
        rw [hnx]
        exact ih (i + 1) σ' (by omega) (by omega) R'
      have v0 : vp_in (nI (6 * i)) L := vp_in_nI (by omega) (by omega)
      have v1 : vp_in (nI (6 * i) + 1) L := by rw [nI_1]; exact vp_in_nI (by omega) (by omega)
      have v2 : vp_in (nI (6 * i) + 2) L := by rw [l_2, nI_add]; exact vp_in_nI (by omega) (by omega)
      have v3 : vp_in (nI (6 * i) + 3) L := by rw [l_3, nI_add]; exact vp_in_nI (by omega) (by omega)
      have v4 : vp_in (nI (6 * i) + 4) L := by rw [l_4, nI_add]; exact vp_in_nI (by omega) (by omega)
      have v5 : vp_in (nI (6 * i) + 5) L := by rw [l_5, nI_add]; exact vp_in_nI (by omega) (by omega)
      obtain ⟨hN, hT, hM, hG, hP, hB, hLc⟩ := id R
      refine ⟨v0, ?_⟩
      generalize (xs (nI (6 * i)).toNatClampNeg) &&& 31 = a
      refine ⟨fun _ => cs_feed v1 v2 v3 v4 v5 hT (fun s h a => nx s (R.t h a)), fun _ => ⟨fun _ => cs_end v1 hT (fun s h a => nx s (R.t h a)), fun _ => ⟨fun _ => cs_lane v1 v2 hM (fun s h a => nx s (R.m h a)), fun _ => ⟨fun _ => cs_gate v1 hM (fun s h a => nx s (R.m h a)), fun _ => ⟨fun _ => cs_tent v1 v2 hM (fun s h a => nx s (R.m h a)), fun _ => ⟨fun _ => cs_strike v1 hM (fun s h a => nx s (R.m h a)), fun _ => ⟨fun _ => cs_at v1 hM (fun s h a => nx s (R.m h a)), fun _ => ⟨fun _ => cs_place v1 v2 hG (fun s h a w => nx s (R.g h a w)), fun _ => ⟨fun _ => cs_crowd v1 v2 hG (fun s h a w => nx s (R.g h a w)), fun _ => ⟨fun _ => cs_shut v1 v2 hG (fun s h a w => nx s (R.g h a w)), fun _ => ⟨fun _ => cs_way v1 v2 v3 v4 hG (fun s h a w => nx s (R.g h a w)), fun _ => ⟨fun _ => cs_empty2 hG (fun s h a => nx s (R.k h a)), fun _ => ⟨fun _ => cs_worst2 hG (fun s h a => nx s (R.k h a)), fun _ => ⟨fun _ => cs_act v1 v2 v3 v4 hG hP (fun s h a => nx s (R.p h a)), fun _ => ⟨fun _ => cs_tooMany hP (fun s h a => nx s (R.p h a)), fun _ => ⟨fun _ => cs_shift v1 hP (fun s h a => nx s (R.p h a)), fun _ => ⟨fun _ => cs_forget hP (fun s h a => nx s (R.p h a)), fun _ => ⟨fun _ => cs_minutes v1 hN (fun s h a => nx s (R.n h a)), fun _ => ⟨fun _ => cs_pass v1 v2 v3 hN hB (fun s h a => nx s (R.b h a)), fun _ => ⟨fun _ => cs_inside v1 v2 v3 hB (fun s h a => nx s (R.b h a)), fun _ => ⟨fun _ => cs_within v1 v2 v3 hB (fun s h a => nx s (R.b h a)), fun _ => ⟨fun _ => cs_noise v1 v2 hN (fun s h a => nx s (R.n h a)), fun _ => ⟨fun _ => cs_licence hN hT hLc (fun s h1 h2 h3 a => nx s (R.l h1 h2 h3 a)), fun _ => ⟨fun _ => cs_fault hN (fun s h a => nx s (R.n h a)), fun _ => ⟨fun _ => cs_broken hN hM hG hLc (fun s h a => nx s (R.k h a)), fun _ => ⟨fun _ => cs_count v1 hN hM hG hP hB hLc (fun s a => nx s (R.s a)), fun _ => ?_⟩⟩⟩⟩⟩⟩⟩⟩⟩⟩⟩⟩⟩⟩⟩⟩⟩⟩⟩⟩⟩⟩⟩⟩⟩⟩
      rintro _ rfl
      exact nx σ R
  have := key 513 0 gS0 (by omega) (Or.inl rfl) RA_0
  rw [show 6 * 0 = 0 from rfl, nI_0] at this
  exact this
