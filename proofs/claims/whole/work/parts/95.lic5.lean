/-! THE LICENCE: all terms -/
/-- t terms of the class's j and of the model's row r -/
def DM (j t r : Nat) (K S : gS) : Prop := ∀ k, k < t → ∃ kd v f l : Nat, kd < 5 ∧ v ≤ 160000 ∧ K (gtk j + 0) k = nI kd ∧ K (gtk j + 1) k = nI v ∧ S r (4 * k) = nI kd ∧ S r (4 * k + 1) = nI v ∧ (kd = 4 → f ≤ 23 ∧ l ≤ 23 ∧ K (gtk j + 2) k = nI f ∧ K (gtk j + 3) k = nI l ∧ S r (4 * k + 2) = nI f ∧ S r (4 * k + 3) = nI l)
theorem DM.cong {j t r r' : Nat} {K S K' S' : gS} (h : DM j t r K S) (e : ∀ x, x ≤ 3 → K' (gtk j + x) = K (gtk j + x)) (e2 : ∀ y, y < 4 * t → S' r' y = S r y) : DM j t r' K' S' := fun k hk => by
  obtain ⟨kd, v, f, l, h1, h2, h3, h4, h5, h6, h7⟩ := h k hk
  refine ⟨kd, v, f, l, h1, h2, by rw [e 0 (by omega)]; exact h3, by rw [e 1 (by omega)]; exact h4, by rw [e2 _ (by omega)]; exact h5, by rw [e2 _ (by omega)]; exact h6, fun q => ?_⟩
  obtain ⟨g1, g2, g3, g4, g5, g6⟩ := h7 q
  exact ⟨g1, g2, by rw [e 2 (by omega)]; exact g3, by rw [e 3 (by omega)]; exact g4, by rw [e2 _ (by omega)]; exact g5, by rw [e2 _ (by omega)]; exact g6⟩
def mL (Q' : Int32 → gS → Prop) (m : Nat) (x1 : Int32) (s1 : gS) : Prop :=
  w_X9_blanks  (fun (s4 : gS) => (¬ (s4 105 0) = (s4 106 0) → w_X9_isAt  (fun (r8 : Int32) (s7 : gS) => (¬ r8 = 0 → ∀ s10 : gS, s10 = gu s7 105 0 ((s7 105 0) + 1) → ∀ y11 : Int32, y11 = x1 + 1 → w_X9_readAll_20 Q' m y11 s10) ∧ (r8 = 0 → Q' (-1) s7)) s4 59 59) ∧ ((s4 105 0) = (s4 106 0) → Q' (x1 + 1) s4)) s1
def MC (B : Nat → Int32) (n j i t : Nat) (K : gS) : Prop := ∀ (Q' : Int32 → gS → Prop) (S0 : gS), MX B n S0 → S0 105 0 = 0 → (∀ S, ag kLi S0 S → S 105 0 = nI i → DM j t 100 K S → w_X9_readAll_20 Q' (13 - t) (nI t) S) → w_X9_readAll_20 Q' 13 0 S0
def MLc (B : Nat → Int32) (n j e t : Nat) (K : gS) : Prop := ∀ (Q' : Int32 → gS → Prop) (S0 : gS), MX B n S0 → S0 105 0 = 0 → (∀ S, ag kLi S0 S → S 105 0 = nI e → DM j (t + 1) 100 K S → mL Q' (12 - t) (nI t) S) → w_X9_readAll_20 Q' 13 0 S0
section LIC5
variable {B : Nat → Int32} {n : Nat} {σ : gS}
theorem TG_bd {i kd v f l e : Nat} (h : TG B n i kd v f l e) : kd < 5 ∧ v ≤ 160000 ∧ (kd = 4 → f ≤ 23 ∧ l ≤ 23) := by
  obtain ⟨b0, e0, b1, e1, W0, K0, N1, o1, rfl, h⟩ := h
  refine ⟨K0.1, ?_, fun q => ?_⟩
  · have h1 := o1.2.2.2
    have h2 : hiN kd ≤ 160000 := by unfold hiN; (repeat' split) <;> omega
    omega
  · rcases h with ⟨q', -⟩ | ⟨-, h⟩
    · exact absurd q q'
    · obtain ⟨b2, e2, b3, e3, b4, e4, b5, W2, h5, N3, o3, rfl, W4, h6, N5, o5, rfl⟩ := h
      exact ⟨o3.2.2.2, o5.2.2.2⟩
theorem MC.step {j i t kd v f l e : Nat} {K K' : gS} (h : MC B n j i t K) (hB : BT B n) (ht : t < 12) (hT : TG B n i kd v f l e) (r0 : ∀ x, K' (gtk j + 0) x = if x = t then nI kd else K (gtk j + 0) x) (r1 : ∀ x, K' (gtk j + 1) x = if x = t then nI v else K (gtk j + 1) x) (r2 : ∀ x, K' (gtk j + 2) x = if x = t then nI f else K (gtk j + 2) x) (r3 : ∀ x, K' (gtk j + 3) x = if x = t then nI l else K (gtk j + 3) x) : MLc B n j e t K' := by
  intro Q' S0 hM h0 kk
  refine h Q' S0 hM h0 (fun S a fS d => ?_)
  rw [show 13 - t = (12 - t) + 1 by omega]
  unfold w_X9_readAll_20
  refine m_termG hB (hM.ag a) fS ht hT (fun s a2 f2 g0 g1 g2 g3 => q_nF (by decide) (kk s (ag_tr a a2) f2 (fun k hk => ?_)))
  obtain ⟨b1, b2, b3⟩ := TG_bd hT
  by_cases c : k = t
  · subst c
    exact ⟨kd, v, f, l, b1, b2, by rw [r0, if_pos rfl], by rw [r1, if_pos rfl], g0, g1, fun q => ⟨(b3 q).1, (b3 q).2, by rw [r2, if_pos rfl], by rw [r3, if_pos rfl], (g2 q).1, (g2 q).2⟩⟩
  · obtain ⟨kd', v', f', l', h1, h2, h3, h4, h5, h6, h7⟩ := d k (by omega)
    refine ⟨kd', v', f', l', h1, h2, by rw [r0, if_neg c]; exact h3, by rw [r1, if_neg c]; exact h4, by rw [g3 _ (by omega)]; exact h5, by rw [g3 _ (by omega)]; exact h6, fun q => ?_⟩
    obtain ⟨q1, q2, q3, q4, q5, q6⟩ := h7 q
    exact ⟨q1, q2, by rw [r2, if_neg c]; exact q3, by rw [r3, if_neg c]; exact q4, by rw [g3 _ (by omega)]; exact q5, by rw [g3 _ (by omega)]; exact q6⟩
theorem p_into {Q : Int32 → gS → Prop} {j : Nat} (hB : BT B n) (hC : CT B n σ)
    (good : ∀ s T, 1 ≤ T → T ≤ 12 → ag (kC j) σ s → s (gtk j + 4) 0 = nI T → (∀ (Q' : Int32 → gS → Prop) (S0 : gS), MX B n S0 → S0 105 0 = 0 → (∀ S, ag kLi S0 S → DM j T 100 s S → Q' (nI T) S) → w_X9_readAll_20 Q' 13 0 S0) → Q (-1) s)
    (bad : ∀ s b, b ≤ n → ag (kC j) σ s → (∀ (Q' : Int32 → gS → Prop) (S0 : gS), MX B n S0 → S0 105 0 = 0 → (∀ S, ag kLi S0 S → S 107 0 = nI b → Q' (-1) S) → w_X9_readAll_20 Q' 13 0 S0) → Q (nI b) s) : w_X5_readInto Q j σ := by
  have hn := hB.1
  have hg := gtk_le j
  have n1 : ∀ {b : Nat}, b ≤ n → ¬ nI b = -1 := fun h => by rw [nI_eqm1 (by omega)]; exact id
  have m17 : ∀ {s s' : gS}, ag (fun k => k = 17) s s' → ag (kC j) s s' := fun h => ag_mono h (fun k hk => Or.inl hk)
  have i59 : ∀ k, isC B 59 59 k ↔ B k = 59 := fun k => by
    have h59 : (59 : Int32).toInt = 59 := rfl
    unfold isC
    rw [i_eq, h59]; omega
  have key : ∀ (d t i : Nat) (s : gS), t + d = 13 → t ≤ 12 → i ≤ n → ag (kC j) σ s → s 18 0 = -1 → s 17 0 = nI i → s (gtk j + 4) 0 = nI t → MC B n j i t s → w_X5_readInto_17 Q j d (nI t) s := by
    intro d
    induction d with
    | zero => intro t i s h1 h2; omega
    | succ d ih =>
      intro t i s hd ht hi a x18 x17 xs hMC
      have hCs : CT B n s := hC.re (a 15 (by unfold kC; omega)) (a 16 (by unfold kC; omega))
      unfold w_X5_readInto_17
      rw [l_12, nI_ltI (by omega) (by omega)]
      refine q_F (by omega) (p_term hB hCs ht x18 x17 hi xs (fun s2 kd v f l e t12 hT he a2 y18 y17 y4 r0 r1 r2 r3 => q_T y18 ?_) (fun s2 b hT hb a2 f2 => q_F (by rw [f2]; exact n1 hb) ?_))
      · have hCs2 : CT B n s2 := hCs.re (a2 15 (by unfold kC; omega)) (a2 16 (by unfold kC; omega))
        have hML := hMC.step hB t12 hT r0 r1 r2 r3
        refine p_skipB hB hCs2 y17 he (fun s5 k a5 f5 rk hk => ?_)
        have hC5 : CT B n s5 := hCs2.re (a5 15 (by omega)) (a5 16 (by omega))
        have A5 : ag (kC j) σ s5 := ag_tr a (ag_tr a2 (m17 a5))
        rw [f5, hC5.1, nI_ltI (by omega) (by omega)]
        refine ⟨fun c => p_byteAt hB hC5 (by omega) ⟨fun c59 => ?_, fun c59 => ?_⟩, fun c => ?_⟩
        · rintro _ rfl _ rfl
          rw [f5, nI_1, nI_1]
          refine ih (t + 1) (k + 1) _ (by omega) (by omega) (by omega) (ag_gu' (Or.inl rfl) A5) ?_ gu_eq ?_ ?_
          · rw [gu_ne (by omega), a5 18 (by omega)]; exact y18
          · rw [gu_ne (by omega), a5 _ (by omega)]; exact y4
          · intro Q' S0 hM h0 kk
            refine hML Q' S0 hM h0 (fun S aS fS dS => ?_)
            unfold mL
            refine m_blanks hB (hM.ag aS) fS rk hk (fun s6 a6 f6 g6 => ?_)
            have hM6 := hM.ag (ag_tr aS (k57_ag a6))
            rw [hM6.1, f6, nI_eq (by omega) (by omega)]
            refine q_nF (by omega) (m_isAt hB hM6 f6 hk rfl rfl (by decide) (by decide) (fun _ => q_nF (by decide) ?_) (fun q => absurd ((i59 k).mpr c59) q))
            rintro _ rfl _ rfl
            rw [f6, nI_1, nI_1, show 12 - t = 13 - (t + 1) by omega]
            refine kk _ (ag_gu' (Or.inr (Or.inl rfl)) (ag_tr aS (k57_ag a6))) gu_eq (dS.cong (fun x hx => ?_) (fun y hy => ?_))
            · rw [gu_ne (by omega), a5 _ (by omega)]
            · rw [gu_ne (by omega), a6 100 (by unfold k57; omega)]
        · rw [f5]
          refine bad s5 k hk A5 (fun Q' S0 hM h0 kk => hML Q' S0 hM h0 (fun S aS fS dS => ?_))
          unfold mL
          refine m_blanks hB (hM.ag aS) fS rk hk (fun s6 a6 f6 g6 => ?_)
          have hM6 := hM.ag (ag_tr aS (k57_ag a6))
          rw [hM6.1, f6, nI_eq (by omega) (by omega)]
          exact q_nF (by omega) (m_isAt hB hM6 f6 hk rfl rfl (by decide) (by decide) (fun q => absurd ((i59 k).mp q) c59) (fun _ => q_nT rfl (kk s6 (ag_tr aS (k57_ag a6)) g6)))
        · refine good s5 (t + 1) (by omega) (by omega) A5 (by rw [a5 _ (by omega)]; exact y4) (fun Q' S0 hM h0 kk => hML Q' S0 hM h0 (fun S aS fS dS => ?_))
          unfold mL
          refine m_blanks hB (hM.ag aS) fS rk hk (fun s6 a6 f6 g6 => ?_)
          have hM6 := hM.ag (ag_tr aS (k57_ag a6))
          rw [hM6.1, f6, nI_eq (by omega) (by omega), nI_1]
          refine q_nT (by omega) (kk s6 (ag_tr aS (k57_ag a6)) (dS.cong (fun x hx => ?_) (fun y hy => ?_)))
          · rw [a5 _ (by omega)]
          · rw [a6 100 (by unfold k57; omega)]
      · rw [f2]
        refine bad s2 b hb (ag_tr a a2) (fun Q' S0 hM h0 kk => hMC Q' S0 hM h0 (fun S aS fS dS => ?_))
        rw [show 13 - t = (12 - t) + 1 by omega]
        unfold w_X9_readAll_20
        exact m_termB hB (hM.ag aS) fS ht hT (fun s6 a6 g6 => q_nT rfl (kk s6 (ag_tr aS a6) g6))
  unfold w_X5_readInto
  rintro _ rfl _ rfl _ rfl
  have := key 13 0 0 (gu (gu (gu σ 17 0 0) 18 0 (-1)) (gtk j + 4) 0 0) (by omega) (by omega) (by omega) (ag_gu' (by unfold kC; omega) (ag_gu' (Or.inr (Or.inl rfl)) (ag_gu' (Or.inl rfl) ag_rf))) (by rw [gu_ne (by omega), gu_eq]) (by rw [gu_ne (by omega), gu_ne (by omega), gu_eq]; rfl) (by rw [gu_eq]; rfl) (fun Q' S0 hM h0 kk => by
    have := kk S0 ag_rf (by rw [h0]; rfl) (fun k hk => by omega)
    rw [nI_0] at this
    exact this)
  rw [nI_0] at this
  exact ⟨13, this⟩
theorem m_copy {Q : Int32 → gS → Prop} {T : Nat} (hT : T ≤ 12) (kk : ∀ s, ag (fun k => k = 99) σ s → (∀ y, y < 4 * T → s 99 y = σ 100 y) → Q (nI T) s) : ∃ n52, w_X9_licence_52 Q n52 (nI T) 0 σ := by
  have key : ∀ (d y : Nat) (s : gS), y + d = 4 * T → ag (fun k => k = 99) σ s → (∀ x, x < y → s 99 x = σ 100 x) → w_X9_licence_52 Q (d + 1) (nI T) (nI y) s := by
    intro d
    induction d with
    | zero =>
      intro y s hd a h
      unfold w_X9_licence_52
      rw [l_4, pk_mul, nI_leI (by omega) (by omega)]
      exact q_T (by omega) (kk s a (fun x hx => h x (by omega)))
    | succ d ih =>
      intro y s hd a h
      unfold w_X9_licence_52
      rw [l_4, pk_mul, nI_leI (by omega) (by omega)]
      refine q_F (by omega) ⟨vp_in_nI (by omega) (by omega), vp_in_nI (by omega) (by omega), ?_⟩
      rintro _ rfl _ rfl
      rw [nI_clamp (by omega), nI_1]
      refine ih (y + 1) _ (by omega) (ag_gu' rfl a) (fun x hx => ?_)
      rw [gu_at]
      by_cases c : x = y
      · rw [if_pos c, c, a 100 (by omega)]
      · rw [if_neg c]; exact h x (by omega)
  have := key (4 * T) 0 σ (by omega) ag_rf (fun x hx => by omega)
  rw [nI_0] at this
  exact ⟨_, this⟩
end LIC5
def RLc (σ : gS) : Prop := ∃ T j j' : Nat, T ≤ 12 ∧ (j = 8 ∧ j' = 9 ∨ j = 9 ∧ j' = 8) ∧ σ 11 0 = gtv j ∧ σ 12 0 = gtv j' ∧ σ (gtk j + 4) 0 = nI T ∧ σ 101 0 = nI T ∧ DM j T 99 σ σ
def kLc (k : Nat) : Prop := k ≤ 9 ∨ k = 11 ∨ k = 12 ∨ k = 99 ∨ k = 101
theorem RLc.cong {σ σ' : gS} (h : RLc σ) (e : ∀ k, kLc k → σ' k = σ k) : RLc σ' := by
  obtain ⟨T, j, j', h1, h2, h3, h4, h5, h6, h7⟩ := h
  have hg := gtk_le j
  refine ⟨T, j, j', h1, h2, by rw [e 11 (by unfold kLc; omega)]; exact h3, by rw [e 12 (by unfold kLc; omega)]; exact h4, by rw [e (gtk j + 4) (by unfold kLc; omega)]; exact h5, by rw [e 101 (by unfold kLc; omega)]; exact h6, h7.cong (fun x hx => e _ (by unfold kLc; omega)) (fun y hy => by rw [e 99 (by unfold kLc; omega)])⟩
theorem scr_Lc {k : Nat} (h : kLc k) : ¬ scr k := by unfold kLc at h; unfold scr; omega
theorem RLc.s {σ σ' : gS} (h : RLc σ) (e : ag scr σ σ') : RLc σ' := h.cong (fun k hk => e k (scr_Lc hk))
theorem b_and : ∀ m : Nat, m < 256 → (iI ((m : Int) - 128) &&& 255).toInt = if (m : Int) - 128 < 0 then (m : Int) + 128 else (m : Int) - 128 := by decide +kernel
theorem b_and2 {x : Int32} (h : x.toInt8.toInt32 = x) : (0 ≤ (x &&& 255).toInt ∧ (x &&& 255).toInt ≤ 255) ∧ x.toInt = if (x &&& 255).toInt < 128 then (x &&& 255).toInt else (x &&& 255).toInt - 256 := by
  have h1 : x.toInt = x.toInt8.toInt := by
    have := congrArg Int32.toInt h
    rw [Int8.toInt_toInt32] at this
    exact this.symm
  have h2 := Int8.le_toInt x.toInt8
  have h3 := Int8.toInt_lt x.toInt8
  have e := b_and (x.toInt + 128).toNat (by omega)
  rw [show (((x.toInt + 128).toNat : Nat) : Int) - 128 = x.toInt by omega, ← i_mk (x := x) rfl] at e
  rw [e]
  split <;> (refine ⟨⟨?_, ?_⟩, ?_⟩ <;> first | omega | (split <;> omega))
