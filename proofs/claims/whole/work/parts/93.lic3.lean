/-! THE LICENCE: one term -/
def Wd (B : Nat → Int32) (n i b e : Nat) : Prop := Rn (isC B 32 32) i b ∧ Rn (isC B 97 122) b e ∧ e ≤ n
def Nm (B : Nat → Int32) (n i b e : Nat) : Prop := Rn (isC B 32 32) i b ∧ Rn (isC B 48 57) b e ∧ e ≤ n
def hiN (kd : Nat) : Nat := if kd = 0 then 160000 else if kd = 3 then 60 else if kd = 4 then 200 else 40
/-- the hours of a noise term, read well -/
def NG (B : Nat → Int32) (n e1 f l e : Nat) : Prop := ∃ b2 e2 b3 e3 b4 e4 b5, Wd B n e1 b2 e2 ∧ WH B b2 5 ∧ Nm B n e2 b3 e3 ∧ nOK B b3 e3 0 23 ∧ f = vl B b3 (e3 - b3) ∧ Wd B n e3 b4 e4 ∧ WH B b4 6 ∧ Nm B n e4 b5 e ∧ nOK B b5 e f 23 ∧ l = vl B b5 (e - b5)
/-- the hours of a noise term, wrong at b -/
def NBd (B : Nat → Int32) (n e1 b : Nat) : Prop := (∃ e2, Wd B n e1 b e2 ∧ ¬ WH B b 5) ∨ ∃ b2 e2, Wd B n e1 b2 e2 ∧ WH B b2 5 ∧ ((∃ e3, Nm B n e2 b e3 ∧ ¬ nOK B b e3 0 23) ∨ ∃ b3 e3, Nm B n e2 b3 e3 ∧ nOK B b3 e3 0 23 ∧ ((∃ e4, Wd B n e3 b e4 ∧ ¬ WH B b 6) ∨ ∃ b4 e4, Wd B n e3 b4 e4 ∧ WH B b4 6 ∧ ∃ e5, Nm B n e4 b e5 ∧ ¬ nOK B b e5 (vl B b3 (e3 - b3)) 23))
def KD (B : Nat → Int32) (b0 kd : Nat) : Prop := kd < 5 ∧ WH B b0 kd ∧ ∀ t, t < kd → ¬ WH B b0 t
def TG (B : Nat → Int32) (n i kd v f l e : Nat) : Prop := ∃ b0 e0 b1 e1, Wd B n i b0 e0 ∧ KD B b0 kd ∧ Nm B n e0 b1 e1 ∧ nOK B b1 e1 0 (hiN kd) ∧ v = vl B b1 (e1 - b1) ∧ ((kd ≠ 4 ∧ f = 0 ∧ l = 0 ∧ e = e1) ∨ (kd = 4 ∧ NG B n e1 f l e))
def TB (B : Nat → Int32) (n i t b : Nat) : Prop := (∃ e0, Wd B n i b e0 ∧ (t = 12 ∨ ∀ kd, kd < 5 → ¬ WH B b kd)) ∨ (∃ kd b0 e0, t < 12 ∧ Wd B n i b0 e0 ∧ KD B b0 kd ∧ ((∃ e1, Nm B n e0 b e1 ∧ ¬ nOK B b e1 0 (hiN kd)) ∨ (kd = 4 ∧ ∃ b1 e1, Nm B n e0 b1 e1 ∧ nOK B b1 e1 0 (hiN kd) ∧ NBd B n e1 b)))
def kC (j k : Nat) : Prop := k = 17 ∨ k = 18 ∨ (gtk j ≤ k ∧ k ≤ gtk j + 4)
theorem gtk_le (j : Nat) : gtk j ≤ 5 := by unfold gtk; split <;> omega
section LIC3
variable {B : Nat → Int32} {n : Nat} {σ : gS}
theorem p_high {Q : Int32 → gS → Prop} {kd : Nat} (h : kd < 5) (kk : Q (nI (hiN kd)) σ) : w_X5_highest Q σ (nI kd) := by
  have : kd = 0 ∨ kd = 1 ∨ kd = 2 ∨ kd = 3 ∨ kd = 4 := by omega
  unfold w_X5_highest
  rcases this with rfl | rfl | rfl | rfl | rfl
  · exact q_T rfl kk
  · exact q_F (by decide) (q_T rfl kk)
  · exact q_F (by decide) (q_F (by decide) (q_T rfl kk))
  · exact q_F (by decide) (q_F (by decide) (q_F (by decide) (q_T rfl kk)))
  · exact q_F (by decide) (q_F (by decide) (q_F (by decide) (q_F (by decide) (q_T rfl kk))))
theorem hiN_lt (kd : Nat) : hiN kd < 2 ^ 31 := by unfold hiN; (repeat' split) <;> omega
theorem p_add {Q : gS → Prop} {j t : Nat} {a1 a2 a3 a4 : Int32} (ht : t < 12) (es : σ (gtk j + 4) 0 = nI t) (kk : ∀ s, ag (kC j) σ s → s 18 = σ 18 → s 17 = σ 17 → s (gtk j + 4) 0 = nI (t + 1) → (∀ x, s (gtk j + 0) x = if x = t then a1 else σ (gtk j + 0) x) → (∀ x, s (gtk j + 1) x = if x = t then a2 else σ (gtk j + 1) x) → (∀ x, s (gtk j + 2) x = if x = t then a3 else σ (gtk j + 2) x) → (∀ x, s (gtk j + 3) x = if x = t then a4 else σ (gtk j + 3) x) → Q s) : w_X7_add Q j σ a1 a2 a3 a4 := by
  have hg := gtk_le j
  unfold kC at kk
  unfold w_X7_add
  revert kk es hg
  generalize gtk j = c
  intro es kk hg
  have v : vp_in (nI t) 12 := vp_in_nI ht (by omega)
  rw [es, l_12, nI_ltI (by omega) (by omega), nI_clamp (by omega)]
  refine q_T ht ⟨v, ?_⟩
  rintro _ rfl
  rw [gu_ne (by omega), es, nI_clamp (by omega)]
  refine ⟨v, ?_⟩
  rintro _ rfl
  rw [gu_ne (by omega), gu_ne (by omega), es, nI_clamp (by omega)]
  refine ⟨v, ?_⟩
  rintro _ rfl
  rw [gu_ne (by omega), gu_ne (by omega), gu_ne (by omega), es, nI_clamp (by omega)]
  refine ⟨v, ?_⟩
  rintro _ rfl _ rfl
  rw [gu_ne (by omega), gu_ne (by omega), gu_ne (by omega), gu_ne (by omega), es, nI_1]
  refine kk _ ?_ ?_ ?_ gu_eq (fun x => ?_) (fun x => ?_) (fun x => ?_) (fun x => ?_)
  · refine ag_gu' ?_ (ag_gu' ?_ (ag_gu' ?_ (ag_gu' ?_ (ag_gu' ?_ ag_rf)))) <;> omega
  · rw [gu_ne (by omega), gu_ne (by omega), gu_ne (by omega), gu_ne (by omega), gu_ne (by omega)]
  · rw [gu_ne (by omega), gu_ne (by omega), gu_ne (by omega), gu_ne (by omega), gu_ne (by omega)]
  · rw [gu_ne (by omega), gu_ne (by omega), gu_ne (by omega), gu_ne (by omega), gu_at]
  · rw [gu_ne (by omega), gu_ne (by omega), gu_ne (by omega), gu_at, gu_ne (by omega)]
  · rw [gu_ne (by omega), gu_ne (by omega), gu_at, gu_ne (by omega), gu_ne (by omega)]
  · rw [gu_ne (by omega), gu_at, gu_ne (by omega), gu_ne (by omega), gu_ne (by omega)]
theorem d92 {Q : gS → Prop} {j : Nat} {a b c d : Int32} (x : ¬ σ 18 0 = -1) (h : Q σ) : w_X5_readTerm_92 Q j a b c d σ := by
  unfold w_X5_readTerm_92
  exact q_nF x h
theorem p_term {Q : gS → Prop} {j i t : Nat} (hB : BT B n) (hC : CT B n σ) (ht : t ≤ 12) (e18 : σ 18 0 = -1) (e17 : σ 17 0 = nI i) (hi : i ≤ n) (es : σ (gtk j + 4) 0 = nI t)
    (good : ∀ s kd v f l e, t < 12 → TG B n i kd v f l e → e ≤ n → ag (kC j) σ s → s 18 0 = -1 → s 17 0 = nI e → s (gtk j + 4) 0 = nI (t + 1) → (∀ x, s (gtk j + 0) x = if x = t then nI kd else σ (gtk j + 0) x) → (∀ x, s (gtk j + 1) x = if x = t then nI v else σ (gtk j + 1) x) → (∀ x, s (gtk j + 2) x = if x = t then nI f else σ (gtk j + 2) x) → (∀ x, s (gtk j + 3) x = if x = t then nI l else σ (gtk j + 3) x) → Q s)
    (bad : ∀ s b, TB B n i t b → b ≤ n → ag (kC j) σ s → s 18 0 = nI b → Q s) : w_X5_readTerm Q j σ := by
  have hn := hB.1
  have hg := gtk_le j
  have m17 : ∀ {s s' : gS}, ag (fun k => k = 17) s s' → ag (kC j) s s' := fun h => ag_mono h (fun k hk => Or.inl hk)
  have m18 : ∀ {s s' : gS}, ag (fun k => k = 17 ∨ k = 18) s s' → ag (kC j) s s' := fun h => ag_mono h (fun k hk => by unfold kC; omega)
  have n1 : ∀ {b : Nat}, b ≤ n → ¬ nI b = -1 := fun h => by rw [nI_eqm1 (by omega)]; exact id
  unfold w_X5_readTerm
  refine p_skipB hB hC e17 hi (fun s0 b0 a0 f0 r0 hb0 => ?_)
  have hC0 : CT B n s0 := hC.re (a0 15 (by omega)) (a0 16 (by omega))
  have x0 : s0 18 0 = -1 := by rw [a0 18 (by omega)]; exact e18
  have xs : s0 (gtk j + 4) 0 = nI t := by rw [a0 _ (by omega)]; exact es
  obtain ⟨e0, w0, he0⟩ := Rn_ex hB (lo := 97) (hi := 122) (by omega) (n - b0) b0 (by omega)
  have W0 : Wd B n i b0 e0 := ⟨r0, w0, he0⟩
  have no : (t = 12 ∨ ∀ kd, kd < 5 → ¬ WH B b0 kd) → w_X5_readTerm_21 Q j (-1) s0 := fun q => by
    unfold w_X5_readTerm_21
    refine q_nT rfl ?_
    rintro _ rfl
    exact bad _ b0 (Or.inl ⟨e0, W0, q⟩) hb0 (ag_gu' (Or.inr (Or.inl rfl)) (m17 a0)) (by rw [gu_eq]; exact f0)
  rw [xs, l_12, nI_leI (by omega) (by omega)]
  refine ⟨fun c => no (Or.inl (by omega)), fun c => p_kind hB hC0 f0 hb0 (fun kd hk q1 q2 => ?_) (fun q => no (Or.inr q))⟩
  have K0 : KD B b0 kd := ⟨hk, q1, q2⟩
  unfold w_X5_readTerm_21
  refine q_nF (by rw [nI_eqm1 (by omega)]; exact id) (p_skipW hB hC0 f0 hb0 (fun s1 e0' a1 f1 w1 he1 => ?_))
  have : e0' = e0 := w1.uniq w0
  subst this
  have A1 : ag (kC j) σ s1 := ag_tr (m17 a0) (m17 a1)
  have hC1 : CT B n s1 := hC0.re (a1 15 (by omega)) (a1 16 (by omega))
  have x1 : s1 18 0 = -1 := by rw [a1 18 (by omega)]; exact x0
  refine p_high hk ?_
  refine p_readN (lo := 0) hB hC1 x1 f1 he1 (by omega) (hiN_lt kd) (fun s2 b1 e1 r2 r3 he2 ok1 a2 f2 => ?_) (fun s2 b1 e1 r2 r3 he2 nok a2 f2 => ?_)
  · have A2 : ag (kC j) σ s2 := ag_tr A1 (m17 a2)
    have hC2 : CT B n s2 := hC1.re (a2 15 (by omega)) (a2 16 (by omega))
    have x2 : s2 18 0 = -1 := by rw [a2 18 (by omega)]; exact x1
    have N1 : Nm B n e0' b1 e1 := ⟨r2, r3, he2⟩
    have row : ∀ {s : gS}, ag (fun k => k = 17) s1 s → ∀ k, gtk j ≤ k → k ≤ gtk j + 4 → s k = σ k := fun h k h1 h2 => by
      rw [h k (by omega), a1 k (by omega), a0 k (by omega)]
    refine ⟨fun c4 => ?_, fun c4 => ?_⟩
    · have hk4 : kd ≠ 4 := fun q => c4 (by rw [q]; rfl)
      unfold w_X5_readTerm_92
      refine q_nT x2 (p_add (t := t) (by omega) (by rw [row a2 _ (by omega) (by omega)]; exact es) (fun s3 a3 g18 g17 h4 h0 h1 h2 h3 => ?_))
      rw [row a2 _ (by omega) (by omega)] at h0 h1 h2 h3
      exact good s3 kd _ 0 0 e1 (by omega) ⟨b0, e0', b1, e1, W0, K0, N1, ok1, rfl, Or.inl ⟨hk4, rfl, rfl, rfl⟩⟩ he2 (ag_tr A2 a3) (by rw [g18]; exact x2) (by rw [g17]; exact f2) h4 h0 h1 h2 h3
    · have hk4 : kd = 4 := by
        have : kd = 0 ∨ kd = 1 ∨ kd = 2 ∨ kd = 3 ∨ kd = 4 := by omega
        rcases this with h | h | h | h | h
        · rw [h] at c4; exact absurd c4 (by decide)
        · rw [h] at c4; exact absurd c4 (by decide)
        · rw [h] at c4; exact absurd c4 (by decide)
        · rw [h] at c4; exact absurd c4 (by decide)
        · exact h
      have BD : ∀ {s : gS} {b : Nat}, NBd B n e1 b → b ≤ n → ag (kC j) σ s → s 18 0 = nI b → Q s := fun q h1 h2 h3 => bad _ _ (Or.inr ⟨kd, b0, e0', by omega, W0, K0, Or.inr ⟨hk4, b1, e1, N1, ok1, q⟩⟩) h1 h2 h3
      refine p_readW hB hC2 (ti := 5) (by omega) x2 f2 he2 (fun s3 b2 e2 r4 r5 he3 wh5 a3 f3 => ?_) (fun s3 b2 e2 r4 r5 he3 nwh a3 f3 => ?_)
      · have a13 : ag (fun k => k = 17) s1 s3 := ag_tr a2 a3
        have hC3 : CT B n s3 := hC2.re (a3 15 (by omega)) (a3 16 (by omega))
        have x3 : s3 18 0 = -1 := by rw [a3 18 (by omega)]; exact x2
        refine p_readN (lo := 0) (hi := 23) hB hC3 x3 f3 he3 (by omega) (by omega) (fun s4 b3 e3 r6 r7 he4 ok3 a4 f4 => ?_) (fun s4 b3 e3 r6 r7 he4 nok a4 f4 => ?_)
        · have a14 : ag (fun k => k = 17) s1 s4 := ag_tr a13 a4
          have hC4 : CT B n s4 := hC3.re (a4 15 (by omega)) (a4 16 (by omega))
          have x4 : s4 18 0 = -1 := by rw [a4 18 (by omega)]; exact x3
          refine p_readW hB hC4 (ti := 6) (by omega) x4 f4 he4 (fun s5 b4 e4 r8 r9 he5 wh6 a5 f5 => ?_) (fun s5 b4 e4 r8 r9 he5 nwh a5 f5 => ?_)
          · have a15 : ag (fun k => k = 17) s1 s5 := ag_tr a14 a5
            have hC5 : CT B n s5 := hC4.re (a5 15 (by omega)) (a5 16 (by omega))
            have x5 : s5 18 0 = -1 := by rw [a5 18 (by omega)]; exact x4
            have hv3 : vl B b3 (e3 - b3) ≤ 23 := ok3.2.2.2
            refine p_readN (hi := 23) hB hC5 x5 f5 he5 (by omega) (by omega) (fun s6 b5 e5 r10 r11 he6 ok5 a6 f6 => ?_) (fun s6 b5 e5 r10 r11 he6 nok a6 f6 => ?_)
            · have a16 : ag (fun k => k = 17) s1 s6 := ag_tr a15 a6
              have x6 : s6 18 0 = -1 := by rw [a6 18 (by omega)]; exact x5
              unfold w_X5_readTerm_92
              refine q_nT x6 (p_add (t := t) (by omega) (by rw [row a16 _ (by omega) (by omega)]; exact es) (fun s7 a7 g18 g17 h4 h0 h1 h2 h3 => ?_))
              rw [row a16 _ (by omega) (by omega)] at h0 h1 h2 h3
              exact good s7 kd _ _ _ e5 (by omega) ⟨b0, e0', b1, e1, W0, K0, N1, ok1, rfl, Or.inr ⟨hk4, b2, e2, b3, e3, b4, e4, b5, ⟨r4, r5, he3⟩, wh5, ⟨r6, r7, he4⟩, ok3, rfl, ⟨r8, r9, he5⟩, wh6, ⟨r10, r11, he6⟩, ok5, rfl⟩⟩ he6 (ag_tr A1 (ag_tr (m17 a16) a7)) (by rw [g18]; exact x6) (by rw [g17]; exact f6) h4 h0 h1 h2 h3
            · have hb := r11.1
              have x : ¬ s6 18 0 = -1 := by rw [f6]; exact n1 (by omega)
              exact d92 x (BD (Or.inr ⟨b2, e2, ⟨r4, r5, he3⟩, wh5, Or.inr ⟨b3, e3, ⟨r6, r7, he4⟩, ok3, Or.inr ⟨b4, e4, ⟨r8, r9, he5⟩, wh6, e5, ⟨r10, r11, he6⟩, nok⟩⟩⟩) (by omega) (ag_tr A1 (ag_tr (m17 a15) (m18 a6))) f6)
          · have hb := r9.1
            have x : ¬ s5 18 0 = -1 := by rw [f5]; exact n1 (by omega)
            exact p_readNx x (d92 x (BD (Or.inr ⟨b2, e2, ⟨r4, r5, he3⟩, wh5, Or.inr ⟨b3, e3, ⟨r6, r7, he4⟩, ok3, Or.inl ⟨e4, ⟨r8, r9, he5⟩, nwh⟩⟩⟩) (by omega) (ag_tr A1 (ag_tr (m17 a14) (m18 a5))) f5))
        · have hb := r7.1
          have x : ¬ s4 18 0 = -1 := by rw [f4]; exact n1 (by omega)
          exact p_readWx x (p_readNx x (d92 x (BD (Or.inr ⟨b2, e2, ⟨r4, r5, he3⟩, wh5, Or.inl ⟨e3, ⟨r6, r7, he4⟩, nok⟩⟩) (by omega) (ag_tr A1 (ag_tr (m17 a13) (m18 a4))) f4)))
      · have hb := r5.1
        have x : ¬ s3 18 0 = -1 := by rw [f3]; exact n1 (by omega)
        exact p_readNx x (p_readWx x (p_readNx x (d92 x (BD (Or.inl ⟨e2, ⟨r4, r5, he3⟩, nwh⟩) (by omega) (ag_tr A2 (m18 a3)) f3))))
  · have hb := r3.1
    have x : ¬ s2 18 0 = -1 := by rw [f2]; exact n1 (by omega)
    have fin : Q s2 := bad s2 b1 (Or.inr ⟨kd, b0, e0', by omega, W0, K0, Or.inl ⟨e1, ⟨r2, r3, he2⟩, nok⟩⟩) (by omega) (ag_tr A1 (m18 a2)) f2
    exact ⟨fun _ => d92 x fin, fun _ => p_readWx x (p_readNx x (p_readWx x (p_readNx x (d92 x fin))))⟩
end LIC3
