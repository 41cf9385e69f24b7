/-! PURE: states, agreement, numbers -/
def gset (σ : gS) (k : Nat) (f : Nat → Int32) : gS := fun k' => if k' = k then f else σ k'
theorem gu_gset (σ : gS) (k i : Nat) (v : Int32) : gu σ k i v = gset σ k (upd (σ k) i v) := rfl
theorem gset_eq (σ : gS) (k : Nat) (f : Nat → Int32) : gset σ k f k = f := by simp [gset]
theorem gset_ne (σ : gS) {k k' : Nat} (f : Nat → Int32) (h : k' ≠ k) : gset σ k f k' = σ k' := by simp [gset, h]
/-- all rows but those of P are as they were -/
def ag (P : Nat → Prop) (σ σ' : gS) : Prop := ∀ k, ¬ P k → σ' k = σ k
theorem ag_rf {P : Nat → Prop} {σ : gS} : ag P σ σ := fun _ _ => rfl
theorem ag_tr {P : Nat → Prop} {σ σ' σ'' : gS} (h : ag P σ σ') (h2 : ag P σ' σ'') : ag P σ σ'' := fun k hk => (h2 k hk).trans (h k hk)
theorem ag_mono {P P' : Nat → Prop} {σ σ' : gS} (h : ag P σ σ') (hp : ∀ k, P k → P' k) : ag P' σ σ' := fun k hk => h k (fun q => hk (hp k q))
theorem ag_set {P : Nat → Prop} {σ : gS} {k : Nat} {f : Nat → Int32} (h : P k) : ag P σ (gset σ k f) := fun _ hk => gset_ne σ f (fun e => hk (e ▸ h))
theorem ag_gu {P : Nat → Prop} {σ : gS} {k i : Nat} {v : Int32} (h : P k) : ag P σ (gu σ k i v) := ag_set h
theorem gu_ne {σ : gS} {k i k' : Nat} {v : Int32} (h : k' ≠ k) : gu σ k i v k' = σ k' := gset_ne σ _ h
theorem gu_at {σ : gS} {k i j : Nat} {v : Int32} : gu σ k i v k j = if j = i then v else σ k j := by rw [gu_gset, gset_eq]; rfl
theorem gu_eq {σ : gS} {k i : Nat} {v : Int32} : gu σ k i v k i = v := by rw [gu_at, if_pos rfl]
theorem ag_gu' {P : Nat → Prop} {σ s : gS} {k i : Nat} {v : Int32} (h : P k) (h2 : ag P σ s) : ag P σ (gu s k i v) := ag_tr h2 (ag_gu h)
theorem ag_set' {P : Nat → Prop} {σ s : gS} {k : Nat} {f : Nat → Int32} (h : P k) (h2 : ag P σ s) : ag P σ (gset s k f) := ag_tr h2 (ag_set h)
theorem cl0 : (0 : Int32).toNatClampNeg = 0 := rfl
/-- rows that nobody reads before they are written -/
def scr (k : Nat) : Prop := k = 17 ∨ k = 18 ∨ (35 ≤ k ∧ k ≤ 46) ∨ k = 63 ∨ (77 ≤ k ∧ k ≤ 86) ∨ k = 91 ∨ k = 92 ∨ k = 100 ∨ (105 ≤ k ∧ k ≤ 107) ∨ k = 109 ∨ k = 110
theorem i_lt {a b : Int32} : a < b ↔ a.toInt < b.toInt := Int32.lt_iff_toInt_lt
theorem i_le {a b : Int32} : a ≤ b ↔ a.toInt ≤ b.toInt := Int32.le_iff_toInt_le
theorem i_eq {a b : Int32} : a = b ↔ a.toInt = b.toInt := Int32.toInt_inj.symm
theorem i_rng (x : Int32) : -2147483648 ≤ x.toInt ∧ x.toInt < 2147483648 := ⟨Int32.le_toInt x, Int32.toInt_lt x⟩
theorem i_add {x y : Int32} (h1 : -2147483648 ≤ x.toInt + y.toInt) (h2 : x.toInt + y.toInt < 2147483648) : (x + y).toInt = x.toInt + y.toInt := by
  rw [Int32.toInt_add]; exact Int.bmod_eq_of_le (by omega) (by omega)
theorem i_sub {x y : Int32} (h1 : -2147483648 ≤ x.toInt - y.toInt) (h2 : x.toInt - y.toInt < 2147483648) : (x - y).toInt = x.toInt - y.toInt := by
  rw [Int32.toInt_sub]; exact Int.bmod_eq_of_le (by omega) (by omega)
theorem i_mul {x y : Int32} (h1 : -2147483648 ≤ x.toInt * y.toInt) (h2 : x.toInt * y.toInt < 2147483648) : (x * y).toInt = x.toInt * y.toInt := by
  rw [Int32.toInt_mul]; exact Int.bmod_eq_of_le (by omega) (by omega)
theorem i_cl {x : Int32} (h : 0 ≤ x.toInt) : ((x.toNatClampNeg : Nat) : Int) = x.toInt := by
  show ((x.toInt.toNat : Nat) : Int) = x.toInt
  omega
theorem i_in {x : Int32} {n : Nat} (h : 0 ≤ x.toInt) (h2 : x.toInt < n) : vp_in x n := vp_in_iff.mpr ⟨h, h2⟩
theorem i_nI {n : Nat} (h : n < 2 ^ 31) : (nI n).toInt = n := nI_toInt h
theorem gz_0 : gz 0 := rfl
theorem gz_1 : gz 1 := rfl
theorem gz_of {v : Int32} (h : v = 0 ∨ v = 1) : gz v := by rcases h with rfl | rfl <;> rfl
theorem lg_eq (x y : Int64) : lg_cmp x y = 0 ↔ x = y := by
  unfold lg_cmp
  by_cases h2 : x = y
  · subst h2; simp
  · simp only [h2, if_false, iff_false]
    split <;> decide
theorem i64_eq {x y : Int32} (h : x.toInt64 = y.toInt64) : x = y := by
  have := congrArg Int64.toInt h
  rw [Int32.toInt_toInt64, Int32.toInt_toInt64] at this
  exact Int32.toInt_inj.mp this
-- small methods
theorem p_in {Q : Int32 → gS → Prop} {σ : gS} {a l h : Int32} (t : l ≤ a ∧ a ≤ h → Q 1 σ) (f : ¬ (l ≤ a ∧ a ≤ h) → Q 0 σ) : w_X9_in Q σ a l h := by
  unfold w_X9_in w_X9_in_14
  refine ⟨fun c => f (fun q => ?_), fun c => ⟨fun c2 => f (fun q => ?_), fun c2 => t ?_⟩⟩
  all_goals simp only [i_lt, i_le] at *
  all_goals omega
theorem p_throwsIf {Q : Int32 → gS → Prop} {σ : gS} {a k : Int32} (ha : a = 0 ∨ a = 1) (t : a = 1 → Q 1 (gu σ 63 0 k)) (f : a = 0 → Q 0 σ) : w_X9_throwsIf Q σ a k := by
  unfold w_X9_throwsIf
  rcases ha with rfl | rfl
  · exact ⟨fun _ => ⟨rfl, f rfl⟩, fun c => absurd rfl c⟩
  · exact ⟨fun c => absurd c (by decide), fun _ s hs => by subst hs; exact ⟨rfl, t rfl⟩⟩
theorem p_rn {Q : gS → Prop} {X : Nat → gS → Prop} {σ : gS} {a l h : Int32} (t : l ≤ a ∧ a ≤ h → Q σ) (f : ¬ (l ≤ a ∧ a ≤ h) → X 1 σ) : w_X8_requireNumber Q X σ a l h := by
  unfold w_X8_requireNumber w_X8_requireNumber_10
  refine ⟨fun c => f (fun q => ?_), fun c => ⟨fun c2 => t ?_, fun c2 => f (fun q => ?_)⟩⟩
  all_goals simp only [i_lt, i_le] at *
  all_goals omega
theorem p_ri {Q : gS → Prop} {X : Nat → gS → Prop} {σ : gS} {a n : Int32} (t : 0 ≤ a ∧ a < n → Q σ) (f : ¬ (0 ≤ a ∧ a < n) → X 0 σ) : w_X8_requireIndex Q X σ a n := by
  unfold w_X8_requireIndex w_X8_requireIndex_9
  refine ⟨fun c => f (fun q => ?_), fun c => ⟨fun c2 => t ?_, fun c2 => f (fun q => ?_)⟩⟩
  all_goals simp only [i_lt, i_le] at *
  all_goals first | omega | (refine ⟨?_, ?_⟩ <;> omega)
-- the ends of the law's cases
theorem tl_i {k23 : Int32 → gS → Prop} {x4 x5 b : Int32} {s : gS} (e1 : s 63 0 = x5) (e2 : x5 = 0 → s 110 0 = b) (k : k23 (x4 + 6) s) : w_X9_thrown (fun (r : Int32) (s1 : gS) => (r = x5 → (¬ x5 = 0 → ∀ y : Int32, y = x4 + 6 → k23 y s1) ∧ (x5 = 0 → ((lg_cmp ((s1 110 (0 : Int32).toNatClampNeg).toInt64) (b.toInt64)) = 0 → ∀ y : Int32, y = x4 + 6 → k23 y s1) ∧ (¬ (lg_cmp ((s1 110 (0 : Int32).toNatClampNeg).toInt64) (b.toInt64)) = 0 → False))) ∧ (¬ r = x5 → False)) s := by
  unfold w_X9_thrown
  refine ⟨fun _ => ⟨fun _ y e => e ▸ k, fun c => ⟨fun _ y e => e ▸ k, fun q => q ?_⟩⟩, fun q => q e1⟩
  rw [lg_eq]
  show (s 110 0).toInt64 = b.toInt64
  rw [e2 c]
theorem tl_z {k23 : Int32 → gS → Prop} {x4 x5 b : Int32} {s : gS} (e1 : s 63 0 = x5) (e2 : x5 = 0 → s 110 0 = b) (hb : b = 0 ∨ b = 1) (k : k23 (x4 + 6) s) : w_X9_thrown (fun (r : Int32) (s1 : gS) => (r = x5 → (¬ x5 = 0 → ∀ y : Int32, y = x4 + 6 → k23 y s1) ∧ (x5 = 0 → (b = 0 → ((lg_cmp ((s1 110 (0 : Int32).toNatClampNeg).toInt64) (0 : Int64)) = 0 → ∀ y : Int32, y = x4 + 6 → k23 y s1) ∧ (¬ (lg_cmp ((s1 110 (0 : Int32).toNatClampNeg).toInt64) (0 : Int64)) = 0 → False)) ∧ (¬ b = 0 → ((lg_cmp ((s1 110 (0 : Int32).toNatClampNeg).toInt64) (1 : Int64)) = 0 → ∀ y : Int32, y = x4 + 6 → k23 y s1) ∧ (¬ (lg_cmp ((s1 110 (0 : Int32).toNatClampNeg).toInt64) (1 : Int64)) = 0 → False)))) ∧ (¬ r = x5 → False)) s := by
  unfold w_X9_thrown
  refine ⟨fun _ => ⟨fun _ y e => e ▸ k, fun c => ⟨fun cb => ⟨fun _ y e => e ▸ k, fun q => q ?_⟩, fun cb => ⟨fun _ y e => e ▸ k, fun q => q ?_⟩⟩⟩, fun q => q e1⟩
  · rw [lg_eq]
    show (s 110 0).toInt64 = 0
    rw [e2 c, cb]; rfl
  · rw [lg_eq]
    show (s 110 0).toInt64 = 1
    rw [e2 c, hb.resolve_left cb]; rfl
theorem tl_v {k23 : Int32 → gS → Prop} {x4 x5 : Int32} {s : gS} (e1 : s 63 0 = x5) (k : k23 (x4 + 6) s) : w_X9_thrown (fun (r : Int32) (s1 : gS) => (r = x5 → ∀ y : Int32, y = x4 + 6 → k23 y s1) ∧ (¬ r = x5 → False)) s := by
  unfold w_X9_thrown
  exact ⟨fun _ y e => e ▸ k, fun q => q e1⟩
theorem tl_e {k23 : Int32 → gS → Prop} {x4 a b : Int32} {s : gS} (e1 : a = b) (k : k23 (x4 + 6) s) : (a = b → ∀ y : Int32, y = x4 + 6 → k23 y s) ∧ (¬ a = b → False) := ⟨fun _ y e => e ▸ k, fun q => q e1⟩
