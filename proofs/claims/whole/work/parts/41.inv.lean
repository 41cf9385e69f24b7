/-! THE INVARIANT between the class's rows and the model's -/
def RN (σ : gS) : Prop := σ 13 0 = σ 93 0 ∧ (0 ≤ (σ 93 0).toInt ∧ (σ 93 0).toInt ≤ 10000) ∧ (∀ j, j < 24 → σ 10 j = σ 102 j) ∧ σ 14 0 = σ 108 0
def RT (σ : gS) : Prop := ∃ n : Nat, n ≤ 400 ∧ σ 16 0 = nI n ∧ σ 104 0 = nI n ∧ ∀ j, j < 400 → σ 15 j = σ 103 j &&& 255 ∧ (σ 103 j).toInt8.toInt32 = σ 103 j
def fcnt (p : Nat → Bool) : Nat → Nat
  | 0 => 0
  | n + 1 => fcnt p n + (if p n then 1 else 0)
def RM (σ : gS) : Prop := ∃ g t : Nat, g < 192 ∧ t ≤ 60 ∧ σ 20 0 = nI g ∧ σ 67 0 = nI g ∧ σ 21 0 = nI t ∧ σ 66 0 = nI t ∧ (∀ j, j < 192 → σ 19 j = σ 64 j) ∧ (∀ j, j < 192 → σ 64 j = -1 ∨ σ 64 j = -2 ∨ ∃ i, i < t ∧ σ 64 j = nI i) ∧ (∀ i, i < 60 → σ 65 i = 0 ∨ σ 65 i = 1) ∧ (∀ i, i < t → (σ 65 i = 1 ↔ ∃ j, j < 192 ∧ σ 64 j = nI i)) ∧ σ 22 0 = nI (fcnt (fun i => decide (σ 65 i = 1)) t)
/-- the rows of each thing -/
def kN (k : Nat) : Prop := k = 10 ∨ k = 13 ∨ k = 14 ∨ k = 93 ∨ k = 102 ∨ k = 108
def kT (k : Nat) : Prop := k = 15 ∨ k = 16 ∨ k = 103 ∨ k = 104
def kM (k : Nat) : Prop := (19 ≤ k ∧ k ≤ 22) ∨ (64 ≤ k ∧ k ≤ 67)
theorem RN.cong {σ σ' : gS} (h : RN σ) (e : ∀ k, kN k → σ' k = σ k) : RN σ' := by
  unfold RN at *
  rw [e 13 (by simp [kN]), e 93 (by simp [kN]), e 10 (by simp [kN]), e 102 (by simp [kN]), e 14 (by simp [kN]), e 108 (by simp [kN])]
  exact h
theorem RT.cong {σ σ' : gS} (h : RT σ) (e : ∀ k, kT k → σ' k = σ k) : RT σ' := by
  unfold RT at *
  rw [e 15 (by simp [kT]), e 16 (by simp [kT]), e 103 (by simp [kT]), e 104 (by simp [kT])]
  exact h
theorem RM.cong {σ σ' : gS} (h : RM σ) (e : ∀ k, kM k → σ' k = σ k) : RM σ' := by
  unfold RM at *
  rw [e 19 (by simp [kM]), e 20 (by simp [kM]), e 21 (by simp [kM]), e 22 (by simp [kM]), e 64 (by simp [kM]), e 65 (by simp [kM]), e 66 (by simp [kM]), e 67 (by simp [kM])]
  exact h
