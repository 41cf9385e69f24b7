/-! NUMBERS: nI forms for the simplifier -/
theorem l_1 : (1 : Int32) = nI 1 := rfl
theorem l_2 : (2 : Int32) = nI 2 := rfl
theorem l_3 : (3 : Int32) = nI 3 := rfl
theorem l_4 : (4 : Int32) = nI 4 := rfl
theorem l_5 : (5 : Int32) = nI 5 := rfl
theorem l_6 : (6 : Int32) = nI 6 := rfl
theorem l_8 : (8 : Int32) = nI 8 := rfl
theorem l_9 : (9 : Int32) = nI 9 := rfl
theorem l_10 : (10 : Int32) = nI 10 := rfl
theorem l_12 : (12 : Int32) = nI 12 := rfl
theorem l_14 : (14 : Int32) = nI 14 := rfl
theorem l_16 : (16 : Int32) = nI 16 := rfl
theorem l_19 : (19 : Int32) = nI 19 := rfl
theorem l_20 : (20 : Int32) = nI 20 := rfl
theorem l_23 : (23 : Int32) = nI 23 := rfl
theorem l_24 : (24 : Int32) = nI 24 := rfl
theorem l_26 : (26 : Int32) = nI 26 := rfl
theorem l_28 : (28 : Int32) = nI 28 := rfl
theorem l_39 : (39 : Int32) = nI 39 := rfl
theorem l_40 : (40 : Int32) = nI 40 := rfl
theorem l_56 : (56 : Int32) = nI 56 := rfl
theorem l_57 : (57 : Int32) = nI 57 := rfl
theorem l_60 : (60 : Int32) = nI 60 := rfl
theorem l_192 : (192 : Int32) = nI 192 := rfl
theorem l_200 : (200 : Int32) = nI 200 := rfl
theorem l_255 : (255 : Int32) = nI 255 := rfl
theorem l_299 : (299 : Int32) = nI 299 := rfl
theorem l_320 : (320 : Int32) = nI 320 := rfl
theorem l_400 : (400 : Int32) = nI 400 := rfl
theorem l_1120 : (1120 : Int32) = nI 1120 := rfl
theorem l_2000 : (2000 : Int32) = nI 2000 := rfl
theorem l_20000 : (20000 : Int32) = nI 20000 := rfl
theorem l_10000 : (10000 : Int32) = nI 10000 := rfl
theorem l_1000 : (1000 : Int32) = nI 1000 := rfl
theorem l_1000000 : (1000000 : Int32) = nI 1000000 := rfl
theorem n_2mul (a : Nat) : 2 * nI a = nI (2 * a) := by rw [l_2, pk_mul]
theorem nI_clamp0 : (0 : Int32).toNatClampNeg = 0 := rfl
theorem vpT {n N : Nat} (h : n < N ∧ N < 2 ^ 31) : vp_in (nI n) N = True := eq_true (vp_in_nI h.1 h.2)
theorem nI_0le {n : Nat} (h : n < 2 ^ 31) : (0 ≤ nI n) = True := eq_true (nI_pos' h)
theorem nI_lt0 {n : Nat} (h : n < 2 ^ 31) : (nI n < 0) = False := eq_false (nI_pos h)
theorem nI_le0 {n : Nat} (h : n < 2 ^ 31) : (nI n ≤ 0) ↔ n = 0 := by
  rw [← nI_0, nI_leI h (by decide)]; omega
theorem nI_0lt {n : Nat} (h : n < 2 ^ 31) : (0 < nI n) ↔ 0 < n := by
  rw [← nI_0, nI_ltI (by decide) h]
theorem nI_eq0 {n : Nat} (h : n < 2 ^ 31) : (nI n = 0) ↔ n = 0 := by
  rw [← nI_0, nI_eq h (by decide)]
theorem nI_eqm1 {n : Nat} (h : n < 2 ^ 31) : (nI n = -1) = False := by
  apply eq_false; intro q
  have := congrArg Int32.toInt q
  rw [nI_toInt h] at this
  have h2 : (-1 : Int32).toInt = -1 := rfl
  omega
theorem nI_m1eq {n : Nat} (h : n < 2 ^ 31) : (-1 = nI n) = False := by
  apply eq_false; intro q
  exact absurd q.symm (by rw [nI_eqm1 h]; exact id)
theorem gu_ne2 {σ : gS} {k i i' : Nat} {v : Int32} (h : i' ≠ i) : gu σ k i v k i' = σ k i' := by rw [gu_at, if_neg h]
-- integers of either sign
def iI (z : Int) : Int32 := Int32.ofInt z
theorem iI_nat (n : Nat) : iI n = nI n := by
  apply Int32.toInt_inj.mp
  unfold iI nI
  rw [Int32.toInt_ofInt, Int32.toInt_ofNat']
theorem iI_toInt {z : Int} (h : -2147483648 ≤ z) (h2 : z < 2147483648) : (iI z).toInt = z := Int32.toInt_ofInt_of_le h h2
theorem i_mk {x : Int32} {z : Int} (h : x.toInt = z) : x = iI z := by rw [← h]; exact (Int32.ofInt_toInt x).symm
theorem i_nat {x : Int32} {n : Nat} (h : x.toInt = n) : x = nI n := by rw [i_mk h, iI_nat]
theorem i_ex {x : Int32} (h : 0 ≤ x.toInt) : ∃ n : Nat, n < 2 ^ 31 ∧ x = nI n ∧ x.toInt = n := by
  have := i_rng x
  exact ⟨x.toInt.toNat, by omega, i_nat (by omega), by omega⟩
theorem iI_m1 (z : Int) : iI z + (-1) = iI (z - 1) := by
  rw [show (-1 : Int32) = Int32.ofInt (-1) from rfl, iI, ← Int32.ofInt_add]; rfl
theorem iI_1 (z : Int) : iI z + 1 = iI (z + 1) := by
  rw [show (1 : Int32) = Int32.ofInt 1 from rfl, iI, ← Int32.ofInt_add]; rfl
theorem t_0 : (0 : Int32).toInt = 0 := rfl
theorem t_1 : (1 : Int32).toInt = 1 := rfl
theorem t_m1 : (-1 : Int32).toInt = -1 := rfl
theorem t_m2 : (-2 : Int32).toInt = -2 := rfl
theorem t_n {n : Nat} (h : n < 2 ^ 31) : (nI n).toInt = n := nI_toInt h
-- branches
theorem q_le {x y : Int32} {A B : Prop} (f : x.toInt ≤ y.toInt → A) (g : y.toInt < x.toInt → B) : (x ≤ y → A) ∧ (¬ x ≤ y → B) := ⟨fun c => f (i_le.mp c), fun c => g (by rw [i_le] at c; omega)⟩
theorem q_lt {x y : Int32} {A B : Prop} (f : x.toInt < y.toInt → A) (g : y.toInt ≤ x.toInt → B) : (x < y → A) ∧ (¬ x < y → B) := ⟨fun c => f (i_lt.mp c), fun c => g (by rw [i_lt] at c; omega)⟩
theorem q_eq {x y : Int32} {A B : Prop} (f : x.toInt = y.toInt → A) (g : x.toInt ≠ y.toInt → B) : (x = y → A) ∧ (¬ x = y → B) := ⟨fun c => f (i_eq.mp c), fun c => g (by rw [i_eq] at c; omega)⟩
theorem q_ne {x y : Int32} {A B : Prop} (f : x.toInt = y.toInt → A) (g : x.toInt ≠ y.toInt → B) : (¬ x = y → B) ∧ (x = y → A) := ⟨fun c => g (by rw [i_eq] at c; omega), fun c => f (i_eq.mp c)⟩
theorem q_nle {x y : Int32} {A B : Prop} (f : x.toInt ≤ y.toInt → A) (g : y.toInt < x.toInt → B) : (¬ x ≤ y → B) ∧ (x ≤ y → A) := ⟨fun c => g (by rw [i_le] at c; omega), fun c => f (i_le.mp c)⟩
theorem q_nlt {x y : Int32} {A B : Prop} (f : x.toInt < y.toInt → A) (g : y.toInt ≤ x.toInt → B) : (¬ x < y → B) ∧ (x < y → A) := ⟨fun c => g (by rw [i_lt] at c; omega), fun c => f (i_lt.mp c)⟩
theorem q_T {c A B : Prop} (hc : c) (h : A) : (c → A) ∧ (¬ c → B) := ⟨fun _ => h, fun q => absurd hc q⟩
theorem q_F {c A B : Prop} (hc : ¬ c) (h : B) : (c → A) ∧ (¬ c → B) := ⟨fun q => absurd q hc, fun _ => h⟩
theorem q_nT {c A B : Prop} (hc : c) (h : A) : (¬ c → B) ∧ (c → A) := ⟨fun q => absurd hc q, fun _ => h⟩
theorem q_nF {c A B : Prop} (hc : ¬ c) (h : B) : (¬ c → B) ∧ (c → A) := ⟨fun _ => h, fun q => absurd q hc⟩
theorem i_mins {a b : Int32} : (if a < b then a else b).toInt = min a.toInt b.toInt := by
  split
  · rename_i h; rw [i_lt] at h; omega
  · rename_i h; rw [i_lt] at h; omega
theorem i_maxs {a b : Int32} : (if a < b then b else a).toInt = max a.toInt b.toInt := by
  split
  · rename_i h; rw [i_lt] at h; omega
  · rename_i h; rw [i_lt] at h; omega
