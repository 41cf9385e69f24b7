/-! 12.GateBook: printed by wip/gen/walk.py -/
theorem dX1_isBehind_0 : decode cX1_isBehind 0 = .ok (.aload_n 0, 1) := by decide +kernel
theorem dX1_isBehind_1 : decode cX1_isBehind 1 = .ok (.getfield 11, 3) := by decide +kernel
theorem dX1_isBehind_4 : decode cX1_isBehind 4 = .ok (.iload_n 1, 1) := by decide +kernel
theorem dX1_isBehind_5 : decode cX1_isBehind 5 = .ok (.iaload, 1) := by decide +kernel
theorem dX1_isBehind_6 : decode cX1_isBehind 6 = .ok (.aload_n 0, 1) := by decide +kernel
theorem dX1_isBehind_7 : decode cX1_isBehind 7 = .ok (.getfield 11, 3) := by decide +kernel
theorem dX1_isBehind_10 : decode cX1_isBehind 10 = .ok (.iload_n 2, 1) := by decide +kernel
theorem dX1_isBehind_11 : decode cX1_isBehind 11 = .ok (.iaload, 1) := by decide +kernel
theorem dX1_isBehind_12 : decode cX1_isBehind 12 = .ok (.if_icmp .eq 24, 3) := by decide +kernel
theorem dX1_isBehind_15 : decode cX1_isBehind 15 = .ok (.aload_n 0, 1) := by decide +kernel
theorem dX1_isBehind_16 : decode cX1_isBehind 16 = .ok (.getfield 11, 3) := by decide +kernel
theorem dX1_isBehind_19 : decode cX1_isBehind 19 = .ok (.iload_n 1, 1) := by decide +kernel
theorem dX1_isBehind_20 : decode cX1_isBehind 20 = .ok (.iaload, 1) := by decide +kernel
theorem dX1_isBehind_21 : decode cX1_isBehind 21 = .ok (.aload_n 0, 1) := by decide +kernel
theorem dX1_isBehind_22 : decode cX1_isBehind 22 = .ok (.getfield 11, 3) := by decide +kernel
theorem dX1_isBehind_25 : decode cX1_isBehind 25 = .ok (.iload_n 2, 1) := by decide +kernel
theorem dX1_isBehind_26 : decode cX1_isBehind 26 = .ok (.iaload, 1) := by decide +kernel
theorem dX1_isBehind_27 : decode cX1_isBehind 27 = .ok (.if_icmp .le 7, 3) := by decide +kernel
theorem dX1_isBehind_30 : decode cX1_isBehind 30 = .ok (.iconst 1, 1) := by decide +kernel
theorem dX1_isBehind_31 : decode cX1_isBehind 31 = .ok (.goto 4, 3) := by decide +kernel
theorem dX1_isBehind_34 : decode cX1_isBehind 34 = .ok (.iconst 0, 1) := by decide +kernel
theorem dX1_isBehind_35 : decode cX1_isBehind 35 = .ok (.ireturn, 1) := by decide +kernel
theorem dX1_isBehind_36 : decode cX1_isBehind 36 = .ok (.aload_n 0, 1) := by decide +kernel
theorem dX1_isBehind_37 : decode cX1_isBehind 37 = .ok (.getfield 19, 3) := by decide +kernel
theorem dX1_isBehind_40 : decode cX1_isBehind 40 = .ok (.iload_n 1, 1) := by decide +kernel
theorem dX1_isBehind_41 : decode cX1_isBehind 41 = .ok (.iaload, 1) := by decide +kernel
theorem dX1_isBehind_42 : decode cX1_isBehind 42 = .ok (.aload_n 0, 1) := by decide +kernel
theorem dX1_isBehind_43 : decode cX1_isBehind 43 = .ok (.getfield 19, 3) := by decide +kernel
theorem dX1_isBehind_46 : decode cX1_isBehind 46 = .ok (.iload_n 2, 1) := by decide +kernel
theorem dX1_isBehind_47 : decode cX1_isBehind 47 = .ok (.iaload, 1) := by decide +kernel
theorem dX1_isBehind_48 : decode cX1_isBehind 48 = .ok (.if_icmp .le 7, 3) := by decide +kernel
theorem dX1_isBehind_51 : decode cX1_isBehind 51 = .ok (.iconst 1, 1) := by decide +kernel
theorem dX1_isBehind_52 : decode cX1_isBehind 52 = .ok (.goto 4, 3) := by decide +kernel
theorem dX1_isBehind_55 : decode cX1_isBehind 55 = .ok (.iconst 0, 1) := by decide +kernel
theorem dX1_isBehind_56 : decode cX1_isBehind 56 = .ok (.ireturn, 1) := by decide +kernel
def w_X1_isBehind (Q : Int32 → gS → Prop) (σ : gS) (a1 : Int32) (a2 : Int32) : Prop :=
    vp_in a1 200 ∧ vp_in a2 200 ∧ ((σ 57 a1.toNatClampNeg) = (σ 57 a2.toNatClampNeg) → vp_in a1 200 ∧ vp_in a2 200 ∧ ((σ 59 a1.toNatClampNeg) ≤ (σ 59 a2.toNatClampNeg) → Q 0 σ) ∧ (¬ (σ 59 a1.toNatClampNeg) ≤ (σ 59 a2.toNatClampNeg) → Q 1 σ)) ∧ (¬ (σ 57 a1.toNatClampNeg) = (σ 57 a2.toNatClampNeg) → vp_in a1 200 ∧ vp_in a2 200 ∧ ((σ 57 a1.toNatClampNeg) ≤ (σ 57 a2.toNatClampNeg) → Q 0 σ) ∧ (¬ (σ 57 a1.toNatClampNeg) ≤ (σ 57 a2.toNatClampNeg) → Q 1 σ))
abbrev ws_X1_isBehind : List Cond := Cond.code yX1_isBehind cX1_isBehind 3 (some .boolean) :: gG
abbrev rm_X1_isBehind : Room := { frames := 0, cells := 0, slots := 0, locals := 0 }
theorem k_X1_isBehind : gCV yX1_isBehind RX1 cX1_isBehind 3 (some .boolean) 2 := ⟨gw_4_45, gwp_26, gw_1_9, gw_4_46, rfl, by decide +kernel⟩
set_option maxHeartbeats 4000000 in
set_option maxRecDepth 100000 in
theorem c_X1_isBehind (l : Launch) (D : va_G) (cy : Nat → ClassId) (ad : Nat → Nat) (A : Nat → Prop) (Q : Int32 → gS → Prop) (σ : gS) (a1 : Int32) (a2 : Int32) (h : w_X1_isBehind Q σ a1 a2) : Met l yX1_isBehind ws_X1_isBehind rm_X1_isBehind (va_Pc [.ref (ad 7), .int a1, .int a2] (gB D cy ad A σ)) (va_Qi Q (gB D cy ad A) A) 0 0 A := by
  refine Met.ofW (cc := cX1_isBehind) (maxL := 3) (ret := (some .boolean)) (by decide) rfl ?_
  intro p e s m args below meth c s₁ B hml hv
  obtain ⟨rfl, hB⟩ := hv
  have hC : gC p c cX1_isBehind s m ([.ref (ad 7), .int a1, .int a2] : List Value).toArray RX1 D cy ad A := g_start B hB
  have hI := g_first hB
  have hx := hC.1
  have hb := hC.2.1
  have hr := B.returns
  have hlocks := B.notSynchronized
  clear B hB
  have hl := lv_entry ([.ref (ad 7), .int a1, .int a2]) (n := 3) (Nat.le_of_ble_eq_true rfl)
  rw [lg_entry_eq]
  generalize (lg_sl ([.ref (ad 7), .int a1, .int a2]) ++ List.replicate (3 - (lg_sl ([.ref (ad 7), .int a1, .int a2])).length) Slot.unset).toArray = ls at hl ⊢
  have hl : lv_has ls 3 [(0, .ref (ad 7)), (1, .int a1), (2, .int a2)] := hl
  unfold w_X1_isBehind at h
  refine lv_aload_n hx hb dX1_isBehind_0 rfl (lv_at hl 0 rfl) ?_
  refine gg_X1_bands hC hI gw_1_237 dX1_isBehind_1 ?_
  refine lv_iload_n hx hb dX1_isBehind_4 rfl (lv_at hl 1 rfl) ?_
  obtain ⟨hi7, h⟩ := h
  refine ga_46 hC hI hi7 dX1_isBehind_5 ?_
  refine lv_aload_n hx hb dX1_isBehind_6 rfl (lv_at hl 0 rfl) ?_
  refine gg_X1_bands hC hI gw_1_237 dX1_isBehind_7 ?_
  refine lv_iload_n hx hb dX1_isBehind_10 rfl (lv_at hl 2 rfl) ?_
  obtain ⟨hi8, h⟩ := h
  refine ga_46 hC hI hi8 dX1_isBehind_11 ?_
  refine lv_icmp_eq (tgt := 36) hx hb dX1_isBehind_12 (by decide) (fun c9 => ?_) (fun c9 => ?_)
  · have h := h.1 c9
    refine lv_aload_n hx hb dX1_isBehind_36 rfl (lv_at hl 0 rfl) ?_
    refine gg_X1_minutes hC hI gw_1_239 dX1_isBehind_37 ?_
    refine lv_iload_n hx hb dX1_isBehind_40 rfl (lv_at hl 1 rfl) ?_
    obtain ⟨hi10, h⟩ := h
    refine ga_48 hC hI hi10 dX1_isBehind_41 ?_
    refine lv_aload_n hx hb dX1_isBehind_42 rfl (lv_at hl 0 rfl) ?_
    refine gg_X1_minutes hC hI gw_1_239 dX1_isBehind_43 ?_
    refine lv_iload_n hx hb dX1_isBehind_46 rfl (lv_at hl 2 rfl) ?_
    obtain ⟨hi11, h⟩ := h
    refine ga_48 hC hI hi11 dX1_isBehind_47 ?_
    refine lv_icmp_le (tgt := 55) hx hb dX1_isBehind_48 (by decide) (fun c12 => ?_) (fun c12 => ?_)
    · have h := h.1 c12
      refine lv_iconst (v := 0) hx hb dX1_isBehind_55 (by decide) ?_
      exact g_zret hC hr hlocks rfl hI h dX1_isBehind_56
    · have h := h.2 c12
      refine lv_iconst (v := 1) hx hb dX1_isBehind_51 (by decide) ?_
      refine lv_goto (tgt := 56) hx hb dX1_isBehind_52 (by decide) ?_
      exact g_zret hC hr hlocks rfl hI h dX1_isBehind_56
  · have h := h.2 c9
    refine lv_aload_n hx hb dX1_isBehind_15 rfl (lv_at hl 0 rfl) ?_
    refine gg_X1_bands hC hI gw_1_237 dX1_isBehind_16 ?_
    refine lv_iload_n hx hb dX1_isBehind_19 rfl (lv_at hl 1 rfl) ?_
    obtain ⟨hi13, h⟩ := h
    refine ga_46 hC hI hi13 dX1_isBehind_20 ?_
    refine lv_aload_n hx hb dX1_isBehind_21 rfl (lv_at hl 0 rfl) ?_
    refine gg_X1_bands hC hI gw_1_237 dX1_isBehind_22 ?_
    refine lv_iload_n hx hb dX1_isBehind_25 rfl (lv_at hl 2 rfl) ?_
    obtain ⟨hi14, h⟩ := h
    refine ga_46 hC hI hi14 dX1_isBehind_26 ?_
    refine lv_icmp_le (tgt := 34) hx hb dX1_isBehind_27 (by decide) (fun c15 => ?_) (fun c15 => ?_)
    · have h := h.1 c15
      refine lv_iconst (v := 0) hx hb dX1_isBehind_34 (by decide) ?_
      exact g_zret hC hr hlocks rfl hI h dX1_isBehind_35
    · have h := h.2 c15
      refine lv_iconst (v := 1) hx hb dX1_isBehind_30 (by decide) ?_
      refine lv_goto (tgt := 35) hx hb dX1_isBehind_31 (by decide) ?_
      exact g_zret hC hr hlocks rfl hI h dX1_isBehind_35

theorem dX1_putInOrder_0 : decode cX1_putInOrder 0 = .ok (.iload_n 1, 1) := by decide +kernel
theorem dX1_putInOrder_1 : decode cX1_putInOrder 1 = .ok (.istore_n 2, 1) := by decide +kernel
theorem dX1_putInOrder_2 : decode cX1_putInOrder 2 = .ok (.iload_n 2, 1) := by decide +kernel
theorem dX1_putInOrder_3 : decode cX1_putInOrder 3 = .ok (.ifCond .le 39, 3) := by decide +kernel
theorem dX1_putInOrder_6 : decode cX1_putInOrder 6 = .ok (.aload_n 0, 1) := by decide +kernel
theorem dX1_putInOrder_7 : decode cX1_putInOrder 7 = .ok (.aload_n 0, 1) := by decide +kernel
theorem dX1_putInOrder_8 : decode cX1_putInOrder 8 = .ok (.getfield 25, 3) := by decide +kernel
theorem dX1_putInOrder_11 : decode cX1_putInOrder 11 = .ok (.iload_n 2, 1) := by decide +kernel
theorem dX1_putInOrder_12 : decode cX1_putInOrder 12 = .ok (.iconst 1, 1) := by decide +kernel
theorem dX1_putInOrder_13 : decode cX1_putInOrder 13 = .ok (.isub, 1) := by decide +kernel
theorem dX1_putInOrder_14 : decode cX1_putInOrder 14 = .ok (.iaload, 1) := by decide +kernel
theorem dX1_putInOrder_15 : decode cX1_putInOrder 15 = .ok (.iload_n 1, 1) := by decide +kernel
theorem dX1_putInOrder_16 : decode cX1_putInOrder 16 = .ok (.invokevirtual 36, 3) := by decide +kernel
theorem dX1_putInOrder_19 : decode cX1_putInOrder 19 = .ok (.ifCond .eq 23, 3) := by decide +kernel
theorem dX1_putInOrder_22 : decode cX1_putInOrder 22 = .ok (.aload_n 0, 1) := by decide +kernel
theorem dX1_putInOrder_23 : decode cX1_putInOrder 23 = .ok (.getfield 25, 3) := by decide +kernel
theorem dX1_putInOrder_26 : decode cX1_putInOrder 26 = .ok (.iload_n 2, 1) := by decide +kernel
theorem dX1_putInOrder_27 : decode cX1_putInOrder 27 = .ok (.aload_n 0, 1) := by decide +kernel
theorem dX1_putInOrder_28 : decode cX1_putInOrder 28 = .ok (.getfield 25, 3) := by decide +kernel
theorem dX1_putInOrder_31 : decode cX1_putInOrder 31 = .ok (.iload_n 2, 1) := by decide +kernel
theorem dX1_putInOrder_32 : decode cX1_putInOrder 32 = .ok (.iconst 1, 1) := by decide +kernel
theorem dX1_putInOrder_33 : decode cX1_putInOrder 33 = .ok (.isub, 1) := by decide +kernel
theorem dX1_putInOrder_34 : decode cX1_putInOrder 34 = .ok (.iaload, 1) := by decide +kernel
theorem dX1_putInOrder_35 : decode cX1_putInOrder 35 = .ok (.iastore, 1) := by decide +kernel
theorem dX1_putInOrder_36 : decode cX1_putInOrder 36 = .ok (.iinc 2 (-1), 3) := by decide +kernel
theorem dX1_putInOrder_39 : decode cX1_putInOrder 39 = .ok (.goto (-37), 3) := by decide +kernel
theorem dX1_putInOrder_42 : decode cX1_putInOrder 42 = .ok (.aload_n 0, 1) := by decide +kernel
theorem dX1_putInOrder_43 : decode cX1_putInOrder 43 = .ok (.getfield 25, 3) := by decide +kernel
theorem dX1_putInOrder_46 : decode cX1_putInOrder 46 = .ok (.iload_n 2, 1) := by decide +kernel
theorem dX1_putInOrder_47 : decode cX1_putInOrder 47 = .ok (.iload_n 1, 1) := by decide +kernel
theorem dX1_putInOrder_48 : decode cX1_putInOrder 48 = .ok (.iastore, 1) := by decide +kernel
theorem dX1_putInOrder_49 : decode cX1_putInOrder 49 = .ok (.return_, 1) := by decide +kernel
def w_X1_putInOrder_42 (Q : gS → Prop) (x1 : Int32) (x2 : Int32) (σ : gS) : Prop :=
    vp_in x2 200 ∧ ∀ s4 : gS, s4 = gu σ 61 x2.toNatClampNeg x1 → Q s4
def w_X1_putInOrder_2 (Q : gS → Prop) : Nat → Int32 → Int32 → gS → Prop
  | 0, _, _, _ => False
  | n2 + 1, x1, x2, σ =>
    (x2 ≤ 0 → w_X1_putInOrder_42 Q x1 x2 σ) ∧ (¬ x2 ≤ 0 → vp_in (x2 - 1) 200 ∧ w_X1_isBehind  (fun (r8 : Int32) (s7 : gS) => (r8 = 0 → w_X1_putInOrder_42 Q x1 x2 s7) ∧ (¬ r8 = 0 → vp_in (x2 - 1) 200 ∧ vp_in x2 200 ∧ ∀ s12 : gS, s12 = gu s7 61 x2.toNatClampNeg (s7 61 (x2 - 1).toNatClampNeg) → ∀ y13 : Int32, y13 = x2 + (-1) → w_X1_putInOrder_2 Q n2 x1 y13 s12)) σ (σ 61 (x2 - 1).toNatClampNeg) x1)
def w_X1_putInOrder (Q : gS → Prop) (σ : gS) (a1 : Int32) : Prop :=
    ∃ n2, w_X1_putInOrder_2 Q n2 a1 a1 σ
abbrev ws_X1_putInOrder : List Cond := Cond.code yX1_putInOrder cX1_putInOrder 3 none :: gG
abbrev rm_X1_putInOrder : Room := { frames := 1, cells := 0, slots := 0, locals := 22 }
theorem k_X1_putInOrder : gCV yX1_putInOrder RX1 cX1_putInOrder 3 none 1 := ⟨gw_4_41, gwp_25, gw_1_9, gw_4_42, rfl, by decide +kernel⟩
set_option maxHeartbeats 4000000 in
set_option maxRecDepth 100000 in
theorem c_X1_putInOrder (l : Launch) (D : va_G) (cy : Nat → ClassId) (ad : Nat → Nat) (A : Nat → Prop) (Q : gS → Prop) (σ : gS) (a1 : Int32) (h : w_X1_putInOrder Q σ a1) : Met l yX1_putInOrder ws_X1_putInOrder rm_X1_putInOrder (va_Pc [.ref (ad 7), .int a1] (gB D cy ad A σ)) (va_Qv Q (gB D cy ad A) A) 0 0 A := by
  refine Met.ofW (cc := cX1_putInOrder) (maxL := 3) (ret := none) (by decide) rfl ?_
  intro p e s m args below meth c s₁ B hml hv
  obtain ⟨rfl, hB⟩ := hv
  have hC : gC p c cX1_putInOrder s m ([.ref (ad 7), .int a1] : List Value).toArray RX1 D cy ad A := g_start B hB
  have hI := g_first hB
  have hx := hC.1
  have hb := hC.2.1
  have hr := B.returns
  have hlocks := B.notSynchronized
  clear B hB
  have J42 : ∀ (x1 : Int32) (x2 : Int32) (σ : gS) (H : Heap) (locs : List Loc) (ls : Array Slot), w_X1_putInOrder_42 Q x1 x2 σ → gI D cy ad A s.heap σ H locs → lv_has ls 3 [(0, .ref (ad 7)), (1, .int x1), (2, .int x2)] → W p l e (headSpec ws_X1_putInOrder rm_X1_putInOrder).room s m ([.ref (ad 7), .int a1] : List Value).toArray below meth c H locs 0 0 (MQ below (va_Qv Q (gB D cy ad A) A) ([.ref (ad 7), .int a1] : List Value).toArray s 0 0 A) (F0 m 42 ls []) := by
    intro x1 x2 σ H locs ls h hI hl
    unfold w_X1_putInOrder_42 at h
    refine lv_aload_n hx hb dX1_putInOrder_42 rfl (lv_at hl 0 rfl) ?_
    refine gg_X1_order hC hI gw_2_1 dX1_putInOrder_43 ?_
    refine lv_iload_n hx hb dX1_putInOrder_46 rfl (lv_at hl 2 rfl) ?_
    refine lv_iload_n hx hb dX1_putInOrder_47 rfl (lv_at hl 1 rfl) ?_
    obtain ⟨hi3, h⟩ := h
    refine gs_50 hC hI hi3 dX1_putInOrder_48 (fun s4 H locs es4 hI => ?_)
    have h := h s4 es4
    exact g_vret hC hr hlocks hI h dX1_putInOrder_49
  have J2 : ∀ (n2 : Nat) (x1 : Int32) (x2 : Int32) (σ : gS) (H : Heap) (locs : List Loc) (ls : Array Slot), w_X1_putInOrder_2 Q n2 x1 x2 σ → gI D cy ad A s.heap σ H locs → lv_has ls 3 [(0, .ref (ad 7)), (1, .int x1), (2, .int x2)] → W p l e (headSpec ws_X1_putInOrder rm_X1_putInOrder).room s m ([.ref (ad 7), .int a1] : List Value).toArray below meth c H locs 0 0 (MQ below (va_Qv Q (gB D cy ad A) A) ([.ref (ad 7), .int a1] : List Value).toArray s 0 0 A) (F0 m 2 ls []) := by
    intro n2
    induction n2 with
    | zero => intro x1 x2 σ H locs ls h; exact absurd h (fun h => h)
    | succ n2 ih2 =>
      intro x1 x2 σ H locs ls h hI hl
      unfold w_X1_putInOrder_2 at h
      refine lv_iload_n hx hb dX1_putInOrder_2 rfl (lv_at hl 2 rfl) ?_
      refine lv_if_le (tgt := 42) hx hb dX1_putInOrder_3 (by decide) (fun c5 => ?_) (fun c5 => ?_)
      · have h := h.1 c5
        exact J42 _ _ _ _ _ _ h hI (lv_sub hl [0, 1, 2] rfl)
      · have h := h.2 c5
        refine lv_aload_n hx hb dX1_putInOrder_6 rfl (lv_at hl 0 rfl) ?_
        refine lv_aload_n hx hb dX1_putInOrder_7 rfl (lv_at hl 0 rfl) ?_
        refine gg_X1_order hC hI gw_2_1 dX1_putInOrder_8 ?_
        refine lv_iload_n hx hb dX1_putInOrder_11 rfl (lv_at hl 2 rfl) ?_
        refine lv_iconst (v := 1) hx hb dX1_putInOrder_12 (by decide) ?_
        refine lv_isub hx hb dX1_putInOrder_13 ?_
        obtain ⟨hi6, h⟩ := h
        refine ga_50 hC hI hi6 dX1_putInOrder_14 ?_
        refine lv_iload_n hx hb dX1_putInOrder_15 rfl (lv_at hl 1 rfl) ?_
        refine g_backi hI (g_runV (As := [.int (σ 61 (x2 - 1).toNatClampNeg), .int x1]) (rest := []) hC hml hI (c_X1_isBehind l D cy ad A _  _ _ _ h) k_X1_isBehind gw_4_43 ⟨rfl, rfl⟩ ⟨Nat.le_of_ble_eq_true rfl, Nat.le_of_ble_eq_true rfl⟩ (grv_7 hC hI) rfl hl.1 rfl (Nat.le_of_ble_eq_true rfl) dX1_putInOrder_16 ⟨Nat.le_of_ble_eq_true rfl, Nat.le_of_ble_eq_true rfl⟩) (fun r8 s7 H locs h hI => ?_)
        refine lv_if_eq (tgt := 42) hx hb dX1_putInOrder_19 (by decide) (fun c9 => ?_) (fun c9 => ?_)
        · have h := h.1 c9
          exact J42 _ _ _ _ _ _ h hI (lv_sub hl [0, 1, 2] rfl)
        · have h := h.2 c9
          refine lv_aload_n hx hb dX1_putInOrder_22 rfl (lv_at hl 0 rfl) ?_
          refine gg_X1_order hC hI gw_2_1 dX1_putInOrder_23 ?_
          refine lv_iload_n hx hb dX1_putInOrder_26 rfl (lv_at hl 2 rfl) ?_
          refine lv_aload_n hx hb dX1_putInOrder_27 rfl (lv_at hl 0 rfl) ?_
          refine gg_X1_order hC hI gw_2_1 dX1_putInOrder_28 ?_
          refine lv_iload_n hx hb dX1_putInOrder_31 rfl (lv_at hl 2 rfl) ?_
          refine lv_iconst (v := 1) hx hb dX1_putInOrder_32 (by decide) ?_
          refine lv_isub hx hb dX1_putInOrder_33 ?_
          obtain ⟨hi10, h⟩ := h
          refine ga_50 hC hI hi10 dX1_putInOrder_34 ?_
          obtain ⟨hi11, h⟩ := h
          refine gs_50 hC hI hi11 dX1_putInOrder_35 (fun s12 H locs es12 hI => ?_)
          have h := h s12 es12
          obtain ⟨y13, ey13⟩ : ∃ y : Int32, y = x2 + (-1) := ⟨_, rfl⟩
          have h := h y13 ey13
          refine lv_iinc (v := y13) (lv' := [(2, .int y13), (0, .ref (ad 7)), (1, .int x1)]) hx hb dX1_putInOrder_36 hl (k := 2) rfl (by rw [ey13]; rfl) (by decide) rfl (fun ls hl => ?_)
          refine lv_goto (tgt := 2) hx hb dX1_putInOrder_39 (by decide) ?_
          exact ih2 _ _ _ _ _ _ h hI (lv_sub hl [1, 2, 0] rfl)
  have hl := lv_entry ([.ref (ad 7), .int a1]) (n := 3) (Nat.le_of_ble_eq_true rfl)
  rw [lg_entry_eq]
  generalize (lg_sl ([.ref (ad 7), .int a1]) ++ List.replicate (3 - (lg_sl ([.ref (ad 7), .int a1])).length) Slot.unset).toArray = ls at hl ⊢
  have hl : lv_has ls 3 [(0, .ref (ad 7)), (1, .int a1)] := hl
  unfold w_X1_putInOrder at h
  refine lv_iload_n hx hb dX1_putInOrder_0 rfl (lv_at hl 1 rfl) ?_
  refine lv_istore_n (lv' := [(2, .int a1), (0, .ref (ad 7)), (1, .int a1)]) hx hb dX1_putInOrder_1 rfl hl (by decide) rfl (fun ls hl => ?_)
  obtain ⟨n9, h⟩ := h
  exact J2 n9 _ _ _ _ _ _ h hI (lv_sub hl [1, 2, 0] rfl)

theorem dX1_write_0 : decode cX1_write 0 = .ok (.aload_n 0, 1) := by decide +kernel
theorem dX1_write_1 : decode cX1_write 1 = .ok (.getfield 28, 3) := by decide +kernel
theorem dX1_write_4 : decode cX1_write 4 = .ok (.sipush 200, 3) := by decide +kernel
theorem dX1_write_7 : decode cX1_write 7 = .ok (.if_icmp .lt 5, 3) := by decide +kernel
theorem dX1_write_10 : decode cX1_write 10 = .ok (.iconst (-1), 1) := by decide +kernel
theorem dX1_write_11 : decode cX1_write 11 = .ok (.ireturn, 1) := by decide +kernel
theorem dX1_write_12 : decode cX1_write 12 = .ok (.aload_n 0, 1) := by decide +kernel
theorem dX1_write_13 : decode cX1_write 13 = .ok (.getfield 28, 3) := by decide +kernel
theorem dX1_write_16 : decode cX1_write 16 = .ok (.istore 5, 2) := by decide +kernel
theorem dX1_write_18 : decode cX1_write 18 = .ok (.aload_n 0, 1) := by decide +kernel
theorem dX1_write_19 : decode cX1_write 19 = .ok (.getfield 11, 3) := by decide +kernel
theorem dX1_write_22 : decode cX1_write 22 = .ok (.iload 5, 2) := by decide +kernel
theorem dX1_write_24 : decode cX1_write 24 = .ok (.iload_n 1, 1) := by decide +kernel
theorem dX1_write_25 : decode cX1_write 25 = .ok (.iastore, 1) := by decide +kernel
theorem dX1_write_26 : decode cX1_write 26 = .ok (.aload_n 0, 1) := by decide +kernel
theorem dX1_write_27 : decode cX1_write 27 = .ok (.getfield 15, 3) := by decide +kernel
theorem dX1_write_30 : decode cX1_write 30 = .ok (.iload 5, 2) := by decide +kernel
theorem dX1_write_32 : decode cX1_write 32 = .ok (.iload_n 2, 1) := by decide +kernel
theorem dX1_write_33 : decode cX1_write 33 = .ok (.bastore, 1) := by decide +kernel
theorem dX1_write_34 : decode cX1_write 34 = .ok (.aload_n 0, 1) := by decide +kernel
theorem dX1_write_35 : decode cX1_write 35 = .ok (.getfield 19, 3) := by decide +kernel
theorem dX1_write_38 : decode cX1_write 38 = .ok (.iload 5, 2) := by decide +kernel
theorem dX1_write_40 : decode cX1_write 40 = .ok (.iload_n 3, 1) := by decide +kernel
theorem dX1_write_41 : decode cX1_write 41 = .ok (.iastore, 1) := by decide +kernel
theorem dX1_write_42 : decode cX1_write 42 = .ok (.aload_n 0, 1) := by decide +kernel
theorem dX1_write_43 : decode cX1_write 43 = .ok (.getfield 22, 3) := by decide +kernel
theorem dX1_write_46 : decode cX1_write 46 = .ok (.iload 5, 2) := by decide +kernel
theorem dX1_write_48 : decode cX1_write 48 = .ok (.iload 4, 2) := by decide +kernel
theorem dX1_write_50 : decode cX1_write 50 = .ok (.iastore, 1) := by decide +kernel
theorem dX1_write_51 : decode cX1_write 51 = .ok (.aload_n 0, 1) := by decide +kernel
theorem dX1_write_52 : decode cX1_write 52 = .ok (.dup, 1) := by decide +kernel
theorem dX1_write_53 : decode cX1_write 53 = .ok (.getfield 28, 3) := by decide +kernel
theorem dX1_write_56 : decode cX1_write 56 = .ok (.iconst 1, 1) := by decide +kernel
theorem dX1_write_57 : decode cX1_write 57 = .ok (.iadd, 1) := by decide +kernel
theorem dX1_write_58 : decode cX1_write 58 = .ok (.putfield 28, 3) := by decide +kernel
theorem dX1_write_61 : decode cX1_write 61 = .ok (.aload_n 0, 1) := by decide +kernel
theorem dX1_write_62 : decode cX1_write 62 = .ok (.iload 5, 2) := by decide +kernel
theorem dX1_write_64 : decode cX1_write 64 = .ok (.invokevirtual 32, 3) := by decide +kernel
theorem dX1_write_67 : decode cX1_write 67 = .ok (.iload 5, 2) := by decide +kernel
theorem dX1_write_69 : decode cX1_write 69 = .ok (.ireturn, 1) := by decide +kernel
def w_X1_write (Q : Int32 → gS → Prop) (σ : gS) (a1 : Int32) (a2 : Int32) (a3 : Int32) (a4 : Int32) : Prop :=
    ((σ 62 0) < 200 → ∀ y2 : Int32, y2 = (σ 62 0) → vp_in y2 200 ∧ ∀ s4 : gS, s4 = gu σ 57 y2.toNatClampNeg a1 → vp_in y2 200 ∧ ∀ s6 : gS, s6 = gu s4 58 y2.toNatClampNeg (vp_nar .boolean a2) → vp_in y2 200 ∧ ∀ s8 : gS, s8 = gu s6 59 y2.toNatClampNeg a3 → vp_in y2 200 ∧ ∀ s10 : gS, s10 = gu s8 60 y2.toNatClampNeg a4 → ∀ s11 : gS, s11 = gu s10 62 0 ((s10 62 0) + 1) → w_X1_putInOrder  (fun (s12 : gS) => Q y2 s12) s11 y2) ∧ (¬ (σ 62 0) < 200 → Q (-1) σ)
abbrev ws_X1_write : List Cond := Cond.code yX1_write cX1_write 6 (some .int) :: gG
abbrev rm_X1_write : Room := { frames := 2, cells := 0, slots := 0, locals := 44 }
theorem k_X1_write : gCV yX1_write RX1 cX1_write 6 (some .int) 4 := ⟨gw_4_36, gw_4_37, gw_1_9, gw_4_38, rfl, by decide +kernel⟩
set_option maxHeartbeats 4000000 in
set_option maxRecDepth 100000 in
theorem c_X1_write (l : Launch) (D : va_G) (cy : Nat → ClassId) (ad : Nat → Nat) (A : Nat → Prop) (Q : Int32 → gS → Prop) (σ : gS) (a1 : Int32) (a2 : Int32) (a3 : Int32) (a4 : Int32) (h : w_X1_write Q σ a1 a2 a3 a4) : Met l yX1_write ws_X1_write rm_X1_write (va_Pc [.ref (ad 7), .int a1, .int a2, .int a3, .int a4] (gB D cy ad A σ)) (va_Qi Q (gB D cy ad A) A) 0 0 A := by
  refine Met.ofW (cc := cX1_write) (maxL := 6) (ret := (some .int)) (by decide) rfl ?_
  intro p e s m args below meth c s₁ B hml hv
  obtain ⟨rfl, hB⟩ := hv
  have hC : gC p c cX1_write s m ([.ref (ad 7), .int a1, .int a2, .int a3, .int a4] : List Value).toArray RX1 D cy ad A := g_start B hB
  have hI := g_first hB
  have hx := hC.1
  have hb := hC.2.1
  have hr := B.returns
  have hlocks := B.notSynchronized
  clear B hB
  have hl := lv_entry ([.ref (ad 7), .int a1, .int a2, .int a3, .int a4]) (n := 6) (Nat.le_of_ble_eq_true rfl)
  rw [lg_entry_eq]
  generalize (lg_sl ([.ref (ad 7), .int a1, .int a2, .int a3, .int a4]) ++ List.replicate (6 - (lg_sl ([.ref (ad 7), .int a1, .int a2, .int a3, .int a4])).length) Slot.unset).toArray = ls at hl ⊢
  have hl : lv_has ls 6 [(0, .ref (ad 7)), (1, .int a1), (2, .int a2), (3, .int a3), (4, .int a4)] := hl
  unfold w_X1_write at h
  refine lv_aload_n hx hb dX1_write_0 rfl (lv_at hl 0 rfl) ?_
  refine gg_X1_passes hC hI gw_2_2 dX1_write_1 ?_
  refine lv_sipush (v := 200) hx hb dX1_write_4 (by decide) ?_
  refine lv_icmp_lt (tgt := 12) hx hb dX1_write_7 (by decide) (fun c1 => ?_) (fun c1 => ?_)
  · have h := h.1 c1
    refine lv_aload_n hx hb dX1_write_12 rfl (lv_at hl 0 rfl) ?_
    refine gg_X1_passes hC hI gw_2_2 dX1_write_13 ?_
    refine lv_topi (fun y2 ey2 => ?_)
    have h := h y2 ey2
    refine lv_istore (lv' := [(5, .int y2), (0, .ref (ad 7)), (1, .int a1), (2, .int a2), (3, .int a3), (4, .int a4)]) hx hb dX1_write_16 hl (by decide) rfl (fun ls hl => ?_)
    refine lv_aload_n hx hb dX1_write_18 rfl (lv_at hl 1 rfl) ?_
    refine gg_X1_bands hC hI gw_1_237 dX1_write_19 ?_
    refine lv_iload hx hb dX1_write_22 (lv_at hl 0 rfl) ?_
    refine lv_iload_n hx hb dX1_write_24 rfl (lv_at hl 2 rfl) ?_
    obtain ⟨hi3, h⟩ := h
    refine gs_46 hC hI hi3 dX1_write_25 (fun s4 H locs es4 hI => ?_)
    have h := h s4 es4
    refine lv_aload_n hx hb dX1_write_26 rfl (lv_at hl 1 rfl) ?_
    refine gg_X1_goesIn hC hI gw_1_238 dX1_write_27 ?_
    refine lv_iload hx hb dX1_write_30 (lv_at hl 0 rfl) ?_
    refine lv_iload_n hx hb dX1_write_32 rfl (lv_at hl 3 rfl) ?_
    obtain ⟨hi5, h⟩ := h
    refine gs_47 hC hI hi5 dX1_write_33 (fun s6 H locs es6 hI => ?_)
    have h := h s6 es6
    refine lv_aload_n hx hb dX1_write_34 rfl (lv_at hl 1 rfl) ?_
    refine gg_X1_minutes hC hI gw_1_239 dX1_write_35 ?_
    refine lv_iload hx hb dX1_write_38 (lv_at hl 0 rfl) ?_
    refine lv_iload_n hx hb dX1_write_40 rfl (lv_at hl 4 rfl) ?_
    obtain ⟨hi7, h⟩ := h
    refine gs_48 hC hI hi7 dX1_write_41 (fun s8 H locs es8 hI => ?_)
    have h := h s8 es8
    refine lv_aload_n hx hb dX1_write_42 rfl (lv_at hl 1 rfl) ?_
    refine gg_X1_tolds hC hI gw_2_0 dX1_write_43 ?_
    refine lv_iload hx hb dX1_write_46 (lv_at hl 0 rfl) ?_
    refine lv_iload hx hb dX1_write_48 (lv_at hl 5 rfl) ?_
    obtain ⟨hi9, h⟩ := h
    refine gs_49 hC hI hi9 dX1_write_50 (fun s10 H locs es10 hI => ?_)
    have h := h s10 es10
    refine lv_aload_n hx hb dX1_write_51 rfl (lv_at hl 1 rfl) ?_
    refine lv_dup hx hb dX1_write_52 rfl ?_
    refine gg_X1_passes hC hI gw_2_2 dX1_write_53 ?_
    refine lv_iconst (v := 1) hx hb dX1_write_56 (by decide) ?_
    refine lv_iadd hx hb dX1_write_57 ?_
    refine gp_X1_passes hC hI gw_2_2 dX1_write_58 (fun s11 H locs es11 hI => ?_)
    have h := h s11 es11
    refine lv_aload_n hx hb dX1_write_61 rfl (lv_at hl 1 rfl) ?_
    refine lv_iload hx hb dX1_write_62 (lv_at hl 0 rfl) ?_
    refine g_backv hI (g_runV (As := [.int y2]) (rest := []) hC hml hI (c_X1_putInOrder l D cy ad A _  _ _ h) k_X1_putInOrder gw_4_39 ⟨rfl, rfl⟩ ⟨Nat.le_of_ble_eq_true rfl, Nat.le_of_ble_eq_true rfl⟩ (grv_7 hC hI) rfl hl.1 rfl (Nat.le_of_ble_eq_true rfl) dX1_write_64 ⟨Nat.le_of_ble_eq_true rfl, Nat.le_of_ble_eq_true rfl⟩) (fun s12 H locs h hI => ?_)
    refine lv_iload hx hb dX1_write_67 (lv_at hl 0 rfl) ?_
    exact g_iret hC hr hlocks hI h dX1_write_69
  · have h := h.2 c1
    refine lv_iconst (v := (-1)) hx hb dX1_write_10 (by decide) ?_
    exact g_iret hC hr hlocks hI h dX1_write_11

theorem dX1_isInside_0 : decode cX1_isInside 0 = .ok (.iconst 0, 1) := by decide +kernel
theorem dX1_isInside_1 : decode cX1_isInside 1 = .ok (.istore 4, 2) := by decide +kernel
theorem dX1_isInside_3 : decode cX1_isInside 3 = .ok (.iconst 0, 1) := by decide +kernel
theorem dX1_isInside_4 : decode cX1_isInside 4 = .ok (.istore 5, 2) := by decide +kernel
theorem dX1_isInside_6 : decode cX1_isInside 6 = .ok (.iload 5, 2) := by decide +kernel
theorem dX1_isInside_8 : decode cX1_isInside 8 = .ok (.aload_n 0, 1) := by decide +kernel
theorem dX1_isInside_9 : decode cX1_isInside 9 = .ok (.getfield 28, 3) := by decide +kernel
theorem dX1_isInside_12 : decode cX1_isInside 12 = .ok (.if_icmp .ge 60, 3) := by decide +kernel
theorem dX1_isInside_15 : decode cX1_isInside 15 = .ok (.aload_n 0, 1) := by decide +kernel
theorem dX1_isInside_16 : decode cX1_isInside 16 = .ok (.getfield 25, 3) := by decide +kernel
theorem dX1_isInside_19 : decode cX1_isInside 19 = .ok (.iload 5, 2) := by decide +kernel
theorem dX1_isInside_21 : decode cX1_isInside 21 = .ok (.iaload, 1) := by decide +kernel
theorem dX1_isInside_22 : decode cX1_isInside 22 = .ok (.istore 6, 2) := by decide +kernel
theorem dX1_isInside_24 : decode cX1_isInside 24 = .ok (.aload_n 0, 1) := by decide +kernel
theorem dX1_isInside_25 : decode cX1_isInside 25 = .ok (.getfield 11, 3) := by decide +kernel
theorem dX1_isInside_28 : decode cX1_isInside 28 = .ok (.iload 6, 2) := by decide +kernel
theorem dX1_isInside_30 : decode cX1_isInside 30 = .ok (.iaload, 1) := by decide +kernel
theorem dX1_isInside_31 : decode cX1_isInside 31 = .ok (.iload_n 1, 1) := by decide +kernel
theorem dX1_isInside_32 : decode cX1_isInside 32 = .ok (.if_icmp .ne 34, 3) := by decide +kernel
theorem dX1_isInside_35 : decode cX1_isInside 35 = .ok (.aload_n 0, 1) := by decide +kernel
theorem dX1_isInside_36 : decode cX1_isInside 36 = .ok (.getfield 19, 3) := by decide +kernel
theorem dX1_isInside_39 : decode cX1_isInside 39 = .ok (.iload 6, 2) := by decide +kernel
theorem dX1_isInside_41 : decode cX1_isInside 41 = .ok (.iaload, 1) := by decide +kernel
theorem dX1_isInside_42 : decode cX1_isInside 42 = .ok (.iload_n 2, 1) := by decide +kernel
theorem dX1_isInside_43 : decode cX1_isInside 43 = .ok (.if_icmp .gt 23, 3) := by decide +kernel
theorem dX1_isInside_46 : decode cX1_isInside 46 = .ok (.aload_n 0, 1) := by decide +kernel
theorem dX1_isInside_47 : decode cX1_isInside 47 = .ok (.getfield 22, 3) := by decide +kernel
theorem dX1_isInside_50 : decode cX1_isInside 50 = .ok (.iload 6, 2) := by decide +kernel
theorem dX1_isInside_52 : decode cX1_isInside 52 = .ok (.iaload, 1) := by decide +kernel
theorem dX1_isInside_53 : decode cX1_isInside 53 = .ok (.iload_n 3, 1) := by decide +kernel
theorem dX1_isInside_54 : decode cX1_isInside 54 = .ok (.if_icmp .gt 12, 3) := by decide +kernel
theorem dX1_isInside_57 : decode cX1_isInside 57 = .ok (.aload_n 0, 1) := by decide +kernel
theorem dX1_isInside_58 : decode cX1_isInside 58 = .ok (.getfield 15, 3) := by decide +kernel
theorem dX1_isInside_61 : decode cX1_isInside 61 = .ok (.iload 6, 2) := by decide +kernel
theorem dX1_isInside_63 : decode cX1_isInside 63 = .ok (.baload, 1) := by decide +kernel
theorem dX1_isInside_64 : decode cX1_isInside 64 = .ok (.istore 4, 2) := by decide +kernel
theorem dX1_isInside_66 : decode cX1_isInside 66 = .ok (.iinc 5 1, 3) := by decide +kernel
theorem dX1_isInside_69 : decode cX1_isInside 69 = .ok (.goto (-63), 3) := by decide +kernel
theorem dX1_isInside_72 : decode cX1_isInside 72 = .ok (.iload 4, 2) := by decide +kernel
theorem dX1_isInside_74 : decode cX1_isInside 74 = .ok (.ireturn, 1) := by decide +kernel
def w_X1_isInside_6 (Q : Int32 → gS → Prop) : Nat → Int32 → Int32 → Int32 → Int32 → Int32 → gS → Prop
  | 0, _, _, _, _, _, _ => False
  | n6 + 1, x1, x2, x3, x4, x5, σ =>
    ((σ 62 0) ≤ x5 → gz x4 ∧ Q x4 σ) ∧ (¬ (σ 62 0) ≤ x5 → vp_in x5 200 ∧ ∀ y8 : Int32, y8 = (σ 61 x5.toNatClampNeg) → vp_in y8 200 ∧ (¬ (σ 57 y8.toNatClampNeg) = x1 → ∀ y11 : Int32, y11 = x5 + 1 → w_X1_isInside_6 Q n6 x1 x2 x3 x4 y11 σ) ∧ ((σ 57 y8.toNatClampNeg) = x1 → vp_in y8 200 ∧ (x2 < (σ 59 y8.toNatClampNeg) → ∀ y14 : Int32, y14 = x5 + 1 → w_X1_isInside_6 Q n6 x1 x2 x3 x4 y14 σ) ∧ (¬ x2 < (σ 59 y8.toNatClampNeg) → vp_in y8 200 ∧ (x3 < (σ 60 y8.toNatClampNeg) → ∀ y17 : Int32, y17 = x5 + 1 → w_X1_isInside_6 Q n6 x1 x2 x3 x4 y17 σ) ∧ (¬ x3 < (σ 60 y8.toNatClampNeg) → vp_in y8 200 ∧ ∀ y19 : Int32, y19 = (σ 58 y8.toNatClampNeg) → ∀ y20 : Int32, y20 = x5 + 1 → w_X1_isInside_6 Q n6 x1 x2 x3 y19 y20 σ))))
def w_X1_isInside (Q : Int32 → gS → Prop) (σ : gS) (a1 : Int32) (a2 : Int32) (a3 : Int32) : Prop :=
    ∃ n6, w_X1_isInside_6 Q n6 a1 a2 a3 0 0 σ
abbrev ws_X1_isInside : List Cond := Cond.code yX1_isInside cX1_isInside 7 (some .boolean) :: gG
abbrev rm_X1_isInside : Room := { frames := 0, cells := 0, slots := 0, locals := 0 }
theorem k_X1_isInside : gCV yX1_isInside RX1 cX1_isInside 7 (some .boolean) 3 := ⟨gw_4_55, gw_4_56, gw_1_9, gw_4_57, rfl, by decide +kernel⟩
set_option maxHeartbeats 4000000 in
set_option maxRecDepth 100000 in
theorem c_X1_isInside (l : Launch) (D : va_G) (cy : Nat → ClassId) (ad : Nat → Nat) (A : Nat → Prop) (Q : Int32 → gS → Prop) (σ : gS) (a1 : Int32) (a2 : Int32) (a3 : Int32) (h : w_X1_isInside Q σ a1 a2 a3) : Met l yX1_isInside ws_X1_isInside rm_X1_isInside (va_Pc [.ref (ad 7), .int a1, .int a2, .int a3] (gB D cy ad A σ)) (va_Qi Q (gB D cy ad A) A) 0 0 A := by
  refine Met.ofW (cc := cX1_isInside) (maxL := 7) (ret := (some .boolean)) (by decide) rfl ?_
  intro p e s m args below meth c s₁ B hml hv
  obtain ⟨rfl, hB⟩ := hv
  have hC : gC p c cX1_isInside s m ([.ref (ad 7), .int a1, .int a2, .int a3] : List Value).toArray RX1 D cy ad A := g_start B hB
  have hI := g_first hB
  have hx := hC.1
  have hb := hC.2.1
  have hr := B.returns
  have hlocks := B.notSynchronized
  clear B hB
  have J6 : ∀ (n6 : Nat) (x1 : Int32) (x2 : Int32) (x3 : Int32) (x4 : Int32) (x5 : Int32) (σ : gS) (H : Heap) (locs : List Loc) (ls : Array Slot), w_X1_isInside_6 Q n6 x1 x2 x3 x4 x5 σ → gI D cy ad A s.heap σ H locs → lv_has ls 7 [(0, .ref (ad 7)), (1, .int x1), (2, .int x2), (3, .int x3), (4, .int x4), (5, .int x5)] → W p l e (headSpec ws_X1_isInside rm_X1_isInside).room s m ([.ref (ad 7), .int a1, .int a2, .int a3] : List Value).toArray below meth c H locs 0 0 (MQ below (va_Qi Q (gB D cy ad A) A) ([.ref (ad 7), .int a1, .int a2, .int a3] : List Value).toArray s 0 0 A) (F0 m 6 ls []) := by
    intro n6
    induction n6 with
    | zero => intro x1 x2 x3 x4 x5 σ H locs ls h; exact absurd h (fun h => h)
    | succ n6 ih6 =>
      intro x1 x2 x3 x4 x5 σ H locs ls h hI hl
      unfold w_X1_isInside_6 at h
      refine lv_iload hx hb dX1_isInside_6 (lv_at hl 5 rfl) ?_
      refine lv_aload_n hx hb dX1_isInside_8 rfl (lv_at hl 0 rfl) ?_
      refine gg_X1_passes hC hI gw_2_2 dX1_isInside_9 ?_
      refine lv_icmp_ge (tgt := 72) hx hb dX1_isInside_12 (by decide) (fun c6 => ?_) (fun c6 => ?_)
      · have h := h.1 c6
        refine lv_iload hx hb dX1_isInside_72 (lv_at hl 4 rfl) ?_
        exact g_zret hC hr hlocks h.1 hI h.2 dX1_isInside_74
      · have h := h.2 c6
        refine lv_aload_n hx hb dX1_isInside_15 rfl (lv_at hl 0 rfl) ?_
        refine gg_X1_order hC hI gw_2_1 dX1_isInside_16 ?_
        refine lv_iload hx hb dX1_isInside_19 (lv_at hl 5 rfl) ?_
        obtain ⟨hi7, h⟩ := h
        refine ga_50 hC hI hi7 dX1_isInside_21 ?_
        refine lv_topi (fun y8 ey8 => ?_)
        have h := h y8 ey8
        refine lv_istore (lv' := [(6, .int y8), (0, .ref (ad 7)), (1, .int x1), (2, .int x2), (3, .int x3), (4, .int x4), (5, .int x5)]) hx hb dX1_isInside_22 hl (by decide) rfl (fun ls hl => ?_)
        refine lv_aload_n hx hb dX1_isInside_24 rfl (lv_at hl 1 rfl) ?_
        refine gg_X1_bands hC hI gw_1_237 dX1_isInside_25 ?_
        refine lv_iload hx hb dX1_isInside_28 (lv_at hl 0 rfl) ?_
        obtain ⟨hi9, h⟩ := h
        refine ga_46 hC hI hi9 dX1_isInside_30 ?_
        refine lv_iload_n hx hb dX1_isInside_31 rfl (lv_at hl 2 rfl) ?_
        refine lv_icmp_ne (tgt := 66) hx hb dX1_isInside_32 (by decide) (fun c10 => ?_) (fun c10 => ?_)
        · have h := h.1 c10
          obtain ⟨y11, ey11⟩ : ∃ y : Int32, y = x5 + 1 := ⟨_, rfl⟩
          have h := h y11 ey11
          refine lv_iinc (v := y11) (lv' := [(5, .int y11), (6, .int y8), (0, .ref (ad 7)), (1, .int x1), (2, .int x2), (3, .int x3), (4, .int x4)]) hx hb dX1_isInside_66 hl (k := 6) rfl (by rw [ey11]; rfl) (by decide) rfl (fun ls hl => ?_)
          refine lv_goto (tgt := 6) hx hb dX1_isInside_69 (by decide) ?_
          exact ih6 _ _ _ _ _ _ _ _ _ h hI (lv_sub hl [2, 3, 4, 5, 6, 0] rfl)
        · have h := h.2 c10
          refine lv_aload_n hx hb dX1_isInside_35 rfl (lv_at hl 1 rfl) ?_
          refine gg_X1_minutes hC hI gw_1_239 dX1_isInside_36 ?_
          refine lv_iload hx hb dX1_isInside_39 (lv_at hl 0 rfl) ?_
          obtain ⟨hi12, h⟩ := h
          refine ga_48 hC hI hi12 dX1_isInside_41 ?_
          refine lv_iload_n hx hb dX1_isInside_42 rfl (lv_at hl 3 rfl) ?_
          refine lv_icmp_gt (tgt := 66) hx hb dX1_isInside_43 (by decide) (fun c13 => ?_) (fun c13 => ?_)
          · have h := h.1 c13
            obtain ⟨y14, ey14⟩ : ∃ y : Int32, y = x5 + 1 := ⟨_, rfl⟩
            have h := h y14 ey14
            refine lv_iinc (v := y14) (lv' := [(5, .int y14), (6, .int y8), (0, .ref (ad 7)), (1, .int x1), (2, .int x2), (3, .int x3), (4, .int x4)]) hx hb dX1_isInside_66 hl (k := 6) rfl (by rw [ey14]; rfl) (by decide) rfl (fun ls hl => ?_)
            refine lv_goto (tgt := 6) hx hb dX1_isInside_69 (by decide) ?_
            exact ih6 _ _ _ _ _ _ _ _ _ h hI (lv_sub hl [2, 3, 4, 5, 6, 0] rfl)
          · have h := h.2 c13
            refine lv_aload_n hx hb dX1_isInside_46 rfl (lv_at hl 1 rfl) ?_
            refine gg_X1_tolds hC hI gw_2_0 dX1_isInside_47 ?_
            refine lv_iload hx hb dX1_isInside_50 (lv_at hl 0 rfl) ?_
            obtain ⟨hi15, h⟩ := h
            refine ga_49 hC hI hi15 dX1_isInside_52 ?_
            refine lv_iload_n hx hb dX1_isInside_53 rfl (lv_at hl 4 rfl) ?_
            refine lv_icmp_gt (tgt := 66) hx hb dX1_isInside_54 (by decide) (fun c16 => ?_) (fun c16 => ?_)
            · have h := h.1 c16
              obtain ⟨y17, ey17⟩ : ∃ y : Int32, y = x5 + 1 := ⟨_, rfl⟩
              have h := h y17 ey17
              refine lv_iinc (v := y17) (lv' := [(5, .int y17), (6, .int y8), (0, .ref (ad 7)), (1, .int x1), (2, .int x2), (3, .int x3), (4, .int x4)]) hx hb dX1_isInside_66 hl (k := 6) rfl (by rw [ey17]; rfl) (by decide) rfl (fun ls hl => ?_)
              refine lv_goto (tgt := 6) hx hb dX1_isInside_69 (by decide) ?_
              exact ih6 _ _ _ _ _ _ _ _ _ h hI (lv_sub hl [2, 3, 4, 5, 6, 0] rfl)
            · have h := h.2 c16
              refine lv_aload_n hx hb dX1_isInside_57 rfl (lv_at hl 1 rfl) ?_
              refine gg_X1_goesIn hC hI gw_1_238 dX1_isInside_58 ?_
              refine lv_iload hx hb dX1_isInside_61 (lv_at hl 0 rfl) ?_
              obtain ⟨hi18, h⟩ := h
              refine ga_47 hC hI hi18 dX1_isInside_63 ?_
              refine lv_topi (fun y19 ey19 => ?_)
              have h := h y19 ey19
              refine lv_istore (lv' := [(4, .int y19), (6, .int y8), (0, .ref (ad 7)), (1, .int x1), (2, .int x2), (3, .int x3), (5, .int x5)]) hx hb dX1_isInside_64 hl (by decide) rfl (fun ls hl => ?_)
              obtain ⟨y20, ey20⟩ : ∃ y : Int32, y = x5 + 1 := ⟨_, rfl⟩
              have h := h y20 ey20
              refine lv_iinc (v := y20) (lv' := [(5, .int y20), (4, .int y19), (6, .int y8), (0, .ref (ad 7)), (1, .int x1), (2, .int x2), (3, .int x3)]) hx hb dX1_isInside_66 hl (k := 6) rfl (by rw [ey20]; rfl) (by decide) rfl (fun ls hl => ?_)
              refine lv_goto (tgt := 6) hx hb dX1_isInside_69 (by decide) ?_
              exact ih6 _ _ _ _ _ _ _ _ _ h hI (lv_sub hl [3, 4, 5, 6, 1, 0] rfl)
  have hl := lv_entry ([.ref (ad 7), .int a1, .int a2, .int a3]) (n := 7) (Nat.le_of_ble_eq_true rfl)
  rw [lg_entry_eq]
  generalize (lg_sl ([.ref (ad 7), .int a1, .int a2, .int a3]) ++ List.replicate (7 - (lg_sl ([.ref (ad 7), .int a1, .int a2, .int a3])).length) Slot.unset).toArray = ls at hl ⊢
  have hl : lv_has ls 7 [(0, .ref (ad 7)), (1, .int a1), (2, .int a2), (3, .int a3)] := hl
  unfold w_X1_isInside at h
  refine lv_iconst (v := 0) hx hb dX1_isInside_0 (by decide) ?_
  refine lv_istore (lv' := [(4, .int 0), (0, .ref (ad 7)), (1, .int a1), (2, .int a2), (3, .int a3)]) hx hb dX1_isInside_1 hl (by decide) rfl (fun ls hl => ?_)
  refine lv_iconst (v := 0) hx hb dX1_isInside_3 (by decide) ?_
  refine lv_istore (lv' := [(5, .int 0), (4, .int 0), (0, .ref (ad 7)), (1, .int a1), (2, .int a2), (3, .int a3)]) hx hb dX1_isInside_4 hl (by decide) rfl (fun ls hl => ?_)
  obtain ⟨n9, h⟩ := h
  exact J6 n9 _ _ _ _ _ _ _ _ _ h hI (lv_sub hl [2, 3, 4, 5, 1, 0] rfl)

theorem dX1_bandsInside_0 : decode cX1_bandsInside 0 = .ok (.iconst 0, 1) := by decide +kernel
theorem dX1_bandsInside_1 : decode cX1_bandsInside 1 = .ok (.istore_n 3, 1) := by decide +kernel
theorem dX1_bandsInside_2 : decode cX1_bandsInside 2 = .ok (.iconst (-1), 1) := by decide +kernel
theorem dX1_bandsInside_3 : decode cX1_bandsInside 3 = .ok (.istore 4, 2) := by decide +kernel
theorem dX1_bandsInside_5 : decode cX1_bandsInside 5 = .ok (.iconst 0, 1) := by decide +kernel
theorem dX1_bandsInside_6 : decode cX1_bandsInside 6 = .ok (.istore 5, 2) := by decide +kernel
theorem dX1_bandsInside_8 : decode cX1_bandsInside 8 = .ok (.iconst 0, 1) := by decide +kernel
theorem dX1_bandsInside_9 : decode cX1_bandsInside 9 = .ok (.istore 6, 2) := by decide +kernel
theorem dX1_bandsInside_11 : decode cX1_bandsInside 11 = .ok (.iload 6, 2) := by decide +kernel
theorem dX1_bandsInside_13 : decode cX1_bandsInside 13 = .ok (.aload_n 0, 1) := by decide +kernel
theorem dX1_bandsInside_14 : decode cX1_bandsInside 14 = .ok (.getfield 28, 3) := by decide +kernel
theorem dX1_bandsInside_17 : decode cX1_bandsInside 17 = .ok (.if_icmp .ge 86, 3) := by decide +kernel
theorem dX1_bandsInside_20 : decode cX1_bandsInside 20 = .ok (.aload_n 0, 1) := by decide +kernel
theorem dX1_bandsInside_21 : decode cX1_bandsInside 21 = .ok (.getfield 25, 3) := by decide +kernel
theorem dX1_bandsInside_24 : decode cX1_bandsInside 24 = .ok (.iload 6, 2) := by decide +kernel
theorem dX1_bandsInside_26 : decode cX1_bandsInside 26 = .ok (.iaload, 1) := by decide +kernel
theorem dX1_bandsInside_27 : decode cX1_bandsInside 27 = .ok (.istore 7, 2) := by decide +kernel
theorem dX1_bandsInside_29 : decode cX1_bandsInside 29 = .ok (.aload_n 0, 1) := by decide +kernel
theorem dX1_bandsInside_30 : decode cX1_bandsInside 30 = .ok (.getfield 11, 3) := by decide +kernel
theorem dX1_bandsInside_33 : decode cX1_bandsInside 33 = .ok (.iload 7, 2) := by decide +kernel
theorem dX1_bandsInside_35 : decode cX1_bandsInside 35 = .ok (.iaload, 1) := by decide +kernel
theorem dX1_bandsInside_36 : decode cX1_bandsInside 36 = .ok (.iload 4, 2) := by decide +kernel
theorem dX1_bandsInside_38 : decode cX1_bandsInside 38 = .ok (.if_icmp .eq 28, 3) := by decide +kernel
theorem dX1_bandsInside_41 : decode cX1_bandsInside 41 = .ok (.iload_n 3, 1) := by decide +kernel
theorem dX1_bandsInside_42 : decode cX1_bandsInside 42 = .ok (.iload 5, 2) := by decide +kernel
theorem dX1_bandsInside_44 : decode cX1_bandsInside 44 = .ok (.ifCond .eq 7, 3) := by decide +kernel
theorem dX1_bandsInside_47 : decode cX1_bandsInside 47 = .ok (.iconst 1, 1) := by decide +kernel
theorem dX1_bandsInside_48 : decode cX1_bandsInside 48 = .ok (.goto 4, 3) := by decide +kernel
theorem dX1_bandsInside_51 : decode cX1_bandsInside 51 = .ok (.iconst 0, 1) := by decide +kernel
theorem dX1_bandsInside_52 : decode cX1_bandsInside 52 = .ok (.iadd, 1) := by decide +kernel
theorem dX1_bandsInside_53 : decode cX1_bandsInside 53 = .ok (.istore_n 3, 1) := by decide +kernel
theorem dX1_bandsInside_54 : decode cX1_bandsInside 54 = .ok (.aload_n 0, 1) := by decide +kernel
theorem dX1_bandsInside_55 : decode cX1_bandsInside 55 = .ok (.getfield 11, 3) := by decide +kernel
theorem dX1_bandsInside_58 : decode cX1_bandsInside 58 = .ok (.iload 7, 2) := by decide +kernel
theorem dX1_bandsInside_60 : decode cX1_bandsInside 60 = .ok (.iaload, 1) := by decide +kernel
theorem dX1_bandsInside_61 : decode cX1_bandsInside 61 = .ok (.istore 4, 2) := by decide +kernel
theorem dX1_bandsInside_63 : decode cX1_bandsInside 63 = .ok (.iconst 0, 1) := by decide +kernel
theorem dX1_bandsInside_64 : decode cX1_bandsInside 64 = .ok (.istore 5, 2) := by decide +kernel
theorem dX1_bandsInside_66 : decode cX1_bandsInside 66 = .ok (.aload_n 0, 1) := by decide +kernel
theorem dX1_bandsInside_67 : decode cX1_bandsInside 67 = .ok (.getfield 19, 3) := by decide +kernel
theorem dX1_bandsInside_70 : decode cX1_bandsInside 70 = .ok (.iload 7, 2) := by decide +kernel
theorem dX1_bandsInside_72 : decode cX1_bandsInside 72 = .ok (.iaload, 1) := by decide +kernel
theorem dX1_bandsInside_73 : decode cX1_bandsInside 73 = .ok (.iload_n 1, 1) := by decide +kernel
theorem dX1_bandsInside_74 : decode cX1_bandsInside 74 = .ok (.if_icmp .gt 23, 3) := by decide +kernel
theorem dX1_bandsInside_77 : decode cX1_bandsInside 77 = .ok (.aload_n 0, 1) := by decide +kernel
theorem dX1_bandsInside_78 : decode cX1_bandsInside 78 = .ok (.getfield 22, 3) := by decide +kernel
theorem dX1_bandsInside_81 : decode cX1_bandsInside 81 = .ok (.iload 7, 2) := by decide +kernel
theorem dX1_bandsInside_83 : decode cX1_bandsInside 83 = .ok (.iaload, 1) := by decide +kernel
theorem dX1_bandsInside_84 : decode cX1_bandsInside 84 = .ok (.iload_n 2, 1) := by decide +kernel
theorem dX1_bandsInside_85 : decode cX1_bandsInside 85 = .ok (.if_icmp .gt 12, 3) := by decide +kernel
theorem dX1_bandsInside_88 : decode cX1_bandsInside 88 = .ok (.aload_n 0, 1) := by decide +kernel
theorem dX1_bandsInside_89 : decode cX1_bandsInside 89 = .ok (.getfield 15, 3) := by decide +kernel
theorem dX1_bandsInside_92 : decode cX1_bandsInside 92 = .ok (.iload 7, 2) := by decide +kernel
theorem dX1_bandsInside_94 : decode cX1_bandsInside 94 = .ok (.baload, 1) := by decide +kernel
theorem dX1_bandsInside_95 : decode cX1_bandsInside 95 = .ok (.istore 5, 2) := by decide +kernel
theorem dX1_bandsInside_97 : decode cX1_bandsInside 97 = .ok (.iinc 6 1, 3) := by decide +kernel
theorem dX1_bandsInside_100 : decode cX1_bandsInside 100 = .ok (.goto (-89), 3) := by decide +kernel
theorem dX1_bandsInside_103 : decode cX1_bandsInside 103 = .ok (.iload 5, 2) := by decide +kernel
theorem dX1_bandsInside_105 : decode cX1_bandsInside 105 = .ok (.ifCond .eq 9, 3) := by decide +kernel
theorem dX1_bandsInside_108 : decode cX1_bandsInside 108 = .ok (.iload_n 3, 1) := by decide +kernel
theorem dX1_bandsInside_109 : decode cX1_bandsInside 109 = .ok (.iconst 1, 1) := by decide +kernel
theorem dX1_bandsInside_110 : decode cX1_bandsInside 110 = .ok (.iadd, 1) := by decide +kernel
theorem dX1_bandsInside_111 : decode cX1_bandsInside 111 = .ok (.goto 4, 3) := by decide +kernel
theorem dX1_bandsInside_114 : decode cX1_bandsInside 114 = .ok (.iload_n 3, 1) := by decide +kernel
theorem dX1_bandsInside_115 : decode cX1_bandsInside 115 = .ok (.ireturn, 1) := by decide +kernel
def w_X1_bandsInside_66 (Q : Int32 → gS → Prop) (k11 : Int32 → Int32 → Int32 → Int32 → Int32 → Int32 → gS → Prop) (x1 : Int32) (x2 : Int32) (x3 : Int32) (x4 : Int32) (x5 : Int32) (x6 : Int32) (x7 : Int32) (σ : gS) : Prop :=
    vp_in x7 200 ∧ (x1 < (σ 59 x7.toNatClampNeg) → ∀ y9 : Int32, y9 = x6 + 1 → k11 x1 x2 x3 x4 x5 y9 σ) ∧ (¬ x1 < (σ 59 x7.toNatClampNeg) → vp_in x7 200 ∧ (x2 < (σ 60 x7.toNatClampNeg) → ∀ y12 : Int32, y12 = x6 + 1 → k11 x1 x2 x3 x4 x5 y12 σ) ∧ (¬ x2 < (σ 60 x7.toNatClampNeg) → vp_in x7 200 ∧ ∀ y14 : Int32, y14 = (σ 58 x7.toNatClampNeg) → ∀ y15 : Int32, y15 = x6 + 1 → k11 x1 x2 x3 x4 y14 y15 σ))
def w_X1_bandsInside_52 (Q : Int32 → gS → Prop) (k11 : Int32 → Int32 → Int32 → Int32 → Int32 → Int32 → gS → Prop) (x1 : Int32) (x2 : Int32) (x6 : Int32) (x7 : Int32) (v0 : Int32) (v1 : Int32) (σ : gS) : Prop :=
    ∀ y16 : Int32, y16 = (v1 + v0) → vp_in x7 200 ∧ ∀ y18 : Int32, y18 = (σ 57 x7.toNatClampNeg) → w_X1_bandsInside_66 Q k11 x1 x2 y16 y18 0 x6 x7 σ
def w_X1_bandsInside_11 (Q : Int32 → gS → Prop) : Nat → Int32 → Int32 → Int32 → Int32 → Int32 → Int32 → gS → Prop
  | 0, _, _, _, _, _, _, _ => False
  | n11 + 1, x1, x2, x3, x4, x5, x6, σ =>
    ((σ 62 0) ≤ x6 → (x5 = 0 → Q x3 σ) ∧ (¬ x5 = 0 → Q (x3 + 1) σ)) ∧ (¬ (σ 62 0) ≤ x6 → vp_in x6 200 ∧ ∀ y22 : Int32, y22 = (σ 61 x6.toNatClampNeg) → vp_in y22 200 ∧ ((σ 57 y22.toNatClampNeg) = x4 → w_X1_bandsInside_66 Q (w_X1_bandsInside_11 Q n11) x1 x2 x3 x4 x5 x6 y22 σ) ∧ (¬ (σ 57 y22.toNatClampNeg) = x4 → (x5 = 0 → w_X1_bandsInside_52 Q (w_X1_bandsInside_11 Q n11) x1 x2 x6 y22 0 x3 σ) ∧ (¬ x5 = 0 → w_X1_bandsInside_52 Q (w_X1_bandsInside_11 Q n11) x1 x2 x6 y22 1 x3 σ)))
def w_X1_bandsInside (Q : Int32 → gS → Prop) (σ : gS) (a1 : Int32) (a2 : Int32) : Prop :=
    ∃ n11, w_X1_bandsInside_11 Q n11 a1 a2 0 (-1) 0 0 σ
abbrev ws_X1_bandsInside : List Cond := Cond.code yX1_bandsInside cX1_bandsInside 8 (some .int) :: gG
abbrev rm_X1_bandsInside : Room := { frames := 0, cells := 0, slots := 0, locals := 0 }
theorem k_X1_bandsInside : gCV yX1_bandsInside RX1 cX1_bandsInside 8 (some .int) 2 := ⟨gw_2_227, gw_2_228, gw_1_9, gw_2_229, rfl, by decide +kernel⟩
set_option maxHeartbeats 4000000 in
set_option maxRecDepth 100000 in
theorem c_X1_bandsInside (l : Launch) (D : va_G) (cy : Nat → ClassId) (ad : Nat → Nat) (A : Nat → Prop) (Q : Int32 → gS → Prop) (σ : gS) (a1 : Int32) (a2 : Int32) (h : w_X1_bandsInside Q σ a1 a2) : Met l yX1_bandsInside ws_X1_bandsInside rm_X1_bandsInside (va_Pc [.ref (ad 7), .int a1, .int a2] (gB D cy ad A σ)) (va_Qi Q (gB D cy ad A) A) 0 0 A := by
  refine Met.ofW (cc := cX1_bandsInside) (maxL := 8) (ret := (some .int)) (by decide) rfl ?_
  intro p e s m args below meth c s₁ B hml hv
  obtain ⟨rfl, hB⟩ := hv
  have hC : gC p c cX1_bandsInside s m ([.ref (ad 7), .int a1, .int a2] : List Value).toArray RX1 D cy ad A := g_start B hB
  have hI := g_first hB
  have hx := hC.1
  have hb := hC.2.1
  have hr := B.returns
  have hlocks := B.notSynchronized
  clear B hB
  have J11 : ∀ (n11 : Nat) (x1 : Int32) (x2 : Int32) (x3 : Int32) (x4 : Int32) (x5 : Int32) (x6 : Int32) (σ : gS) (H : Heap) (locs : List Loc) (ls : Array Slot), w_X1_bandsInside_11 Q n11 x1 x2 x3 x4 x5 x6 σ → gI D cy ad A s.heap σ H locs → lv_has ls 8 [(0, .ref (ad 7)), (1, .int x1), (2, .int x2), (3, .int x3), (4, .int x4), (5, .int x5), (6, .int x6)] → W p l e (headSpec ws_X1_bandsInside rm_X1_bandsInside).room s m ([.ref (ad 7), .int a1, .int a2] : List Value).toArray below meth c H locs 0 0 (MQ below (va_Qi Q (gB D cy ad A) A) ([.ref (ad 7), .int a1, .int a2] : List Value).toArray s 0 0 A) (F0 m 11 ls []) := by
    intro n11
    induction n11 with
    | zero => intro x1 x2 x3 x4 x5 x6 σ H locs ls h; exact absurd h (fun h => h)
    | succ n11 ih11 =>
      have J66 : ∀ (x1 : Int32) (x2 : Int32) (x3 : Int32) (x4 : Int32) (x5 : Int32) (x6 : Int32) (x7 : Int32) (σ : gS) (H : Heap) (locs : List Loc) (ls : Array Slot), w_X1_bandsInside_66 Q (w_X1_bandsInside_11 Q n11) x1 x2 x3 x4 x5 x6 x7 σ → gI D cy ad A s.heap σ H locs → lv_has ls 8 [(0, .ref (ad 7)), (1, .int x1), (2, .int x2), (3, .int x3), (4, .int x4), (5, .int x5), (6, .int x6), (7, .int x7)] → W p l e (headSpec ws_X1_bandsInside rm_X1_bandsInside).room s m ([.ref (ad 7), .int a1, .int a2] : List Value).toArray below meth c H locs 0 0 (MQ below (va_Qi Q (gB D cy ad A) A) ([.ref (ad 7), .int a1, .int a2] : List Value).toArray s 0 0 A) (F0 m 66 ls []) := by
        intro x1 x2 x3 x4 x5 x6 x7 σ H locs ls h hI hl
        unfold w_X1_bandsInside_66 at h
        refine lv_aload_n hx hb dX1_bandsInside_66 rfl (lv_at hl 0 rfl) ?_
        refine gg_X1_minutes hC hI gw_1_239 dX1_bandsInside_67 ?_
        refine lv_iload hx hb dX1_bandsInside_70 (lv_at hl 7 rfl) ?_
        obtain ⟨hi7, h⟩ := h
        refine ga_48 hC hI hi7 dX1_bandsInside_72 ?_
        refine lv_iload_n hx hb dX1_bandsInside_73 rfl (lv_at hl 1 rfl) ?_
        refine lv_icmp_gt (tgt := 97) hx hb dX1_bandsInside_74 (by decide) (fun c8 => ?_) (fun c8 => ?_)
        · have h := h.1 c8
          obtain ⟨y9, ey9⟩ : ∃ y : Int32, y = x6 + 1 := ⟨_, rfl⟩
          have h := h y9 ey9
          refine lv_iinc (v := y9) (lv' := [(6, .int y9), (0, .ref (ad 7)), (1, .int x1), (2, .int x2), (3, .int x3), (4, .int x4), (5, .int x5), (7, .int x7)]) hx hb dX1_bandsInside_97 hl (k := 6) rfl (by rw [ey9]; rfl) (by decide) rfl (fun ls hl => ?_)
          refine lv_goto (tgt := 11) hx hb dX1_bandsInside_100 (by decide) ?_
          exact ih11 _ _ _ _ _ _ _ _ _ _ h hI (lv_sub hl [1, 2, 3, 4, 5, 6, 0] rfl)
        · have h := h.2 c8
          refine lv_aload_n hx hb dX1_bandsInside_77 rfl (lv_at hl 0 rfl) ?_
          refine gg_X1_tolds hC hI gw_2_0 dX1_bandsInside_78 ?_
          refine lv_iload hx hb dX1_bandsInside_81 (lv_at hl 7 rfl) ?_
          obtain ⟨hi10, h⟩ := h
          refine ga_49 hC hI hi10 dX1_bandsInside_83 ?_
          refine lv_iload_n hx hb dX1_bandsInside_84 rfl (lv_at hl 2 rfl) ?_
          refine lv_icmp_gt (tgt := 97) hx hb dX1_bandsInside_85 (by decide) (fun c11 => ?_) (fun c11 => ?_)
          · have h := h.1 c11
            obtain ⟨y12, ey12⟩ : ∃ y : Int32, y = x6 + 1 := ⟨_, rfl⟩
            have h := h y12 ey12
            refine lv_iinc (v := y12) (lv' := [(6, .int y12), (0, .ref (ad 7)), (1, .int x1), (2, .int x2), (3, .int x3), (4, .int x4), (5, .int x5), (7, .int x7)]) hx hb dX1_bandsInside_97 hl (k := 6) rfl (by rw [ey12]; rfl) (by decide) rfl (fun ls hl => ?_)
            refine lv_goto (tgt := 11) hx hb dX1_bandsInside_100 (by decide) ?_
            exact ih11 _ _ _ _ _ _ _ _ _ _ h hI (lv_sub hl [1, 2, 3, 4, 5, 6, 0] rfl)
          · have h := h.2 c11
            refine lv_aload_n hx hb dX1_bandsInside_88 rfl (lv_at hl 0 rfl) ?_
            refine gg_X1_goesIn hC hI gw_1_238 dX1_bandsInside_89 ?_
            refine lv_iload hx hb dX1_bandsInside_92 (lv_at hl 7 rfl) ?_
            obtain ⟨hi13, h⟩ := h
            refine ga_47 hC hI hi13 dX1_bandsInside_94 ?_
            refine lv_topi (fun y14 ey14 => ?_)
            have h := h y14 ey14
            refine lv_istore (lv' := [(5, .int y14), (0, .ref (ad 7)), (1, .int x1), (2, .int x2), (3, .int x3), (4, .int x4), (6, .int x6), (7, .int x7)]) hx hb dX1_bandsInside_95 hl (by decide) rfl (fun ls hl => ?_)
            obtain ⟨y15, ey15⟩ : ∃ y : Int32, y = x6 + 1 := ⟨_, rfl⟩
            have h := h y15 ey15
            refine lv_iinc (v := y15) (lv' := [(6, .int y15), (5, .int y14), (0, .ref (ad 7)), (1, .int x1), (2, .int x2), (3, .int x3), (4, .int x4), (7, .int x7)]) hx hb dX1_bandsInside_97 hl (k := 6) rfl (by rw [ey15]; rfl) (by decide) rfl (fun ls hl => ?_)
            refine lv_goto (tgt := 11) hx hb dX1_bandsInside_100 (by decide) ?_
            exact ih11 _ _ _ _ _ _ _ _ _ _ h hI (lv_sub hl [2, 3, 4, 5, 6, 1, 0] rfl)
      have J52 : ∀ (x1 : Int32) (x2 : Int32) (x6 : Int32) (x7 : Int32) (v0 : Int32) (v1 : Int32) (σ : gS) (H : Heap) (locs : List Loc) (ls : Array Slot), w_X1_bandsInside_52 Q (w_X1_bandsInside_11 Q n11) x1 x2 x6 x7 v0 v1 σ → gI D cy ad A s.heap σ H locs → lv_has ls 8 [(0, .ref (ad 7)), (1, .int x1), (2, .int x2), (6, .int x6), (7, .int x7)] → W p l e (headSpec ws_X1_bandsInside rm_X1_bandsInside).room s m ([.ref (ad 7), .int a1, .int a2] : List Value).toArray below meth c H locs 0 0 (MQ below (va_Qi Q (gB D cy ad A) A) ([.ref (ad 7), .int a1, .int a2] : List Value).toArray s 0 0 A) (F0 m 52 ls [.int v0, .int v1]) := by
        intro x1 x2 x6 x7 v0 v1 σ H locs ls h hI hl
        unfold w_X1_bandsInside_52 at h
        refine lv_iadd hx hb dX1_bandsInside_52 ?_
        refine lv_topi (fun y16 ey16 => ?_)
        have h := h y16 ey16
        refine lv_istore_n (lv' := [(3, .int y16), (0, .ref (ad 7)), (1, .int x1), (2, .int x2), (6, .int x6), (7, .int x7)]) hx hb dX1_bandsInside_53 rfl hl (by decide) rfl (fun ls hl => ?_)
        refine lv_aload_n hx hb dX1_bandsInside_54 rfl (lv_at hl 1 rfl) ?_
        refine gg_X1_bands hC hI gw_1_237 dX1_bandsInside_55 ?_
        refine lv_iload hx hb dX1_bandsInside_58 (lv_at hl 5 rfl) ?_
        obtain ⟨hi17, h⟩ := h
        refine ga_46 hC hI hi17 dX1_bandsInside_60 ?_
        refine lv_topi (fun y18 ey18 => ?_)
        have h := h y18 ey18
        refine lv_istore (lv' := [(4, .int y18), (3, .int y16), (0, .ref (ad 7)), (1, .int x1), (2, .int x2), (6, .int x6), (7, .int x7)]) hx hb dX1_bandsInside_61 hl (by decide) rfl (fun ls hl => ?_)
        refine lv_iconst (v := 0) hx hb dX1_bandsInside_63 (by decide) ?_
        refine lv_istore (lv' := [(5, .int 0), (4, .int y18), (3, .int y16), (0, .ref (ad 7)), (1, .int x1), (2, .int x2), (6, .int x6), (7, .int x7)]) hx hb dX1_bandsInside_64 hl (by decide) rfl (fun ls hl => ?_)
        exact J66 _ _ _ _ _ _ _ _ _ _ _ h hI (lv_sub hl [3, 4, 5, 2, 1, 0, 6, 7] rfl)
      intro x1 x2 x3 x4 x5 x6 σ H locs ls h hI hl
      unfold w_X1_bandsInside_11 at h
      refine lv_iload hx hb dX1_bandsInside_11 (lv_at hl 6 rfl) ?_
      refine lv_aload_n hx hb dX1_bandsInside_13 rfl (lv_at hl 0 rfl) ?_
      refine gg_X1_passes hC hI gw_2_2 dX1_bandsInside_14 ?_
      refine lv_icmp_ge (tgt := 103) hx hb dX1_bandsInside_17 (by decide) (fun c19 => ?_) (fun c19 => ?_)
      · have h := h.1 c19
        refine lv_iload hx hb dX1_bandsInside_103 (lv_at hl 5 rfl) ?_
        refine lv_if_eq (tgt := 114) hx hb dX1_bandsInside_105 (by decide) (fun c20 => ?_) (fun c20 => ?_)
        · have h := h.1 c20
          refine lv_iload_n hx hb dX1_bandsInside_114 rfl (lv_at hl 3 rfl) ?_
          exact g_iret hC hr hlocks hI h dX1_bandsInside_115
        · have h := h.2 c20
          refine lv_iload_n hx hb dX1_bandsInside_108 rfl (lv_at hl 3 rfl) ?_
          refine lv_iconst (v := 1) hx hb dX1_bandsInside_109 (by decide) ?_
          refine lv_iadd hx hb dX1_bandsInside_110 ?_
          refine lv_goto (tgt := 115) hx hb dX1_bandsInside_111 (by decide) ?_
          exact g_iret hC hr hlocks hI h dX1_bandsInside_115
      · have h := h.2 c19
        refine lv_aload_n hx hb dX1_bandsInside_20 rfl (lv_at hl 0 rfl) ?_
        refine gg_X1_order hC hI gw_2_1 dX1_bandsInside_21 ?_
        refine lv_iload hx hb dX1_bandsInside_24 (lv_at hl 6 rfl) ?_
        obtain ⟨hi21, h⟩ := h
        refine ga_50 hC hI hi21 dX1_bandsInside_26 ?_
        refine lv_topi (fun y22 ey22 => ?_)
        have h := h y22 ey22
        refine lv_istore (lv' := [(7, .int y22), (0, .ref (ad 7)), (1, .int x1), (2, .int x2), (3, .int x3), (4, .int x4), (5, .int x5), (6, .int x6)]) hx hb dX1_bandsInside_27 hl (by decide) rfl (fun ls hl => ?_)
        refine lv_aload_n hx hb dX1_bandsInside_29 rfl (lv_at hl 1 rfl) ?_
        refine gg_X1_bands hC hI gw_1_237 dX1_bandsInside_30 ?_
        refine lv_iload hx hb dX1_bandsInside_33 (lv_at hl 0 rfl) ?_
        obtain ⟨hi23, h⟩ := h
        refine ga_46 hC hI hi23 dX1_bandsInside_35 ?_
        refine lv_iload hx hb dX1_bandsInside_36 (lv_at hl 5 rfl) ?_
        refine lv_icmp_eq (tgt := 66) hx hb dX1_bandsInside_38 (by decide) (fun c24 => ?_) (fun c24 => ?_)
        · have h := h.1 c24
          exact J66 _ _ _ _ _ _ _ _ _ _ _ h hI (lv_sub hl [1, 2, 3, 4, 5, 6, 7, 0] rfl)
        · have h := h.2 c24
          refine lv_iload_n hx hb dX1_bandsInside_41 rfl (lv_at hl 4 rfl) ?_
          refine lv_iload hx hb dX1_bandsInside_42 (lv_at hl 6 rfl) ?_
          refine lv_if_eq (tgt := 51) hx hb dX1_bandsInside_44 (by decide) (fun c25 => ?_) (fun c25 => ?_)
          · have h := h.1 c25
            refine lv_iconst (v := 0) hx hb dX1_bandsInside_51 (by decide) ?_
            exact J52 _ _ _ _ _ _ _ _ _ _ h hI (lv_sub hl [1, 2, 3, 7, 0] rfl)
          · have h := h.2 c25
            refine lv_iconst (v := 1) hx hb dX1_bandsInside_47 (by decide) ?_
            refine lv_goto (tgt := 52) hx hb dX1_bandsInside_48 (by decide) ?_
            exact J52 _ _ _ _ _ _ _ _ _ _ h hI (lv_sub hl [1, 2, 3, 7, 0] rfl)
  have hl := lv_entry ([.ref (ad 7), .int a1, .int a2]) (n := 8) (Nat.le_of_ble_eq_true rfl)
  rw [lg_entry_eq]
  generalize (lg_sl ([.ref (ad 7), .int a1, .int a2]) ++ List.replicate (8 - (lg_sl ([.ref (ad 7), .int a1, .int a2])).length) Slot.unset).toArray = ls at hl ⊢
  have hl : lv_has ls 8 [(0, .ref (ad 7)), (1, .int a1), (2, .int a2)] := hl
  unfold w_X1_bandsInside at h
  refine lv_iconst (v := 0) hx hb dX1_bandsInside_0 (by decide) ?_
  refine lv_istore_n (lv' := [(3, .int 0), (0, .ref (ad 7)), (1, .int a1), (2, .int a2)]) hx hb dX1_bandsInside_1 rfl hl (by decide) rfl (fun ls hl => ?_)
  refine lv_iconst (v := (-1)) hx hb dX1_bandsInside_2 (by decide) ?_
  refine lv_istore (lv' := [(4, .int (-1)), (3, .int 0), (0, .ref (ad 7)), (1, .int a1), (2, .int a2)]) hx hb dX1_bandsInside_3 hl (by decide) rfl (fun ls hl => ?_)
  refine lv_iconst (v := 0) hx hb dX1_bandsInside_5 (by decide) ?_
  refine lv_istore (lv' := [(5, .int 0), (4, .int (-1)), (3, .int 0), (0, .ref (ad 7)), (1, .int a1), (2, .int a2)]) hx hb dX1_bandsInside_6 hl (by decide) rfl (fun ls hl => ?_)
  refine lv_iconst (v := 0) hx hb dX1_bandsInside_8 (by decide) ?_
  refine lv_istore (lv' := [(6, .int 0), (5, .int 0), (4, .int (-1)), (3, .int 0), (0, .ref (ad 7)), (1, .int a1), (2, .int a2)]) hx hb dX1_bandsInside_9 hl (by decide) rfl (fun ls hl => ?_)
  obtain ⟨n9, h⟩ := h
  exact J11 n9 _ _ _ _ _ _ _ _ _ _ h hI (lv_sub hl [4, 5, 6, 3, 2, 1, 0] rfl)

theorem dX1_oddPasses_0 : decode cX1_oddPasses 0 = .ok (.iconst 0, 1) := by decide +kernel
theorem dX1_oddPasses_1 : decode cX1_oddPasses 1 = .ok (.istore_n 2, 1) := by decide +kernel
theorem dX1_oddPasses_2 : decode cX1_oddPasses 2 = .ok (.iconst (-1), 1) := by decide +kernel
theorem dX1_oddPasses_3 : decode cX1_oddPasses 3 = .ok (.istore_n 3, 1) := by decide +kernel
theorem dX1_oddPasses_4 : decode cX1_oddPasses 4 = .ok (.iconst 0, 1) := by decide +kernel
theorem dX1_oddPasses_5 : decode cX1_oddPasses 5 = .ok (.istore 4, 2) := by decide +kernel
theorem dX1_oddPasses_7 : decode cX1_oddPasses 7 = .ok (.iconst 0, 1) := by decide +kernel
theorem dX1_oddPasses_8 : decode cX1_oddPasses 8 = .ok (.istore 5, 2) := by decide +kernel
theorem dX1_oddPasses_10 : decode cX1_oddPasses 10 = .ok (.iload 5, 2) := by decide +kernel
theorem dX1_oddPasses_12 : decode cX1_oddPasses 12 = .ok (.aload_n 0, 1) := by decide +kernel
theorem dX1_oddPasses_13 : decode cX1_oddPasses 13 = .ok (.getfield 28, 3) := by decide +kernel
theorem dX1_oddPasses_16 : decode cX1_oddPasses 16 = .ok (.if_icmp .ge 80, 3) := by decide +kernel
theorem dX1_oddPasses_19 : decode cX1_oddPasses 19 = .ok (.aload_n 0, 1) := by decide +kernel
theorem dX1_oddPasses_20 : decode cX1_oddPasses 20 = .ok (.getfield 25, 3) := by decide +kernel
theorem dX1_oddPasses_23 : decode cX1_oddPasses 23 = .ok (.iload 5, 2) := by decide +kernel
theorem dX1_oddPasses_25 : decode cX1_oddPasses 25 = .ok (.iaload, 1) := by decide +kernel
theorem dX1_oddPasses_26 : decode cX1_oddPasses 26 = .ok (.istore 6, 2) := by decide +kernel
theorem dX1_oddPasses_28 : decode cX1_oddPasses 28 = .ok (.aload_n 0, 1) := by decide +kernel
theorem dX1_oddPasses_29 : decode cX1_oddPasses 29 = .ok (.getfield 11, 3) := by decide +kernel
theorem dX1_oddPasses_32 : decode cX1_oddPasses 32 = .ok (.iload 6, 2) := by decide +kernel
theorem dX1_oddPasses_34 : decode cX1_oddPasses 34 = .ok (.iaload, 1) := by decide +kernel
theorem dX1_oddPasses_35 : decode cX1_oddPasses 35 = .ok (.iload_n 3, 1) := by decide +kernel
theorem dX1_oddPasses_36 : decode cX1_oddPasses 36 = .ok (.if_icmp .eq 14, 3) := by decide +kernel
theorem dX1_oddPasses_39 : decode cX1_oddPasses 39 = .ok (.aload_n 0, 1) := by decide +kernel
theorem dX1_oddPasses_40 : decode cX1_oddPasses 40 = .ok (.getfield 11, 3) := by decide +kernel
theorem dX1_oddPasses_43 : decode cX1_oddPasses 43 = .ok (.iload 6, 2) := by decide +kernel
theorem dX1_oddPasses_45 : decode cX1_oddPasses 45 = .ok (.iaload, 1) := by decide +kernel
theorem dX1_oddPasses_46 : decode cX1_oddPasses 46 = .ok (.istore_n 3, 1) := by decide +kernel
theorem dX1_oddPasses_47 : decode cX1_oddPasses 47 = .ok (.iconst 0, 1) := by decide +kernel
theorem dX1_oddPasses_48 : decode cX1_oddPasses 48 = .ok (.istore 4, 2) := by decide +kernel
theorem dX1_oddPasses_50 : decode cX1_oddPasses 50 = .ok (.aload_n 0, 1) := by decide +kernel
theorem dX1_oddPasses_51 : decode cX1_oddPasses 51 = .ok (.getfield 22, 3) := by decide +kernel
theorem dX1_oddPasses_54 : decode cX1_oddPasses 54 = .ok (.iload 6, 2) := by decide +kernel
theorem dX1_oddPasses_56 : decode cX1_oddPasses 56 = .ok (.iaload, 1) := by decide +kernel
theorem dX1_oddPasses_57 : decode cX1_oddPasses 57 = .ok (.iload_n 1, 1) := by decide +kernel
theorem dX1_oddPasses_58 : decode cX1_oddPasses 58 = .ok (.if_icmp .gt 32, 3) := by decide +kernel
theorem dX1_oddPasses_61 : decode cX1_oddPasses 61 = .ok (.iload_n 2, 1) := by decide +kernel
theorem dX1_oddPasses_62 : decode cX1_oddPasses 62 = .ok (.aload_n 0, 1) := by decide +kernel
theorem dX1_oddPasses_63 : decode cX1_oddPasses 63 = .ok (.getfield 15, 3) := by decide +kernel
theorem dX1_oddPasses_66 : decode cX1_oddPasses 66 = .ok (.iload 6, 2) := by decide +kernel
theorem dX1_oddPasses_68 : decode cX1_oddPasses 68 = .ok (.baload, 1) := by decide +kernel
theorem dX1_oddPasses_69 : decode cX1_oddPasses 69 = .ok (.iload 4, 2) := by decide +kernel
theorem dX1_oddPasses_71 : decode cX1_oddPasses 71 = .ok (.if_icmp .ne 7, 3) := by decide +kernel
theorem dX1_oddPasses_74 : decode cX1_oddPasses 74 = .ok (.iconst 1, 1) := by decide +kernel
theorem dX1_oddPasses_75 : decode cX1_oddPasses 75 = .ok (.goto 4, 3) := by decide +kernel
theorem dX1_oddPasses_78 : decode cX1_oddPasses 78 = .ok (.iconst 0, 1) := by decide +kernel
theorem dX1_oddPasses_79 : decode cX1_oddPasses 79 = .ok (.iadd, 1) := by decide +kernel
theorem dX1_oddPasses_80 : decode cX1_oddPasses 80 = .ok (.istore_n 2, 1) := by decide +kernel
theorem dX1_oddPasses_81 : decode cX1_oddPasses 81 = .ok (.aload_n 0, 1) := by decide +kernel
theorem dX1_oddPasses_82 : decode cX1_oddPasses 82 = .ok (.getfield 15, 3) := by decide +kernel
theorem dX1_oddPasses_85 : decode cX1_oddPasses 85 = .ok (.iload 6, 2) := by decide +kernel
theorem dX1_oddPasses_87 : decode cX1_oddPasses 87 = .ok (.baload, 1) := by decide +kernel
theorem dX1_oddPasses_88 : decode cX1_oddPasses 88 = .ok (.istore 4, 2) := by decide +kernel
theorem dX1_oddPasses_90 : decode cX1_oddPasses 90 = .ok (.iinc 5 1, 3) := by decide +kernel
theorem dX1_oddPasses_93 : decode cX1_oddPasses 93 = .ok (.goto (-83), 3) := by decide +kernel
theorem dX1_oddPasses_96 : decode cX1_oddPasses 96 = .ok (.iload_n 2, 1) := by decide +kernel
theorem dX1_oddPasses_97 : decode cX1_oddPasses 97 = .ok (.ireturn, 1) := by decide +kernel
def w_X1_oddPasses_79 (Q : Int32 → gS → Prop) (k10 : Int32 → Int32 → Int32 → Int32 → Int32 → gS → Prop) (x1 : Int32) (x3 : Int32) (x5 : Int32) (x6 : Int32) (v0 : Int32) (v1 : Int32) (σ : gS) : Prop :=
    ∀ y7 : Int32, y7 = (v1 + v0) → vp_in x6 200 ∧ ∀ y9 : Int32, y9 = (σ 58 x6.toNatClampNeg) → ∀ y10 : Int32, y10 = x5 + 1 → k10 x1 y7 x3 y9 y10 σ
def w_X1_oddPasses_50 (Q : Int32 → gS → Prop) (k10 : Int32 → Int32 → Int32 → Int32 → Int32 → gS → Prop) (x1 : Int32) (x2 : Int32) (x3 : Int32) (x4 : Int32) (x5 : Int32) (x6 : Int32) (σ : gS) : Prop :=
    vp_in x6 200 ∧ (x1 < (σ 60 x6.toNatClampNeg) → ∀ y13 : Int32, y13 = x5 + 1 → k10 x1 x2 x3 x4 y13 σ) ∧ (¬ x1 < (σ 60 x6.toNatClampNeg) → vp_in x6 200 ∧ (¬ (σ 58 x6.toNatClampNeg) = x4 → w_X1_oddPasses_79 Q k10 x1 x3 x5 x6 0 x2 σ) ∧ ((σ 58 x6.toNatClampNeg) = x4 → w_X1_oddPasses_79 Q k10 x1 x3 x5 x6 1 x2 σ))
def w_X1_oddPasses_10 (Q : Int32 → gS → Prop) : Nat → Int32 → Int32 → Int32 → Int32 → Int32 → gS → Prop
  | 0, _, _, _, _, _, _ => False
  | n10 + 1, x1, x2, x3, x4, x5, σ =>
    ((σ 62 0) ≤ x5 → Q x2 σ) ∧ (¬ (σ 62 0) ≤ x5 → vp_in x5 200 ∧ ∀ y18 : Int32, y18 = (σ 61 x5.toNatClampNeg) → vp_in y18 200 ∧ ((σ 57 y18.toNatClampNeg) = x3 → w_X1_oddPasses_50 Q (w_X1_oddPasses_10 Q n10) x1 x2 x3 x4 x5 y18 σ) ∧ (¬ (σ 57 y18.toNatClampNeg) = x3 → vp_in y18 200 ∧ ∀ y22 : Int32, y22 = (σ 57 y18.toNatClampNeg) → w_X1_oddPasses_50 Q (w_X1_oddPasses_10 Q n10) x1 x2 y22 0 x5 y18 σ))
def w_X1_oddPasses (Q : Int32 → gS → Prop) (σ : gS) (a1 : Int32) : Prop :=
    ∃ n10, w_X1_oddPasses_10 Q n10 a1 0 (-1) 0 0 σ
abbrev ws_X1_oddPasses : List Cond := Cond.code yX1_oddPasses cX1_oddPasses 7 (some .int) :: gG
abbrev rm_X1_oddPasses : Room := { frames := 0, cells := 0, slots := 0, locals := 0 }
theorem k_X1_oddPasses : gCV yX1_oddPasses RX1 cX1_oddPasses 7 (some .int) 1 := ⟨gw_2_223, gw_2_224, gw_1_9, gw_2_225, rfl, by decide +kernel⟩
set_option maxHeartbeats 4000000 in
set_option maxRecDepth 100000 in
theorem c_X1_oddPasses (l : Launch) (D : va_G) (cy : Nat → ClassId) (ad : Nat → Nat) (A : Nat → Prop) (Q : Int32 → gS → Prop) (σ : gS) (a1 : Int32) (h : w_X1_oddPasses Q σ a1) : Met l yX1_oddPasses ws_X1_oddPasses rm_X1_oddPasses (va_Pc [.ref (ad 7), .int a1] (gB D cy ad A σ)) (va_Qi Q (gB D cy ad A) A) 0 0 A := by
  refine Met.ofW (cc := cX1_oddPasses) (maxL := 7) (ret := (some .int)) (by decide) rfl ?_
  intro p e s m args below meth c s₁ B hml hv
  obtain ⟨rfl, hB⟩ := hv
  have hC : gC p c cX1_oddPasses s m ([.ref (ad 7), .int a1] : List Value).toArray RX1 D cy ad A := g_start B hB
  have hI := g_first hB
  have hx := hC.1
  have hb := hC.2.1
  have hr := B.returns
  have hlocks := B.notSynchronized
  clear B hB
  have J10 : ∀ (n10 : Nat) (x1 : Int32) (x2 : Int32) (x3 : Int32) (x4 : Int32) (x5 : Int32) (σ : gS) (H : Heap) (locs : List Loc) (ls : Array Slot), w_X1_oddPasses_10 Q n10 x1 x2 x3 x4 x5 σ → gI D cy ad A s.heap σ H locs → lv_has ls 7 [(0, .ref (ad 7)), (1, .int x1), (2, .int x2), (3, .int x3), (4, .int x4), (5, .int x5)] → W p l e (headSpec ws_X1_oddPasses rm_X1_oddPasses).room s m ([.ref (ad 7), .int a1] : List Value).toArray below meth c H locs 0 0 (MQ below (va_Qi Q (gB D cy ad A) A) ([.ref (ad 7), .int a1] : List Value).toArray s 0 0 A) (F0 m 10 ls []) := by
    intro n10
    induction n10 with
    | zero => intro x1 x2 x3 x4 x5 σ H locs ls h; exact absurd h (fun h => h)
    | succ n10 ih10 =>
      have J79 : ∀ (x1 : Int32) (x3 : Int32) (x5 : Int32) (x6 : Int32) (v0 : Int32) (v1 : Int32) (σ : gS) (H : Heap) (locs : List Loc) (ls : Array Slot), w_X1_oddPasses_79 Q (w_X1_oddPasses_10 Q n10) x1 x3 x5 x6 v0 v1 σ → gI D cy ad A s.heap σ H locs → lv_has ls 7 [(0, .ref (ad 7)), (1, .int x1), (3, .int x3), (5, .int x5), (6, .int x6)] → W p l e (headSpec ws_X1_oddPasses rm_X1_oddPasses).room s m ([.ref (ad 7), .int a1] : List Value).toArray below meth c H locs 0 0 (MQ below (va_Qi Q (gB D cy ad A) A) ([.ref (ad 7), .int a1] : List Value).toArray s 0 0 A) (F0 m 79 ls [.int v0, .int v1]) := by
        intro x1 x3 x5 x6 v0 v1 σ H locs ls h hI hl
        unfold w_X1_oddPasses_79 at h
        refine lv_iadd hx hb dX1_oddPasses_79 ?_
        refine lv_topi (fun y7 ey7 => ?_)
        have h := h y7 ey7
        refine lv_istore_n (lv' := [(2, .int y7), (0, .ref (ad 7)), (1, .int x1), (3, .int x3), (5, .int x5), (6, .int x6)]) hx hb dX1_oddPasses_80 rfl hl (by decide) rfl (fun ls hl => ?_)
        refine lv_aload_n hx hb dX1_oddPasses_81 rfl (lv_at hl 1 rfl) ?_
        refine gg_X1_goesIn hC hI gw_1_238 dX1_oddPasses_82 ?_
        refine lv_iload hx hb dX1_oddPasses_85 (lv_at hl 5 rfl) ?_
        obtain ⟨hi8, h⟩ := h
        refine ga_47 hC hI hi8 dX1_oddPasses_87 ?_
        refine lv_topi (fun y9 ey9 => ?_)
        have h := h y9 ey9
        refine lv_istore (lv' := [(4, .int y9), (2, .int y7), (0, .ref (ad 7)), (1, .int x1), (3, .int x3), (5, .int x5), (6, .int x6)]) hx hb dX1_oddPasses_88 hl (by decide) rfl (fun ls hl => ?_)
        obtain ⟨y10, ey10⟩ : ∃ y : Int32, y = x5 + 1 := ⟨_, rfl⟩
        have h := h y10 ey10
        refine lv_iinc (v := y10) (lv' := [(5, .int y10), (4, .int y9), (2, .int y7), (0, .ref (ad 7)), (1, .int x1), (3, .int x3), (6, .int x6)]) hx hb dX1_oddPasses_90 hl (k := 5) rfl (by rw [ey10]; rfl) (by decide) rfl (fun ls hl => ?_)
        refine lv_goto (tgt := 10) hx hb dX1_oddPasses_93 (by decide) ?_
        exact ih10 _ _ _ _ _ _ _ _ _ h hI (lv_sub hl [3, 4, 2, 5, 1, 0] rfl)
      have J50 : ∀ (x1 : Int32) (x2 : Int32) (x3 : Int32) (x4 : Int32) (x5 : Int32) (x6 : Int32) (σ : gS) (H : Heap) (locs : List Loc) (ls : Array Slot), w_X1_oddPasses_50 Q (w_X1_oddPasses_10 Q n10) x1 x2 x3 x4 x5 x6 σ → gI D cy ad A s.heap σ H locs → lv_has ls 7 [(0, .ref (ad 7)), (1, .int x1), (2, .int x2), (3, .int x3), (4, .int x4), (5, .int x5), (6, .int x6)] → W p l e (headSpec ws_X1_oddPasses rm_X1_oddPasses).room s m ([.ref (ad 7), .int a1] : List Value).toArray below meth c H locs 0 0 (MQ below (va_Qi Q (gB D cy ad A) A) ([.ref (ad 7), .int a1] : List Value).toArray s 0 0 A) (F0 m 50 ls []) := by
        intro x1 x2 x3 x4 x5 x6 σ H locs ls h hI hl
        unfold w_X1_oddPasses_50 at h
        refine lv_aload_n hx hb dX1_oddPasses_50 rfl (lv_at hl 0 rfl) ?_
        refine gg_X1_tolds hC hI gw_2_0 dX1_oddPasses_51 ?_
        refine lv_iload hx hb dX1_oddPasses_54 (lv_at hl 6 rfl) ?_
        obtain ⟨hi11, h⟩ := h
        refine ga_49 hC hI hi11 dX1_oddPasses_56 ?_
        refine lv_iload_n hx hb dX1_oddPasses_57 rfl (lv_at hl 1 rfl) ?_
        refine lv_icmp_gt (tgt := 90) hx hb dX1_oddPasses_58 (by decide) (fun c12 => ?_) (fun c12 => ?_)
        · have h := h.1 c12
          obtain ⟨y13, ey13⟩ : ∃ y : Int32, y = x5 + 1 := ⟨_, rfl⟩
          have h := h y13 ey13
          refine lv_iinc (v := y13) (lv' := [(5, .int y13), (0, .ref (ad 7)), (1, .int x1), (2, .int x2), (3, .int x3), (4, .int x4), (6, .int x6)]) hx hb dX1_oddPasses_90 hl (k := 5) rfl (by rw [ey13]; rfl) (by decide) rfl (fun ls hl => ?_)
          refine lv_goto (tgt := 10) hx hb dX1_oddPasses_93 (by decide) ?_
          exact ih10 _ _ _ _ _ _ _ _ _ h hI (lv_sub hl [1, 2, 3, 4, 5, 0] rfl)
        · have h := h.2 c12
          refine lv_iload_n hx hb dX1_oddPasses_61 rfl (lv_at hl 2 rfl) ?_
          refine lv_aload_n hx hb dX1_oddPasses_62 rfl (lv_at hl 0 rfl) ?_
          refine gg_X1_goesIn hC hI gw_1_238 dX1_oddPasses_63 ?_
          refine lv_iload hx hb dX1_oddPasses_66 (lv_at hl 6 rfl) ?_
          obtain ⟨hi14, h⟩ := h
          refine ga_47 hC hI hi14 dX1_oddPasses_68 ?_
          refine lv_iload hx hb dX1_oddPasses_69 (lv_at hl 4 rfl) ?_
          refine lv_icmp_ne (tgt := 78) hx hb dX1_oddPasses_71 (by decide) (fun c15 => ?_) (fun c15 => ?_)
          · have h := h.1 c15
            refine lv_iconst (v := 0) hx hb dX1_oddPasses_78 (by decide) ?_
            exact J79 _ _ _ _ _ _ _ _ _ _ h hI (lv_sub hl [0, 1, 3, 5, 6] rfl)
          · have h := h.2 c15
            refine lv_iconst (v := 1) hx hb dX1_oddPasses_74 (by decide) ?_
            refine lv_goto (tgt := 79) hx hb dX1_oddPasses_75 (by decide) ?_
            exact J79 _ _ _ _ _ _ _ _ _ _ h hI (lv_sub hl [0, 1, 3, 5, 6] rfl)
      intro x1 x2 x3 x4 x5 σ H locs ls h hI hl
      unfold w_X1_oddPasses_10 at h
      refine lv_iload hx hb dX1_oddPasses_10 (lv_at hl 5 rfl) ?_
      refine lv_aload_n hx hb dX1_oddPasses_12 rfl (lv_at hl 0 rfl) ?_
      refine gg_X1_passes hC hI gw_2_2 dX1_oddPasses_13 ?_
      refine lv_icmp_ge (tgt := 96) hx hb dX1_oddPasses_16 (by decide) (fun c16 => ?_) (fun c16 => ?_)
      · have h := h.1 c16
        refine lv_iload_n hx hb dX1_oddPasses_96 rfl (lv_at hl 2 rfl) ?_
        exact g_iret hC hr hlocks hI h dX1_oddPasses_97
      · have h := h.2 c16
        refine lv_aload_n hx hb dX1_oddPasses_19 rfl (lv_at hl 0 rfl) ?_
        refine gg_X1_order hC hI gw_2_1 dX1_oddPasses_20 ?_
        refine lv_iload hx hb dX1_oddPasses_23 (lv_at hl 5 rfl) ?_
        obtain ⟨hi17, h⟩ := h
        refine ga_50 hC hI hi17 dX1_oddPasses_25 ?_
        refine lv_topi (fun y18 ey18 => ?_)
        have h := h y18 ey18
        refine lv_istore (lv' := [(6, .int y18), (0, .ref (ad 7)), (1, .int x1), (2, .int x2), (3, .int x3), (4, .int x4), (5, .int x5)]) hx hb dX1_oddPasses_26 hl (by decide) rfl (fun ls hl => ?_)
        refine lv_aload_n hx hb dX1_oddPasses_28 rfl (lv_at hl 1 rfl) ?_
        refine gg_X1_bands hC hI gw_1_237 dX1_oddPasses_29 ?_
        refine lv_iload hx hb dX1_oddPasses_32 (lv_at hl 0 rfl) ?_
        obtain ⟨hi19, h⟩ := h
        refine ga_46 hC hI hi19 dX1_oddPasses_34 ?_
        refine lv_iload_n hx hb dX1_oddPasses_35 rfl (lv_at hl 4 rfl) ?_
        refine lv_icmp_eq (tgt := 50) hx hb dX1_oddPasses_36 (by decide) (fun c20 => ?_) (fun c20 => ?_)
        · have h := h.1 c20
          exact J50 _ _ _ _ _ _ _ _ _ _ h hI (lv_sub hl [1, 2, 3, 4, 5, 6, 0] rfl)
        · have h := h.2 c20
          refine lv_aload_n hx hb dX1_oddPasses_39 rfl (lv_at hl 1 rfl) ?_
          refine gg_X1_bands hC hI gw_1_237 dX1_oddPasses_40 ?_
          refine lv_iload hx hb dX1_oddPasses_43 (lv_at hl 0 rfl) ?_
          obtain ⟨hi21, h⟩ := h
          refine ga_46 hC hI hi21 dX1_oddPasses_45 ?_
          refine lv_topi (fun y22 ey22 => ?_)
          have h := h y22 ey22
          refine lv_istore_n (lv' := [(3, .int y22), (6, .int y18), (0, .ref (ad 7)), (1, .int x1), (2, .int x2), (4, .int x4), (5, .int x5)]) hx hb dX1_oddPasses_46 rfl hl (by decide) rfl (fun ls hl => ?_)
          refine lv_iconst (v := 0) hx hb dX1_oddPasses_47 (by decide) ?_
          refine lv_istore (lv' := [(4, .int 0), (3, .int y22), (6, .int y18), (0, .ref (ad 7)), (1, .int x1), (2, .int x2), (5, .int x5)]) hx hb dX1_oddPasses_48 hl (by decide) rfl (fun ls hl => ?_)
          exact J50 _ _ _ _ _ _ _ _ _ _ h hI (lv_sub hl [3, 4, 5, 1, 0, 6, 2] rfl)
  have hl := lv_entry ([.ref (ad 7), .int a1]) (n := 7) (Nat.le_of_ble_eq_true rfl)
  rw [lg_entry_eq]
  generalize (lg_sl ([.ref (ad 7), .int a1]) ++ List.replicate (7 - (lg_sl ([.ref (ad 7), .int a1])).length) Slot.unset).toArray = ls at hl ⊢
  have hl : lv_has ls 7 [(0, .ref (ad 7)), (1, .int a1)] := hl
  unfold w_X1_oddPasses at h
  refine lv_iconst (v := 0) hx hb dX1_oddPasses_0 (by decide) ?_
  refine lv_istore_n (lv' := [(2, .int 0), (0, .ref (ad 7)), (1, .int a1)]) hx hb dX1_oddPasses_1 rfl hl (by decide) rfl (fun ls hl => ?_)
  refine lv_iconst (v := (-1)) hx hb dX1_oddPasses_2 (by decide) ?_
  refine lv_istore_n (lv' := [(3, .int (-1)), (2, .int 0), (0, .ref (ad 7)), (1, .int a1)]) hx hb dX1_oddPasses_3 rfl hl (by decide) rfl (fun ls hl => ?_)
  refine lv_iconst (v := 0) hx hb dX1_oddPasses_4 (by decide) ?_
  refine lv_istore (lv' := [(4, .int 0), (3, .int (-1)), (2, .int 0), (0, .ref (ad 7)), (1, .int a1)]) hx hb dX1_oddPasses_5 hl (by decide) rfl (fun ls hl => ?_)
  refine lv_iconst (v := 0) hx hb dX1_oddPasses_7 (by decide) ?_
  refine lv_istore (lv' := [(5, .int 0), (4, .int 0), (3, .int (-1)), (2, .int 0), (0, .ref (ad 7)), (1, .int a1)]) hx hb dX1_oddPasses_8 hl (by decide) rfl (fun ls hl => ?_)
  obtain ⟨n9, h⟩ := h
  exact J10 n9 _ _ _ _ _ _ _ _ _ h hI (lv_sub hl [4, 5, 3, 2, 1, 0] rfl)
