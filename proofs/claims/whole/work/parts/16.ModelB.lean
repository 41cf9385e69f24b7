/-! 16.ModelB: printed by wip/gen/walk.py -/
theorem dX9_nodeOf_0 : decode cX9_nodeOf 0 = .ok (.bipush 40, 2) := by decide +kernel
theorem dX9_nodeOf_2 : decode cX9_nodeOf 2 = .ok (.iload_n 0, 1) := by decide +kernel
theorem dX9_nodeOf_3 : decode cX9_nodeOf 3 = .ok (.imul, 1) := by decide +kernel
theorem dX9_nodeOf_4 : decode cX9_nodeOf 4 = .ok (.iload_n 1, 1) := by decide +kernel
theorem dX9_nodeOf_5 : decode cX9_nodeOf 5 = .ok (.iadd, 1) := by decide +kernel
theorem dX9_nodeOf_6 : decode cX9_nodeOf 6 = .ok (.ireturn, 1) := by decide +kernel
def w_X9_nodeOf (Q : Int32 → gS → Prop) (σ : gS) (a0 : Int32) (a1 : Int32) : Prop :=
    Q ((40 * a0) + a1) σ
abbrev ws_X9_nodeOf : List Cond := Cond.code yX9_nodeOf cX9_nodeOf 2 (some .int) :: gG
abbrev rm_X9_nodeOf : Room := { frames := 0, cells := 0, slots := 0, locals := 0 }
theorem k_X9_nodeOf : gCS yX9_nodeOf cX9_nodeOf 2 (some .int) 2 := ⟨gw_5_162, gw_1_11, gw_5_163, by decide +kernel⟩
set_option maxHeartbeats 4000000 in
set_option maxRecDepth 100000 in
theorem c_X9_nodeOf (l : Launch) (D : va_G) (cy : Nat → ClassId) (ad : Nat → Nat) (A : Nat → Prop) (Q : Int32 → gS → Prop) (σ : gS) (a0 : Int32) (a1 : Int32) (h : w_X9_nodeOf Q σ a0 a1) : Met l yX9_nodeOf ws_X9_nodeOf rm_X9_nodeOf (va_Pc [.int a0, .int a1] (gB D cy ad A σ)) (va_Qi Q (gB D cy ad A) A) 0 0 A := by
  refine Met.ofW (cc := cX9_nodeOf) (maxL := 2) (ret := (some .int)) (by decide) rfl ?_
  intro p e s m args below meth c s₁ B hml hv
  obtain ⟨rfl, hB⟩ := hv
  have hC : gC p c cX9_nodeOf s m ([.int a0, .int a1] : List Value).toArray RX9 D cy ad A := g_start B hB
  have hI := g_first hB
  have hx := hC.1
  have hb := hC.2.1
  have hr := B.returns
  have hlocks := B.notSynchronized
  clear B hB
  have hl := lv_entry ([.int a0, .int a1]) (n := 2) (Nat.le_of_ble_eq_true rfl)
  rw [lg_entry_eq]
  generalize (lg_sl ([.int a0, .int a1]) ++ List.replicate (2 - (lg_sl ([.int a0, .int a1])).length) Slot.unset).toArray = ls at hl ⊢
  have hl : lv_has ls 2 [(0, .int a0), (1, .int a1)] := hl
  unfold w_X9_nodeOf at h
  refine lv_bipush (v := 40) hx hb dX9_nodeOf_0 (by decide) ?_
  refine lv_iload_n hx hb dX9_nodeOf_2 rfl (lv_at hl 0 rfl) ?_
  refine lv_imul hx hb dX9_nodeOf_3 ?_
  refine lv_iload_n hx hb dX9_nodeOf_4 rfl (lv_at hl 1 rfl) ?_
  refine lv_iadd hx hb dX9_nodeOf_5 ?_
  exact g_iret hC hr hlocks hI h dX9_nodeOf_6

theorem dX9_comes_0 : decode cX9_comes 0 = .ok (.aload_n 0, 1) := by decide +kernel
theorem dX9_comes_1 : decode cX9_comes 1 = .ok (.getfield 63, 3) := by decide +kernel
theorem dX9_comes_4 : decode cX9_comes 4 = .ok (.iload_n 1, 1) := by decide +kernel
theorem dX9_comes_5 : decode cX9_comes 5 = .ok (.baload, 1) := by decide +kernel
theorem dX9_comes_6 : decode cX9_comes 6 = .ok (.ifCond .eq 4, 3) := by decide +kernel
theorem dX9_comes_9 : decode cX9_comes 9 = .ok (.return_, 1) := by decide +kernel
theorem dX9_comes_10 : decode cX9_comes 10 = .ok (.aload_n 0, 1) := by decide +kernel
theorem dX9_comes_11 : decode cX9_comes 11 = .ok (.getfield 63, 3) := by decide +kernel
theorem dX9_comes_14 : decode cX9_comes 14 = .ok (.iload_n 1, 1) := by decide +kernel
theorem dX9_comes_15 : decode cX9_comes 15 = .ok (.iconst 1, 1) := by decide +kernel
theorem dX9_comes_16 : decode cX9_comes 16 = .ok (.bastore, 1) := by decide +kernel
theorem dX9_comes_17 : decode cX9_comes 17 = .ok (.aload_n 0, 1) := by decide +kernel
theorem dX9_comes_18 : decode cX9_comes 18 = .ok (.getfield 54, 3) := by decide +kernel
theorem dX9_comes_21 : decode cX9_comes 21 = .ok (.iload_n 1, 1) := by decide +kernel
theorem dX9_comes_22 : decode cX9_comes 22 = .ok (.iload_n 2, 1) := by decide +kernel
theorem dX9_comes_23 : decode cX9_comes 23 = .ok (.iastore, 1) := by decide +kernel
theorem dX9_comes_24 : decode cX9_comes 24 = .ok (.aload_n 0, 1) := by decide +kernel
theorem dX9_comes_25 : decode cX9_comes 25 = .ok (.getfield 57, 3) := by decide +kernel
theorem dX9_comes_28 : decode cX9_comes 28 = .ok (.iload_n 1, 1) := by decide +kernel
theorem dX9_comes_29 : decode cX9_comes 29 = .ok (.iload_n 3, 1) := by decide +kernel
theorem dX9_comes_30 : decode cX9_comes 30 = .ok (.iastore, 1) := by decide +kernel
theorem dX9_comes_31 : decode cX9_comes 31 = .ok (.aload_n 0, 1) := by decide +kernel
theorem dX9_comes_32 : decode cX9_comes 32 = .ok (.getfield 60, 3) := by decide +kernel
theorem dX9_comes_35 : decode cX9_comes 35 = .ok (.iload_n 1, 1) := by decide +kernel
theorem dX9_comes_36 : decode cX9_comes 36 = .ok (.iload 4, 2) := by decide +kernel
theorem dX9_comes_38 : decode cX9_comes 38 = .ok (.bastore, 1) := by decide +kernel
theorem dX9_comes_39 : decode cX9_comes 39 = .ok (.aload_n 0, 1) := by decide +kernel
theorem dX9_comes_40 : decode cX9_comes 40 = .ok (.getfield 66, 3) := by decide +kernel
theorem dX9_comes_43 : decode cX9_comes 43 = .ok (.aload_n 0, 1) := by decide +kernel
theorem dX9_comes_44 : decode cX9_comes 44 = .ok (.getfield 155, 3) := by decide +kernel
theorem dX9_comes_47 : decode cX9_comes 47 = .ok (.iload_n 1, 1) := by decide +kernel
theorem dX9_comes_48 : decode cX9_comes 48 = .ok (.iastore, 1) := by decide +kernel
theorem dX9_comes_49 : decode cX9_comes 49 = .ok (.aload_n 0, 1) := by decide +kernel
theorem dX9_comes_50 : decode cX9_comes 50 = .ok (.dup, 1) := by decide +kernel
theorem dX9_comes_51 : decode cX9_comes 51 = .ok (.getfield 155, 3) := by decide +kernel
theorem dX9_comes_54 : decode cX9_comes 54 = .ok (.iconst 1, 1) := by decide +kernel
theorem dX9_comes_55 : decode cX9_comes 55 = .ok (.iadd, 1) := by decide +kernel
theorem dX9_comes_56 : decode cX9_comes 56 = .ok (.putfield 155, 3) := by decide +kernel
theorem dX9_comes_59 : decode cX9_comes 59 = .ok (.return_, 1) := by decide +kernel
def w_X9_comes (Q : gS → Prop) (σ : gS) (a1 : Int32) (a2 : Int32) (a3 : Int32) (a4 : Int32) : Prop :=
    vp_in a1 320 ∧ ((σ 84 a1.toNatClampNeg) = 0 → vp_in a1 320 ∧ ∀ s5 : gS, s5 = gu σ 84 a1.toNatClampNeg (vp_nar .boolean 1) → vp_in a1 320 ∧ ∀ s7 : gS, s7 = gu s5 81 a1.toNatClampNeg a2 → vp_in a1 320 ∧ ∀ s9 : gS, s9 = gu s7 82 a1.toNatClampNeg a3 → vp_in a1 320 ∧ ∀ s11 : gS, s11 = gu s9 83 a1.toNatClampNeg (vp_nar .boolean a4) → vp_in (s11 86 0) 320 ∧ ∀ s13 : gS, s13 = gu s11 85 (s11 86 0).toNatClampNeg a1 → ∀ s14 : gS, s14 = gu s13 86 0 ((s13 86 0) + 1) → Q s14) ∧ (¬ (σ 84 a1.toNatClampNeg) = 0 → Q σ)
abbrev ws_X9_comes : List Cond := Cond.code yX9_comes cX9_comes 5 none :: gG
abbrev rm_X9_comes : Room := { frames := 0, cells := 0, slots := 0, locals := 0 }
theorem k_X9_comes : gCV yX9_comes RX9 cX9_comes 5 none 4 := ⟨gw_5_166, gwp_40, gw_1_11, gw_5_167, rfl, by decide +kernel⟩
set_option maxHeartbeats 4000000 in
set_option maxRecDepth 100000 in
theorem c_X9_comes (l : Launch) (D : va_G) (cy : Nat → ClassId) (ad : Nat → Nat) (A : Nat → Prop) (Q : gS → Prop) (σ : gS) (a1 : Int32) (a2 : Int32) (a3 : Int32) (a4 : Int32) (h : w_X9_comes Q σ a1 a2 a3 a4) : Met l yX9_comes ws_X9_comes rm_X9_comes (va_Pc [.ref (ad 10), .int a1, .int a2, .int a3, .int a4] (gB D cy ad A σ)) (va_Qv Q (gB D cy ad A) A) 0 0 A := by
  refine Met.ofW (cc := cX9_comes) (maxL := 5) (ret := none) (by decide) rfl ?_
  intro p e s m args below meth c s₁ B hml hv
  obtain ⟨rfl, hB⟩ := hv
  have hC : gC p c cX9_comes s m ([.ref (ad 10), .int a1, .int a2, .int a3, .int a4] : List Value).toArray RX9 D cy ad A := g_start B hB
  have hI := g_first hB
  have hx := hC.1
  have hb := hC.2.1
  have hr := B.returns
  have hlocks := B.notSynchronized
  clear B hB
  have hl := lv_entry ([.ref (ad 10), .int a1, .int a2, .int a3, .int a4]) (n := 5) (Nat.le_of_ble_eq_true rfl)
  rw [lg_entry_eq]
  generalize (lg_sl ([.ref (ad 10), .int a1, .int a2, .int a3, .int a4]) ++ List.replicate (5 - (lg_sl ([.ref (ad 10), .int a1, .int a2, .int a3, .int a4])).length) Slot.unset).toArray = ls at hl ⊢
  have hl : lv_has ls 5 [(0, .ref (ad 10)), (1, .int a1), (2, .int a2), (3, .int a3), (4, .int a4)] := hl
  unfold w_X9_comes at h
  refine lv_aload_n hx hb dX9_comes_0 rfl (lv_at hl 0 rfl) ?_
  refine gg_X9_isSeen hC hI gw_4_209 dX9_comes_1 ?_
  refine lv_iload_n hx hb dX9_comes_4 rfl (lv_at hl 1 rfl) ?_
  obtain ⟨hi2, h⟩ := h
  refine ga_67 hC hI hi2 dX9_comes_5 ?_
  refine lv_if_eq (tgt := 10) hx hb dX9_comes_6 (by decide) (fun c3 => ?_) (fun c3 => ?_)
  · have h := h.1 c3
    refine lv_aload_n hx hb dX9_comes_10 rfl (lv_at hl 0 rfl) ?_
    refine gg_X9_isSeen hC hI gw_4_209 dX9_comes_11 ?_
    refine lv_iload_n hx hb dX9_comes_14 rfl (lv_at hl 1 rfl) ?_
    refine lv_iconst (v := 1) hx hb dX9_comes_15 (by decide) ?_
    obtain ⟨hi4, h⟩ := h
    refine gs_67 hC hI hi4 dX9_comes_16 (fun s5 H locs es5 hI => ?_)
    have h := h s5 es5
    refine lv_aload_n hx hb dX9_comes_17 rfl (lv_at hl 0 rfl) ?_
    refine gg_X9_cameFrom hC hI gw_4_206 dX9_comes_18 ?_
    refine lv_iload_n hx hb dX9_comes_21 rfl (lv_at hl 1 rfl) ?_
    refine lv_iload_n hx hb dX9_comes_22 rfl (lv_at hl 2 rfl) ?_
    obtain ⟨hi6, h⟩ := h
    refine gs_64 hC hI hi6 dX9_comes_23 (fun s7 H locs es7 hI => ?_)
    have h := h s7 es7
    refine lv_aload_n hx hb dX9_comes_24 rfl (lv_at hl 0 rfl) ?_
    refine gg_X9_cameBy hC hI gw_4_207 dX9_comes_25 ?_
    refine lv_iload_n hx hb dX9_comes_28 rfl (lv_at hl 1 rfl) ?_
    refine lv_iload_n hx hb dX9_comes_29 rfl (lv_at hl 3 rfl) ?_
    obtain ⟨hi8, h⟩ := h
    refine gs_65 hC hI hi8 dX9_comes_30 (fun s9 H locs es9 hI => ?_)
    have h := h s9 es9
    refine lv_aload_n hx hb dX9_comes_31 rfl (lv_at hl 0 rfl) ?_
    refine gg_X9_isBack hC hI gw_4_208 dX9_comes_32 ?_
    refine lv_iload_n hx hb dX9_comes_35 rfl (lv_at hl 1 rfl) ?_
    refine lv_iload hx hb dX9_comes_36 (lv_at hl 4 rfl) ?_
    obtain ⟨hi10, h⟩ := h
    refine gs_66 hC hI hi10 dX9_comes_38 (fun s11 H locs es11 hI => ?_)
    have h := h s11 es11
    refine lv_aload_n hx hb dX9_comes_39 rfl (lv_at hl 0 rfl) ?_
    refine gg_X9_queue hC hI gw_4_210 dX9_comes_40 ?_
    refine lv_aload_n hx hb dX9_comes_43 rfl (lv_at hl 0 rfl) ?_
    refine gg_X9_queued hC hI gw_4_211 dX9_comes_44 ?_
    refine lv_iload_n hx hb dX9_comes_47 rfl (lv_at hl 1 rfl) ?_
    obtain ⟨hi12, h⟩ := h
    refine gs_68 hC hI hi12 dX9_comes_48 (fun s13 H locs es13 hI => ?_)
    have h := h s13 es13
    refine lv_aload_n hx hb dX9_comes_49 rfl (lv_at hl 0 rfl) ?_
    refine lv_dup hx hb dX9_comes_50 rfl ?_
    refine gg_X9_queued hC hI gw_4_211 dX9_comes_51 ?_
    refine lv_iconst (v := 1) hx hb dX9_comes_54 (by decide) ?_
    refine lv_iadd hx hb dX9_comes_55 ?_
    refine gp_X9_queued hC hI gw_4_211 dX9_comes_56 (fun s14 H locs es14 hI => ?_)
    have h := h s14 es14
    exact g_vret hC hr hlocks hI h dX9_comes_59
  · have h := h.2 c3
    exact g_vret hC hr hlocks hI h dX9_comes_9

theorem dX9_spreads_0 : decode cX9_spreads 0 = .ok (.iload_n 1, 1) := by decide +kernel
theorem dX9_spreads_1 : decode cX9_spreads 1 = .ok (.bipush 40, 2) := by decide +kernel
theorem dX9_spreads_3 : decode cX9_spreads 3 = .ok (.idiv, 1) := by decide +kernel
theorem dX9_spreads_4 : decode cX9_spreads 4 = .ok (.istore_n 3, 1) := by decide +kernel
theorem dX9_spreads_5 : decode cX9_spreads 5 = .ok (.iload_n 1, 1) := by decide +kernel
theorem dX9_spreads_6 : decode cX9_spreads 6 = .ok (.bipush 40, 2) := by decide +kernel
theorem dX9_spreads_8 : decode cX9_spreads 8 = .ok (.irem, 1) := by decide +kernel
theorem dX9_spreads_9 : decode cX9_spreads 9 = .ok (.istore 4, 2) := by decide +kernel
theorem dX9_spreads_11 : decode cX9_spreads 11 = .ok (.iload 4, 2) := by decide +kernel
theorem dX9_spreads_13 : decode cX9_spreads 13 = .ok (.iconst 1, 1) := by decide +kernel
theorem dX9_spreads_14 : decode cX9_spreads 14 = .ok (.iadd, 1) := by decide +kernel
theorem dX9_spreads_15 : decode cX9_spreads 15 = .ok (.iload_n 2, 1) := by decide +kernel
theorem dX9_spreads_16 : decode cX9_spreads 16 = .ok (.if_icmp .ge 13, 3) := by decide +kernel
theorem dX9_spreads_19 : decode cX9_spreads 19 = .ok (.aload_n 0, 1) := by decide +kernel
theorem dX9_spreads_20 : decode cX9_spreads 20 = .ok (.iload_n 1, 1) := by decide +kernel
theorem dX9_spreads_21 : decode cX9_spreads 21 = .ok (.iconst 1, 1) := by decide +kernel
theorem dX9_spreads_22 : decode cX9_spreads 22 = .ok (.iadd, 1) := by decide +kernel
theorem dX9_spreads_23 : decode cX9_spreads 23 = .ok (.iload_n 1, 1) := by decide +kernel
theorem dX9_spreads_24 : decode cX9_spreads 24 = .ok (.iconst (-1), 1) := by decide +kernel
theorem dX9_spreads_25 : decode cX9_spreads 25 = .ok (.iconst 0, 1) := by decide +kernel
theorem dX9_spreads_26 : decode cX9_spreads 26 = .ok (.invokevirtual 158, 3) := by decide +kernel
theorem dX9_spreads_29 : decode cX9_spreads 29 = .ok (.iload 4, 2) := by decide +kernel
theorem dX9_spreads_31 : decode cX9_spreads 31 = .ok (.ifCond .le 24, 3) := by decide +kernel
theorem dX9_spreads_34 : decode cX9_spreads 34 = .ok (.aload_n 0, 1) := by decide +kernel
theorem dX9_spreads_35 : decode cX9_spreads 35 = .ok (.getfield 42, 3) := by decide +kernel
theorem dX9_spreads_38 : decode cX9_spreads 38 = .ok (.iload_n 1, 1) := by decide +kernel
theorem dX9_spreads_39 : decode cX9_spreads 39 = .ok (.iconst 1, 1) := by decide +kernel
theorem dX9_spreads_40 : decode cX9_spreads 40 = .ok (.isub, 1) := by decide +kernel
theorem dX9_spreads_41 : decode cX9_spreads 41 = .ok (.iaload, 1) := by decide +kernel
theorem dX9_spreads_42 : decode cX9_spreads 42 = .ok (.ifCond .le 13, 3) := by decide +kernel
theorem dX9_spreads_45 : decode cX9_spreads 45 = .ok (.aload_n 0, 1) := by decide +kernel
theorem dX9_spreads_46 : decode cX9_spreads 46 = .ok (.iload_n 1, 1) := by decide +kernel
theorem dX9_spreads_47 : decode cX9_spreads 47 = .ok (.iconst 1, 1) := by decide +kernel
theorem dX9_spreads_48 : decode cX9_spreads 48 = .ok (.isub, 1) := by decide +kernel
theorem dX9_spreads_49 : decode cX9_spreads 49 = .ok (.iload_n 1, 1) := by decide +kernel
theorem dX9_spreads_50 : decode cX9_spreads 50 = .ok (.iconst (-1), 1) := by decide +kernel
theorem dX9_spreads_51 : decode cX9_spreads 51 = .ok (.iconst 1, 1) := by decide +kernel
theorem dX9_spreads_52 : decode cX9_spreads 52 = .ok (.invokevirtual 158, 3) := by decide +kernel
theorem dX9_spreads_55 : decode cX9_spreads 55 = .ok (.iconst 0, 1) := by decide +kernel
theorem dX9_spreads_56 : decode cX9_spreads 56 = .ok (.istore 5, 2) := by decide +kernel
theorem dX9_spreads_58 : decode cX9_spreads 58 = .ok (.iload 5, 2) := by decide +kernel
theorem dX9_spreads_60 : decode cX9_spreads 60 = .ok (.iconst 2, 1) := by decide +kernel
theorem dX9_spreads_61 : decode cX9_spreads 61 = .ok (.aload_n 0, 1) := by decide +kernel
theorem dX9_spreads_62 : decode cX9_spreads 62 = .ok (.getfield 148, 3) := by decide +kernel
theorem dX9_spreads_65 : decode cX9_spreads 65 = .ok (.imul, 1) := by decide +kernel
theorem dX9_spreads_66 : decode cX9_spreads 66 = .ok (.if_icmp .ge 160, 3) := by decide +kernel
theorem dX9_spreads_69 : decode cX9_spreads 69 = .ok (.aload_n 0, 1) := by decide +kernel
theorem dX9_spreads_70 : decode cX9_spreads 70 = .ok (.getfield 30, 3) := by decide +kernel
theorem dX9_spreads_73 : decode cX9_spreads 73 = .ok (.iload 5, 2) := by decide +kernel
theorem dX9_spreads_75 : decode cX9_spreads 75 = .ok (.iaload, 1) := by decide +kernel
theorem dX9_spreads_76 : decode cX9_spreads 76 = .ok (.iload_n 3, 1) := by decide +kernel
theorem dX9_spreads_77 : decode cX9_spreads 77 = .ok (.if_icmp .ne 68, 3) := by decide +kernel
theorem dX9_spreads_80 : decode cX9_spreads 80 = .ok (.iload 4, 2) := by decide +kernel
theorem dX9_spreads_82 : decode cX9_spreads 82 = .ok (.aload_n 0, 1) := by decide +kernel
theorem dX9_spreads_83 : decode cX9_spreads 83 = .ok (.getfield 36, 3) := by decide +kernel
theorem dX9_spreads_86 : decode cX9_spreads 86 = .ok (.iload 5, 2) := by decide +kernel
theorem dX9_spreads_88 : decode cX9_spreads 88 = .ok (.iaload, 1) := by decide +kernel
theorem dX9_spreads_89 : decode cX9_spreads 89 = .ok (.iadd, 1) := by decide +kernel
theorem dX9_spreads_90 : decode cX9_spreads 90 = .ok (.iload_n 2, 1) := by decide +kernel
theorem dX9_spreads_91 : decode cX9_spreads 91 = .ok (.if_icmp .ge 54, 3) := by decide +kernel
theorem dX9_spreads_94 : decode cX9_spreads 94 = .ok (.aload_n 0, 1) := by decide +kernel
theorem dX9_spreads_95 : decode cX9_spreads 95 = .ok (.getfield 45, 3) := by decide +kernel
theorem dX9_spreads_98 : decode cX9_spreads 98 = .ok (.bipush 40, 2) := by decide +kernel
theorem dX9_spreads_100 : decode cX9_spreads 100 = .ok (.iload 5, 2) := by decide +kernel
theorem dX9_spreads_102 : decode cX9_spreads 102 = .ok (.imul, 1) := by decide +kernel
theorem dX9_spreads_103 : decode cX9_spreads 103 = .ok (.iload 4, 2) := by decide +kernel
theorem dX9_spreads_105 : decode cX9_spreads 105 = .ok (.iadd, 1) := by decide +kernel
theorem dX9_spreads_106 : decode cX9_spreads 106 = .ok (.iaload, 1) := by decide +kernel
theorem dX9_spreads_107 : decode cX9_spreads 107 = .ok (.aload_n 0, 1) := by decide +kernel
theorem dX9_spreads_108 : decode cX9_spreads 108 = .ok (.getfield 39, 3) := by decide +kernel
theorem dX9_spreads_111 : decode cX9_spreads 111 = .ok (.iload 5, 2) := by decide +kernel
theorem dX9_spreads_113 : decode cX9_spreads 113 = .ok (.iaload, 1) := by decide +kernel
theorem dX9_spreads_114 : decode cX9_spreads 114 = .ok (.if_icmp .ge 31, 3) := by decide +kernel
theorem dX9_spreads_117 : decode cX9_spreads 117 = .ok (.aload_n 0, 1) := by decide +kernel
theorem dX9_spreads_118 : decode cX9_spreads 118 = .ok (.aload_n 0, 1) := by decide +kernel
theorem dX9_spreads_119 : decode cX9_spreads 119 = .ok (.getfield 33, 3) := by decide +kernel
theorem dX9_spreads_122 : decode cX9_spreads 122 = .ok (.iload 5, 2) := by decide +kernel
theorem dX9_spreads_124 : decode cX9_spreads 124 = .ok (.iaload, 1) := by decide +kernel
theorem dX9_spreads_125 : decode cX9_spreads 125 = .ok (.iload 4, 2) := by decide +kernel
theorem dX9_spreads_127 : decode cX9_spreads 127 = .ok (.aload_n 0, 1) := by decide +kernel
theorem dX9_spreads_128 : decode cX9_spreads 128 = .ok (.getfield 36, 3) := by decide +kernel
theorem dX9_spreads_131 : decode cX9_spreads 131 = .ok (.iload 5, 2) := by decide +kernel
theorem dX9_spreads_133 : decode cX9_spreads 133 = .ok (.iaload, 1) := by decide +kernel
theorem dX9_spreads_134 : decode cX9_spreads 134 = .ok (.iadd, 1) := by decide +kernel
theorem dX9_spreads_135 : decode cX9_spreads 135 = .ok (.invokestatic 162, 3) := by decide +kernel
theorem dX9_spreads_138 : decode cX9_spreads 138 = .ok (.iload_n 1, 1) := by decide +kernel
theorem dX9_spreads_139 : decode cX9_spreads 139 = .ok (.iload 5, 2) := by decide +kernel
theorem dX9_spreads_141 : decode cX9_spreads 141 = .ok (.iconst 0, 1) := by decide +kernel
theorem dX9_spreads_142 : decode cX9_spreads 142 = .ok (.invokevirtual 158, 3) := by decide +kernel
theorem dX9_spreads_145 : decode cX9_spreads 145 = .ok (.aload_n 0, 1) := by decide +kernel
theorem dX9_spreads_146 : decode cX9_spreads 146 = .ok (.getfield 33, 3) := by decide +kernel
theorem dX9_spreads_149 : decode cX9_spreads 149 = .ok (.iload 5, 2) := by decide +kernel
theorem dX9_spreads_151 : decode cX9_spreads 151 = .ok (.iaload, 1) := by decide +kernel
theorem dX9_spreads_152 : decode cX9_spreads 152 = .ok (.iload_n 3, 1) := by decide +kernel
theorem dX9_spreads_153 : decode cX9_spreads 153 = .ok (.if_icmp .ne 67, 3) := by decide +kernel
theorem dX9_spreads_156 : decode cX9_spreads 156 = .ok (.iload 4, 2) := by decide +kernel
theorem dX9_spreads_158 : decode cX9_spreads 158 = .ok (.aload_n 0, 1) := by decide +kernel
theorem dX9_spreads_159 : decode cX9_spreads 159 = .ok (.getfield 36, 3) := by decide +kernel
theorem dX9_spreads_162 : decode cX9_spreads 162 = .ok (.iload 5, 2) := by decide +kernel
theorem dX9_spreads_164 : decode cX9_spreads 164 = .ok (.iaload, 1) := by decide +kernel
theorem dX9_spreads_165 : decode cX9_spreads 165 = .ok (.if_icmp .lt 55, 3) := by decide +kernel
theorem dX9_spreads_168 : decode cX9_spreads 168 = .ok (.aload_n 0, 1) := by decide +kernel
theorem dX9_spreads_169 : decode cX9_spreads 169 = .ok (.getfield 45, 3) := by decide +kernel
theorem dX9_spreads_172 : decode cX9_spreads 172 = .ok (.bipush 40, 2) := by decide +kernel
theorem dX9_spreads_174 : decode cX9_spreads 174 = .ok (.iload 5, 2) := by decide +kernel
theorem dX9_spreads_176 : decode cX9_spreads 176 = .ok (.imul, 1) := by decide +kernel
theorem dX9_spreads_177 : decode cX9_spreads 177 = .ok (.iload 4, 2) := by decide +kernel
theorem dX9_spreads_179 : decode cX9_spreads 179 = .ok (.iadd, 1) := by decide +kernel
theorem dX9_spreads_180 : decode cX9_spreads 180 = .ok (.aload_n 0, 1) := by decide +kernel
theorem dX9_spreads_181 : decode cX9_spreads 181 = .ok (.getfield 36, 3) := by decide +kernel
theorem dX9_spreads_184 : decode cX9_spreads 184 = .ok (.iload 5, 2) := by decide +kernel
theorem dX9_spreads_186 : decode cX9_spreads 186 = .ok (.iaload, 1) := by decide +kernel
theorem dX9_spreads_187 : decode cX9_spreads 187 = .ok (.isub, 1) := by decide +kernel
theorem dX9_spreads_188 : decode cX9_spreads 188 = .ok (.iaload, 1) := by decide +kernel
theorem dX9_spreads_189 : decode cX9_spreads 189 = .ok (.ifCond .le 31, 3) := by decide +kernel
theorem dX9_spreads_192 : decode cX9_spreads 192 = .ok (.aload_n 0, 1) := by decide +kernel
theorem dX9_spreads_193 : decode cX9_spreads 193 = .ok (.aload_n 0, 1) := by decide +kernel
theorem dX9_spreads_194 : decode cX9_spreads 194 = .ok (.getfield 30, 3) := by decide +kernel
theorem dX9_spreads_197 : decode cX9_spreads 197 = .ok (.iload 5, 2) := by decide +kernel
theorem dX9_spreads_199 : decode cX9_spreads 199 = .ok (.iaload, 1) := by decide +kernel
theorem dX9_spreads_200 : decode cX9_spreads 200 = .ok (.iload 4, 2) := by decide +kernel
theorem dX9_spreads_202 : decode cX9_spreads 202 = .ok (.aload_n 0, 1) := by decide +kernel
theorem dX9_spreads_203 : decode cX9_spreads 203 = .ok (.getfield 36, 3) := by decide +kernel
theorem dX9_spreads_206 : decode cX9_spreads 206 = .ok (.iload 5, 2) := by decide +kernel
theorem dX9_spreads_208 : decode cX9_spreads 208 = .ok (.iaload, 1) := by decide +kernel
theorem dX9_spreads_209 : decode cX9_spreads 209 = .ok (.isub, 1) := by decide +kernel
theorem dX9_spreads_210 : decode cX9_spreads 210 = .ok (.invokestatic 162, 3) := by decide +kernel
theorem dX9_spreads_213 : decode cX9_spreads 213 = .ok (.iload_n 1, 1) := by decide +kernel
theorem dX9_spreads_214 : decode cX9_spreads 214 = .ok (.iload 5, 2) := by decide +kernel
theorem dX9_spreads_216 : decode cX9_spreads 216 = .ok (.iconst 1, 1) := by decide +kernel
theorem dX9_spreads_217 : decode cX9_spreads 217 = .ok (.invokevirtual 158, 3) := by decide +kernel
theorem dX9_spreads_220 : decode cX9_spreads 220 = .ok (.iinc 5 1, 3) := by decide +kernel
theorem dX9_spreads_223 : decode cX9_spreads 223 = .ok (.goto (-165), 3) := by decide +kernel
theorem dX9_spreads_226 : decode cX9_spreads 226 = .ok (.return_, 1) := by decide +kernel
def w_X9_spreads_145 (Q : gS → Prop) (k58 : Int32 → Int32 → Int32 → Int32 → Int32 → gS → Prop) (x1 : Int32) (x2 : Int32) (x3 : Int32) (x4 : Int32) (x5 : Int32) (σ : gS) : Prop :=
    vp_in x5 28 ∧ (¬ (σ 73 x5.toNatClampNeg) = x3 → ∀ y16 : Int32, y16 = x5 + 1 → k58 x1 x2 x3 x4 y16 σ) ∧ ((σ 73 x5.toNatClampNeg) = x3 → vp_in x5 28 ∧ (x4 < (σ 74 x5.toNatClampNeg) → ∀ y19 : Int32, y19 = x5 + 1 → k58 x1 x2 x3 x4 y19 σ) ∧ (¬ x4 < (σ 74 x5.toNatClampNeg) → vp_in x5 28 ∧ vp_in (((40 * x5) + x4) - (σ 74 x5.toNatClampNeg)) 1120 ∧ ((σ 78 (((40 * x5) + x4) - (σ 74 x5.toNatClampNeg)).toNatClampNeg) ≤ 0 → ∀ y23 : Int32, y23 = x5 + 1 → k58 x1 x2 x3 x4 y23 σ) ∧ (¬ (σ 78 (((40 * x5) + x4) - (σ 74 x5.toNatClampNeg)).toNatClampNeg) ≤ 0 → vp_in x5 28 ∧ vp_in x5 28 ∧ w_X9_nodeOf  (fun (r27 : Int32) (s26 : gS) => w_X9_comes  (fun (s28 : gS) => ∀ y30 : Int32, y30 = x5 + 1 → k58 x1 x2 x3 x4 y30 s28) s26 r27 x1 x5 1) σ (σ 72 x5.toNatClampNeg) (x4 - (σ 74 x5.toNatClampNeg)))))
def w_X9_spreads_58 (Q : gS → Prop) : Nat → Int32 → Int32 → Int32 → Int32 → Int32 → gS → Prop
  | 0, _, _, _, _, _, _ => False
  | n58 + 1, x1, x2, x3, x4, x5, σ =>
    ((2 * (σ 76 0)) ≤ x5 → Q σ) ∧ (¬ (2 * (σ 76 0)) ≤ x5 → vp_in x5 28 ∧ (¬ (σ 72 x5.toNatClampNeg) = x3 → w_X9_spreads_145 Q (w_X9_spreads_58 Q n58) x1 x2 x3 x4 x5 σ) ∧ ((σ 72 x5.toNatClampNeg) = x3 → vp_in x5 28 ∧ (x2 ≤ (x4 + (σ 74 x5.toNatClampNeg)) → w_X9_spreads_145 Q (w_X9_spreads_58 Q n58) x1 x2 x3 x4 x5 σ) ∧ (¬ x2 ≤ (x4 + (σ 74 x5.toNatClampNeg)) → vp_in ((40 * x5) + x4) 1120 ∧ vp_in x5 28 ∧ ((σ 75 x5.toNatClampNeg) ≤ (σ 78 ((40 * x5) + x4).toNatClampNeg) → w_X9_spreads_145 Q (w_X9_spreads_58 Q n58) x1 x2 x3 x4 x5 σ) ∧ (¬ (σ 75 x5.toNatClampNeg) ≤ (σ 78 ((40 * x5) + x4).toNatClampNeg) → vp_in x5 28 ∧ vp_in x5 28 ∧ w_X9_nodeOf  (fun (r42 : Int32) (s41 : gS) => w_X9_comes  (fun (s43 : gS) => w_X9_spreads_145 Q (w_X9_spreads_58 Q n58) x1 x2 x3 x4 x5 s43) s41 r42 x1 x5 0) σ (σ 73 x5.toNatClampNeg) (x4 + (σ 74 x5.toNatClampNeg))))))
def w_X9_spreads_55 (Q : gS → Prop) (x1 : Int32) (x2 : Int32) (x3 : Int32) (x4 : Int32) (σ : gS) : Prop :=
    ∃ n58, w_X9_spreads_58 Q n58 x1 x2 x3 x4 0 σ
def w_X9_spreads_29 (Q : gS → Prop) (x1 : Int32) (x2 : Int32) (x3 : Int32) (x4 : Int32) (σ : gS) : Prop :=
    (x4 ≤ 0 → w_X9_spreads_55 Q x1 x2 x3 x4 σ) ∧ (¬ x4 ≤ 0 → vp_in (x1 - 1) 320 ∧ ((σ 77 (x1 - 1).toNatClampNeg) ≤ 0 → w_X9_spreads_55 Q x1 x2 x3 x4 σ) ∧ (¬ (σ 77 (x1 - 1).toNatClampNeg) ≤ 0 → w_X9_comes  (fun (s48 : gS) => w_X9_spreads_55 Q x1 x2 x3 x4 s48) σ (x1 - 1) x1 (-1) 1))
def w_X9_spreads (Q : gS → Prop) (σ : gS) (a1 : Int32) (a2 : Int32) : Prop :=
    ∀ y50 : Int32, y50 = (a1 / 40) → ∀ y51 : Int32, y51 = (a1 - a1 / 40 * 40) → (a2 ≤ (y51 + 1) → w_X9_spreads_29 Q a1 a2 y50 y51 σ) ∧ (¬ a2 ≤ (y51 + 1) → w_X9_comes  (fun (s53 : gS) => w_X9_spreads_29 Q a1 a2 y50 y51 s53) σ (a1 + 1) a1 (-1) 0)
abbrev ws_X9_spreads : List Cond := Cond.code yX9_spreads cX9_spreads 6 none :: gG
abbrev rm_X9_spreads : Room := { frames := 1, cells := 0, slots := 0, locals := 24 }
theorem k_X9_spreads : gCV yX9_spreads RX9 cX9_spreads 6 none 2 := ⟨gw_5_184, gwp_44, gw_1_11, gw_5_185, rfl, by decide +kernel⟩
set_option maxHeartbeats 4000000 in
set_option maxRecDepth 100000 in
theorem c_X9_spreads (l : Launch) (D : va_G) (cy : Nat → ClassId) (ad : Nat → Nat) (A : Nat → Prop) (Q : gS → Prop) (σ : gS) (a1 : Int32) (a2 : Int32) (h : w_X9_spreads Q σ a1 a2) : Met l yX9_spreads ws_X9_spreads rm_X9_spreads (va_Pc [.ref (ad 10), .int a1, .int a2] (gB D cy ad A σ)) (va_Qv Q (gB D cy ad A) A) 0 0 A := by
  refine Met.ofW (cc := cX9_spreads) (maxL := 6) (ret := none) (by decide) rfl ?_
  intro p e s m args below meth c s₁ B hml hv
  obtain ⟨rfl, hB⟩ := hv
  have hC : gC p c cX9_spreads s m ([.ref (ad 10), .int a1, .int a2] : List Value).toArray RX9 D cy ad A := g_start B hB
  have hI := g_first hB
  have hx := hC.1
  have hb := hC.2.1
  have hr := B.returns
  have hlocks := B.notSynchronized
  clear B hB
  have J58 : ∀ (n58 : Nat) (x1 : Int32) (x2 : Int32) (x3 : Int32) (x4 : Int32) (x5 : Int32) (σ : gS) (H : Heap) (locs : List Loc) (ls : Array Slot), w_X9_spreads_58 Q n58 x1 x2 x3 x4 x5 σ → gI D cy ad A s.heap σ H locs → lv_has ls 6 [(0, .ref (ad 10)), (1, .int x1), (2, .int x2), (3, .int x3), (4, .int x4), (5, .int x5)] → W p l e (headSpec ws_X9_spreads rm_X9_spreads).room s m ([.ref (ad 10), .int a1, .int a2] : List Value).toArray below meth c H locs 0 0 (MQ below (va_Qv Q (gB D cy ad A) A) ([.ref (ad 10), .int a1, .int a2] : List Value).toArray s 0 0 A) (F0 m 58 ls []) := by
    intro n58
    induction n58 with
    | zero => intro x1 x2 x3 x4 x5 σ H locs ls h; exact absurd h (fun h => h)
    | succ n58 ih58 =>
      have J145 : ∀ (x1 : Int32) (x2 : Int32) (x3 : Int32) (x4 : Int32) (x5 : Int32) (σ : gS) (H : Heap) (locs : List Loc) (ls : Array Slot), w_X9_spreads_145 Q (w_X9_spreads_58 Q n58) x1 x2 x3 x4 x5 σ → gI D cy ad A s.heap σ H locs → lv_has ls 6 [(0, .ref (ad 10)), (1, .int x1), (2, .int x2), (3, .int x3), (4, .int x4), (5, .int x5)] → W p l e (headSpec ws_X9_spreads rm_X9_spreads).room s m ([.ref (ad 10), .int a1, .int a2] : List Value).toArray below meth c H locs 0 0 (MQ below (va_Qv Q (gB D cy ad A) A) ([.ref (ad 10), .int a1, .int a2] : List Value).toArray s 0 0 A) (F0 m 145 ls []) := by
        intro x1 x2 x3 x4 x5 σ H locs ls h hI hl
        unfold w_X9_spreads_145 at h
        refine lv_aload_n hx hb dX9_spreads_145 rfl (lv_at hl 0 rfl) ?_
        refine gg_X9_to hC hI gw_4_198 dX9_spreads_146 ?_
        refine lv_iload hx hb dX9_spreads_149 (lv_at hl 5 rfl) ?_
        obtain ⟨hi14, h⟩ := h
        refine ga_57 hC hI hi14 dX9_spreads_151 ?_
        refine lv_iload_n hx hb dX9_spreads_152 rfl (lv_at hl 3 rfl) ?_
        refine lv_icmp_ne (tgt := 220) hx hb dX9_spreads_153 (by decide) (fun c15 => ?_) (fun c15 => ?_)
        · have h := h.1 c15
          obtain ⟨y16, ey16⟩ : ∃ y : Int32, y = x5 + 1 := ⟨_, rfl⟩
          have h := h y16 ey16
          refine lv_iinc (v := y16) (lv' := [(5, .int y16), (0, .ref (ad 10)), (1, .int x1), (2, .int x2), (3, .int x3), (4, .int x4)]) hx hb dX9_spreads_220 hl (k := 5) rfl (by rw [ey16]; rfl) (by decide) rfl (fun ls hl => ?_)
          refine lv_goto (tgt := 58) hx hb dX9_spreads_223 (by decide) ?_
          exact ih58 _ _ _ _ _ _ _ _ _ h hI (lv_sub hl [1, 2, 3, 4, 5, 0] rfl)
        · have h := h.2 c15
          refine lv_iload hx hb dX9_spreads_156 (lv_at hl 4 rfl) ?_
          refine lv_aload_n hx hb dX9_spreads_158 rfl (lv_at hl 0 rfl) ?_
          refine gg_X9_length hC hI gw_4_199 dX9_spreads_159 ?_
          refine lv_iload hx hb dX9_spreads_162 (lv_at hl 5 rfl) ?_
          obtain ⟨hi17, h⟩ := h
          refine ga_58 hC hI hi17 dX9_spreads_164 ?_
          refine lv_icmp_lt (tgt := 220) hx hb dX9_spreads_165 (by decide) (fun c18 => ?_) (fun c18 => ?_)
          · have h := h.1 c18
            obtain ⟨y19, ey19⟩ : ∃ y : Int32, y = x5 + 1 := ⟨_, rfl⟩
            have h := h y19 ey19
            refine lv_iinc (v := y19) (lv' := [(5, .int y19), (0, .ref (ad 10)), (1, .int x1), (2, .int x2), (3, .int x3), (4, .int x4)]) hx hb dX9_spreads_220 hl (k := 5) rfl (by rw [ey19]; rfl) (by decide) rfl (fun ls hl => ?_)
            refine lv_goto (tgt := 58) hx hb dX9_spreads_223 (by decide) ?_
            exact ih58 _ _ _ _ _ _ _ _ _ h hI (lv_sub hl [1, 2, 3, 4, 5, 0] rfl)
          · have h := h.2 c18
            refine lv_aload_n hx hb dX9_spreads_168 rfl (lv_at hl 0 rfl) ?_
            refine gg_X9_goes hC hI gw_4_203 dX9_spreads_169 ?_
            refine lv_bipush (v := 40) hx hb dX9_spreads_172 (by decide) ?_
            refine lv_iload hx hb dX9_spreads_174 (lv_at hl 5 rfl) ?_
            refine lv_imul hx hb dX9_spreads_176 ?_
            refine lv_iload hx hb dX9_spreads_177 (lv_at hl 4 rfl) ?_
            refine lv_iadd hx hb dX9_spreads_179 ?_
            refine lv_aload_n hx hb dX9_spreads_180 rfl (lv_at hl 0 rfl) ?_
            refine gg_X9_length hC hI gw_4_199 dX9_spreads_181 ?_
            refine lv_iload hx hb dX9_spreads_184 (lv_at hl 5 rfl) ?_
            obtain ⟨hi20, h⟩ := h
            refine ga_58 hC hI hi20 dX9_spreads_186 ?_
            refine lv_isub hx hb dX9_spreads_187 ?_
            obtain ⟨hi21, h⟩ := h
            refine ga_61 hC hI hi21 dX9_spreads_188 ?_
            refine lv_if_le (tgt := 220) hx hb dX9_spreads_189 (by decide) (fun c22 => ?_) (fun c22 => ?_)
            · have h := h.1 c22
              obtain ⟨y23, ey23⟩ : ∃ y : Int32, y = x5 + 1 := ⟨_, rfl⟩
              have h := h y23 ey23
              refine lv_iinc (v := y23) (lv' := [(5, .int y23), (0, .ref (ad 10)), (1, .int x1), (2, .int x2), (3, .int x3), (4, .int x4)]) hx hb dX9_spreads_220 hl (k := 5) rfl (by rw [ey23]; rfl) (by decide) rfl (fun ls hl => ?_)
              refine lv_goto (tgt := 58) hx hb dX9_spreads_223 (by decide) ?_
              exact ih58 _ _ _ _ _ _ _ _ _ h hI (lv_sub hl [1, 2, 3, 4, 5, 0] rfl)
            · have h := h.2 c22
              refine lv_aload_n hx hb dX9_spreads_192 rfl (lv_at hl 0 rfl) ?_
              refine lv_aload_n hx hb dX9_spreads_193 rfl (lv_at hl 0 rfl) ?_
              refine gg_X9_from hC hI gw_4_197 dX9_spreads_194 ?_
              refine lv_iload hx hb dX9_spreads_197 (lv_at hl 5 rfl) ?_
              obtain ⟨hi24, h⟩ := h
              refine ga_56 hC hI hi24 dX9_spreads_199 ?_
              refine lv_iload hx hb dX9_spreads_200 (lv_at hl 4 rfl) ?_
              refine lv_aload_n hx hb dX9_spreads_202 rfl (lv_at hl 0 rfl) ?_
              refine gg_X9_length hC hI gw_4_199 dX9_spreads_203 ?_
              refine lv_iload hx hb dX9_spreads_206 (lv_at hl 5 rfl) ?_
              obtain ⟨hi25, h⟩ := h
              refine ga_58 hC hI hi25 dX9_spreads_208 ?_
              refine lv_isub hx hb dX9_spreads_209 ?_
              refine g_backi hI (g_runS (As := [.int (σ 72 x5.toNatClampNeg), .int (x4 - (σ 74 x5.toNatClampNeg))]) (rest := [.ref (ad 10)]) hC hml hI (c_X9_nodeOf l D cy ad A _  _ _ _ h) k_X9_nodeOf gw_5_161 ⟨rfl, rfl⟩ ⟨Nat.le_of_ble_eq_true rfl, Nat.le_of_ble_eq_true rfl⟩ rfl hl.1 rfl (Nat.le_of_ble_eq_true rfl) dX9_spreads_210 ⟨Nat.le_of_ble_eq_true rfl, Nat.le_of_ble_eq_true rfl⟩) (fun r27 s26 H locs h hI => ?_)
              refine lv_iload_n hx hb dX9_spreads_213 rfl (lv_at hl 1 rfl) ?_
              refine lv_iload hx hb dX9_spreads_214 (lv_at hl 5 rfl) ?_
              refine lv_iconst (v := 1) hx hb dX9_spreads_216 (by decide) ?_
              refine g_backv hI (g_runV (As := [.int r27, .int x1, .int x5, .int 1]) (rest := []) hC hml hI (c_X9_comes l D cy ad A _  _ _ _ _ _ h) k_X9_comes gw_5_164 ⟨rfl, rfl⟩ ⟨Nat.le_of_ble_eq_true rfl, Nat.le_of_ble_eq_true rfl⟩ (grv_10 hC hI) rfl hl.1 rfl (Nat.le_of_ble_eq_true rfl) dX9_spreads_217 ⟨Nat.le_of_ble_eq_true rfl, Nat.le_of_ble_eq_true rfl⟩) (fun s28 H locs h hI => ?_)
              obtain ⟨y30, ey30⟩ : ∃ y : Int32, y = x5 + 1 := ⟨_, rfl⟩
              have h := h y30 ey30
              refine lv_iinc (v := y30) (lv' := [(5, .int y30), (0, .ref (ad 10)), (1, .int x1), (2, .int x2), (3, .int x3), (4, .int x4)]) hx hb dX9_spreads_220 hl (k := 5) rfl (by rw [ey30]; rfl) (by decide) rfl (fun ls hl => ?_)
              refine lv_goto (tgt := 58) hx hb dX9_spreads_223 (by decide) ?_
              exact ih58 _ _ _ _ _ _ _ _ _ h hI (lv_sub hl [1, 2, 3, 4, 5, 0] rfl)
      intro x1 x2 x3 x4 x5 σ H locs ls h hI hl
      unfold w_X9_spreads_58 at h
      refine lv_iload hx hb dX9_spreads_58 (lv_at hl 5 rfl) ?_
      refine lv_iconst (v := 2) hx hb dX9_spreads_60 (by decide) ?_
      refine lv_aload_n hx hb dX9_spreads_61 rfl (lv_at hl 0 rfl) ?_
      refine gg_X9_ways hC hI gw_4_201 dX9_spreads_62 ?_
      refine lv_imul hx hb dX9_spreads_65 ?_
      refine lv_icmp_ge (tgt := 226) hx hb dX9_spreads_66 (by decide) (fun c31 => ?_) (fun c31 => ?_)
      · have h := h.1 c31
        exact g_vret hC hr hlocks hI h dX9_spreads_226
      · have h := h.2 c31
        refine lv_aload_n hx hb dX9_spreads_69 rfl (lv_at hl 0 rfl) ?_
        refine gg_X9_from hC hI gw_4_197 dX9_spreads_70 ?_
        refine lv_iload hx hb dX9_spreads_73 (lv_at hl 5 rfl) ?_
        obtain ⟨hi32, h⟩ := h
        refine ga_56 hC hI hi32 dX9_spreads_75 ?_
        refine lv_iload_n hx hb dX9_spreads_76 rfl (lv_at hl 3 rfl) ?_
        refine lv_icmp_ne (tgt := 145) hx hb dX9_spreads_77 (by decide) (fun c33 => ?_) (fun c33 => ?_)
        · have h := h.1 c33
          exact J145 _ _ _ _ _ _ _ _ _ h hI (lv_sub hl [0, 1, 2, 3, 4, 5] rfl)
        · have h := h.2 c33
          refine lv_iload hx hb dX9_spreads_80 (lv_at hl 4 rfl) ?_
          refine lv_aload_n hx hb dX9_spreads_82 rfl (lv_at hl 0 rfl) ?_
          refine gg_X9_length hC hI gw_4_199 dX9_spreads_83 ?_
          refine lv_iload hx hb dX9_spreads_86 (lv_at hl 5 rfl) ?_
          obtain ⟨hi34, h⟩ := h
          refine ga_58 hC hI hi34 dX9_spreads_88 ?_
          refine lv_iadd hx hb dX9_spreads_89 ?_
          refine lv_iload_n hx hb dX9_spreads_90 rfl (lv_at hl 2 rfl) ?_
          refine lv_icmp_ge (tgt := 145) hx hb dX9_spreads_91 (by decide) (fun c35 => ?_) (fun c35 => ?_)
          · have h := h.1 c35
            exact J145 _ _ _ _ _ _ _ _ _ h hI (lv_sub hl [0, 1, 2, 3, 4, 5] rfl)
          · have h := h.2 c35
            refine lv_aload_n hx hb dX9_spreads_94 rfl (lv_at hl 0 rfl) ?_
            refine gg_X9_goes hC hI gw_4_203 dX9_spreads_95 ?_
            refine lv_bipush (v := 40) hx hb dX9_spreads_98 (by decide) ?_
            refine lv_iload hx hb dX9_spreads_100 (lv_at hl 5 rfl) ?_
            refine lv_imul hx hb dX9_spreads_102 ?_
            refine lv_iload hx hb dX9_spreads_103 (lv_at hl 4 rfl) ?_
            refine lv_iadd hx hb dX9_spreads_105 ?_
            obtain ⟨hi36, h⟩ := h
            refine ga_61 hC hI hi36 dX9_spreads_106 ?_
            refine lv_aload_n hx hb dX9_spreads_107 rfl (lv_at hl 0 rfl) ?_
            refine gg_X9_wide hC hI gw_4_200 dX9_spreads_108 ?_
            refine lv_iload hx hb dX9_spreads_111 (lv_at hl 5 rfl) ?_
            obtain ⟨hi37, h⟩ := h
            refine ga_59 hC hI hi37 dX9_spreads_113 ?_
            refine lv_icmp_ge (tgt := 145) hx hb dX9_spreads_114 (by decide) (fun c38 => ?_) (fun c38 => ?_)
            · have h := h.1 c38
              exact J145 _ _ _ _ _ _ _ _ _ h hI (lv_sub hl [0, 1, 2, 3, 4, 5] rfl)
            · have h := h.2 c38
              refine lv_aload_n hx hb dX9_spreads_117 rfl (lv_at hl 0 rfl) ?_
              refine lv_aload_n hx hb dX9_spreads_118 rfl (lv_at hl 0 rfl) ?_
              refine gg_X9_to hC hI gw_4_198 dX9_spreads_119 ?_
              refine lv_iload hx hb dX9_spreads_122 (lv_at hl 5 rfl) ?_
              obtain ⟨hi39, h⟩ := h
              refine ga_57 hC hI hi39 dX9_spreads_124 ?_
              refine lv_iload hx hb dX9_spreads_125 (lv_at hl 4 rfl) ?_
              refine lv_aload_n hx hb dX9_spreads_127 rfl (lv_at hl 0 rfl) ?_
              refine gg_X9_length hC hI gw_4_199 dX9_spreads_128 ?_
              refine lv_iload hx hb dX9_spreads_131 (lv_at hl 5 rfl) ?_
              obtain ⟨hi40, h⟩ := h
              refine ga_58 hC hI hi40 dX9_spreads_133 ?_
              refine lv_iadd hx hb dX9_spreads_134 ?_
              refine g_backi hI (g_runS (As := [.int (σ 73 x5.toNatClampNeg), .int (x4 + (σ 74 x5.toNatClampNeg))]) (rest := [.ref (ad 10)]) hC hml hI (c_X9_nodeOf l D cy ad A _  _ _ _ h) k_X9_nodeOf gw_5_161 ⟨rfl, rfl⟩ ⟨Nat.le_of_ble_eq_true rfl, Nat.le_of_ble_eq_true rfl⟩ rfl hl.1 rfl (Nat.le_of_ble_eq_true rfl) dX9_spreads_135 ⟨Nat.le_of_ble_eq_true rfl, Nat.le_of_ble_eq_true rfl⟩) (fun r42 s41 H locs h hI => ?_)
              refine lv_iload_n hx hb dX9_spreads_138 rfl (lv_at hl 1 rfl) ?_
              refine lv_iload hx hb dX9_spreads_139 (lv_at hl 5 rfl) ?_
              refine lv_iconst (v := 0) hx hb dX9_spreads_141 (by decide) ?_
              refine g_backv hI (g_runV (As := [.int r42, .int x1, .int x5, .int 0]) (rest := []) hC hml hI (c_X9_comes l D cy ad A _  _ _ _ _ _ h) k_X9_comes gw_5_164 ⟨rfl, rfl⟩ ⟨Nat.le_of_ble_eq_true rfl, Nat.le_of_ble_eq_true rfl⟩ (grv_10 hC hI) rfl hl.1 rfl (Nat.le_of_ble_eq_true rfl) dX9_spreads_142 ⟨Nat.le_of_ble_eq_true rfl, Nat.le_of_ble_eq_true rfl⟩) (fun s43 H locs h hI => ?_)
              exact J145 _ _ _ _ _ _ _ _ _ h hI (lv_sub hl [0, 1, 2, 3, 4, 5] rfl)
  have J55 : ∀ (x1 : Int32) (x2 : Int32) (x3 : Int32) (x4 : Int32) (σ : gS) (H : Heap) (locs : List Loc) (ls : Array Slot), w_X9_spreads_55 Q x1 x2 x3 x4 σ → gI D cy ad A s.heap σ H locs → lv_has ls 6 [(0, .ref (ad 10)), (1, .int x1), (2, .int x2), (3, .int x3), (4, .int x4)] → W p l e (headSpec ws_X9_spreads rm_X9_spreads).room s m ([.ref (ad 10), .int a1, .int a2] : List Value).toArray below meth c H locs 0 0 (MQ below (va_Qv Q (gB D cy ad A) A) ([.ref (ad 10), .int a1, .int a2] : List Value).toArray s 0 0 A) (F0 m 55 ls []) := by
    intro x1 x2 x3 x4 σ H locs ls h hI hl
    unfold w_X9_spreads_55 at h
    refine lv_iconst (v := 0) hx hb dX9_spreads_55 (by decide) ?_
    refine lv_istore (lv' := [(5, .int 0), (0, .ref (ad 10)), (1, .int x1), (2, .int x2), (3, .int x3), (4, .int x4)]) hx hb dX9_spreads_56 hl (by decide) rfl (fun ls hl => ?_)
    obtain ⟨n9, h⟩ := h
    exact J58 n9 _ _ _ _ _ _ _ _ _ h hI (lv_sub hl [1, 2, 3, 4, 5, 0] rfl)
  have J29 : ∀ (x1 : Int32) (x2 : Int32) (x3 : Int32) (x4 : Int32) (σ : gS) (H : Heap) (locs : List Loc) (ls : Array Slot), w_X9_spreads_29 Q x1 x2 x3 x4 σ → gI D cy ad A s.heap σ H locs → lv_has ls 6 [(0, .ref (ad 10)), (1, .int x1), (2, .int x2), (3, .int x3), (4, .int x4)] → W p l e (headSpec ws_X9_spreads rm_X9_spreads).room s m ([.ref (ad 10), .int a1, .int a2] : List Value).toArray below meth c H locs 0 0 (MQ below (va_Qv Q (gB D cy ad A) A) ([.ref (ad 10), .int a1, .int a2] : List Value).toArray s 0 0 A) (F0 m 29 ls []) := by
    intro x1 x2 x3 x4 σ H locs ls h hI hl
    unfold w_X9_spreads_29 at h
    refine lv_iload hx hb dX9_spreads_29 (lv_at hl 4 rfl) ?_
    refine lv_if_le (tgt := 55) hx hb dX9_spreads_31 (by decide) (fun c45 => ?_) (fun c45 => ?_)
    · have h := h.1 c45
      exact J55 _ _ _ _ _ _ _ _ h hI (lv_sub hl [0, 1, 2, 3, 4] rfl)
    · have h := h.2 c45
      refine lv_aload_n hx hb dX9_spreads_34 rfl (lv_at hl 0 rfl) ?_
      refine gg_X9_waits hC hI gw_4_202 dX9_spreads_35 ?_
      refine lv_iload_n hx hb dX9_spreads_38 rfl (lv_at hl 1 rfl) ?_
      refine lv_iconst (v := 1) hx hb dX9_spreads_39 (by decide) ?_
      refine lv_isub hx hb dX9_spreads_40 ?_
      obtain ⟨hi46, h⟩ := h
      refine ga_60 hC hI hi46 dX9_spreads_41 ?_
      refine lv_if_le (tgt := 55) hx hb dX9_spreads_42 (by decide) (fun c47 => ?_) (fun c47 => ?_)
      · have h := h.1 c47
        exact J55 _ _ _ _ _ _ _ _ h hI (lv_sub hl [0, 1, 2, 3, 4] rfl)
      · have h := h.2 c47
        refine lv_aload_n hx hb dX9_spreads_45 rfl (lv_at hl 0 rfl) ?_
        refine lv_iload_n hx hb dX9_spreads_46 rfl (lv_at hl 1 rfl) ?_
        refine lv_iconst (v := 1) hx hb dX9_spreads_47 (by decide) ?_
        refine lv_isub hx hb dX9_spreads_48 ?_
        refine lv_iload_n hx hb dX9_spreads_49 rfl (lv_at hl 1 rfl) ?_
        refine lv_iconst (v := (-1)) hx hb dX9_spreads_50 (by decide) ?_
        refine lv_iconst (v := 1) hx hb dX9_spreads_51 (by decide) ?_
        refine g_backv hI (g_runV (As := [.int (x1 - 1), .int x1, .int (-1), .int 1]) (rest := []) hC hml hI (c_X9_comes l D cy ad A _  _ _ _ _ _ h) k_X9_comes gw_5_164 ⟨rfl, rfl⟩ ⟨Nat.le_of_ble_eq_true rfl, Nat.le_of_ble_eq_true rfl⟩ (grv_10 hC hI) rfl hl.1 rfl (Nat.le_of_ble_eq_true rfl) dX9_spreads_52 ⟨Nat.le_of_ble_eq_true rfl, Nat.le_of_ble_eq_true rfl⟩) (fun s48 H locs h hI => ?_)
        exact J55 _ _ _ _ _ _ _ _ h hI (lv_sub hl [0, 1, 2, 3, 4] rfl)
  have hl := lv_entry ([.ref (ad 10), .int a1, .int a2]) (n := 6) (Nat.le_of_ble_eq_true rfl)
  rw [lg_entry_eq]
  generalize (lg_sl ([.ref (ad 10), .int a1, .int a2]) ++ List.replicate (6 - (lg_sl ([.ref (ad 10), .int a1, .int a2])).length) Slot.unset).toArray = ls at hl ⊢
  have hl : lv_has ls 6 [(0, .ref (ad 10)), (1, .int a1), (2, .int a2)] := hl
  unfold w_X9_spreads at h
  refine lv_iload_n hx hb dX9_spreads_0 rfl (lv_at hl 1 rfl) ?_
  refine lv_bipush (v := 40) hx hb dX9_spreads_1 (by decide) ?_
  refine lv_idiv hx hb dX9_spreads_3 (by decide) ?_
  refine lv_topi (fun y50 ey50 => ?_)
  have h := h y50 ey50
  refine lv_istore_n (lv' := [(3, .int y50), (0, .ref (ad 10)), (1, .int a1), (2, .int a2)]) hx hb dX9_spreads_4 rfl hl (by decide) rfl (fun ls hl => ?_)
  refine lv_iload_n hx hb dX9_spreads_5 rfl (lv_at hl 2 rfl) ?_
  refine lv_bipush (v := 40) hx hb dX9_spreads_6 (by decide) ?_
  refine lv_irem hx hb dX9_spreads_8 (by decide) ?_
  refine lv_topi (fun y51 ey51 => ?_)
  have h := h y51 ey51
  refine lv_istore (lv' := [(4, .int y51), (3, .int y50), (0, .ref (ad 10)), (1, .int a1), (2, .int a2)]) hx hb dX9_spreads_9 hl (by decide) rfl (fun ls hl => ?_)
  refine lv_iload hx hb dX9_spreads_11 (lv_at hl 0 rfl) ?_
  refine lv_iconst (v := 1) hx hb dX9_spreads_13 (by decide) ?_
  refine lv_iadd hx hb dX9_spreads_14 ?_
  refine lv_iload_n hx hb dX9_spreads_15 rfl (lv_at hl 4 rfl) ?_
  refine lv_icmp_ge (tgt := 29) hx hb dX9_spreads_16 (by decide) (fun c52 => ?_) (fun c52 => ?_)
  · have h := h.1 c52
    exact J29 _ _ _ _ _ _ _ _ h hI (lv_sub hl [2, 3, 4, 1, 0] rfl)
  · have h := h.2 c52
    refine lv_aload_n hx hb dX9_spreads_19 rfl (lv_at hl 2 rfl) ?_
    refine lv_iload_n hx hb dX9_spreads_20 rfl (lv_at hl 3 rfl) ?_
    refine lv_iconst (v := 1) hx hb dX9_spreads_21 (by decide) ?_
    refine lv_iadd hx hb dX9_spreads_22 ?_
    refine lv_iload_n hx hb dX9_spreads_23 rfl (lv_at hl 3 rfl) ?_
    refine lv_iconst (v := (-1)) hx hb dX9_spreads_24 (by decide) ?_
    refine lv_iconst (v := 0) hx hb dX9_spreads_25 (by decide) ?_
    refine g_backv hI (g_runV (As := [.int (a1 + 1), .int a1, .int (-1), .int 0]) (rest := []) hC hml hI (c_X9_comes l D cy ad A _  _ _ _ _ _ h) k_X9_comes gw_5_164 ⟨rfl, rfl⟩ ⟨Nat.le_of_ble_eq_true rfl, Nat.le_of_ble_eq_true rfl⟩ (grv_10 hC hI) rfl hl.1 rfl (Nat.le_of_ble_eq_true rfl) dX9_spreads_26 ⟨Nat.le_of_ble_eq_true rfl, Nat.le_of_ble_eq_true rfl⟩) (fun s53 H locs h hI => ?_)
    exact J29 _ _ _ _ _ _ _ _ h hI (lv_sub hl [2, 3, 4, 1, 0] rfl)

theorem dX9_bears_0 : decode cX9_bears 0 = .ok (.aload_n 0, 1) := by decide +kernel
theorem dX9_bears_1 : decode cX9_bears 1 = .ok (.getfield 54, 3) := by decide +kernel
theorem dX9_bears_4 : decode cX9_bears 4 = .ok (.iload_n 1, 1) := by decide +kernel
theorem dX9_bears_5 : decode cX9_bears 5 = .ok (.iaload, 1) := by decide +kernel
theorem dX9_bears_6 : decode cX9_bears 6 = .ok (.istore_n 2, 1) := by decide +kernel
theorem dX9_bears_7 : decode cX9_bears 7 = .ok (.aload_n 0, 1) := by decide +kernel
theorem dX9_bears_8 : decode cX9_bears 8 = .ok (.getfield 57, 3) := by decide +kernel
theorem dX9_bears_11 : decode cX9_bears 11 = .ok (.iload_n 1, 1) := by decide +kernel
theorem dX9_bears_12 : decode cX9_bears 12 = .ok (.iaload, 1) := by decide +kernel
theorem dX9_bears_13 : decode cX9_bears 13 = .ok (.istore_n 3, 1) := by decide +kernel
theorem dX9_bears_14 : decode cX9_bears 14 = .ok (.iload_n 3, 1) := by decide +kernel
theorem dX9_bears_15 : decode cX9_bears 15 = .ok (.ifCond .ge 24, 3) := by decide +kernel
theorem dX9_bears_18 : decode cX9_bears 18 = .ok (.aload_n 0, 1) := by decide +kernel
theorem dX9_bears_19 : decode cX9_bears 19 = .ok (.getfield 60, 3) := by decide +kernel
theorem dX9_bears_22 : decode cX9_bears 22 = .ok (.iload_n 1, 1) := by decide +kernel
theorem dX9_bears_23 : decode cX9_bears 23 = .ok (.baload, 1) := by decide +kernel
theorem dX9_bears_24 : decode cX9_bears 24 = .ok (.ifCond .eq 12, 3) := by decide +kernel
theorem dX9_bears_27 : decode cX9_bears 27 = .ok (.aload_n 0, 1) := by decide +kernel
theorem dX9_bears_28 : decode cX9_bears 28 = .ok (.getfield 42, 3) := by decide +kernel
theorem dX9_bears_31 : decode cX9_bears 31 = .ok (.iload_n 1, 1) := by decide +kernel
theorem dX9_bears_32 : decode cX9_bears 32 = .ok (.iaload, 1) := by decide +kernel
theorem dX9_bears_33 : decode cX9_bears 33 = .ok (.goto 5, 3) := by decide +kernel
theorem dX9_bears_36 : decode cX9_bears 36 = .ok (.ldc 166, 2) := by decide +kernel
theorem dX9_bears_38 : decode cX9_bears 38 = .ok (.ireturn, 1) := by decide +kernel
theorem dX9_bears_39 : decode cX9_bears 39 = .ok (.aload_n 0, 1) := by decide +kernel
theorem dX9_bears_40 : decode cX9_bears 40 = .ok (.getfield 60, 3) := by decide +kernel
theorem dX9_bears_43 : decode cX9_bears 43 = .ok (.iload_n 1, 1) := by decide +kernel
theorem dX9_bears_44 : decode cX9_bears 44 = .ok (.baload, 1) := by decide +kernel
theorem dX9_bears_45 : decode cX9_bears 45 = .ok (.ifCond .eq 20, 3) := by decide +kernel
theorem dX9_bears_48 : decode cX9_bears 48 = .ok (.aload_n 0, 1) := by decide +kernel
theorem dX9_bears_49 : decode cX9_bears 49 = .ok (.getfield 45, 3) := by decide +kernel
theorem dX9_bears_52 : decode cX9_bears 52 = .ok (.bipush 40, 2) := by decide +kernel
theorem dX9_bears_54 : decode cX9_bears 54 = .ok (.iload_n 3, 1) := by decide +kernel
theorem dX9_bears_55 : decode cX9_bears 55 = .ok (.imul, 1) := by decide +kernel
theorem dX9_bears_56 : decode cX9_bears 56 = .ok (.iload_n 1, 1) := by decide +kernel
theorem dX9_bears_57 : decode cX9_bears 57 = .ok (.bipush 40, 2) := by decide +kernel
theorem dX9_bears_59 : decode cX9_bears 59 = .ok (.irem, 1) := by decide +kernel
theorem dX9_bears_60 : decode cX9_bears 60 = .ok (.iadd, 1) := by decide +kernel
theorem dX9_bears_61 : decode cX9_bears 61 = .ok (.iaload, 1) := by decide +kernel
theorem dX9_bears_62 : decode cX9_bears 62 = .ok (.goto 24, 3) := by decide +kernel
theorem dX9_bears_65 : decode cX9_bears 65 = .ok (.aload_n 0, 1) := by decide +kernel
theorem dX9_bears_66 : decode cX9_bears 66 = .ok (.getfield 39, 3) := by decide +kernel
theorem dX9_bears_69 : decode cX9_bears 69 = .ok (.iload_n 3, 1) := by decide +kernel
theorem dX9_bears_70 : decode cX9_bears 70 = .ok (.iaload, 1) := by decide +kernel
theorem dX9_bears_71 : decode cX9_bears 71 = .ok (.aload_n 0, 1) := by decide +kernel
theorem dX9_bears_72 : decode cX9_bears 72 = .ok (.getfield 45, 3) := by decide +kernel
theorem dX9_bears_75 : decode cX9_bears 75 = .ok (.bipush 40, 2) := by decide +kernel
theorem dX9_bears_77 : decode cX9_bears 77 = .ok (.iload_n 3, 1) := by decide +kernel
theorem dX9_bears_78 : decode cX9_bears 78 = .ok (.imul, 1) := by decide +kernel
theorem dX9_bears_79 : decode cX9_bears 79 = .ok (.iload_n 2, 1) := by decide +kernel
theorem dX9_bears_80 : decode cX9_bears 80 = .ok (.bipush 40, 2) := by decide +kernel
theorem dX9_bears_82 : decode cX9_bears 82 = .ok (.irem, 1) := by decide +kernel
theorem dX9_bears_83 : decode cX9_bears 83 = .ok (.iadd, 1) := by decide +kernel
theorem dX9_bears_84 : decode cX9_bears 84 = .ok (.iaload, 1) := by decide +kernel
theorem dX9_bears_85 : decode cX9_bears 85 = .ok (.isub, 1) := by decide +kernel
theorem dX9_bears_86 : decode cX9_bears 86 = .ok (.ireturn, 1) := by decide +kernel
def w_X9_bears (Q : Int32 → gS → Prop) (σ : gS) (a1 : Int32) : Prop :=
    vp_in a1 320 ∧ ∀ y10 : Int32, y10 = (σ 81 a1.toNatClampNeg) → vp_in a1 320 ∧ ∀ y12 : Int32, y12 = (σ 82 a1.toNatClampNeg) → (0 ≤ y12 → vp_in a1 320 ∧ ((σ 83 a1.toNatClampNeg) = 0 → vp_in y12 28 ∧ vp_in ((40 * y12) + (y10 - y10 / 40 * 40)) 1120 ∧ Q ((σ 75 y12.toNatClampNeg) - (σ 78 ((40 * y12) + (y10 - y10 / 40 * 40)).toNatClampNeg)) σ) ∧ (¬ (σ 83 a1.toNatClampNeg) = 0 → vp_in ((40 * y12) + (a1 - a1 / 40 * 40)) 1120 ∧ Q (σ 78 ((40 * y12) + (a1 - a1 / 40 * 40)).toNatClampNeg) σ)) ∧ (¬ 0 ≤ y12 → vp_in a1 320 ∧ ((σ 83 a1.toNatClampNeg) = 0 → Q 1000000 σ) ∧ (¬ (σ 83 a1.toNatClampNeg) = 0 → vp_in a1 320 ∧ Q (σ 77 a1.toNatClampNeg) σ))
abbrev ws_X9_bears : List Cond := Cond.code yX9_bears cX9_bears 4 (some .int) :: gG
abbrev rm_X9_bears : Room := { frames := 0, cells := 0, slots := 0, locals := 0 }
theorem k_X9_bears : gCV yX9_bears RX9 cX9_bears 4 (some .int) 1 := ⟨gw_5_174, gwp_42, gw_1_11, gw_5_175, rfl, by decide +kernel⟩
set_option maxHeartbeats 4000000 in
set_option maxRecDepth 100000 in
theorem c_X9_bears (l : Launch) (D : va_G) (cy : Nat → ClassId) (ad : Nat → Nat) (A : Nat → Prop) (Q : Int32 → gS → Prop) (σ : gS) (a1 : Int32) (h : w_X9_bears Q σ a1) : Met l yX9_bears ws_X9_bears rm_X9_bears (va_Pc [.ref (ad 10), .int a1] (gB D cy ad A σ)) (va_Qi Q (gB D cy ad A) A) 0 0 A := by
  refine Met.ofW (cc := cX9_bears) (maxL := 4) (ret := (some .int)) (by decide) rfl ?_
  intro p e s m args below meth c s₁ B hml hv
  obtain ⟨rfl, hB⟩ := hv
  have hC : gC p c cX9_bears s m ([.ref (ad 10), .int a1] : List Value).toArray RX9 D cy ad A := g_start B hB
  have hI := g_first hB
  have hx := hC.1
  have hb := hC.2.1
  have hr := B.returns
  have hlocks := B.notSynchronized
  clear B hB
  have hl := lv_entry ([.ref (ad 10), .int a1]) (n := 4) (Nat.le_of_ble_eq_true rfl)
  rw [lg_entry_eq]
  generalize (lg_sl ([.ref (ad 10), .int a1]) ++ List.replicate (4 - (lg_sl ([.ref (ad 10), .int a1])).length) Slot.unset).toArray = ls at hl ⊢
  have hl : lv_has ls 4 [(0, .ref (ad 10)), (1, .int a1)] := hl
  unfold w_X9_bears at h
  refine lv_aload_n hx hb dX9_bears_0 rfl (lv_at hl 0 rfl) ?_
  refine gg_X9_cameFrom hC hI gw_4_206 dX9_bears_1 ?_
  refine lv_iload_n hx hb dX9_bears_4 rfl (lv_at hl 1 rfl) ?_
  obtain ⟨hi9, h⟩ := h
  refine ga_64 hC hI hi9 dX9_bears_5 ?_
  refine lv_topi (fun y10 ey10 => ?_)
  have h := h y10 ey10
  refine lv_istore_n (lv' := [(2, .int y10), (0, .ref (ad 10)), (1, .int a1)]) hx hb dX9_bears_6 rfl hl (by decide) rfl (fun ls hl => ?_)
  refine lv_aload_n hx hb dX9_bears_7 rfl (lv_at hl 1 rfl) ?_
  refine gg_X9_cameBy hC hI gw_4_207 dX9_bears_8 ?_
  refine lv_iload_n hx hb dX9_bears_11 rfl (lv_at hl 2 rfl) ?_
  obtain ⟨hi11, h⟩ := h
  refine ga_65 hC hI hi11 dX9_bears_12 ?_
  refine lv_topi (fun y12 ey12 => ?_)
  have h := h y12 ey12
  refine lv_istore_n (lv' := [(3, .int y12), (2, .int y10), (0, .ref (ad 10)), (1, .int a1)]) hx hb dX9_bears_13 rfl hl (by decide) rfl (fun ls hl => ?_)
  refine lv_iload_n hx hb dX9_bears_14 rfl (lv_at hl 0 rfl) ?_
  refine lv_if_ge (tgt := 39) hx hb dX9_bears_15 (by decide) (fun c13 => ?_) (fun c13 => ?_)
  · have h := h.1 c13
    refine lv_aload_n hx hb dX9_bears_39 rfl (lv_at hl 2 rfl) ?_
    refine gg_X9_isBack hC hI gw_4_208 dX9_bears_40 ?_
    refine lv_iload_n hx hb dX9_bears_43 rfl (lv_at hl 3 rfl) ?_
    obtain ⟨hi14, h⟩ := h
    refine ga_66 hC hI hi14 dX9_bears_44 ?_
    refine lv_if_eq (tgt := 65) hx hb dX9_bears_45 (by decide) (fun c15 => ?_) (fun c15 => ?_)
    · have h := h.1 c15
      refine lv_aload_n hx hb dX9_bears_65 rfl (lv_at hl 2 rfl) ?_
      refine gg_X9_wide hC hI gw_4_200 dX9_bears_66 ?_
      refine lv_iload_n hx hb dX9_bears_69 rfl (lv_at hl 0 rfl) ?_
      obtain ⟨hi16, h⟩ := h
      refine ga_59 hC hI hi16 dX9_bears_70 ?_
      refine lv_aload_n hx hb dX9_bears_71 rfl (lv_at hl 2 rfl) ?_
      refine gg_X9_goes hC hI gw_4_203 dX9_bears_72 ?_
      refine lv_bipush (v := 40) hx hb dX9_bears_75 (by decide) ?_
      refine lv_iload_n hx hb dX9_bears_77 rfl (lv_at hl 0 rfl) ?_
      refine lv_imul hx hb dX9_bears_78 ?_
      refine lv_iload_n hx hb dX9_bears_79 rfl (lv_at hl 1 rfl) ?_
      refine lv_bipush (v := 40) hx hb dX9_bears_80 (by decide) ?_
      refine lv_irem hx hb dX9_bears_82 (by decide) ?_
      refine lv_iadd hx hb dX9_bears_83 ?_
      obtain ⟨hi17, h⟩ := h
      refine ga_61 hC hI hi17 dX9_bears_84 ?_
      refine lv_isub hx hb dX9_bears_85 ?_
      exact g_iret hC hr hlocks hI h dX9_bears_86
    · have h := h.2 c15
      refine lv_aload_n hx hb dX9_bears_48 rfl (lv_at hl 2 rfl) ?_
      refine gg_X9_goes hC hI gw_4_203 dX9_bears_49 ?_
      refine lv_bipush (v := 40) hx hb dX9_bears_52 (by decide) ?_
      refine lv_iload_n hx hb dX9_bears_54 rfl (lv_at hl 0 rfl) ?_
      refine lv_imul hx hb dX9_bears_55 ?_
      refine lv_iload_n hx hb dX9_bears_56 rfl (lv_at hl 3 rfl) ?_
      refine lv_bipush (v := 40) hx hb dX9_bears_57 (by decide) ?_
      refine lv_irem hx hb dX9_bears_59 (by decide) ?_
      refine lv_iadd hx hb dX9_bears_60 ?_
      obtain ⟨hi18, h⟩ := h
      refine ga_61 hC hI hi18 dX9_bears_61 ?_
      refine lv_goto (tgt := 86) hx hb dX9_bears_62 (by decide) ?_
      exact g_iret hC hr hlocks hI h dX9_bears_86
  · have h := h.2 c13
    refine lv_aload_n hx hb dX9_bears_18 rfl (lv_at hl 2 rfl) ?_
    refine gg_X9_isBack hC hI gw_4_208 dX9_bears_19 ?_
    refine lv_iload_n hx hb dX9_bears_22 rfl (lv_at hl 3 rfl) ?_
    obtain ⟨hi19, h⟩ := h
    refine ga_66 hC hI hi19 dX9_bears_23 ?_
    refine lv_if_eq (tgt := 36) hx hb dX9_bears_24 (by decide) (fun c20 => ?_) (fun c20 => ?_)
    · have h := h.1 c20
      refine lv_ldc (v := 1000000) hx hb hC.2.2.2.1 (hC.2.2.1 _ gw_5_176) dX9_bears_36 ?_
      exact g_iret hC hr hlocks hI h dX9_bears_38
    · have h := h.2 c20
      refine lv_aload_n hx hb dX9_bears_27 rfl (lv_at hl 2 rfl) ?_
      refine gg_X9_waits hC hI gw_4_202 dX9_bears_28 ?_
      refine lv_iload_n hx hb dX9_bears_31 rfl (lv_at hl 3 rfl) ?_
      obtain ⟨hi21, h⟩ := h
      refine ga_60 hC hI hi21 dX9_bears_32 ?_
      refine lv_goto (tgt := 38) hx hb dX9_bears_33 (by decide) ?_
      exact g_iret hC hr hlocks hI h dX9_bears_38

theorem dX9_sends_0 : decode cX9_sends 0 = .ok (.aload_n 0, 1) := by decide +kernel
theorem dX9_sends_1 : decode cX9_sends 1 = .ok (.getfield 54, 3) := by decide +kernel
theorem dX9_sends_4 : decode cX9_sends 4 = .ok (.iload_n 1, 1) := by decide +kernel
theorem dX9_sends_5 : decode cX9_sends 5 = .ok (.iaload, 1) := by decide +kernel
theorem dX9_sends_6 : decode cX9_sends 6 = .ok (.istore_n 3, 1) := by decide +kernel
theorem dX9_sends_7 : decode cX9_sends 7 = .ok (.aload_n 0, 1) := by decide +kernel
theorem dX9_sends_8 : decode cX9_sends 8 = .ok (.getfield 57, 3) := by decide +kernel
theorem dX9_sends_11 : decode cX9_sends 11 = .ok (.iload_n 1, 1) := by decide +kernel
theorem dX9_sends_12 : decode cX9_sends 12 = .ok (.iaload, 1) := by decide +kernel
theorem dX9_sends_13 : decode cX9_sends 13 = .ok (.istore 4, 2) := by decide +kernel
theorem dX9_sends_15 : decode cX9_sends 15 = .ok (.iload 4, 2) := by decide +kernel
theorem dX9_sends_17 : decode cX9_sends 17 = .ok (.ifCond .ge 36, 3) := by decide +kernel
theorem dX9_sends_20 : decode cX9_sends 20 = .ok (.aload_n 0, 1) := by decide +kernel
theorem dX9_sends_21 : decode cX9_sends 21 = .ok (.getfield 60, 3) := by decide +kernel
theorem dX9_sends_24 : decode cX9_sends 24 = .ok (.iload_n 1, 1) := by decide +kernel
theorem dX9_sends_25 : decode cX9_sends 25 = .ok (.baload, 1) := by decide +kernel
theorem dX9_sends_26 : decode cX9_sends 26 = .ok (.ifCond .eq 16, 3) := by decide +kernel
theorem dX9_sends_29 : decode cX9_sends 29 = .ok (.aload_n 0, 1) := by decide +kernel
theorem dX9_sends_30 : decode cX9_sends 30 = .ok (.getfield 42, 3) := by decide +kernel
theorem dX9_sends_33 : decode cX9_sends 33 = .ok (.iload_n 1, 1) := by decide +kernel
theorem dX9_sends_34 : decode cX9_sends 34 = .ok (.dup2, 1) := by decide +kernel
theorem dX9_sends_35 : decode cX9_sends 35 = .ok (.iaload, 1) := by decide +kernel
theorem dX9_sends_36 : decode cX9_sends 36 = .ok (.iload_n 2, 1) := by decide +kernel
theorem dX9_sends_37 : decode cX9_sends 37 = .ok (.isub, 1) := by decide +kernel
theorem dX9_sends_38 : decode cX9_sends 38 = .ok (.iastore, 1) := by decide +kernel
theorem dX9_sends_39 : decode cX9_sends 39 = .ok (.goto 13, 3) := by decide +kernel
theorem dX9_sends_42 : decode cX9_sends 42 = .ok (.aload_n 0, 1) := by decide +kernel
theorem dX9_sends_43 : decode cX9_sends 43 = .ok (.getfield 42, 3) := by decide +kernel
theorem dX9_sends_46 : decode cX9_sends 46 = .ok (.iload_n 3, 1) := by decide +kernel
theorem dX9_sends_47 : decode cX9_sends 47 = .ok (.dup2, 1) := by decide +kernel
theorem dX9_sends_48 : decode cX9_sends 48 = .ok (.iaload, 1) := by decide +kernel
theorem dX9_sends_49 : decode cX9_sends 49 = .ok (.iload_n 2, 1) := by decide +kernel
theorem dX9_sends_50 : decode cX9_sends 50 = .ok (.iadd, 1) := by decide +kernel
theorem dX9_sends_51 : decode cX9_sends 51 = .ok (.iastore, 1) := by decide +kernel
theorem dX9_sends_52 : decode cX9_sends 52 = .ok (.return_, 1) := by decide +kernel
theorem dX9_sends_53 : decode cX9_sends 53 = .ok (.aload_n 0, 1) := by decide +kernel
theorem dX9_sends_54 : decode cX9_sends 54 = .ok (.getfield 60, 3) := by decide +kernel
theorem dX9_sends_57 : decode cX9_sends 57 = .ok (.iload_n 1, 1) := by decide +kernel
theorem dX9_sends_58 : decode cX9_sends 58 = .ok (.baload, 1) := by decide +kernel
theorem dX9_sends_59 : decode cX9_sends 59 = .ok (.ifCond .eq 25, 3) := by decide +kernel
theorem dX9_sends_62 : decode cX9_sends 62 = .ok (.aload_n 0, 1) := by decide +kernel
theorem dX9_sends_63 : decode cX9_sends 63 = .ok (.getfield 45, 3) := by decide +kernel
theorem dX9_sends_66 : decode cX9_sends 66 = .ok (.bipush 40, 2) := by decide +kernel
theorem dX9_sends_68 : decode cX9_sends 68 = .ok (.iload 4, 2) := by decide +kernel
theorem dX9_sends_70 : decode cX9_sends 70 = .ok (.imul, 1) := by decide +kernel
theorem dX9_sends_71 : decode cX9_sends 71 = .ok (.iload_n 1, 1) := by decide +kernel
theorem dX9_sends_72 : decode cX9_sends 72 = .ok (.bipush 40, 2) := by decide +kernel
theorem dX9_sends_74 : decode cX9_sends 74 = .ok (.irem, 1) := by decide +kernel
theorem dX9_sends_75 : decode cX9_sends 75 = .ok (.iadd, 1) := by decide +kernel
theorem dX9_sends_76 : decode cX9_sends 76 = .ok (.dup2, 1) := by decide +kernel
theorem dX9_sends_77 : decode cX9_sends 77 = .ok (.iaload, 1) := by decide +kernel
theorem dX9_sends_78 : decode cX9_sends 78 = .ok (.iload_n 2, 1) := by decide +kernel
theorem dX9_sends_79 : decode cX9_sends 79 = .ok (.isub, 1) := by decide +kernel
theorem dX9_sends_80 : decode cX9_sends 80 = .ok (.iastore, 1) := by decide +kernel
theorem dX9_sends_81 : decode cX9_sends 81 = .ok (.goto 22, 3) := by decide +kernel
theorem dX9_sends_84 : decode cX9_sends 84 = .ok (.aload_n 0, 1) := by decide +kernel
theorem dX9_sends_85 : decode cX9_sends 85 = .ok (.getfield 45, 3) := by decide +kernel
theorem dX9_sends_88 : decode cX9_sends 88 = .ok (.bipush 40, 2) := by decide +kernel
theorem dX9_sends_90 : decode cX9_sends 90 = .ok (.iload 4, 2) := by decide +kernel
theorem dX9_sends_92 : decode cX9_sends 92 = .ok (.imul, 1) := by decide +kernel
theorem dX9_sends_93 : decode cX9_sends 93 = .ok (.iload_n 3, 1) := by decide +kernel
theorem dX9_sends_94 : decode cX9_sends 94 = .ok (.bipush 40, 2) := by decide +kernel
theorem dX9_sends_96 : decode cX9_sends 96 = .ok (.irem, 1) := by decide +kernel
theorem dX9_sends_97 : decode cX9_sends 97 = .ok (.iadd, 1) := by decide +kernel
theorem dX9_sends_98 : decode cX9_sends 98 = .ok (.dup2, 1) := by decide +kernel
theorem dX9_sends_99 : decode cX9_sends 99 = .ok (.iaload, 1) := by decide +kernel
theorem dX9_sends_100 : decode cX9_sends 100 = .ok (.iload_n 2, 1) := by decide +kernel
theorem dX9_sends_101 : decode cX9_sends 101 = .ok (.iadd, 1) := by decide +kernel
theorem dX9_sends_102 : decode cX9_sends 102 = .ok (.iastore, 1) := by decide +kernel
theorem dX9_sends_103 : decode cX9_sends 103 = .ok (.return_, 1) := by decide +kernel
def w_X9_sends (Q : gS → Prop) (σ : gS) (a1 : Int32) (a2 : Int32) : Prop :=
    vp_in a1 320 ∧ ∀ y10 : Int32, y10 = (σ 81 a1.toNatClampNeg) → vp_in a1 320 ∧ ∀ y12 : Int32, y12 = (σ 82 a1.toNatClampNeg) → (0 ≤ y12 → vp_in a1 320 ∧ ((σ 83 a1.toNatClampNeg) = 0 → vp_in ((40 * y12) + (y10 - y10 / 40 * 40)) 1120 ∧ vp_in ((40 * y12) + (y10 - y10 / 40 * 40)) 1120 ∧ ∀ s18 : gS, s18 = gu σ 78 ((40 * y12) + (y10 - y10 / 40 * 40)).toNatClampNeg ((σ 78 ((40 * y12) + (y10 - y10 / 40 * 40)).toNatClampNeg) + a2) → Q s18) ∧ (¬ (σ 83 a1.toNatClampNeg) = 0 → vp_in ((40 * y12) + (a1 - a1 / 40 * 40)) 1120 ∧ vp_in ((40 * y12) + (a1 - a1 / 40 * 40)) 1120 ∧ ∀ s21 : gS, s21 = gu σ 78 ((40 * y12) + (a1 - a1 / 40 * 40)).toNatClampNeg ((σ 78 ((40 * y12) + (a1 - a1 / 40 * 40)).toNatClampNeg) - a2) → Q s21)) ∧ (¬ 0 ≤ y12 → vp_in a1 320 ∧ ((σ 83 a1.toNatClampNeg) = 0 → vp_in y10 320 ∧ vp_in y10 320 ∧ ∀ s26 : gS, s26 = gu σ 77 y10.toNatClampNeg ((σ 77 y10.toNatClampNeg) + a2) → Q s26) ∧ (¬ (σ 83 a1.toNatClampNeg) = 0 → vp_in a1 320 ∧ vp_in a1 320 ∧ ∀ s29 : gS, s29 = gu σ 77 a1.toNatClampNeg ((σ 77 a1.toNatClampNeg) - a2) → Q s29))
abbrev ws_X9_sends : List Cond := Cond.code yX9_sends cX9_sends 5 none :: gG
abbrev rm_X9_sends : Room := { frames := 0, cells := 0, slots := 0, locals := 0 }
theorem k_X9_sends : gCV yX9_sends RX9 cX9_sends 5 none 2 := ⟨gw_5_180, gwp_43, gw_1_11, gw_5_181, rfl, by decide +kernel⟩
set_option maxHeartbeats 4000000 in
set_option maxRecDepth 100000 in
theorem c_X9_sends (l : Launch) (D : va_G) (cy : Nat → ClassId) (ad : Nat → Nat) (A : Nat → Prop) (Q : gS → Prop) (σ : gS) (a1 : Int32) (a2 : Int32) (h : w_X9_sends Q σ a1 a2) : Met l yX9_sends ws_X9_sends rm_X9_sends (va_Pc [.ref (ad 10), .int a1, .int a2] (gB D cy ad A σ)) (va_Qv Q (gB D cy ad A) A) 0 0 A := by
  refine Met.ofW (cc := cX9_sends) (maxL := 5) (ret := none) (by decide) rfl ?_
  intro p e s m args below meth c s₁ B hml hv
  obtain ⟨rfl, hB⟩ := hv
  have hC : gC p c cX9_sends s m ([.ref (ad 10), .int a1, .int a2] : List Value).toArray RX9 D cy ad A := g_start B hB
  have hI := g_first hB
  have hx := hC.1
  have hb := hC.2.1
  have hr := B.returns
  have hlocks := B.notSynchronized
  clear B hB
  have hl := lv_entry ([.ref (ad 10), .int a1, .int a2]) (n := 5) (Nat.le_of_ble_eq_true rfl)
  rw [lg_entry_eq]
  generalize (lg_sl ([.ref (ad 10), .int a1, .int a2]) ++ List.replicate (5 - (lg_sl ([.ref (ad 10), .int a1, .int a2])).length) Slot.unset).toArray = ls at hl ⊢
  have hl : lv_has ls 5 [(0, .ref (ad 10)), (1, .int a1), (2, .int a2)] := hl
  unfold w_X9_sends at h
  refine lv_aload_n hx hb dX9_sends_0 rfl (lv_at hl 0 rfl) ?_
  refine gg_X9_cameFrom hC hI gw_4_206 dX9_sends_1 ?_
  refine lv_iload_n hx hb dX9_sends_4 rfl (lv_at hl 1 rfl) ?_
  obtain ⟨hi9, h⟩ := h
  refine ga_64 hC hI hi9 dX9_sends_5 ?_
  refine lv_topi (fun y10 ey10 => ?_)
  have h := h y10 ey10
  refine lv_istore_n (lv' := [(3, .int y10), (0, .ref (ad 10)), (1, .int a1), (2, .int a2)]) hx hb dX9_sends_6 rfl hl (by decide) rfl (fun ls hl => ?_)
  refine lv_aload_n hx hb dX9_sends_7 rfl (lv_at hl 1 rfl) ?_
  refine gg_X9_cameBy hC hI gw_4_207 dX9_sends_8 ?_
  refine lv_iload_n hx hb dX9_sends_11 rfl (lv_at hl 2 rfl) ?_
  obtain ⟨hi11, h⟩ := h
  refine ga_65 hC hI hi11 dX9_sends_12 ?_
  refine lv_topi (fun y12 ey12 => ?_)
  have h := h y12 ey12
  refine lv_istore (lv' := [(4, .int y12), (3, .int y10), (0, .ref (ad 10)), (1, .int a1), (2, .int a2)]) hx hb dX9_sends_13 hl (by decide) rfl (fun ls hl => ?_)
  refine lv_iload hx hb dX9_sends_15 (lv_at hl 0 rfl) ?_
  refine lv_if_ge (tgt := 53) hx hb dX9_sends_17 (by decide) (fun c13 => ?_) (fun c13 => ?_)
  · have h := h.1 c13
    refine lv_aload_n hx hb dX9_sends_53 rfl (lv_at hl 2 rfl) ?_
    refine gg_X9_isBack hC hI gw_4_208 dX9_sends_54 ?_
    refine lv_iload_n hx hb dX9_sends_57 rfl (lv_at hl 3 rfl) ?_
    obtain ⟨hi14, h⟩ := h
    refine ga_66 hC hI hi14 dX9_sends_58 ?_
    refine lv_if_eq (tgt := 84) hx hb dX9_sends_59 (by decide) (fun c15 => ?_) (fun c15 => ?_)
    · have h := h.1 c15
      refine lv_aload_n hx hb dX9_sends_84 rfl (lv_at hl 2 rfl) ?_
      refine gg_X9_goes hC hI gw_4_203 dX9_sends_85 ?_
      refine lv_bipush (v := 40) hx hb dX9_sends_88 (by decide) ?_
      refine lv_iload hx hb dX9_sends_90 (lv_at hl 0 rfl) ?_
      refine lv_imul hx hb dX9_sends_92 ?_
      refine lv_iload_n hx hb dX9_sends_93 rfl (lv_at hl 1 rfl) ?_
      refine lv_bipush (v := 40) hx hb dX9_sends_94 (by decide) ?_
      refine lv_irem hx hb dX9_sends_96 (by decide) ?_
      refine lv_iadd hx hb dX9_sends_97 ?_
      refine lv_dup2_11 hx hb dX9_sends_98 rfl rfl ?_
      obtain ⟨hi16, h⟩ := h
      refine ga_61 hC hI hi16 dX9_sends_99 ?_
      refine lv_iload_n hx hb dX9_sends_100 rfl (lv_at hl 4 rfl) ?_
      refine lv_iadd hx hb dX9_sends_101 ?_
      obtain ⟨hi17, h⟩ := h
      refine gs_61 hC hI hi17 dX9_sends_102 (fun s18 H locs es18 hI => ?_)
      have h := h s18 es18
      exact g_vret hC hr hlocks hI h dX9_sends_103
    · have h := h.2 c15
      refine lv_aload_n hx hb dX9_sends_62 rfl (lv_at hl 2 rfl) ?_
      refine gg_X9_goes hC hI gw_4_203 dX9_sends_63 ?_
      refine lv_bipush (v := 40) hx hb dX9_sends_66 (by decide) ?_
      refine lv_iload hx hb dX9_sends_68 (lv_at hl 0 rfl) ?_
      refine lv_imul hx hb dX9_sends_70 ?_
      refine lv_iload_n hx hb dX9_sends_71 rfl (lv_at hl 3 rfl) ?_
      refine lv_bipush (v := 40) hx hb dX9_sends_72 (by decide) ?_
      refine lv_irem hx hb dX9_sends_74 (by decide) ?_
      refine lv_iadd hx hb dX9_sends_75 ?_
      refine lv_dup2_11 hx hb dX9_sends_76 rfl rfl ?_
      obtain ⟨hi19, h⟩ := h
      refine ga_61 hC hI hi19 dX9_sends_77 ?_
      refine lv_iload_n hx hb dX9_sends_78 rfl (lv_at hl 4 rfl) ?_
      refine lv_isub hx hb dX9_sends_79 ?_
      obtain ⟨hi20, h⟩ := h
      refine gs_61 hC hI hi20 dX9_sends_80 (fun s21 H locs es21 hI => ?_)
      have h := h s21 es21
      refine lv_goto (tgt := 103) hx hb dX9_sends_81 (by decide) ?_
      exact g_vret hC hr hlocks hI h dX9_sends_103
  · have h := h.2 c13
    refine lv_aload_n hx hb dX9_sends_20 rfl (lv_at hl 2 rfl) ?_
    refine gg_X9_isBack hC hI gw_4_208 dX9_sends_21 ?_
    refine lv_iload_n hx hb dX9_sends_24 rfl (lv_at hl 3 rfl) ?_
    obtain ⟨hi22, h⟩ := h
    refine ga_66 hC hI hi22 dX9_sends_25 ?_
    refine lv_if_eq (tgt := 42) hx hb dX9_sends_26 (by decide) (fun c23 => ?_) (fun c23 => ?_)
    · have h := h.1 c23
      refine lv_aload_n hx hb dX9_sends_42 rfl (lv_at hl 2 rfl) ?_
      refine gg_X9_waits hC hI gw_4_202 dX9_sends_43 ?_
      refine lv_iload_n hx hb dX9_sends_46 rfl (lv_at hl 1 rfl) ?_
      refine lv_dup2_11 hx hb dX9_sends_47 rfl rfl ?_
      obtain ⟨hi24, h⟩ := h
      refine ga_60 hC hI hi24 dX9_sends_48 ?_
      refine lv_iload_n hx hb dX9_sends_49 rfl (lv_at hl 4 rfl) ?_
      refine lv_iadd hx hb dX9_sends_50 ?_
      obtain ⟨hi25, h⟩ := h
      refine gs_60 hC hI hi25 dX9_sends_51 (fun s26 H locs es26 hI => ?_)
      have h := h s26 es26
      exact g_vret hC hr hlocks hI h dX9_sends_52
    · have h := h.2 c23
      refine lv_aload_n hx hb dX9_sends_29 rfl (lv_at hl 2 rfl) ?_
      refine gg_X9_waits hC hI gw_4_202 dX9_sends_30 ?_
      refine lv_iload_n hx hb dX9_sends_33 rfl (lv_at hl 3 rfl) ?_
      refine lv_dup2_11 hx hb dX9_sends_34 rfl rfl ?_
      obtain ⟨hi27, h⟩ := h
      refine ga_60 hC hI hi27 dX9_sends_35 ?_
      refine lv_iload_n hx hb dX9_sends_36 rfl (lv_at hl 4 rfl) ?_
      refine lv_isub hx hb dX9_sends_37 ?_
      obtain ⟨hi28, h⟩ := h
      refine gs_60 hC hI hi28 dX9_sends_38 (fun s29 H locs es29 hI => ?_)
      have h := h s29 es29
      refine lv_goto (tgt := 52) hx hb dX9_sends_39 (by decide) ?_
      exact g_vret hC hr hlocks hI h dX9_sends_52

theorem dX9_leads_0 : decode cX9_leads 0 = .ok (.aload_n 0, 1) := by decide +kernel
theorem dX9_leads_1 : decode cX9_leads 1 = .ok (.getfield 24, 3) := by decide +kernel
theorem dX9_leads_4 : decode cX9_leads 4 = .ok (.iload_n 1, 1) := by decide +kernel
theorem dX9_leads_5 : decode cX9_leads 5 = .ok (.bipush 40, 2) := by decide +kernel
theorem dX9_leads_7 : decode cX9_leads 7 = .ok (.idiv, 1) := by decide +kernel
theorem dX9_leads_8 : decode cX9_leads 8 = .ok (.iaload, 1) := by decide +kernel
theorem dX9_leads_9 : decode cX9_leads 9 = .ok (.aload_n 0, 1) := by decide +kernel
theorem dX9_leads_10 : decode cX9_leads 10 = .ok (.getfield 48, 3) := by decide +kernel
theorem dX9_leads_13 : decode cX9_leads 13 = .ok (.iload_n 1, 1) := by decide +kernel
theorem dX9_leads_14 : decode cX9_leads 14 = .ok (.iaload, 1) := by decide +kernel
theorem dX9_leads_15 : decode cX9_leads 15 = .ok (.isub, 1) := by decide +kernel
theorem dX9_leads_16 : decode cX9_leads 16 = .ok (.istore_n 2, 1) := by decide +kernel
theorem dX9_leads_17 : decode cX9_leads 17 = .ok (.iload_n 1, 1) := by decide +kernel
theorem dX9_leads_18 : decode cX9_leads 18 = .ok (.istore_n 3, 1) := by decide +kernel
theorem dX9_leads_19 : decode cX9_leads 19 = .ok (.aload_n 0, 1) := by decide +kernel
theorem dX9_leads_20 : decode cX9_leads 20 = .ok (.getfield 54, 3) := by decide +kernel
theorem dX9_leads_23 : decode cX9_leads 23 = .ok (.iload_n 3, 1) := by decide +kernel
theorem dX9_leads_24 : decode cX9_leads 24 = .ok (.iaload, 1) := by decide +kernel
theorem dX9_leads_25 : decode cX9_leads 25 = .ok (.bipush (-5), 2) := by decide +kernel
theorem dX9_leads_27 : decode cX9_leads 27 = .ok (.if_icmp .eq 23, 3) := by decide +kernel
theorem dX9_leads_30 : decode cX9_leads 30 = .ok (.iload_n 2, 1) := by decide +kernel
theorem dX9_leads_31 : decode cX9_leads 31 = .ok (.aload_n 0, 1) := by decide +kernel
theorem dX9_leads_32 : decode cX9_leads 32 = .ok (.iload_n 3, 1) := by decide +kernel
theorem dX9_leads_33 : decode cX9_leads 33 = .ok (.invokevirtual 174, 3) := by decide +kernel
theorem dX9_leads_36 : decode cX9_leads 36 = .ok (.invokestatic 177, 3) := by decide +kernel
theorem dX9_leads_39 : decode cX9_leads 39 = .ok (.istore_n 2, 1) := by decide +kernel
theorem dX9_leads_40 : decode cX9_leads 40 = .ok (.aload_n 0, 1) := by decide +kernel
theorem dX9_leads_41 : decode cX9_leads 41 = .ok (.getfield 54, 3) := by decide +kernel
theorem dX9_leads_44 : decode cX9_leads 44 = .ok (.iload_n 3, 1) := by decide +kernel
theorem dX9_leads_45 : decode cX9_leads 45 = .ok (.iaload, 1) := by decide +kernel
theorem dX9_leads_46 : decode cX9_leads 46 = .ok (.istore_n 3, 1) := by decide +kernel
theorem dX9_leads_47 : decode cX9_leads 47 = .ok (.goto (-28), 3) := by decide +kernel
theorem dX9_leads_50 : decode cX9_leads 50 = .ok (.iload_n 2, 1) := by decide +kernel
theorem dX9_leads_51 : decode cX9_leads 51 = .ok (.aload_n 0, 1) := by decide +kernel
theorem dX9_leads_52 : decode cX9_leads 52 = .ok (.getfield 51, 3) := by decide +kernel
theorem dX9_leads_55 : decode cX9_leads 55 = .ok (.iload_n 3, 1) := by decide +kernel
theorem dX9_leads_56 : decode cX9_leads 56 = .ok (.bipush 40, 2) := by decide +kernel
theorem dX9_leads_58 : decode cX9_leads 58 = .ok (.idiv, 1) := by decide +kernel
theorem dX9_leads_59 : decode cX9_leads 59 = .ok (.iaload, 1) := by decide +kernel
theorem dX9_leads_60 : decode cX9_leads 60 = .ok (.invokestatic 177, 3) := by decide +kernel
theorem dX9_leads_63 : decode cX9_leads 63 = .ok (.istore_n 2, 1) := by decide +kernel
theorem dX9_leads_64 : decode cX9_leads 64 = .ok (.aload_n 0, 1) := by decide +kernel
theorem dX9_leads_65 : decode cX9_leads 65 = .ok (.getfield 48, 3) := by decide +kernel
theorem dX9_leads_68 : decode cX9_leads 68 = .ok (.iload_n 1, 1) := by decide +kernel
theorem dX9_leads_69 : decode cX9_leads 69 = .ok (.dup2, 1) := by decide +kernel
theorem dX9_leads_70 : decode cX9_leads 70 = .ok (.iaload, 1) := by decide +kernel
theorem dX9_leads_71 : decode cX9_leads 71 = .ok (.iload_n 2, 1) := by decide +kernel
theorem dX9_leads_72 : decode cX9_leads 72 = .ok (.iadd, 1) := by decide +kernel
theorem dX9_leads_73 : decode cX9_leads 73 = .ok (.iastore, 1) := by decide +kernel
theorem dX9_leads_74 : decode cX9_leads 74 = .ok (.aload_n 0, 1) := by decide +kernel
theorem dX9_leads_75 : decode cX9_leads 75 = .ok (.getfield 51, 3) := by decide +kernel
theorem dX9_leads_78 : decode cX9_leads 78 = .ok (.iload_n 3, 1) := by decide +kernel
theorem dX9_leads_79 : decode cX9_leads 79 = .ok (.bipush 40, 2) := by decide +kernel
theorem dX9_leads_81 : decode cX9_leads 81 = .ok (.idiv, 1) := by decide +kernel
theorem dX9_leads_82 : decode cX9_leads 82 = .ok (.dup2, 1) := by decide +kernel
theorem dX9_leads_83 : decode cX9_leads 83 = .ok (.iaload, 1) := by decide +kernel
theorem dX9_leads_84 : decode cX9_leads 84 = .ok (.iload_n 2, 1) := by decide +kernel
theorem dX9_leads_85 : decode cX9_leads 85 = .ok (.isub, 1) := by decide +kernel
theorem dX9_leads_86 : decode cX9_leads 86 = .ok (.iastore, 1) := by decide +kernel
theorem dX9_leads_87 : decode cX9_leads 87 = .ok (.iload_n 1, 1) := by decide +kernel
theorem dX9_leads_88 : decode cX9_leads 88 = .ok (.istore_n 3, 1) := by decide +kernel
theorem dX9_leads_89 : decode cX9_leads 89 = .ok (.aload_n 0, 1) := by decide +kernel
theorem dX9_leads_90 : decode cX9_leads 90 = .ok (.getfield 54, 3) := by decide +kernel
theorem dX9_leads_93 : decode cX9_leads 93 = .ok (.iload_n 3, 1) := by decide +kernel
theorem dX9_leads_94 : decode cX9_leads 94 = .ok (.iaload, 1) := by decide +kernel
theorem dX9_leads_95 : decode cX9_leads 95 = .ok (.bipush (-5), 2) := by decide +kernel
theorem dX9_leads_97 : decode cX9_leads 97 = .ok (.if_icmp .eq 19, 3) := by decide +kernel
theorem dX9_leads_100 : decode cX9_leads 100 = .ok (.aload_n 0, 1) := by decide +kernel
theorem dX9_leads_101 : decode cX9_leads 101 = .ok (.iload_n 3, 1) := by decide +kernel
theorem dX9_leads_102 : decode cX9_leads 102 = .ok (.iload_n 2, 1) := by decide +kernel
theorem dX9_leads_103 : decode cX9_leads 103 = .ok (.invokevirtual 180, 3) := by decide +kernel
theorem dX9_leads_106 : decode cX9_leads 106 = .ok (.aload_n 0, 1) := by decide +kernel
theorem dX9_leads_107 : decode cX9_leads 107 = .ok (.getfield 54, 3) := by decide +kernel
theorem dX9_leads_110 : decode cX9_leads 110 = .ok (.iload_n 3, 1) := by decide +kernel
theorem dX9_leads_111 : decode cX9_leads 111 = .ok (.iaload, 1) := by decide +kernel
theorem dX9_leads_112 : decode cX9_leads 112 = .ok (.istore_n 3, 1) := by decide +kernel
theorem dX9_leads_113 : decode cX9_leads 113 = .ok (.goto (-24), 3) := by decide +kernel
theorem dX9_leads_116 : decode cX9_leads 116 = .ok (.iload_n 2, 1) := by decide +kernel
theorem dX9_leads_117 : decode cX9_leads 117 = .ok (.ireturn, 1) := by decide +kernel
def w_X9_leads_89 (Q : Int32 → gS → Prop) : Nat → Int32 → Int32 → gS → Prop
  | 0, _, _, _ => False
  | n89 + 1, x2, x3, σ =>
    vp_in x3 320 ∧ ((σ 81 x3.toNatClampNeg) = (-5) → Q x2 σ) ∧ (¬ (σ 81 x3.toNatClampNeg) = (-5) → w_X9_sends  (fun (s12 : gS) => vp_in x3 320 ∧ ∀ y15 : Int32, y15 = (s12 81 x3.toNatClampNeg) → w_X9_leads_89 Q n89 x2 y15 s12) σ x3 x2)
def w_X9_leads_19 (Q : Int32 → gS → Prop) : Nat → Int32 → Int32 → Int32 → gS → Prop
  | 0, _, _, _, _ => False
  | n19 + 1, x1, x2, x3, σ =>
    vp_in x3 320 ∧ ((σ 81 x3.toNatClampNeg) = (-5) → vp_in (x3 / 40) 8 ∧ ∀ y19 : Int32, y19 = (if (σ 80 (x3 / 40).toNatClampNeg) < x2 then (σ 80 (x3 / 40).toNatClampNeg) else x2) → vp_in x1 320 ∧ vp_in x1 320 ∧ ∀ s22 : gS, s22 = gu σ 79 x1.toNatClampNeg ((σ 79 x1.toNatClampNeg) + y19) → vp_in (x3 / 40) 8 ∧ vp_in (x3 / 40) 8 ∧ ∀ s25 : gS, s25 = gu s22 80 (x3 / 40).toNatClampNeg ((s22 80 (x3 / 40).toNatClampNeg) - y19) → ∃ n89, w_X9_leads_89 Q n89 y19 x1 s25) ∧ (¬ (σ 81 x3.toNatClampNeg) = (-5) → w_X9_bears  (fun (r27 : Int32) (s26 : gS) => ∀ y28 : Int32, y28 = (if r27 < x2 then r27 else x2) → vp_in x3 320 ∧ ∀ y30 : Int32, y30 = (s26 81 x3.toNatClampNeg) → w_X9_leads_19 Q n19 x1 y28 y30 s26) σ x3)
def w_X9_leads (Q : Int32 → gS → Prop) (σ : gS) (a1 : Int32) : Prop :=
    vp_in (a1 / 40) 8 ∧ vp_in a1 320 ∧ ∀ y33 : Int32, y33 = ((σ 69 (a1 / 40).toNatClampNeg) - (σ 79 a1.toNatClampNeg)) → ∃ n19, w_X9_leads_19 Q n19 a1 y33 a1 σ
abbrev ws_X9_leads : List Cond := Cond.code yX9_leads cX9_leads 4 (some .int) :: gG
abbrev rm_X9_leads : Room := { frames := 1, cells := 0, slots := 0, locals := 24 }
theorem k_X9_leads : gCV yX9_leads RX9 cX9_leads 4 (some .int) 1 := ⟨gw_5_170, gwp_41, gw_1_11, gw_5_171, rfl, by decide +kernel⟩
set_option maxHeartbeats 4000000 in
set_option maxRecDepth 100000 in
theorem c_X9_leads (l : Launch) (D : va_G) (cy : Nat → ClassId) (ad : Nat → Nat) (A : Nat → Prop) (Q : Int32 → gS → Prop) (σ : gS) (a1 : Int32) (h : w_X9_leads Q σ a1) : Met l yX9_leads ws_X9_leads rm_X9_leads (va_Pc [.ref (ad 10), .int a1] (gB D cy ad A σ)) (va_Qi Q (gB D cy ad A) A) 0 0 A := by
  refine Met.ofW (cc := cX9_leads) (maxL := 4) (ret := (some .int)) (by decide) rfl ?_
  intro p e s m args below meth c s₁ B hml hv
  obtain ⟨rfl, hB⟩ := hv
  have hC : gC p c cX9_leads s m ([.ref (ad 10), .int a1] : List Value).toArray RX9 D cy ad A := g_start B hB
  have hI := g_first hB
  have hx := hC.1
  have hb := hC.2.1
  have hr := B.returns
  have hlocks := B.notSynchronized
  clear B hB
  have J89 : ∀ (n89 : Nat) (x2 : Int32) (x3 : Int32) (σ : gS) (H : Heap) (locs : List Loc) (ls : Array Slot), w_X9_leads_89 Q n89 x2 x3 σ → gI D cy ad A s.heap σ H locs → lv_has ls 4 [(0, .ref (ad 10)), (2, .int x2), (3, .int x3)] → W p l e (headSpec ws_X9_leads rm_X9_leads).room s m ([.ref (ad 10), .int a1] : List Value).toArray below meth c H locs 0 0 (MQ below (va_Qi Q (gB D cy ad A) A) ([.ref (ad 10), .int a1] : List Value).toArray s 0 0 A) (F0 m 89 ls []) := by
    intro n89
    induction n89 with
    | zero => intro x2 x3 σ H locs ls h; exact absurd h (fun h => h)
    | succ n89 ih89 =>
      intro x2 x3 σ H locs ls h hI hl
      unfold w_X9_leads_89 at h
      refine lv_aload_n hx hb dX9_leads_89 rfl (lv_at hl 0 rfl) ?_
      refine gg_X9_cameFrom hC hI gw_4_206 dX9_leads_90 ?_
      refine lv_iload_n hx hb dX9_leads_93 rfl (lv_at hl 2 rfl) ?_
      obtain ⟨hi10, h⟩ := h
      refine ga_64 hC hI hi10 dX9_leads_94 ?_
      refine lv_bipush (v := (-5)) hx hb dX9_leads_95 (by decide) ?_
      refine lv_icmp_eq (tgt := 116) hx hb dX9_leads_97 (by decide) (fun c11 => ?_) (fun c11 => ?_)
      · have h := h.1 c11
        refine lv_iload_n hx hb dX9_leads_116 rfl (lv_at hl 1 rfl) ?_
        exact g_iret hC hr hlocks hI h dX9_leads_117
      · have h := h.2 c11
        refine lv_aload_n hx hb dX9_leads_100 rfl (lv_at hl 0 rfl) ?_
        refine lv_iload_n hx hb dX9_leads_101 rfl (lv_at hl 2 rfl) ?_
        refine lv_iload_n hx hb dX9_leads_102 rfl (lv_at hl 1 rfl) ?_
        refine g_backv hI (g_runV (As := [.int x3, .int x2]) (rest := []) hC hml hI (c_X9_sends l D cy ad A _  _ _ _ h) k_X9_sends gw_5_178 ⟨rfl, rfl⟩ ⟨Nat.le_of_ble_eq_true rfl, Nat.le_of_ble_eq_true rfl⟩ (grv_10 hC hI) rfl hl.1 rfl (Nat.le_of_ble_eq_true rfl) dX9_leads_103 ⟨Nat.le_of_ble_eq_true rfl, Nat.le_of_ble_eq_true rfl⟩) (fun s12 H locs h hI => ?_)
        refine lv_aload_n hx hb dX9_leads_106 rfl (lv_at hl 0 rfl) ?_
        refine gg_X9_cameFrom hC hI gw_4_206 dX9_leads_107 ?_
        refine lv_iload_n hx hb dX9_leads_110 rfl (lv_at hl 2 rfl) ?_
        obtain ⟨hi14, h⟩ := h
        refine ga_64 hC hI hi14 dX9_leads_111 ?_
        refine lv_topi (fun y15 ey15 => ?_)
        have h := h y15 ey15
        refine lv_istore_n (lv' := [(3, .int y15), (0, .ref (ad 10)), (2, .int x2)]) hx hb dX9_leads_112 rfl hl (by decide) rfl (fun ls hl => ?_)
        refine lv_goto (tgt := 89) hx hb dX9_leads_113 (by decide) ?_
        exact ih89 _ _ _ _ _ _ h hI (lv_sub hl [1, 2, 0] rfl)
  have J19 : ∀ (n19 : Nat) (x1 : Int32) (x2 : Int32) (x3 : Int32) (σ : gS) (H : Heap) (locs : List Loc) (ls : Array Slot), w_X9_leads_19 Q n19 x1 x2 x3 σ → gI D cy ad A s.heap σ H locs → lv_has ls 4 [(0, .ref (ad 10)), (1, .int x1), (2, .int x2), (3, .int x3)] → W p l e (headSpec ws_X9_leads rm_X9_leads).room s m ([.ref (ad 10), .int a1] : List Value).toArray below meth c H locs 0 0 (MQ below (va_Qi Q (gB D cy ad A) A) ([.ref (ad 10), .int a1] : List Value).toArray s 0 0 A) (F0 m 19 ls []) := by
    intro n19
    induction n19 with
    | zero => intro x1 x2 x3 σ H locs ls h; exact absurd h (fun h => h)
    | succ n19 ih19 =>
      intro x1 x2 x3 σ H locs ls h hI hl
      unfold w_X9_leads_19 at h
      refine lv_aload_n hx hb dX9_leads_19 rfl (lv_at hl 0 rfl) ?_
      refine gg_X9_cameFrom hC hI gw_4_206 dX9_leads_20 ?_
      refine lv_iload_n hx hb dX9_leads_23 rfl (lv_at hl 3 rfl) ?_
      obtain ⟨hi16, h⟩ := h
      refine ga_64 hC hI hi16 dX9_leads_24 ?_
      refine lv_bipush (v := (-5)) hx hb dX9_leads_25 (by decide) ?_
      refine lv_icmp_eq (tgt := 50) hx hb dX9_leads_27 (by decide) (fun c17 => ?_) (fun c17 => ?_)
      · have h := h.1 c17
        refine lv_iload_n hx hb dX9_leads_50 rfl (lv_at hl 2 rfl) ?_
        refine lv_aload_n hx hb dX9_leads_51 rfl (lv_at hl 0 rfl) ?_
        refine gg_X9_left hC hI gw_4_205 dX9_leads_52 ?_
        refine lv_iload_n hx hb dX9_leads_55 rfl (lv_at hl 3 rfl) ?_
        refine lv_bipush (v := 40) hx hb dX9_leads_56 (by decide) ?_
        refine lv_idiv hx hb dX9_leads_58 (by decide) ?_
        obtain ⟨hi18, h⟩ := h
        refine ga_63 hC hI hi18 dX9_leads_59 ?_
        refine va_mmin hx hb (by rw [hml]; exact hl.1.symm) hC.2.2.2.1 (hC.2.2.1 _ gw_5_177) (hC.2.2.1 _ gw_2_141) (hC.2.2.1 _ gw_1_18) (hC.2.2.1 _ gw_2_142) (Nat.le_of_ble_eq_true rfl) (Nat.le_of_ble_eq_true rfl) (Nat.le_of_ble_eq_true rfl) (Nat.le_of_ble_eq_true rfl) dX9_leads_60 ?_
        refine lv_topi (fun y19 ey19 => ?_)
        have h := h y19 ey19
        refine lv_istore_n (lv' := [(2, .int y19), (0, .ref (ad 10)), (1, .int x1), (3, .int x3)]) hx hb dX9_leads_63 rfl hl (by decide) rfl (fun ls hl => ?_)
        refine lv_aload_n hx hb dX9_leads_64 rfl (lv_at hl 1 rfl) ?_
        refine gg_X9_outs hC hI gw_4_204 dX9_leads_65 ?_
        refine lv_iload_n hx hb dX9_leads_68 rfl (lv_at hl 2 rfl) ?_
        refine lv_dup2_11 hx hb dX9_leads_69 rfl rfl ?_
        obtain ⟨hi20, h⟩ := h
        refine ga_62 hC hI hi20 dX9_leads_70 ?_
        refine lv_iload_n hx hb dX9_leads_71 rfl (lv_at hl 0 rfl) ?_
        refine lv_iadd hx hb dX9_leads_72 ?_
        obtain ⟨hi21, h⟩ := h
        refine gs_62 hC hI hi21 dX9_leads_73 (fun s22 H locs es22 hI => ?_)
        have h := h s22 es22
        refine lv_aload_n hx hb dX9_leads_74 rfl (lv_at hl 1 rfl) ?_
        refine gg_X9_left hC hI gw_4_205 dX9_leads_75 ?_
        refine lv_iload_n hx hb dX9_leads_78 rfl (lv_at hl 3 rfl) ?_
        refine lv_bipush (v := 40) hx hb dX9_leads_79 (by decide) ?_
        refine lv_idiv hx hb dX9_leads_81 (by decide) ?_
        refine lv_dup2_11 hx hb dX9_leads_82 rfl rfl ?_
        obtain ⟨hi23, h⟩ := h
        refine ga_63 hC hI hi23 dX9_leads_83 ?_
        refine lv_iload_n hx hb dX9_leads_84 rfl (lv_at hl 0 rfl) ?_
        refine lv_isub hx hb dX9_leads_85 ?_
        obtain ⟨hi24, h⟩ := h
        refine gs_63 hC hI hi24 dX9_leads_86 (fun s25 H locs es25 hI => ?_)
        have h := h s25 es25
        refine lv_iload_n hx hb dX9_leads_87 rfl (lv_at hl 2 rfl) ?_
        refine lv_istore_n (lv' := [(3, .int x1), (2, .int y19), (0, .ref (ad 10)), (1, .int x1)]) hx hb dX9_leads_88 rfl hl (by decide) rfl (fun ls hl => ?_)
        obtain ⟨n9, h⟩ := h
        exact J89 n9 _ _ _ _ _ _ h hI (lv_sub hl [2, 1, 0] rfl)
      · have h := h.2 c17
        refine lv_iload_n hx hb dX9_leads_30 rfl (lv_at hl 2 rfl) ?_
        refine lv_aload_n hx hb dX9_leads_31 rfl (lv_at hl 0 rfl) ?_
        refine lv_iload_n hx hb dX9_leads_32 rfl (lv_at hl 3 rfl) ?_
        refine g_backi hI (g_runV (As := [.int x3]) (rest := [.int x2]) hC hml hI (c_X9_bears l D cy ad A _  _ _ h) k_X9_bears gw_5_172 ⟨rfl, rfl⟩ ⟨Nat.le_of_ble_eq_true rfl, Nat.le_of_ble_eq_true rfl⟩ (grv_10 hC hI) rfl hl.1 rfl (Nat.le_of_ble_eq_true rfl) dX9_leads_33 ⟨Nat.le_of_ble_eq_true rfl, Nat.le_of_ble_eq_true rfl⟩) (fun r27 s26 H locs h hI => ?_)
        refine va_mmin hx hb (by rw [hml]; exact hl.1.symm) hC.2.2.2.1 (hC.2.2.1 _ gw_5_177) (hC.2.2.1 _ gw_2_141) (hC.2.2.1 _ gw_1_18) (hC.2.2.1 _ gw_2_142) (Nat.le_of_ble_eq_true rfl) (Nat.le_of_ble_eq_true rfl) (Nat.le_of_ble_eq_true rfl) (Nat.le_of_ble_eq_true rfl) dX9_leads_36 ?_
        refine lv_topi (fun y28 ey28 => ?_)
        have h := h y28 ey28
        refine lv_istore_n (lv' := [(2, .int y28), (0, .ref (ad 10)), (1, .int x1), (3, .int x3)]) hx hb dX9_leads_39 rfl hl (by decide) rfl (fun ls hl => ?_)
        refine lv_aload_n hx hb dX9_leads_40 rfl (lv_at hl 1 rfl) ?_
        refine gg_X9_cameFrom hC hI gw_4_206 dX9_leads_41 ?_
        refine lv_iload_n hx hb dX9_leads_44 rfl (lv_at hl 3 rfl) ?_
        obtain ⟨hi29, h⟩ := h
        refine ga_64 hC hI hi29 dX9_leads_45 ?_
        refine lv_topi (fun y30 ey30 => ?_)
        have h := h y30 ey30
        refine lv_istore_n (lv' := [(3, .int y30), (2, .int y28), (0, .ref (ad 10)), (1, .int x1)]) hx hb dX9_leads_46 rfl hl (by decide) rfl (fun ls hl => ?_)
        refine lv_goto (tgt := 19) hx hb dX9_leads_47 (by decide) ?_
        exact ih19 _ _ _ _ _ _ _ h hI (lv_sub hl [2, 3, 1, 0] rfl)
  have hl := lv_entry ([.ref (ad 10), .int a1]) (n := 4) (Nat.le_of_ble_eq_true rfl)
  rw [lg_entry_eq]
  generalize (lg_sl ([.ref (ad 10), .int a1]) ++ List.replicate (4 - (lg_sl ([.ref (ad 10), .int a1])).length) Slot.unset).toArray = ls at hl ⊢
  have hl : lv_has ls 4 [(0, .ref (ad 10)), (1, .int a1)] := hl
  unfold w_X9_leads at h
  refine lv_aload_n hx hb dX9_leads_0 rfl (lv_at hl 0 rfl) ?_
  refine gg_X9_rate hC hI gw_4_194 dX9_leads_1 ?_
  refine lv_iload_n hx hb dX9_leads_4 rfl (lv_at hl 1 rfl) ?_
  refine lv_bipush (v := 40) hx hb dX9_leads_5 (by decide) ?_
  refine lv_idiv hx hb dX9_leads_7 (by decide) ?_
  obtain ⟨hi31, h⟩ := h
  refine ga_54 hC hI hi31 dX9_leads_8 ?_
  refine lv_aload_n hx hb dX9_leads_9 rfl (lv_at hl 0 rfl) ?_
  refine gg_X9_outs hC hI gw_4_204 dX9_leads_10 ?_
  refine lv_iload_n hx hb dX9_leads_13 rfl (lv_at hl 1 rfl) ?_
  obtain ⟨hi32, h⟩ := h
  refine ga_62 hC hI hi32 dX9_leads_14 ?_
  refine lv_isub hx hb dX9_leads_15 ?_
  refine lv_topi (fun y33 ey33 => ?_)
  have h := h y33 ey33
  refine lv_istore_n (lv' := [(2, .int y33), (0, .ref (ad 10)), (1, .int a1)]) hx hb dX9_leads_16 rfl hl (by decide) rfl (fun ls hl => ?_)
  refine lv_iload_n hx hb dX9_leads_17 rfl (lv_at hl 2 rfl) ?_
  refine lv_istore_n (lv' := [(3, .int a1), (2, .int y33), (0, .ref (ad 10)), (1, .int a1)]) hx hb dX9_leads_18 rfl hl (by decide) rfl (fun ls hl => ?_)
  obtain ⟨n9, h⟩ := h
  exact J19 n9 _ _ _ _ _ _ _ h hI (lv_sub hl [2, 3, 1, 0] rfl)

theorem dX9_more_0 : decode cX9_more 0 = .ok (.iconst 0, 1) := by decide +kernel
theorem dX9_more_1 : decode cX9_more 1 = .ok (.istore_n 3, 1) := by decide +kernel
theorem dX9_more_2 : decode cX9_more 2 = .ok (.iload_n 3, 1) := by decide +kernel
theorem dX9_more_3 : decode cX9_more 3 = .ok (.sipush 320, 3) := by decide +kernel
theorem dX9_more_6 : decode cX9_more 6 = .ok (.if_icmp .ge 16, 3) := by decide +kernel
theorem dX9_more_9 : decode cX9_more 9 = .ok (.aload_n 0, 1) := by decide +kernel
theorem dX9_more_10 : decode cX9_more 10 = .ok (.getfield 63, 3) := by decide +kernel
theorem dX9_more_13 : decode cX9_more 13 = .ok (.iload_n 3, 1) := by decide +kernel
theorem dX9_more_14 : decode cX9_more 14 = .ok (.iconst 0, 1) := by decide +kernel
theorem dX9_more_15 : decode cX9_more 15 = .ok (.bastore, 1) := by decide +kernel
theorem dX9_more_16 : decode cX9_more 16 = .ok (.iinc 3 1, 3) := by decide +kernel
theorem dX9_more_19 : decode cX9_more 19 = .ok (.goto (-17), 3) := by decide +kernel
theorem dX9_more_22 : decode cX9_more 22 = .ok (.aload_n 0, 1) := by decide +kernel
theorem dX9_more_23 : decode cX9_more 23 = .ok (.iconst 0, 1) := by decide +kernel
theorem dX9_more_24 : decode cX9_more 24 = .ok (.putfield 155, 3) := by decide +kernel
theorem dX9_more_27 : decode cX9_more 27 = .ok (.iconst 0, 1) := by decide +kernel
theorem dX9_more_28 : decode cX9_more 28 = .ok (.istore_n 3, 1) := by decide +kernel
theorem dX9_more_29 : decode cX9_more 29 = .ok (.iload_n 3, 1) := by decide +kernel
theorem dX9_more_30 : decode cX9_more 30 = .ok (.aload_n 0, 1) := by decide +kernel
theorem dX9_more_31 : decode cX9_more 31 = .ok (.getfield 142, 3) := by decide +kernel
theorem dX9_more_34 : decode cX9_more 34 = .ok (.if_icmp .ge 31, 3) := by decide +kernel
theorem dX9_more_37 : decode cX9_more 37 = .ok (.aload_n 0, 1) := by decide +kernel
theorem dX9_more_38 : decode cX9_more 38 = .ok (.getfield 51, 3) := by decide +kernel
theorem dX9_more_41 : decode cX9_more 41 = .ok (.iload_n 3, 1) := by decide +kernel
theorem dX9_more_42 : decode cX9_more 42 = .ok (.iaload, 1) := by decide +kernel
theorem dX9_more_43 : decode cX9_more 43 = .ok (.ifCond .le 16, 3) := by decide +kernel
theorem dX9_more_46 : decode cX9_more 46 = .ok (.aload_n 0, 1) := by decide +kernel
theorem dX9_more_47 : decode cX9_more 47 = .ok (.iload_n 3, 1) := by decide +kernel
theorem dX9_more_48 : decode cX9_more 48 = .ok (.iconst 0, 1) := by decide +kernel
theorem dX9_more_49 : decode cX9_more 49 = .ok (.invokestatic 162, 3) := by decide +kernel
theorem dX9_more_52 : decode cX9_more 52 = .ok (.bipush (-5), 2) := by decide +kernel
theorem dX9_more_54 : decode cX9_more 54 = .ok (.iconst (-1), 1) := by decide +kernel
theorem dX9_more_55 : decode cX9_more 55 = .ok (.iconst 0, 1) := by decide +kernel
theorem dX9_more_56 : decode cX9_more 56 = .ok (.invokevirtual 158, 3) := by decide +kernel
theorem dX9_more_59 : decode cX9_more 59 = .ok (.iinc 3 1, 3) := by decide +kernel
theorem dX9_more_62 : decode cX9_more 62 = .ok (.goto (-33), 3) := by decide +kernel
theorem dX9_more_65 : decode cX9_more 65 = .ok (.iconst 0, 1) := by decide +kernel
theorem dX9_more_66 : decode cX9_more 66 = .ok (.istore_n 3, 1) := by decide +kernel
theorem dX9_more_67 : decode cX9_more 67 = .ok (.iload_n 3, 1) := by decide +kernel
theorem dX9_more_68 : decode cX9_more 68 = .ok (.aload_n 0, 1) := by decide +kernel
theorem dX9_more_69 : decode cX9_more 69 = .ok (.getfield 155, 3) := by decide +kernel
theorem dX9_more_72 : decode cX9_more 72 = .ok (.if_icmp .ge 71, 3) := by decide +kernel
theorem dX9_more_75 : decode cX9_more 75 = .ok (.aload_n 0, 1) := by decide +kernel
theorem dX9_more_76 : decode cX9_more 76 = .ok (.getfield 66, 3) := by decide +kernel
theorem dX9_more_79 : decode cX9_more 79 = .ok (.iload_n 3, 1) := by decide +kernel
theorem dX9_more_80 : decode cX9_more 80 = .ok (.iaload, 1) := by decide +kernel
theorem dX9_more_81 : decode cX9_more 81 = .ok (.istore 4, 2) := by decide +kernel
theorem dX9_more_83 : decode cX9_more 83 = .ok (.iload 4, 2) := by decide +kernel
theorem dX9_more_85 : decode cX9_more 85 = .ok (.bipush 40, 2) := by decide +kernel
theorem dX9_more_87 : decode cX9_more 87 = .ok (.idiv, 1) := by decide +kernel
theorem dX9_more_88 : decode cX9_more 88 = .ok (.istore 5, 2) := by decide +kernel
theorem dX9_more_90 : decode cX9_more 90 = .ok (.aload_n 0, 1) := by decide +kernel
theorem dX9_more_91 : decode cX9_more 91 = .ok (.getfield 27, 3) := by decide +kernel
theorem dX9_more_94 : decode cX9_more 94 = .ok (.iload 5, 2) := by decide +kernel
theorem dX9_more_96 : decode cX9_more 96 = .ok (.baload, 1) := by decide +kernel
theorem dX9_more_97 : decode cX9_more 97 = .ok (.ifCond .ne 33, 3) := by decide +kernel
theorem dX9_more_100 : decode cX9_more 100 = .ok (.iload 5, 2) := by decide +kernel
theorem dX9_more_102 : decode cX9_more 102 = .ok (.iload_n 2, 1) := by decide +kernel
theorem dX9_more_103 : decode cX9_more 103 = .ok (.if_icmp .eq 27, 3) := by decide +kernel
theorem dX9_more_106 : decode cX9_more 106 = .ok (.aload_n 0, 1) := by decide +kernel
theorem dX9_more_107 : decode cX9_more 107 = .ok (.getfield 48, 3) := by decide +kernel
theorem dX9_more_110 : decode cX9_more 110 = .ok (.iload 4, 2) := by decide +kernel
theorem dX9_more_112 : decode cX9_more 112 = .ok (.iaload, 1) := by decide +kernel
theorem dX9_more_113 : decode cX9_more 113 = .ok (.aload_n 0, 1) := by decide +kernel
theorem dX9_more_114 : decode cX9_more 114 = .ok (.getfield 24, 3) := by decide +kernel
theorem dX9_more_117 : decode cX9_more 117 = .ok (.iload 5, 2) := by decide +kernel
theorem dX9_more_119 : decode cX9_more 119 = .ok (.iaload, 1) := by decide +kernel
theorem dX9_more_120 : decode cX9_more 120 = .ok (.if_icmp .ge 10, 3) := by decide +kernel
theorem dX9_more_123 : decode cX9_more 123 = .ok (.aload_n 0, 1) := by decide +kernel
theorem dX9_more_124 : decode cX9_more 124 = .ok (.iload 4, 2) := by decide +kernel
theorem dX9_more_126 : decode cX9_more 126 = .ok (.invokevirtual 167, 3) := by decide +kernel
theorem dX9_more_129 : decode cX9_more 129 = .ok (.ireturn, 1) := by decide +kernel
theorem dX9_more_130 : decode cX9_more 130 = .ok (.aload_n 0, 1) := by decide +kernel
theorem dX9_more_131 : decode cX9_more 131 = .ok (.iload 4, 2) := by decide +kernel
theorem dX9_more_133 : decode cX9_more 133 = .ok (.iload_n 1, 1) := by decide +kernel
theorem dX9_more_134 : decode cX9_more 134 = .ok (.invokevirtual 170, 3) := by decide +kernel
theorem dX9_more_137 : decode cX9_more 137 = .ok (.iinc 3 1, 3) := by decide +kernel
theorem dX9_more_140 : decode cX9_more 140 = .ok (.goto (-73), 3) := by decide +kernel
theorem dX9_more_143 : decode cX9_more 143 = .ok (.iconst 0, 1) := by decide +kernel
theorem dX9_more_144 : decode cX9_more 144 = .ok (.ireturn, 1) := by decide +kernel
def w_X9_more_130 (Q : Int32 → gS → Prop) (k67 : Int32 → Int32 → Int32 → gS → Prop) (x1 : Int32) (x2 : Int32) (x3 : Int32) (x4 : Int32) (σ : gS) : Prop :=
    w_X9_spreads  (fun (s6 : gS) => ∀ y8 : Int32, y8 = x3 + 1 → k67 x1 x2 y8 s6) σ x4 x1
def w_X9_more_67 (Q : Int32 → gS → Prop) : Nat → Int32 → Int32 → Int32 → gS → Prop
  | 0, _, _, _, _ => False
  | n67 + 1, x1, x2, x3, σ =>
    ((σ 86 0) ≤ x3 → Q 0 σ) ∧ (¬ (σ 86 0) ≤ x3 → vp_in x3 320 ∧ ∀ y11 : Int32, y11 = (σ 85 x3.toNatClampNeg) → ∀ y12 : Int32, y12 = (y11 / 40) → vp_in y12 8 ∧ (¬ (σ 70 y12.toNatClampNeg) = 0 → w_X9_more_130 Q (w_X9_more_67 Q n67) x1 x2 x3 y11 σ) ∧ ((σ 70 y12.toNatClampNeg) = 0 → (y12 = x2 → w_X9_more_130 Q (w_X9_more_67 Q n67) x1 x2 x3 y11 σ) ∧ (¬ y12 = x2 → vp_in y11 320 ∧ vp_in y12 8 ∧ ((σ 69 y12.toNatClampNeg) ≤ (σ 79 y11.toNatClampNeg) → w_X9_more_130 Q (w_X9_more_67 Q n67) x1 x2 x3 y11 σ) ∧ (¬ (σ 69 y12.toNatClampNeg) ≤ (σ 79 y11.toNatClampNeg) → w_X9_leads  (fun (r20 : Int32) (s19 : gS) => Q r20 s19) σ y11))))
def w_X9_more_29 (Q : Int32 → gS → Prop) : Nat → Int32 → Int32 → Int32 → gS → Prop
  | 0, _, _, _, _ => False
  | n29 + 1, x1, x2, x3, σ =>
    ((σ 71 0) ≤ x3 → ∃ n67, w_X9_more_67 Q n67 x1 x2 0 σ) ∧ (¬ (σ 71 0) ≤ x3 → vp_in x3 8 ∧ ((σ 80 x3.toNatClampNeg) ≤ 0 → ∀ y24 : Int32, y24 = x3 + 1 → w_X9_more_29 Q n29 x1 x2 y24 σ) ∧ (¬ (σ 80 x3.toNatClampNeg) ≤ 0 → w_X9_nodeOf  (fun (r26 : Int32) (s25 : gS) => w_X9_comes  (fun (s27 : gS) => ∀ y29 : Int32, y29 = x3 + 1 → w_X9_more_29 Q n29 x1 x2 y29 s27) s25 r26 (-5) (-1) 0) σ x3 0))
def w_X9_more_2 (Q : Int32 → gS → Prop) : Nat → Int32 → Int32 → Int32 → gS → Prop
  | 0, _, _, _, _ => False
  | n2 + 1, x1, x2, x3, σ =>
    (320 ≤ x3 → ∀ s31 : gS, s31 = gu σ 86 0 0 → ∃ n29, w_X9_more_29 Q n29 x1 x2 0 s31) ∧ (¬ 320 ≤ x3 → vp_in x3 320 ∧ ∀ s33 : gS, s33 = gu σ 84 x3.toNatClampNeg (vp_nar .boolean 0) → ∀ y34 : Int32, y34 = x3 + 1 → w_X9_more_2 Q n2 x1 x2 y34 s33)
def w_X9_more (Q : Int32 → gS → Prop) (σ : gS) (a1 : Int32) (a2 : Int32) : Prop :=
    ∃ n2, w_X9_more_2 Q n2 a1 a2 0 σ
abbrev ws_X9_more : List Cond := Cond.code yX9_more cX9_more 6 (some .int) :: gG
abbrev rm_X9_more : Room := { frames := 2, cells := 0, slots := 0, locals := 49 }
theorem k_X9_more : gCV yX9_more RX9 cX9_more 6 (some .int) 2 := ⟨gw_5_159, gwp_39, gw_1_11, gw_5_160, rfl, by decide +kernel⟩
set_option maxHeartbeats 4000000 in
set_option maxRecDepth 100000 in
theorem c_X9_more (l : Launch) (D : va_G) (cy : Nat → ClassId) (ad : Nat → Nat) (A : Nat → Prop) (Q : Int32 → gS → Prop) (σ : gS) (a1 : Int32) (a2 : Int32) (h : w_X9_more Q σ a1 a2) : Met l yX9_more ws_X9_more rm_X9_more (va_Pc [.ref (ad 10), .int a1, .int a2] (gB D cy ad A σ)) (va_Qi Q (gB D cy ad A) A) 0 0 A := by
  refine Met.ofW (cc := cX9_more) (maxL := 6) (ret := (some .int)) (by decide) rfl ?_
  intro p e s m args below meth c s₁ B hml hv
  obtain ⟨rfl, hB⟩ := hv
  have hC : gC p c cX9_more s m ([.ref (ad 10), .int a1, .int a2] : List Value).toArray RX9 D cy ad A := g_start B hB
  have hI := g_first hB
  have hx := hC.1
  have hb := hC.2.1
  have hr := B.returns
  have hlocks := B.notSynchronized
  clear B hB
  have J67 : ∀ (n67 : Nat) (x1 : Int32) (x2 : Int32) (x3 : Int32) (σ : gS) (H : Heap) (locs : List Loc) (ls : Array Slot), w_X9_more_67 Q n67 x1 x2 x3 σ → gI D cy ad A s.heap σ H locs → lv_has ls 6 [(0, .ref (ad 10)), (1, .int x1), (2, .int x2), (3, .int x3)] → W p l e (headSpec ws_X9_more rm_X9_more).room s m ([.ref (ad 10), .int a1, .int a2] : List Value).toArray below meth c H locs 0 0 (MQ below (va_Qi Q (gB D cy ad A) A) ([.ref (ad 10), .int a1, .int a2] : List Value).toArray s 0 0 A) (F0 m 67 ls []) := by
    intro n67
    induction n67 with
    | zero => intro x1 x2 x3 σ H locs ls h; exact absurd h (fun h => h)
    | succ n67 ih67 =>
      have J130 : ∀ (x1 : Int32) (x2 : Int32) (x3 : Int32) (x4 : Int32) (σ : gS) (H : Heap) (locs : List Loc) (ls : Array Slot), w_X9_more_130 Q (w_X9_more_67 Q n67) x1 x2 x3 x4 σ → gI D cy ad A s.heap σ H locs → lv_has ls 6 [(0, .ref (ad 10)), (1, .int x1), (2, .int x2), (3, .int x3), (4, .int x4)] → W p l e (headSpec ws_X9_more rm_X9_more).room s m ([.ref (ad 10), .int a1, .int a2] : List Value).toArray below meth c H locs 0 0 (MQ below (va_Qi Q (gB D cy ad A) A) ([.ref (ad 10), .int a1, .int a2] : List Value).toArray s 0 0 A) (F0 m 130 ls []) := by
        intro x1 x2 x3 x4 σ H locs ls h hI hl
        unfold w_X9_more_130 at h
        refine lv_aload_n hx hb dX9_more_130 rfl (lv_at hl 0 rfl) ?_
        refine lv_iload hx hb dX9_more_131 (lv_at hl 4 rfl) ?_
        refine lv_iload_n hx hb dX9_more_133 rfl (lv_at hl 1 rfl) ?_
        refine g_backv hI (g_runV (As := [.int x4, .int x1]) (rest := []) hC hml hI (c_X9_spreads l D cy ad A _  _ _ _ h) k_X9_spreads gw_5_182 ⟨rfl, rfl⟩ ⟨Nat.le_of_ble_eq_true rfl, Nat.le_of_ble_eq_true rfl⟩ (grv_10 hC hI) rfl hl.1 rfl (Nat.le_of_ble_eq_true rfl) dX9_more_134 ⟨Nat.le_of_ble_eq_true rfl, Nat.le_of_ble_eq_true rfl⟩) (fun s6 H locs h hI => ?_)
        obtain ⟨y8, ey8⟩ : ∃ y : Int32, y = x3 + 1 := ⟨_, rfl⟩
        have h := h y8 ey8
        refine lv_iinc (v := y8) (lv' := [(3, .int y8), (0, .ref (ad 10)), (1, .int x1), (2, .int x2), (4, .int x4)]) hx hb dX9_more_137 hl (k := 3) rfl (by rw [ey8]; rfl) (by decide) rfl (fun ls hl => ?_)
        refine lv_goto (tgt := 67) hx hb dX9_more_140 (by decide) ?_
        exact ih67 _ _ _ _ _ _ _ h hI (lv_sub hl [1, 2, 3, 0] rfl)
      intro x1 x2 x3 σ H locs ls h hI hl
      unfold w_X9_more_67 at h
      refine lv_iload_n hx hb dX9_more_67 rfl (lv_at hl 3 rfl) ?_
      refine lv_aload_n hx hb dX9_more_68 rfl (lv_at hl 0 rfl) ?_
      refine gg_X9_queued hC hI gw_4_211 dX9_more_69 ?_
      refine lv_icmp_ge (tgt := 143) hx hb dX9_more_72 (by decide) (fun c9 => ?_) (fun c9 => ?_)
      · have h := h.1 c9
        refine lv_iconst (v := 0) hx hb dX9_more_143 (by decide) ?_
        exact g_iret hC hr hlocks hI h dX9_more_144
      · have h := h.2 c9
        refine lv_aload_n hx hb dX9_more_75 rfl (lv_at hl 0 rfl) ?_
        refine gg_X9_queue hC hI gw_4_210 dX9_more_76 ?_
        refine lv_iload_n hx hb dX9_more_79 rfl (lv_at hl 3 rfl) ?_
        obtain ⟨hi10, h⟩ := h
        refine ga_68 hC hI hi10 dX9_more_80 ?_
        refine lv_topi (fun y11 ey11 => ?_)
        have h := h y11 ey11
        refine lv_istore (lv' := [(4, .int y11), (0, .ref (ad 10)), (1, .int x1), (2, .int x2), (3, .int x3)]) hx hb dX9_more_81 hl (by decide) rfl (fun ls hl => ?_)
        refine lv_iload hx hb dX9_more_83 (lv_at hl 0 rfl) ?_
        refine lv_bipush (v := 40) hx hb dX9_more_85 (by decide) ?_
        refine lv_idiv hx hb dX9_more_87 (by decide) ?_
        refine lv_topi (fun y12 ey12 => ?_)
        have h := h y12 ey12
        refine lv_istore (lv' := [(5, .int y12), (4, .int y11), (0, .ref (ad 10)), (1, .int x1), (2, .int x2), (3, .int x3)]) hx hb dX9_more_88 hl (by decide) rfl (fun ls hl => ?_)
        refine lv_aload_n hx hb dX9_more_90 rfl (lv_at hl 2 rfl) ?_
        refine gg_X9_isShut hC hI gw_4_195 dX9_more_91 ?_
        refine lv_iload hx hb dX9_more_94 (lv_at hl 0 rfl) ?_
        obtain ⟨hi13, h⟩ := h
        refine ga_55 hC hI hi13 dX9_more_96 ?_
        refine lv_if_ne (tgt := 130) hx hb dX9_more_97 (by decide) (fun c14 => ?_) (fun c14 => ?_)
        · have h := h.1 c14
          exact J130 _ _ _ _ _ _ _ _ h hI (lv_sub hl [2, 3, 4, 5, 1] rfl)
        · have h := h.2 c14
          refine lv_iload hx hb dX9_more_100 (lv_at hl 0 rfl) ?_
          refine lv_iload_n hx hb dX9_more_102 rfl (lv_at hl 4 rfl) ?_
          refine lv_icmp_eq (tgt := 130) hx hb dX9_more_103 (by decide) (fun c15 => ?_) (fun c15 => ?_)
          · have h := h.1 c15
            exact J130 _ _ _ _ _ _ _ _ h hI (lv_sub hl [2, 3, 4, 5, 1] rfl)
          · have h := h.2 c15
            refine lv_aload_n hx hb dX9_more_106 rfl (lv_at hl 2 rfl) ?_
            refine gg_X9_outs hC hI gw_4_204 dX9_more_107 ?_
            refine lv_iload hx hb dX9_more_110 (lv_at hl 1 rfl) ?_
            obtain ⟨hi16, h⟩ := h
            refine ga_62 hC hI hi16 dX9_more_112 ?_
            refine lv_aload_n hx hb dX9_more_113 rfl (lv_at hl 2 rfl) ?_
            refine gg_X9_rate hC hI gw_4_194 dX9_more_114 ?_
            refine lv_iload hx hb dX9_more_117 (lv_at hl 0 rfl) ?_
            obtain ⟨hi17, h⟩ := h
            refine ga_54 hC hI hi17 dX9_more_119 ?_
            refine lv_icmp_ge (tgt := 130) hx hb dX9_more_120 (by decide) (fun c18 => ?_) (fun c18 => ?_)
            · have h := h.1 c18
              exact J130 _ _ _ _ _ _ _ _ h hI (lv_sub hl [2, 3, 4, 5, 1] rfl)
            · have h := h.2 c18
              refine lv_aload_n hx hb dX9_more_123 rfl (lv_at hl 2 rfl) ?_
              refine lv_iload hx hb dX9_more_124 (lv_at hl 1 rfl) ?_
              refine g_backi hI (g_runV (As := [.int y11]) (rest := []) hC hml hI (c_X9_leads l D cy ad A _  _ _ h) k_X9_leads gw_5_168 ⟨rfl, rfl⟩ ⟨Nat.le_of_ble_eq_true rfl, Nat.le_of_ble_eq_true rfl⟩ (grv_10 hC hI) rfl hl.1 rfl (Nat.le_of_ble_eq_true rfl) dX9_more_126 ⟨Nat.le_of_ble_eq_true rfl, Nat.le_of_ble_eq_true rfl⟩) (fun r20 s19 H locs h hI => ?_)
              exact g_iret hC hr hlocks hI h dX9_more_129
  have J29 : ∀ (n29 : Nat) (x1 : Int32) (x2 : Int32) (x3 : Int32) (σ : gS) (H : Heap) (locs : List Loc) (ls : Array Slot), w_X9_more_29 Q n29 x1 x2 x3 σ → gI D cy ad A s.heap σ H locs → lv_has ls 6 [(0, .ref (ad 10)), (1, .int x1), (2, .int x2), (3, .int x3)] → W p l e (headSpec ws_X9_more rm_X9_more).room s m ([.ref (ad 10), .int a1, .int a2] : List Value).toArray below meth c H locs 0 0 (MQ below (va_Qi Q (gB D cy ad A) A) ([.ref (ad 10), .int a1, .int a2] : List Value).toArray s 0 0 A) (F0 m 29 ls []) := by
    intro n29
    induction n29 with
    | zero => intro x1 x2 x3 σ H locs ls h; exact absurd h (fun h => h)
    | succ n29 ih29 =>
      intro x1 x2 x3 σ H locs ls h hI hl
      unfold w_X9_more_29 at h
      refine lv_iload_n hx hb dX9_more_29 rfl (lv_at hl 3 rfl) ?_
      refine lv_aload_n hx hb dX9_more_30 rfl (lv_at hl 0 rfl) ?_
      refine gg_X9_places hC hI gw_4_196 dX9_more_31 ?_
      refine lv_icmp_ge (tgt := 65) hx hb dX9_more_34 (by decide) (fun c21 => ?_) (fun c21 => ?_)
      · have h := h.1 c21
        refine lv_iconst (v := 0) hx hb dX9_more_65 (by decide) ?_
        refine lv_istore_n (lv' := [(3, .int 0), (0, .ref (ad 10)), (1, .int x1), (2, .int x2)]) hx hb dX9_more_66 rfl hl (by decide) rfl (fun ls hl => ?_)
        obtain ⟨n9, h⟩ := h
        exact J67 n9 _ _ _ _ _ _ _ h hI (lv_sub hl [1, 2, 3, 0] rfl)
      · have h := h.2 c21
        refine lv_aload_n hx hb dX9_more_37 rfl (lv_at hl 0 rfl) ?_
        refine gg_X9_left hC hI gw_4_205 dX9_more_38 ?_
        refine lv_iload_n hx hb dX9_more_41 rfl (lv_at hl 3 rfl) ?_
        obtain ⟨hi22, h⟩ := h
        refine ga_63 hC hI hi22 dX9_more_42 ?_
        refine lv_if_le (tgt := 59) hx hb dX9_more_43 (by decide) (fun c23 => ?_) (fun c23 => ?_)
        · have h := h.1 c23
          obtain ⟨y24, ey24⟩ : ∃ y : Int32, y = x3 + 1 := ⟨_, rfl⟩
          have h := h y24 ey24
          refine lv_iinc (v := y24) (lv' := [(3, .int y24), (0, .ref (ad 10)), (1, .int x1), (2, .int x2)]) hx hb dX9_more_59 hl (k := 3) rfl (by rw [ey24]; rfl) (by decide) rfl (fun ls hl => ?_)
          refine lv_goto (tgt := 29) hx hb dX9_more_62 (by decide) ?_
          exact ih29 _ _ _ _ _ _ _ h hI (lv_sub hl [1, 2, 3, 0] rfl)
        · have h := h.2 c23
          refine lv_aload_n hx hb dX9_more_46 rfl (lv_at hl 0 rfl) ?_
          refine lv_iload_n hx hb dX9_more_47 rfl (lv_at hl 3 rfl) ?_
          refine lv_iconst (v := 0) hx hb dX9_more_48 (by decide) ?_
          refine g_backi hI (g_runS (As := [.int x3, .int 0]) (rest := [.ref (ad 10)]) hC hml hI (c_X9_nodeOf l D cy ad A _  _ _ _ h) k_X9_nodeOf gw_5_161 ⟨rfl, rfl⟩ ⟨Nat.le_of_ble_eq_true rfl, Nat.le_of_ble_eq_true rfl⟩ rfl hl.1 rfl (Nat.le_of_ble_eq_true rfl) dX9_more_49 ⟨Nat.le_of_ble_eq_true rfl, Nat.le_of_ble_eq_true rfl⟩) (fun r26 s25 H locs h hI => ?_)
          refine lv_bipush (v := (-5)) hx hb dX9_more_52 (by decide) ?_
          refine lv_iconst (v := (-1)) hx hb dX9_more_54 (by decide) ?_
          refine lv_iconst (v := 0) hx hb dX9_more_55 (by decide) ?_
          refine g_backv hI (g_runV (As := [.int r26, .int (-5), .int (-1), .int 0]) (rest := []) hC hml hI (c_X9_comes l D cy ad A _  _ _ _ _ _ h) k_X9_comes gw_5_164 ⟨rfl, rfl⟩ ⟨Nat.le_of_ble_eq_true rfl, Nat.le_of_ble_eq_true rfl⟩ (grv_10 hC hI) rfl hl.1 rfl (Nat.le_of_ble_eq_true rfl) dX9_more_56 ⟨Nat.le_of_ble_eq_true rfl, Nat.le_of_ble_eq_true rfl⟩) (fun s27 H locs h hI => ?_)
          obtain ⟨y29, ey29⟩ : ∃ y : Int32, y = x3 + 1 := ⟨_, rfl⟩
          have h := h y29 ey29
          refine lv_iinc (v := y29) (lv' := [(3, .int y29), (0, .ref (ad 10)), (1, .int x1), (2, .int x2)]) hx hb dX9_more_59 hl (k := 3) rfl (by rw [ey29]; rfl) (by decide) rfl (fun ls hl => ?_)
          refine lv_goto (tgt := 29) hx hb dX9_more_62 (by decide) ?_
          exact ih29 _ _ _ _ _ _ _ h hI (lv_sub hl [1, 2, 3, 0] rfl)
  have J2 : ∀ (n2 : Nat) (x1 : Int32) (x2 : Int32) (x3 : Int32) (σ : gS) (H : Heap) (locs : List Loc) (ls : Array Slot), w_X9_more_2 Q n2 x1 x2 x3 σ → gI D cy ad A s.heap σ H locs → lv_has ls 6 [(0, .ref (ad 10)), (1, .int x1), (2, .int x2), (3, .int x3)] → W p l e (headSpec ws_X9_more rm_X9_more).room s m ([.ref (ad 10), .int a1, .int a2] : List Value).toArray below meth c H locs 0 0 (MQ below (va_Qi Q (gB D cy ad A) A) ([.ref (ad 10), .int a1, .int a2] : List Value).toArray s 0 0 A) (F0 m 2 ls []) := by
    intro n2
    induction n2 with
    | zero => intro x1 x2 x3 σ H locs ls h; exact absurd h (fun h => h)
    | succ n2 ih2 =>
      intro x1 x2 x3 σ H locs ls h hI hl
      unfold w_X9_more_2 at h
      refine lv_iload_n hx hb dX9_more_2 rfl (lv_at hl 3 rfl) ?_
      refine lv_sipush (v := 320) hx hb dX9_more_3 (by decide) ?_
      refine lv_icmp_ge (tgt := 22) hx hb dX9_more_6 (by decide) (fun c30 => ?_) (fun c30 => ?_)
      · have h := h.1 c30
        refine lv_aload_n hx hb dX9_more_22 rfl (lv_at hl 0 rfl) ?_
        refine lv_iconst (v := 0) hx hb dX9_more_23 (by decide) ?_
        refine gp_X9_queued hC hI gw_4_211 dX9_more_24 (fun s31 H locs es31 hI => ?_)
        have h := h s31 es31
        refine lv_iconst (v := 0) hx hb dX9_more_27 (by decide) ?_
        refine lv_istore_n (lv' := [(3, .int 0), (0, .ref (ad 10)), (1, .int x1), (2, .int x2)]) hx hb dX9_more_28 rfl hl (by decide) rfl (fun ls hl => ?_)
        obtain ⟨n9, h⟩ := h
        exact J29 n9 _ _ _ _ _ _ _ h hI (lv_sub hl [1, 2, 3, 0] rfl)
      · have h := h.2 c30
        refine lv_aload_n hx hb dX9_more_9 rfl (lv_at hl 0 rfl) ?_
        refine gg_X9_isSeen hC hI gw_4_209 dX9_more_10 ?_
        refine lv_iload_n hx hb dX9_more_13 rfl (lv_at hl 3 rfl) ?_
        refine lv_iconst (v := 0) hx hb dX9_more_14 (by decide) ?_
        obtain ⟨hi32, h⟩ := h
        refine gs_67 hC hI hi32 dX9_more_15 (fun s33 H locs es33 hI => ?_)
        have h := h s33 es33
        obtain ⟨y34, ey34⟩ : ∃ y : Int32, y = x3 + 1 := ⟨_, rfl⟩
        have h := h y34 ey34
        refine lv_iinc (v := y34) (lv' := [(3, .int y34), (0, .ref (ad 10)), (1, .int x1), (2, .int x2)]) hx hb dX9_more_16 hl (k := 3) rfl (by rw [ey34]; rfl) (by decide) rfl (fun ls hl => ?_)
        refine lv_goto (tgt := 2) hx hb dX9_more_19 (by decide) ?_
        exact ih2 _ _ _ _ _ _ _ h hI (lv_sub hl [1, 2, 3, 0] rfl)
  have hl := lv_entry ([.ref (ad 10), .int a1, .int a2]) (n := 6) (Nat.le_of_ble_eq_true rfl)
  rw [lg_entry_eq]
  generalize (lg_sl ([.ref (ad 10), .int a1, .int a2]) ++ List.replicate (6 - (lg_sl ([.ref (ad 10), .int a1, .int a2])).length) Slot.unset).toArray = ls at hl ⊢
  have hl : lv_has ls 6 [(0, .ref (ad 10)), (1, .int a1), (2, .int a2)] := hl
  unfold w_X9_more at h
  refine lv_iconst (v := 0) hx hb dX9_more_0 (by decide) ?_
  refine lv_istore_n (lv' := [(3, .int 0), (0, .ref (ad 10)), (1, .int a1), (2, .int a2)]) hx hb dX9_more_1 rfl hl (by decide) rfl (fun ls hl => ?_)
  obtain ⟨n9, h⟩ := h
  exact J2 n9 _ _ _ _ _ _ _ h hI (lv_sub hl [1, 2, 3, 0] rfl)

theorem dX9_emptied_0 : decode cX9_emptied 0 = .ok (.iconst 0, 1) := by decide +kernel
theorem dX9_emptied_1 : decode cX9_emptied 1 = .ok (.istore_n 2, 1) := by decide +kernel
theorem dX9_emptied_2 : decode cX9_emptied 2 = .ok (.iload_n 2, 1) := by decide +kernel
theorem dX9_emptied_3 : decode cX9_emptied 3 = .ok (.sipush 320, 3) := by decide +kernel
theorem dX9_emptied_6 : decode cX9_emptied 6 = .ok (.if_icmp .ge 23, 3) := by decide +kernel
theorem dX9_emptied_9 : decode cX9_emptied 9 = .ok (.aload_n 0, 1) := by decide +kernel
theorem dX9_emptied_10 : decode cX9_emptied 10 = .ok (.getfield 42, 3) := by decide +kernel
theorem dX9_emptied_13 : decode cX9_emptied 13 = .ok (.iload_n 2, 1) := by decide +kernel
theorem dX9_emptied_14 : decode cX9_emptied 14 = .ok (.iconst 0, 1) := by decide +kernel
theorem dX9_emptied_15 : decode cX9_emptied 15 = .ok (.iastore, 1) := by decide +kernel
theorem dX9_emptied_16 : decode cX9_emptied 16 = .ok (.aload_n 0, 1) := by decide +kernel
theorem dX9_emptied_17 : decode cX9_emptied 17 = .ok (.getfield 48, 3) := by decide +kernel
theorem dX9_emptied_20 : decode cX9_emptied 20 = .ok (.iload_n 2, 1) := by decide +kernel
theorem dX9_emptied_21 : decode cX9_emptied 21 = .ok (.iconst 0, 1) := by decide +kernel
theorem dX9_emptied_22 : decode cX9_emptied 22 = .ok (.iastore, 1) := by decide +kernel
theorem dX9_emptied_23 : decode cX9_emptied 23 = .ok (.iinc 2 1, 3) := by decide +kernel
theorem dX9_emptied_26 : decode cX9_emptied 26 = .ok (.goto (-24), 3) := by decide +kernel
theorem dX9_emptied_29 : decode cX9_emptied 29 = .ok (.iconst 0, 1) := by decide +kernel
theorem dX9_emptied_30 : decode cX9_emptied 30 = .ok (.istore_n 2, 1) := by decide +kernel
theorem dX9_emptied_31 : decode cX9_emptied 31 = .ok (.iload_n 2, 1) := by decide +kernel
theorem dX9_emptied_32 : decode cX9_emptied 32 = .ok (.sipush 1120, 3) := by decide +kernel
theorem dX9_emptied_35 : decode cX9_emptied 35 = .ok (.if_icmp .ge 16, 3) := by decide +kernel
theorem dX9_emptied_38 : decode cX9_emptied 38 = .ok (.aload_n 0, 1) := by decide +kernel
theorem dX9_emptied_39 : decode cX9_emptied 39 = .ok (.getfield 45, 3) := by decide +kernel
theorem dX9_emptied_42 : decode cX9_emptied 42 = .ok (.iload_n 2, 1) := by decide +kernel
theorem dX9_emptied_43 : decode cX9_emptied 43 = .ok (.iconst 0, 1) := by decide +kernel
theorem dX9_emptied_44 : decode cX9_emptied 44 = .ok (.iastore, 1) := by decide +kernel
theorem dX9_emptied_45 : decode cX9_emptied 45 = .ok (.iinc 2 1, 3) := by decide +kernel
theorem dX9_emptied_48 : decode cX9_emptied 48 = .ok (.goto (-17), 3) := by decide +kernel
theorem dX9_emptied_51 : decode cX9_emptied 51 = .ok (.iconst 0, 1) := by decide +kernel
theorem dX9_emptied_52 : decode cX9_emptied 52 = .ok (.istore_n 2, 1) := by decide +kernel
theorem dX9_emptied_53 : decode cX9_emptied 53 = .ok (.iconst 0, 1) := by decide +kernel
theorem dX9_emptied_54 : decode cX9_emptied 54 = .ok (.istore_n 3, 1) := by decide +kernel
theorem dX9_emptied_55 : decode cX9_emptied 55 = .ok (.iload_n 3, 1) := by decide +kernel
theorem dX9_emptied_56 : decode cX9_emptied 56 = .ok (.aload_n 0, 1) := by decide +kernel
theorem dX9_emptied_57 : decode cX9_emptied 57 = .ok (.getfield 142, 3) := by decide +kernel
theorem dX9_emptied_60 : decode cX9_emptied 60 = .ok (.if_icmp .ge 30, 3) := by decide +kernel
theorem dX9_emptied_63 : decode cX9_emptied 63 = .ok (.aload_n 0, 1) := by decide +kernel
theorem dX9_emptied_64 : decode cX9_emptied 64 = .ok (.getfield 51, 3) := by decide +kernel
theorem dX9_emptied_67 : decode cX9_emptied 67 = .ok (.iload_n 3, 1) := by decide +kernel
theorem dX9_emptied_68 : decode cX9_emptied 68 = .ok (.aload_n 0, 1) := by decide +kernel
theorem dX9_emptied_69 : decode cX9_emptied 69 = .ok (.getfield 21, 3) := by decide +kernel
theorem dX9_emptied_72 : decode cX9_emptied 72 = .ok (.iload_n 3, 1) := by decide +kernel
theorem dX9_emptied_73 : decode cX9_emptied 73 = .ok (.iaload, 1) := by decide +kernel
theorem dX9_emptied_74 : decode cX9_emptied 74 = .ok (.iastore, 1) := by decide +kernel
theorem dX9_emptied_75 : decode cX9_emptied 75 = .ok (.iload_n 2, 1) := by decide +kernel
theorem dX9_emptied_76 : decode cX9_emptied 76 = .ok (.aload_n 0, 1) := by decide +kernel
theorem dX9_emptied_77 : decode cX9_emptied 77 = .ok (.getfield 21, 3) := by decide +kernel
theorem dX9_emptied_80 : decode cX9_emptied 80 = .ok (.iload_n 3, 1) := by decide +kernel
theorem dX9_emptied_81 : decode cX9_emptied 81 = .ok (.iaload, 1) := by decide +kernel
theorem dX9_emptied_82 : decode cX9_emptied 82 = .ok (.iadd, 1) := by decide +kernel
theorem dX9_emptied_83 : decode cX9_emptied 83 = .ok (.istore_n 2, 1) := by decide +kernel
theorem dX9_emptied_84 : decode cX9_emptied 84 = .ok (.iinc 3 1, 3) := by decide +kernel
theorem dX9_emptied_87 : decode cX9_emptied 87 = .ok (.goto (-32), 3) := by decide +kernel
theorem dX9_emptied_90 : decode cX9_emptied 90 = .ok (.iconst 0, 1) := by decide +kernel
theorem dX9_emptied_91 : decode cX9_emptied 91 = .ok (.istore_n 3, 1) := by decide +kernel
theorem dX9_emptied_92 : decode cX9_emptied 92 = .ok (.iload_n 3, 1) := by decide +kernel
theorem dX9_emptied_93 : decode cX9_emptied 93 = .ok (.bipush 40, 2) := by decide +kernel
theorem dX9_emptied_95 : decode cX9_emptied 95 = .ok (.if_icmp .gt 64, 3) := by decide +kernel
theorem dX9_emptied_98 : decode cX9_emptied 98 = .ok (.iload_n 3, 1) := by decide +kernel
theorem dX9_emptied_99 : decode cX9_emptied 99 = .ok (.ifCond .eq 7, 3) := by decide +kernel
theorem dX9_emptied_102 : decode cX9_emptied 102 = .ok (.iload_n 2, 1) := by decide +kernel
theorem dX9_emptied_103 : decode cX9_emptied 103 = .ok (.ifCond .ne 7, 3) := by decide +kernel
theorem dX9_emptied_106 : decode cX9_emptied 106 = .ok (.iconst 0, 1) := by decide +kernel
theorem dX9_emptied_107 : decode cX9_emptied 107 = .ok (.goto 9, 3) := by decide +kernel
theorem dX9_emptied_110 : decode cX9_emptied 110 = .ok (.aload_n 0, 1) := by decide +kernel
theorem dX9_emptied_111 : decode cX9_emptied 111 = .ok (.iload_n 3, 1) := by decide +kernel
theorem dX9_emptied_112 : decode cX9_emptied 112 = .ok (.iload_n 1, 1) := by decide +kernel
theorem dX9_emptied_113 : decode cX9_emptied 113 = .ok (.invokevirtual 183, 3) := by decide +kernel
theorem dX9_emptied_116 : decode cX9_emptied 116 = .ok (.istore 4, 2) := by decide +kernel
theorem dX9_emptied_118 : decode cX9_emptied 118 = .ok (.iload 4, 2) := by decide +kernel
theorem dX9_emptied_120 : decode cX9_emptied 120 = .ok (.ifCond .le 27, 3) := by decide +kernel
theorem dX9_emptied_123 : decode cX9_emptied 123 = .ok (.iload_n 2, 1) := by decide +kernel
theorem dX9_emptied_124 : decode cX9_emptied 124 = .ok (.iload 4, 2) := by decide +kernel
theorem dX9_emptied_126 : decode cX9_emptied 126 = .ok (.isub, 1) := by decide +kernel
theorem dX9_emptied_127 : decode cX9_emptied 127 = .ok (.istore_n 2, 1) := by decide +kernel
theorem dX9_emptied_128 : decode cX9_emptied 128 = .ok (.iload_n 2, 1) := by decide +kernel
theorem dX9_emptied_129 : decode cX9_emptied 129 = .ok (.ifCond .ne 7, 3) := by decide +kernel
theorem dX9_emptied_132 : decode cX9_emptied 132 = .ok (.iconst 0, 1) := by decide +kernel
theorem dX9_emptied_133 : decode cX9_emptied 133 = .ok (.goto 9, 3) := by decide +kernel
theorem dX9_emptied_136 : decode cX9_emptied 136 = .ok (.aload_n 0, 1) := by decide +kernel
theorem dX9_emptied_137 : decode cX9_emptied 137 = .ok (.iload_n 3, 1) := by decide +kernel
theorem dX9_emptied_138 : decode cX9_emptied 138 = .ok (.iload_n 1, 1) := by decide +kernel
theorem dX9_emptied_139 : decode cX9_emptied 139 = .ok (.invokevirtual 183, 3) := by decide +kernel
theorem dX9_emptied_142 : decode cX9_emptied 142 = .ok (.istore 4, 2) := by decide +kernel
theorem dX9_emptied_144 : decode cX9_emptied 144 = .ok (.goto (-26), 3) := by decide +kernel
theorem dX9_emptied_147 : decode cX9_emptied 147 = .ok (.iload_n 2, 1) := by decide +kernel
theorem dX9_emptied_148 : decode cX9_emptied 148 = .ok (.ifCond .ne 5, 3) := by decide +kernel
theorem dX9_emptied_151 : decode cX9_emptied 151 = .ok (.iload_n 3, 1) := by decide +kernel
theorem dX9_emptied_152 : decode cX9_emptied 152 = .ok (.ireturn, 1) := by decide +kernel
theorem dX9_emptied_153 : decode cX9_emptied 153 = .ok (.iinc 3 1, 3) := by decide +kernel
theorem dX9_emptied_156 : decode cX9_emptied 156 = .ok (.goto (-64), 3) := by decide +kernel
theorem dX9_emptied_159 : decode cX9_emptied 159 = .ok (.iconst (-1), 1) := by decide +kernel
theorem dX9_emptied_160 : decode cX9_emptied 160 = .ok (.ireturn, 1) := by decide +kernel
def w_X9_emptied_118 (Q : Int32 → gS → Prop) (k92 : Int32 → Int32 → Int32 → gS → Prop) : Nat → Int32 → Int32 → Int32 → Int32 → gS → Prop
  | 0, _, _, _, _, _ => False
  | n118 + 1, x1, x2, x3, x4, σ =>
    (x4 ≤ 0 → (¬ x2 = 0 → ∀ y5 : Int32, y5 = x3 + 1 → k92 x1 x2 y5 σ) ∧ (x2 = 0 → Q x3 σ)) ∧ (¬ x4 ≤ 0 → ∀ y6 : Int32, y6 = (x2 - x4) → (¬ y6 = 0 → w_X9_more  (fun (r9 : Int32) (s8 : gS) => w_X9_emptied_118 Q k92 n118 x1 y6 x3 r9 s8) σ x3 x1) ∧ (y6 = 0 → w_X9_emptied_118 Q k92 n118 x1 y6 x3 0 σ))
def w_X9_emptied_116 (Q : Int32 → gS → Prop) (k92 : Int32 → Int32 → Int32 → gS → Prop) (x1 : Int32) (x2 : Int32) (x3 : Int32) (v0 : Int32) (σ : gS) : Prop :=
    ∃ n118, w_X9_emptied_118 Q k92 n118 x1 x2 x3 v0 σ
def w_X9_emptied_92 (Q : Int32 → gS → Prop) : Nat → Int32 → Int32 → Int32 → gS → Prop
  | 0, _, _, _, _ => False
  | n92 + 1, x1, x2, x3, σ =>
    (40 < x3 → Q (-1) σ) ∧ (¬ 40 < x3 → (x3 = 0 → w_X9_emptied_116 Q (w_X9_emptied_92 Q n92) x1 x2 x3 0 σ) ∧ (¬ x3 = 0 → (¬ x2 = 0 → w_X9_more  (fun (r14 : Int32) (s13 : gS) => w_X9_emptied_116 Q (w_X9_emptied_92 Q n92) x1 x2 x3 r14 s13) σ x3 x1) ∧ (x2 = 0 → w_X9_emptied_116 Q (w_X9_emptied_92 Q n92) x1 x2 x3 0 σ)))
def w_X9_emptied_55 (Q : Int32 → gS → Prop) : Nat → Int32 → Int32 → Int32 → gS → Prop
  | 0, _, _, _, _ => False
  | n55 + 1, x1, x2, x3, σ =>
    ((σ 71 0) ≤ x3 → ∃ n92, w_X9_emptied_92 Q n92 x1 x2 0 σ) ∧ (¬ (σ 71 0) ≤ x3 → vp_in x3 8 ∧ vp_in x3 8 ∧ ∀ s18 : gS, s18 = gu σ 80 x3.toNatClampNeg (σ 68 x3.toNatClampNeg) → vp_in x3 8 ∧ ∀ y20 : Int32, y20 = (x2 + (s18 68 x3.toNatClampNeg)) → ∀ y21 : Int32, y21 = x3 + 1 → w_X9_emptied_55 Q n55 x1 y20 y21 s18)
def w_X9_emptied_31 (Q : Int32 → gS → Prop) : Nat → Int32 → Int32 → gS → Prop
  | 0, _, _, _ => False
  | n31 + 1, x1, x2, σ =>
    (1120 ≤ x2 → ∃ n55, w_X9_emptied_55 Q n55 x1 0 0 σ) ∧ (¬ 1120 ≤ x2 → vp_in x2 1120 ∧ ∀ s24 : gS, s24 = gu σ 78 x2.toNatClampNeg 0 → ∀ y25 : Int32, y25 = x2 + 1 → w_X9_emptied_31 Q n31 x1 y25 s24)
def w_X9_emptied_2 (Q : Int32 → gS → Prop) : Nat → Int32 → Int32 → gS → Prop
  | 0, _, _, _ => False
  | n2 + 1, x1, x2, σ =>
    (320 ≤ x2 → ∃ n31, w_X9_emptied_31 Q n31 x1 0 σ) ∧ (¬ 320 ≤ x2 → vp_in x2 320 ∧ ∀ s28 : gS, s28 = gu σ 77 x2.toNatClampNeg 0 → vp_in x2 320 ∧ ∀ s30 : gS, s30 = gu s28 79 x2.toNatClampNeg 0 → ∀ y31 : Int32, y31 = x2 + 1 → w_X9_emptied_2 Q n2 x1 y31 s30)
def w_X9_emptied (Q : Int32 → gS → Prop) (σ : gS) (a1 : Int32) : Prop :=
    ∃ n2, w_X9_emptied_2 Q n2 a1 0 σ
abbrev ws_X9_emptied : List Cond := Cond.code yX9_emptied cX9_emptied 5 (some .int) :: gG
abbrev rm_X9_emptied : Room := { frames := 3, cells := 0, slots := 0, locals := 74 }
theorem k_X9_emptied : gCV yX9_emptied RX9 cX9_emptied 5 (some .int) 1 := ⟨gw_5_155, gwp_38, gw_1_11, gw_5_156, rfl, by decide +kernel⟩
set_option maxHeartbeats 4000000 in
set_option maxRecDepth 100000 in
theorem c_X9_emptied (l : Launch) (D : va_G) (cy : Nat → ClassId) (ad : Nat → Nat) (A : Nat → Prop) (Q : Int32 → gS → Prop) (σ : gS) (a1 : Int32) (h : w_X9_emptied Q σ a1) : Met l yX9_emptied ws_X9_emptied rm_X9_emptied (va_Pc [.ref (ad 10), .int a1] (gB D cy ad A σ)) (va_Qi Q (gB D cy ad A) A) 0 0 A := by
  refine Met.ofW (cc := cX9_emptied) (maxL := 5) (ret := (some .int)) (by decide) rfl ?_
  intro p e s m args below meth c s₁ B hml hv
  obtain ⟨rfl, hB⟩ := hv
  have hC : gC p c cX9_emptied s m ([.ref (ad 10), .int a1] : List Value).toArray RX9 D cy ad A := g_start B hB
  have hI := g_first hB
  have hx := hC.1
  have hb := hC.2.1
  have hr := B.returns
  have hlocks := B.notSynchronized
  clear B hB
  have J92 : ∀ (n92 : Nat) (x1 : Int32) (x2 : Int32) (x3 : Int32) (σ : gS) (H : Heap) (locs : List Loc) (ls : Array Slot), w_X9_emptied_92 Q n92 x1 x2 x3 σ → gI D cy ad A s.heap σ H locs → lv_has ls 5 [(0, .ref (ad 10)), (1, .int x1), (2, .int x2), (3, .int x3)] → W p l e (headSpec ws_X9_emptied rm_X9_emptied).room s m ([.ref (ad 10), .int a1] : List Value).toArray below meth c H locs 0 0 (MQ below (va_Qi Q (gB D cy ad A) A) ([.ref (ad 10), .int a1] : List Value).toArray s 0 0 A) (F0 m 92 ls []) := by
    intro n92
    induction n92 with
    | zero => intro x1 x2 x3 σ H locs ls h; exact absurd h (fun h => h)
    | succ n92 ih92 =>
      have J118 : ∀ (n118 : Nat) (x1 : Int32) (x2 : Int32) (x3 : Int32) (x4 : Int32) (σ : gS) (H : Heap) (locs : List Loc) (ls : Array Slot), w_X9_emptied_118 Q (w_X9_emptied_92 Q n92) n118 x1 x2 x3 x4 σ → gI D cy ad A s.heap σ H locs → lv_has ls 5 [(0, .ref (ad 10)), (1, .int x1), (2, .int x2), (3, .int x3), (4, .int x4)] → W p l e (headSpec ws_X9_emptied rm_X9_emptied).room s m ([.ref (ad 10), .int a1] : List Value).toArray below meth c H locs 0 0 (MQ below (va_Qi Q (gB D cy ad A) A) ([.ref (ad 10), .int a1] : List Value).toArray s 0 0 A) (F0 m 118 ls []) := by
        intro n118
        induction n118 with
        | zero => intro x1 x2 x3 x4 σ H locs ls h; exact absurd h (fun h => h)
        | succ n118 ih118 =>
          intro x1 x2 x3 x4 σ H locs ls h hI hl
          unfold w_X9_emptied_118 at h
          refine lv_iload hx hb dX9_emptied_118 (lv_at hl 4 rfl) ?_
          refine lv_if_le (tgt := 147) hx hb dX9_emptied_120 (by decide) (fun c3 => ?_) (fun c3 => ?_)
          · have h := h.1 c3
            refine lv_iload_n hx hb dX9_emptied_147 rfl (lv_at hl 2 rfl) ?_
            refine lv_if_ne (tgt := 153) hx hb dX9_emptied_148 (by decide) (fun c4 => ?_) (fun c4 => ?_)
            · have h := h.1 c4
              obtain ⟨y5, ey5⟩ : ∃ y : Int32, y = x3 + 1 := ⟨_, rfl⟩
              have h := h y5 ey5
              refine lv_iinc (v := y5) (lv' := [(3, .int y5), (0, .ref (ad 10)), (1, .int x1), (2, .int x2), (4, .int x4)]) hx hb dX9_emptied_153 hl (k := 3) rfl (by rw [ey5]; rfl) (by decide) rfl (fun ls hl => ?_)
              refine lv_goto (tgt := 92) hx hb dX9_emptied_156 (by decide) ?_
              exact ih92 _ _ _ _ _ _ _ h hI (lv_sub hl [1, 2, 3, 0] rfl)
            · have h := h.2 c4
              refine lv_iload_n hx hb dX9_emptied_151 rfl (lv_at hl 3 rfl) ?_
              exact g_iret hC hr hlocks hI h dX9_emptied_152
          · have h := h.2 c3
            refine lv_iload_n hx hb dX9_emptied_123 rfl (lv_at hl 2 rfl) ?_
            refine lv_iload hx hb dX9_emptied_124 (lv_at hl 4 rfl) ?_
            refine lv_isub hx hb dX9_emptied_126 ?_
            refine lv_topi (fun y6 ey6 => ?_)
            have h := h y6 ey6
            refine lv_istore_n (lv' := [(2, .int y6), (0, .ref (ad 10)), (1, .int x1), (3, .int x3), (4, .int x4)]) hx hb dX9_emptied_127 rfl hl (by decide) rfl (fun ls hl => ?_)
            refine lv_iload_n hx hb dX9_emptied_128 rfl (lv_at hl 0 rfl) ?_
            refine lv_if_ne (tgt := 136) hx hb dX9_emptied_129 (by decide) (fun c7 => ?_) (fun c7 => ?_)
            · have h := h.1 c7
              refine lv_aload_n hx hb dX9_emptied_136 rfl (lv_at hl 1 rfl) ?_
              refine lv_iload_n hx hb dX9_emptied_137 rfl (lv_at hl 3 rfl) ?_
              refine lv_iload_n hx hb dX9_emptied_138 rfl (lv_at hl 2 rfl) ?_
              refine g_backi hI (g_runV (As := [.int x3, .int x1]) (rest := []) hC hml hI (c_X9_more l D cy ad A _  _ _ _ h) k_X9_more gw_5_157 ⟨rfl, rfl⟩ ⟨Nat.le_of_ble_eq_true rfl, Nat.le_of_ble_eq_true rfl⟩ (grv_10 hC hI) rfl hl.1 rfl (Nat.le_of_ble_eq_true rfl) dX9_emptied_139 ⟨Nat.le_of_ble_eq_true rfl, Nat.le_of_ble_eq_true rfl⟩) (fun r9 s8 H locs h hI => ?_)
              refine lv_istore (lv' := [(4, .int r9), (2, .int y6), (0, .ref (ad 10)), (1, .int x1), (3, .int x3)]) hx hb dX9_emptied_142 hl (by decide) rfl (fun ls hl => ?_)
              refine lv_goto (tgt := 118) hx hb dX9_emptied_144 (by decide) ?_
              exact ih118 _ _ _ _ _ _ _ _ h hI (lv_sub hl [2, 3, 1, 4, 0] rfl)
            · have h := h.2 c7
              refine lv_iconst (v := 0) hx hb dX9_emptied_132 (by decide) ?_
              refine lv_goto (tgt := 142) hx hb dX9_emptied_133 (by decide) ?_
              refine lv_istore (lv' := [(4, .int 0), (2, .int y6), (0, .ref (ad 10)), (1, .int x1), (3, .int x3)]) hx hb dX9_emptied_142 hl (by decide) rfl (fun ls hl => ?_)
              refine lv_goto (tgt := 118) hx hb dX9_emptied_144 (by decide) ?_
              exact ih118 _ _ _ _ _ _ _ _ h hI (lv_sub hl [2, 3, 1, 4, 0] rfl)
      have J116 : ∀ (x1 : Int32) (x2 : Int32) (x3 : Int32) (v0 : Int32) (σ : gS) (H : Heap) (locs : List Loc) (ls : Array Slot), w_X9_emptied_116 Q (w_X9_emptied_92 Q n92) x1 x2 x3 v0 σ → gI D cy ad A s.heap σ H locs → lv_has ls 5 [(0, .ref (ad 10)), (1, .int x1), (2, .int x2), (3, .int x3)] → W p l e (headSpec ws_X9_emptied rm_X9_emptied).room s m ([.ref (ad 10), .int a1] : List Value).toArray below meth c H locs 0 0 (MQ below (va_Qi Q (gB D cy ad A) A) ([.ref (ad 10), .int a1] : List Value).toArray s 0 0 A) (F0 m 116 ls [.int v0]) := by
        intro x1 x2 x3 v0 σ H locs ls h hI hl
        unfold w_X9_emptied_116 at h
        refine lv_istore (lv' := [(4, .int v0), (0, .ref (ad 10)), (1, .int x1), (2, .int x2), (3, .int x3)]) hx hb dX9_emptied_116 hl (by decide) rfl (fun ls hl => ?_)
        obtain ⟨n9, h⟩ := h
        exact J118 n9 _ _ _ _ _ _ _ _ h hI (lv_sub hl [1, 2, 3, 4, 0] rfl)
      intro x1 x2 x3 σ H locs ls h hI hl
      unfold w_X9_emptied_92 at h
      refine lv_iload_n hx hb dX9_emptied_92 rfl (lv_at hl 3 rfl) ?_
      refine lv_bipush (v := 40) hx hb dX9_emptied_93 (by decide) ?_
      refine lv_icmp_gt (tgt := 159) hx hb dX9_emptied_95 (by decide) (fun c10 => ?_) (fun c10 => ?_)
      · have h := h.1 c10
        refine lv_iconst (v := (-1)) hx hb dX9_emptied_159 (by decide) ?_
        exact g_iret hC hr hlocks hI h dX9_emptied_160
      · have h := h.2 c10
        refine lv_iload_n hx hb dX9_emptied_98 rfl (lv_at hl 3 rfl) ?_
        refine lv_if_eq (tgt := 106) hx hb dX9_emptied_99 (by decide) (fun c11 => ?_) (fun c11 => ?_)
        · have h := h.1 c11
          refine lv_iconst (v := 0) hx hb dX9_emptied_106 (by decide) ?_
          refine lv_goto (tgt := 116) hx hb dX9_emptied_107 (by decide) ?_
          exact J116 _ _ _ _ _ _ _ _ h hI (lv_sub hl [0, 1, 2, 3] rfl)
        · have h := h.2 c11
          refine lv_iload_n hx hb dX9_emptied_102 rfl (lv_at hl 2 rfl) ?_
          refine lv_if_ne (tgt := 110) hx hb dX9_emptied_103 (by decide) (fun c12 => ?_) (fun c12 => ?_)
          · have h := h.1 c12
            refine lv_aload_n hx hb dX9_emptied_110 rfl (lv_at hl 0 rfl) ?_
            refine lv_iload_n hx hb dX9_emptied_111 rfl (lv_at hl 3 rfl) ?_
            refine lv_iload_n hx hb dX9_emptied_112 rfl (lv_at hl 1 rfl) ?_
            refine g_backi hI (g_runV (As := [.int x3, .int x1]) (rest := []) hC hml hI (c_X9_more l D cy ad A _  _ _ _ h) k_X9_more gw_5_157 ⟨rfl, rfl⟩ ⟨Nat.le_of_ble_eq_true rfl, Nat.le_of_ble_eq_true rfl⟩ (grv_10 hC hI) rfl hl.1 rfl (Nat.le_of_ble_eq_true rfl) dX9_emptied_113 ⟨Nat.le_of_ble_eq_true rfl, Nat.le_of_ble_eq_true rfl⟩) (fun r14 s13 H locs h hI => ?_)
            exact J116 _ _ _ _ _ _ _ _ h hI (lv_sub hl [0, 1, 2, 3] rfl)
          · have h := h.2 c12
            refine lv_iconst (v := 0) hx hb dX9_emptied_106 (by decide) ?_
            refine lv_goto (tgt := 116) hx hb dX9_emptied_107 (by decide) ?_
            exact J116 _ _ _ _ _ _ _ _ h hI (lv_sub hl [0, 1, 2, 3] rfl)
  have J55 : ∀ (n55 : Nat) (x1 : Int32) (x2 : Int32) (x3 : Int32) (σ : gS) (H : Heap) (locs : List Loc) (ls : Array Slot), w_X9_emptied_55 Q n55 x1 x2 x3 σ → gI D cy ad A s.heap σ H locs → lv_has ls 5 [(0, .ref (ad 10)), (1, .int x1), (2, .int x2), (3, .int x3)] → W p l e (headSpec ws_X9_emptied rm_X9_emptied).room s m ([.ref (ad 10), .int a1] : List Value).toArray below meth c H locs 0 0 (MQ below (va_Qi Q (gB D cy ad A) A) ([.ref (ad 10), .int a1] : List Value).toArray s 0 0 A) (F0 m 55 ls []) := by
    intro n55
    induction n55 with
    | zero => intro x1 x2 x3 σ H locs ls h; exact absurd h (fun h => h)
    | succ n55 ih55 =>
      intro x1 x2 x3 σ H locs ls h hI hl
      unfold w_X9_emptied_55 at h
      refine lv_iload_n hx hb dX9_emptied_55 rfl (lv_at hl 3 rfl) ?_
      refine lv_aload_n hx hb dX9_emptied_56 rfl (lv_at hl 0 rfl) ?_
      refine gg_X9_places hC hI gw_4_196 dX9_emptied_57 ?_
      refine lv_icmp_ge (tgt := 90) hx hb dX9_emptied_60 (by decide) (fun c15 => ?_) (fun c15 => ?_)
      · have h := h.1 c15
        refine lv_iconst (v := 0) hx hb dX9_emptied_90 (by decide) ?_
        refine lv_istore_n (lv' := [(3, .int 0), (0, .ref (ad 10)), (1, .int x1), (2, .int x2)]) hx hb dX9_emptied_91 rfl hl (by decide) rfl (fun ls hl => ?_)
        obtain ⟨n9, h⟩ := h
        exact J92 n9 _ _ _ _ _ _ _ h hI (lv_sub hl [1, 2, 3, 0] rfl)
      · have h := h.2 c15
        refine lv_aload_n hx hb dX9_emptied_63 rfl (lv_at hl 0 rfl) ?_
        refine gg_X9_left hC hI gw_4_205 dX9_emptied_64 ?_
        refine lv_iload_n hx hb dX9_emptied_67 rfl (lv_at hl 3 rfl) ?_
        refine lv_aload_n hx hb dX9_emptied_68 rfl (lv_at hl 0 rfl) ?_
        refine gg_X9_crowd hC hI gw_4_193 dX9_emptied_69 ?_
        refine lv_iload_n hx hb dX9_emptied_72 rfl (lv_at hl 3 rfl) ?_
        obtain ⟨hi16, h⟩ := h
        refine ga_53 hC hI hi16 dX9_emptied_73 ?_
        obtain ⟨hi17, h⟩ := h
        refine gs_63 hC hI hi17 dX9_emptied_74 (fun s18 H locs es18 hI => ?_)
        have h := h s18 es18
        refine lv_iload_n hx hb dX9_emptied_75 rfl (lv_at hl 2 rfl) ?_
        refine lv_aload_n hx hb dX9_emptied_76 rfl (lv_at hl 0 rfl) ?_
        refine gg_X9_crowd hC hI gw_4_193 dX9_emptied_77 ?_
        refine lv_iload_n hx hb dX9_emptied_80 rfl (lv_at hl 3 rfl) ?_
        obtain ⟨hi19, h⟩ := h
        refine ga_53 hC hI hi19 dX9_emptied_81 ?_
        refine lv_iadd hx hb dX9_emptied_82 ?_
        refine lv_topi (fun y20 ey20 => ?_)
        have h := h y20 ey20
        refine lv_istore_n (lv' := [(2, .int y20), (0, .ref (ad 10)), (1, .int x1), (3, .int x3)]) hx hb dX9_emptied_83 rfl hl (by decide) rfl (fun ls hl => ?_)
        obtain ⟨y21, ey21⟩ : ∃ y : Int32, y = x3 + 1 := ⟨_, rfl⟩
        have h := h y21 ey21
        refine lv_iinc (v := y21) (lv' := [(3, .int y21), (2, .int y20), (0, .ref (ad 10)), (1, .int x1)]) hx hb dX9_emptied_84 hl (k := 3) rfl (by rw [ey21]; rfl) (by decide) rfl (fun ls hl => ?_)
        refine lv_goto (tgt := 55) hx hb dX9_emptied_87 (by decide) ?_
        exact ih55 _ _ _ _ _ _ _ h hI (lv_sub hl [2, 3, 1, 0] rfl)
  have J31 : ∀ (n31 : Nat) (x1 : Int32) (x2 : Int32) (σ : gS) (H : Heap) (locs : List Loc) (ls : Array Slot), w_X9_emptied_31 Q n31 x1 x2 σ → gI D cy ad A s.heap σ H locs → lv_has ls 5 [(0, .ref (ad 10)), (1, .int x1), (2, .int x2)] → W p l e (headSpec ws_X9_emptied rm_X9_emptied).room s m ([.ref (ad 10), .int a1] : List Value).toArray below meth c H locs 0 0 (MQ below (va_Qi Q (gB D cy ad A) A) ([.ref (ad 10), .int a1] : List Value).toArray s 0 0 A) (F0 m 31 ls []) := by
    intro n31
    induction n31 with
    | zero => intro x1 x2 σ H locs ls h; exact absurd h (fun h => h)
    | succ n31 ih31 =>
      intro x1 x2 σ H locs ls h hI hl
      unfold w_X9_emptied_31 at h
      refine lv_iload_n hx hb dX9_emptied_31 rfl (lv_at hl 2 rfl) ?_
      refine lv_sipush (v := 1120) hx hb dX9_emptied_32 (by decide) ?_
      refine lv_icmp_ge (tgt := 51) hx hb dX9_emptied_35 (by decide) (fun c22 => ?_) (fun c22 => ?_)
      · have h := h.1 c22
        refine lv_iconst (v := 0) hx hb dX9_emptied_51 (by decide) ?_
        refine lv_istore_n (lv' := [(2, .int 0), (0, .ref (ad 10)), (1, .int x1)]) hx hb dX9_emptied_52 rfl hl (by decide) rfl (fun ls hl => ?_)
        refine lv_iconst (v := 0) hx hb dX9_emptied_53 (by decide) ?_
        refine lv_istore_n (lv' := [(3, .int 0), (2, .int 0), (0, .ref (ad 10)), (1, .int x1)]) hx hb dX9_emptied_54 rfl hl (by decide) rfl (fun ls hl => ?_)
        obtain ⟨n9, h⟩ := h
        exact J55 n9 _ _ _ _ _ _ _ h hI (lv_sub hl [2, 3, 1, 0] rfl)
      · have h := h.2 c22
        refine lv_aload_n hx hb dX9_emptied_38 rfl (lv_at hl 0 rfl) ?_
        refine gg_X9_goes hC hI gw_4_203 dX9_emptied_39 ?_
        refine lv_iload_n hx hb dX9_emptied_42 rfl (lv_at hl 2 rfl) ?_
        refine lv_iconst (v := 0) hx hb dX9_emptied_43 (by decide) ?_
        obtain ⟨hi23, h⟩ := h
        refine gs_61 hC hI hi23 dX9_emptied_44 (fun s24 H locs es24 hI => ?_)
        have h := h s24 es24
        obtain ⟨y25, ey25⟩ : ∃ y : Int32, y = x2 + 1 := ⟨_, rfl⟩
        have h := h y25 ey25
        refine lv_iinc (v := y25) (lv' := [(2, .int y25), (0, .ref (ad 10)), (1, .int x1)]) hx hb dX9_emptied_45 hl (k := 2) rfl (by rw [ey25]; rfl) (by decide) rfl (fun ls hl => ?_)
        refine lv_goto (tgt := 31) hx hb dX9_emptied_48 (by decide) ?_
        exact ih31 _ _ _ _ _ _ h hI (lv_sub hl [1, 2, 0] rfl)
  have J2 : ∀ (n2 : Nat) (x1 : Int32) (x2 : Int32) (σ : gS) (H : Heap) (locs : List Loc) (ls : Array Slot), w_X9_emptied_2 Q n2 x1 x2 σ → gI D cy ad A s.heap σ H locs → lv_has ls 5 [(0, .ref (ad 10)), (1, .int x1), (2, .int x2)] → W p l e (headSpec ws_X9_emptied rm_X9_emptied).room s m ([.ref (ad 10), .int a1] : List Value).toArray below meth c H locs 0 0 (MQ below (va_Qi Q (gB D cy ad A) A) ([.ref (ad 10), .int a1] : List Value).toArray s 0 0 A) (F0 m 2 ls []) := by
    intro n2
    induction n2 with
    | zero => intro x1 x2 σ H locs ls h; exact absurd h (fun h => h)
    | succ n2 ih2 =>
      intro x1 x2 σ H locs ls h hI hl
      unfold w_X9_emptied_2 at h
      refine lv_iload_n hx hb dX9_emptied_2 rfl (lv_at hl 2 rfl) ?_
      refine lv_sipush (v := 320) hx hb dX9_emptied_3 (by decide) ?_
      refine lv_icmp_ge (tgt := 29) hx hb dX9_emptied_6 (by decide) (fun c26 => ?_) (fun c26 => ?_)
      · have h := h.1 c26
        refine lv_iconst (v := 0) hx hb dX9_emptied_29 (by decide) ?_
        refine lv_istore_n (lv' := [(2, .int 0), (0, .ref (ad 10)), (1, .int x1)]) hx hb dX9_emptied_30 rfl hl (by decide) rfl (fun ls hl => ?_)
        obtain ⟨n9, h⟩ := h
        exact J31 n9 _ _ _ _ _ _ h hI (lv_sub hl [1, 2, 0] rfl)
      · have h := h.2 c26
        refine lv_aload_n hx hb dX9_emptied_9 rfl (lv_at hl 0 rfl) ?_
        refine gg_X9_waits hC hI gw_4_202 dX9_emptied_10 ?_
        refine lv_iload_n hx hb dX9_emptied_13 rfl (lv_at hl 2 rfl) ?_
        refine lv_iconst (v := 0) hx hb dX9_emptied_14 (by decide) ?_
        obtain ⟨hi27, h⟩ := h
        refine gs_60 hC hI hi27 dX9_emptied_15 (fun s28 H locs es28 hI => ?_)
        have h := h s28 es28
        refine lv_aload_n hx hb dX9_emptied_16 rfl (lv_at hl 0 rfl) ?_
        refine gg_X9_outs hC hI gw_4_204 dX9_emptied_17 ?_
        refine lv_iload_n hx hb dX9_emptied_20 rfl (lv_at hl 2 rfl) ?_
        refine lv_iconst (v := 0) hx hb dX9_emptied_21 (by decide) ?_
        obtain ⟨hi29, h⟩ := h
        refine gs_62 hC hI hi29 dX9_emptied_22 (fun s30 H locs es30 hI => ?_)
        have h := h s30 es30
        obtain ⟨y31, ey31⟩ : ∃ y : Int32, y = x2 + 1 := ⟨_, rfl⟩
        have h := h y31 ey31
        refine lv_iinc (v := y31) (lv' := [(2, .int y31), (0, .ref (ad 10)), (1, .int x1)]) hx hb dX9_emptied_23 hl (k := 2) rfl (by rw [ey31]; rfl) (by decide) rfl (fun ls hl => ?_)
        refine lv_goto (tgt := 2) hx hb dX9_emptied_26 (by decide) ?_
        exact ih2 _ _ _ _ _ _ h hI (lv_sub hl [1, 2, 0] rfl)
  have hl := lv_entry ([.ref (ad 10), .int a1]) (n := 5) (Nat.le_of_ble_eq_true rfl)
  rw [lg_entry_eq]
  generalize (lg_sl ([.ref (ad 10), .int a1]) ++ List.replicate (5 - (lg_sl ([.ref (ad 10), .int a1])).length) Slot.unset).toArray = ls at hl ⊢
  have hl : lv_has ls 5 [(0, .ref (ad 10)), (1, .int a1)] := hl
  unfold w_X9_emptied at h
  refine lv_iconst (v := 0) hx hb dX9_emptied_0 (by decide) ?_
  refine lv_istore_n (lv' := [(2, .int 0), (0, .ref (ad 10)), (1, .int a1)]) hx hb dX9_emptied_1 rfl hl (by decide) rfl (fun ls hl => ?_)
  obtain ⟨n9, h⟩ := h
  exact J2 n9 _ _ _ _ _ _ h hI (lv_sub hl [1, 2, 0] rfl)

theorem dX9_empty_0 : decode cX9_empty 0 = .ok (.aload_n 0, 1) := by decide +kernel
theorem dX9_empty_1 : decode cX9_empty 1 = .ok (.iconst 0, 1) := by decide +kernel
theorem dX9_empty_2 : decode cX9_empty 2 = .ok (.putfield 3, 3) := by decide +kernel
theorem dX9_empty_5 : decode cX9_empty 5 = .ok (.aload_n 0, 1) := by decide +kernel
theorem dX9_empty_6 : decode cX9_empty 6 = .ok (.iconst (-1), 1) := by decide +kernel
theorem dX9_empty_7 : decode cX9_empty 7 = .ok (.invokevirtual 186, 3) := by decide +kernel
theorem dX9_empty_10 : decode cX9_empty 10 = .ok (.ireturn, 1) := by decide +kernel
def w_X9_empty (Q : Int32 → gS → Prop) (σ : gS) : Prop :=
    ∀ s1 : gS, s1 = gu σ 63 0 0 → w_X9_emptied  (fun (r3 : Int32) (s2 : gS) => Q r3 s2) s1 (-1)
abbrev ws_X9_empty : List Cond := Cond.code yX9_empty cX9_empty 1 (some .int) :: gG
abbrev rm_X9_empty : Room := { frames := 4, cells := 0, slots := 0, locals := 98 }
theorem k_X9_empty : gCV yX9_empty RX9 cX9_empty 1 (some .int) 0 := ⟨gw_5_150, gw_5_151, gw_1_11, gw_5_152, rfl, by decide +kernel⟩
set_option maxHeartbeats 4000000 in
set_option maxRecDepth 100000 in
theorem c_X9_empty (l : Launch) (D : va_G) (cy : Nat → ClassId) (ad : Nat → Nat) (A : Nat → Prop) (Q : Int32 → gS → Prop) (σ : gS) (h : w_X9_empty Q σ) : Met l yX9_empty ws_X9_empty rm_X9_empty (va_Pc [.ref (ad 10)] (gB D cy ad A σ)) (va_Qi Q (gB D cy ad A) A) 0 0 A := by
  refine Met.ofW (cc := cX9_empty) (maxL := 1) (ret := (some .int)) (by decide) rfl ?_
  intro p e s m args below meth c s₁ B hml hv
  obtain ⟨rfl, hB⟩ := hv
  have hC : gC p c cX9_empty s m ([.ref (ad 10)] : List Value).toArray RX9 D cy ad A := g_start B hB
  have hI := g_first hB
  have hx := hC.1
  have hb := hC.2.1
  have hr := B.returns
  have hlocks := B.notSynchronized
  clear B hB
  have hl := lv_entry ([.ref (ad 10)]) (n := 1) (Nat.le_of_ble_eq_true rfl)
  rw [lg_entry_eq]
  generalize (lg_sl ([.ref (ad 10)]) ++ List.replicate (1 - (lg_sl ([.ref (ad 10)])).length) Slot.unset).toArray = ls at hl ⊢
  have hl : lv_has ls 1 [(0, .ref (ad 10))] := hl
  unfold w_X9_empty at h
  refine lv_aload_n hx hb dX9_empty_0 rfl (lv_at hl 0 rfl) ?_
  refine lv_iconst (v := 0) hx hb dX9_empty_1 (by decide) ?_
  refine gp_X9_thrown hC hI gw_4_188 dX9_empty_2 (fun s1 H locs es1 hI => ?_)
  have h := h s1 es1
  refine lv_aload_n hx hb dX9_empty_5 rfl (lv_at hl 0 rfl) ?_
  refine lv_iconst (v := (-1)) hx hb dX9_empty_6 (by decide) ?_
  refine g_backi hI (g_runV (As := [.int (-1)]) (rest := []) hC hml hI (c_X9_emptied l D cy ad A _  _ _ h) k_X9_emptied gw_5_153 ⟨rfl, rfl⟩ ⟨Nat.le_of_ble_eq_true rfl, Nat.le_of_ble_eq_true rfl⟩ (grv_10 hC hI) rfl hl.1 rfl (Nat.le_of_ble_eq_true rfl) dX9_empty_7 ⟨Nat.le_of_ble_eq_true rfl, Nat.le_of_ble_eq_true rfl⟩) (fun r3 s2 H locs h hI => ?_)
  exact g_iret hC hr hlocks hI h dX9_empty_10

theorem dX9_worstOf_0 : decode cX9_worstOf 0 = .ok (.iconst (-1), 1) := by decide +kernel
theorem dX9_worstOf_1 : decode cX9_worstOf 1 = .ok (.istore_n 1, 1) := by decide +kernel
theorem dX9_worstOf_2 : decode cX9_worstOf 2 = .ok (.iconst 0, 1) := by decide +kernel
theorem dX9_worstOf_3 : decode cX9_worstOf 3 = .ok (.istore_n 2, 1) := by decide +kernel
theorem dX9_worstOf_4 : decode cX9_worstOf 4 = .ok (.iload_n 2, 1) := by decide +kernel
theorem dX9_worstOf_5 : decode cX9_worstOf 5 = .ok (.aload_n 0, 1) := by decide +kernel
theorem dX9_worstOf_6 : decode cX9_worstOf 6 = .ok (.getfield 142, 3) := by decide +kernel
theorem dX9_worstOf_9 : decode cX9_worstOf 9 = .ok (.if_icmp .ge 48, 3) := by decide +kernel
theorem dX9_worstOf_12 : decode cX9_worstOf 12 = .ok (.aload_n 0, 1) := by decide +kernel
theorem dX9_worstOf_13 : decode cX9_worstOf 13 = .ok (.getfield 24, 3) := by decide +kernel
theorem dX9_worstOf_16 : decode cX9_worstOf 16 = .ok (.iload_n 2, 1) := by decide +kernel
theorem dX9_worstOf_17 : decode cX9_worstOf 17 = .ok (.iaload, 1) := by decide +kernel
theorem dX9_worstOf_18 : decode cX9_worstOf 18 = .ok (.ifCond .eq 33, 3) := by decide +kernel
theorem dX9_worstOf_21 : decode cX9_worstOf 21 = .ok (.aload_n 0, 1) := by decide +kernel
theorem dX9_worstOf_22 : decode cX9_worstOf 22 = .ok (.getfield 27, 3) := by decide +kernel
theorem dX9_worstOf_25 : decode cX9_worstOf 25 = .ok (.iload_n 2, 1) := by decide +kernel
theorem dX9_worstOf_26 : decode cX9_worstOf 26 = .ok (.baload, 1) := by decide +kernel
theorem dX9_worstOf_27 : decode cX9_worstOf 27 = .ok (.ifCond .eq 6, 3) := by decide +kernel
theorem dX9_worstOf_30 : decode cX9_worstOf 30 = .ok (.goto 21, 3) := by decide +kernel
theorem dX9_worstOf_33 : decode cX9_worstOf 33 = .ok (.aload_n 0, 1) := by decide +kernel
theorem dX9_worstOf_34 : decode cX9_worstOf 34 = .ok (.iload_n 2, 1) := by decide +kernel
theorem dX9_worstOf_35 : decode cX9_worstOf 35 = .ok (.invokevirtual 186, 3) := by decide +kernel
theorem dX9_worstOf_38 : decode cX9_worstOf 38 = .ok (.istore_n 3, 1) := by decide +kernel
theorem dX9_worstOf_39 : decode cX9_worstOf 39 = .ok (.iload_n 3, 1) := by decide +kernel
theorem dX9_worstOf_40 : decode cX9_worstOf 40 = .ok (.ifCond .ge 5, 3) := by decide +kernel
theorem dX9_worstOf_43 : decode cX9_worstOf 43 = .ok (.iconst (-1), 1) := by decide +kernel
theorem dX9_worstOf_44 : decode cX9_worstOf 44 = .ok (.ireturn, 1) := by decide +kernel
theorem dX9_worstOf_45 : decode cX9_worstOf 45 = .ok (.iload_n 1, 1) := by decide +kernel
theorem dX9_worstOf_46 : decode cX9_worstOf 46 = .ok (.iload_n 3, 1) := by decide +kernel
theorem dX9_worstOf_47 : decode cX9_worstOf 47 = .ok (.invokestatic 189, 3) := by decide +kernel
theorem dX9_worstOf_50 : decode cX9_worstOf 50 = .ok (.istore_n 1, 1) := by decide +kernel
theorem dX9_worstOf_51 : decode cX9_worstOf 51 = .ok (.iinc 2 1, 3) := by decide +kernel
theorem dX9_worstOf_54 : decode cX9_worstOf 54 = .ok (.goto (-50), 3) := by decide +kernel
theorem dX9_worstOf_57 : decode cX9_worstOf 57 = .ok (.iload_n 1, 1) := by decide +kernel
theorem dX9_worstOf_58 : decode cX9_worstOf 58 = .ok (.ireturn, 1) := by decide +kernel
def w_X9_worstOf_4 (Q : Int32 → gS → Prop) : Nat → Int32 → Int32 → gS → Prop
  | 0, _, _, _ => False
  | n4 + 1, x1, x2, σ =>
    ((σ 71 0) ≤ x2 → Q x1 σ) ∧ (¬ (σ 71 0) ≤ x2 → vp_in x2 8 ∧ ((σ 69 x2.toNatClampNeg) = 0 → ∀ y6 : Int32, y6 = x2 + 1 → w_X9_worstOf_4 Q n4 x1 y6 σ) ∧ (¬ (σ 69 x2.toNatClampNeg) = 0 → vp_in x2 8 ∧ ((σ 70 x2.toNatClampNeg) = 0 → w_X9_emptied  (fun (r10 : Int32) (s9 : gS) => (0 ≤ r10 → ∀ y12 : Int32, y12 = (if x1 < r10 then r10 else x1) → ∀ y13 : Int32, y13 = x2 + 1 → w_X9_worstOf_4 Q n4 y12 y13 s9) ∧ (¬ 0 ≤ r10 → Q (-1) s9)) σ x2) ∧ (¬ (σ 70 x2.toNatClampNeg) = 0 → ∀ y14 : Int32, y14 = x2 + 1 → w_X9_worstOf_4 Q n4 x1 y14 σ)))
def w_X9_worstOf (Q : Int32 → gS → Prop) (σ : gS) : Prop :=
    ∃ n4, w_X9_worstOf_4 Q n4 (-1) 0 σ
abbrev ws_X9_worstOf : List Cond := Cond.code yX9_worstOf cX9_worstOf 4 (some .int) :: gG
abbrev rm_X9_worstOf : Room := { frames := 4, cells := 0, slots := 0, locals := 98 }
theorem k_X9_worstOf : gCV yX9_worstOf RX9 cX9_worstOf 4 (some .int) 0 := ⟨gw_5_192, gwp_45, gw_1_11, gw_5_193, rfl, by decide +kernel⟩
set_option maxHeartbeats 4000000 in
set_option maxRecDepth 100000 in
theorem c_X9_worstOf (l : Launch) (D : va_G) (cy : Nat → ClassId) (ad : Nat → Nat) (A : Nat → Prop) (Q : Int32 → gS → Prop) (σ : gS) (h : w_X9_worstOf Q σ) : Met l yX9_worstOf ws_X9_worstOf rm_X9_worstOf (va_Pc [.ref (ad 10)] (gB D cy ad A σ)) (va_Qi Q (gB D cy ad A) A) 0 0 A := by
  refine Met.ofW (cc := cX9_worstOf) (maxL := 4) (ret := (some .int)) (by decide) rfl ?_
  intro p e s m args below meth c s₁ B hml hv
  obtain ⟨rfl, hB⟩ := hv
  have hC : gC p c cX9_worstOf s m ([.ref (ad 10)] : List Value).toArray RX9 D cy ad A := g_start B hB
  have hI := g_first hB
  have hx := hC.1
  have hb := hC.2.1
  have hr := B.returns
  have hlocks := B.notSynchronized
  clear B hB
  have J4 : ∀ (n4 : Nat) (x1 : Int32) (x2 : Int32) (σ : gS) (H : Heap) (locs : List Loc) (ls : Array Slot), w_X9_worstOf_4 Q n4 x1 x2 σ → gI D cy ad A s.heap σ H locs → lv_has ls 4 [(0, .ref (ad 10)), (1, .int x1), (2, .int x2)] → W p l e (headSpec ws_X9_worstOf rm_X9_worstOf).room s m ([.ref (ad 10)] : List Value).toArray below meth c H locs 0 0 (MQ below (va_Qi Q (gB D cy ad A) A) ([.ref (ad 10)] : List Value).toArray s 0 0 A) (F0 m 4 ls []) := by
    intro n4
    induction n4 with
    | zero => intro x1 x2 σ H locs ls h; exact absurd h (fun h => h)
    | succ n4 ih4 =>
      intro x1 x2 σ H locs ls h hI hl
      unfold w_X9_worstOf_4 at h
      refine lv_iload_n hx hb dX9_worstOf_4 rfl (lv_at hl 2 rfl) ?_
      refine lv_aload_n hx hb dX9_worstOf_5 rfl (lv_at hl 0 rfl) ?_
      refine gg_X9_places hC hI gw_4_196 dX9_worstOf_6 ?_
      refine lv_icmp_ge (tgt := 57) hx hb dX9_worstOf_9 (by decide) (fun c3 => ?_) (fun c3 => ?_)
      · have h := h.1 c3
        refine lv_iload_n hx hb dX9_worstOf_57 rfl (lv_at hl 1 rfl) ?_
        exact g_iret hC hr hlocks hI h dX9_worstOf_58
      · have h := h.2 c3
        refine lv_aload_n hx hb dX9_worstOf_12 rfl (lv_at hl 0 rfl) ?_
        refine gg_X9_rate hC hI gw_4_194 dX9_worstOf_13 ?_
        refine lv_iload_n hx hb dX9_worstOf_16 rfl (lv_at hl 2 rfl) ?_
        obtain ⟨hi4, h⟩ := h
        refine ga_54 hC hI hi4 dX9_worstOf_17 ?_
        refine lv_if_eq (tgt := 51) hx hb dX9_worstOf_18 (by decide) (fun c5 => ?_) (fun c5 => ?_)
        · have h := h.1 c5
          obtain ⟨y6, ey6⟩ : ∃ y : Int32, y = x2 + 1 := ⟨_, rfl⟩
          have h := h y6 ey6
          refine lv_iinc (v := y6) (lv' := [(2, .int y6), (0, .ref (ad 10)), (1, .int x1)]) hx hb dX9_worstOf_51 hl (k := 2) rfl (by rw [ey6]; rfl) (by decide) rfl (fun ls hl => ?_)
          refine lv_goto (tgt := 4) hx hb dX9_worstOf_54 (by decide) ?_
          exact ih4 _ _ _ _ _ _ h hI (lv_sub hl [1, 2, 0] rfl)
        · have h := h.2 c5
          refine lv_aload_n hx hb dX9_worstOf_21 rfl (lv_at hl 0 rfl) ?_
          refine gg_X9_isShut hC hI gw_4_195 dX9_worstOf_22 ?_
          refine lv_iload_n hx hb dX9_worstOf_25 rfl (lv_at hl 2 rfl) ?_
          obtain ⟨hi7, h⟩ := h
          refine ga_55 hC hI hi7 dX9_worstOf_26 ?_
          refine lv_if_eq (tgt := 33) hx hb dX9_worstOf_27 (by decide) (fun c8 => ?_) (fun c8 => ?_)
          · have h := h.1 c8
            refine lv_aload_n hx hb dX9_worstOf_33 rfl (lv_at hl 0 rfl) ?_
            refine lv_iload_n hx hb dX9_worstOf_34 rfl (lv_at hl 2 rfl) ?_
            refine g_backi hI (g_runV (As := [.int x2]) (rest := []) hC hml hI (c_X9_emptied l D cy ad A _  _ _ h) k_X9_emptied gw_5_153 ⟨rfl, rfl⟩ ⟨Nat.le_of_ble_eq_true rfl, Nat.le_of_ble_eq_true rfl⟩ (grv_10 hC hI) rfl hl.1 rfl (Nat.le_of_ble_eq_true rfl) dX9_worstOf_35 ⟨Nat.le_of_ble_eq_true rfl, Nat.le_of_ble_eq_true rfl⟩) (fun r10 s9 H locs h hI => ?_)
            refine lv_istore_n (lv' := [(3, .int r10), (0, .ref (ad 10)), (1, .int x1), (2, .int x2)]) hx hb dX9_worstOf_38 rfl hl (by decide) rfl (fun ls hl => ?_)
            refine lv_iload_n hx hb dX9_worstOf_39 rfl (lv_at hl 0 rfl) ?_
            refine lv_if_ge (tgt := 45) hx hb dX9_worstOf_40 (by decide) (fun c11 => ?_) (fun c11 => ?_)
            · have h := h.1 c11
              refine lv_iload_n hx hb dX9_worstOf_45 rfl (lv_at hl 2 rfl) ?_
              refine lv_iload_n hx hb dX9_worstOf_46 rfl (lv_at hl 0 rfl) ?_
              refine va_mmax hx hb (by rw [hml]; exact hl.1.symm) hC.2.2.2.1 (hC.2.2.1 _ gw_5_194) (hC.2.2.1 _ gw_2_156) (hC.2.2.1 _ gw_1_18) (hC.2.2.1 _ gw_2_157) (Nat.le_of_ble_eq_true rfl) (Nat.le_of_ble_eq_true rfl) (Nat.le_of_ble_eq_true rfl) (Nat.le_of_ble_eq_true rfl) dX9_worstOf_47 ?_
              refine lv_topi (fun y12 ey12 => ?_)
              have h := h y12 ey12
              refine lv_istore_n (lv' := [(1, .int y12), (3, .int r10), (0, .ref (ad 10)), (2, .int x2)]) hx hb dX9_worstOf_50 rfl hl (by decide) rfl (fun ls hl => ?_)
              obtain ⟨y13, ey13⟩ : ∃ y : Int32, y = x2 + 1 := ⟨_, rfl⟩
              have h := h y13 ey13
              refine lv_iinc (v := y13) (lv' := [(2, .int y13), (1, .int y12), (3, .int r10), (0, .ref (ad 10))]) hx hb dX9_worstOf_51 hl (k := 3) rfl (by rw [ey13]; rfl) (by decide) rfl (fun ls hl => ?_)
              refine lv_goto (tgt := 4) hx hb dX9_worstOf_54 (by decide) ?_
              exact ih4 _ _ _ _ _ _ h hI (lv_sub hl [3, 1, 0] rfl)
            · have h := h.2 c11
              refine lv_iconst (v := (-1)) hx hb dX9_worstOf_43 (by decide) ?_
              exact g_iret hC hr hlocks hI h dX9_worstOf_44
          · have h := h.2 c8
            refine lv_goto (tgt := 51) hx hb dX9_worstOf_30 (by decide) ?_
            obtain ⟨y14, ey14⟩ : ∃ y : Int32, y = x2 + 1 := ⟨_, rfl⟩
            have h := h y14 ey14
            refine lv_iinc (v := y14) (lv' := [(2, .int y14), (0, .ref (ad 10)), (1, .int x1)]) hx hb dX9_worstOf_51 hl (k := 2) rfl (by rw [ey14]; rfl) (by decide) rfl (fun ls hl => ?_)
            refine lv_goto (tgt := 4) hx hb dX9_worstOf_54 (by decide) ?_
            exact ih4 _ _ _ _ _ _ h hI (lv_sub hl [1, 2, 0] rfl)
  have hl := lv_entry ([.ref (ad 10)]) (n := 4) (Nat.le_of_ble_eq_true rfl)
  rw [lg_entry_eq]
  generalize (lg_sl ([.ref (ad 10)]) ++ List.replicate (4 - (lg_sl ([.ref (ad 10)])).length) Slot.unset).toArray = ls at hl ⊢
  have hl : lv_has ls 4 [(0, .ref (ad 10))] := hl
  unfold w_X9_worstOf at h
  refine lv_iconst (v := (-1)) hx hb dX9_worstOf_0 (by decide) ?_
  refine lv_istore_n (lv' := [(1, .int (-1)), (0, .ref (ad 10))]) hx hb dX9_worstOf_1 rfl hl (by decide) rfl (fun ls hl => ?_)
  refine lv_iconst (v := 0) hx hb dX9_worstOf_2 (by decide) ?_
  refine lv_istore_n (lv' := [(2, .int 0), (1, .int (-1)), (0, .ref (ad 10))]) hx hb dX9_worstOf_3 rfl hl (by decide) rfl (fun ls hl => ?_)
  obtain ⟨n9, h⟩ := h
  exact J4 n9 _ _ _ _ _ _ h hI (lv_sub hl [2, 1, 0] rfl)

theorem dX9_worst_0 : decode cX9_worst 0 = .ok (.aload_n 0, 1) := by decide +kernel
theorem dX9_worst_1 : decode cX9_worst 1 = .ok (.iconst 0, 1) := by decide +kernel
theorem dX9_worst_2 : decode cX9_worst 2 = .ok (.putfield 3, 3) := by decide +kernel
theorem dX9_worst_5 : decode cX9_worst 5 = .ok (.aload_n 0, 1) := by decide +kernel
theorem dX9_worst_6 : decode cX9_worst 6 = .ok (.invokevirtual 192, 3) := by decide +kernel
theorem dX9_worst_9 : decode cX9_worst 9 = .ok (.ireturn, 1) := by decide +kernel
def w_X9_worst (Q : Int32 → gS → Prop) (σ : gS) : Prop :=
    ∀ s1 : gS, s1 = gu σ 63 0 0 → w_X9_worstOf  (fun (r3 : Int32) (s2 : gS) => Q r3 s2) s1
abbrev ws_X9_worst : List Cond := Cond.code yX9_worst cX9_worst 1 (some .int) :: gG
abbrev rm_X9_worst : Room := { frames := 5, cells := 0, slots := 0, locals := 121 }
theorem k_X9_worst : gCV yX9_worst RX9 cX9_worst 1 (some .int) 0 := ⟨gw_5_187, gw_5_188, gw_1_11, gw_5_189, rfl, by decide +kernel⟩
set_option maxHeartbeats 4000000 in
set_option maxRecDepth 100000 in
theorem c_X9_worst (l : Launch) (D : va_G) (cy : Nat → ClassId) (ad : Nat → Nat) (A : Nat → Prop) (Q : Int32 → gS → Prop) (σ : gS) (h : w_X9_worst Q σ) : Met l yX9_worst ws_X9_worst rm_X9_worst (va_Pc [.ref (ad 10)] (gB D cy ad A σ)) (va_Qi Q (gB D cy ad A) A) 0 0 A := by
  refine Met.ofW (cc := cX9_worst) (maxL := 1) (ret := (some .int)) (by decide) rfl ?_
  intro p e s m args below meth c s₁ B hml hv
  obtain ⟨rfl, hB⟩ := hv
  have hC : gC p c cX9_worst s m ([.ref (ad 10)] : List Value).toArray RX9 D cy ad A := g_start B hB
  have hI := g_first hB
  have hx := hC.1
  have hb := hC.2.1
  have hr := B.returns
  have hlocks := B.notSynchronized
  clear B hB
  have hl := lv_entry ([.ref (ad 10)]) (n := 1) (Nat.le_of_ble_eq_true rfl)
  rw [lg_entry_eq]
  generalize (lg_sl ([.ref (ad 10)]) ++ List.replicate (1 - (lg_sl ([.ref (ad 10)])).length) Slot.unset).toArray = ls at hl ⊢
  have hl : lv_has ls 1 [(0, .ref (ad 10))] := hl
  unfold w_X9_worst at h
  refine lv_aload_n hx hb dX9_worst_0 rfl (lv_at hl 0 rfl) ?_
  refine lv_iconst (v := 0) hx hb dX9_worst_1 (by decide) ?_
  refine gp_X9_thrown hC hI gw_4_188 dX9_worst_2 (fun s1 H locs es1 hI => ?_)
  have h := h s1 es1
  refine lv_aload_n hx hb dX9_worst_5 rfl (lv_at hl 0 rfl) ?_
  refine g_backi hI (g_runV (As := []) (rest := []) hC hml hI (c_X9_worstOf l D cy ad A _  _ h) k_X9_worstOf gw_5_190 ⟨rfl, rfl⟩ ⟨Nat.le_of_ble_eq_true rfl, Nat.le_of_ble_eq_true rfl⟩ (grv_10 hC hI) rfl hl.1 rfl (Nat.le_of_ble_eq_true rfl) dX9_worst_6 ⟨Nat.le_of_ble_eq_true rfl, Nat.le_of_ble_eq_true rfl⟩) (fun r3 s2 H locs h hI => ?_)
  exact g_iret hC hr hlocks hI h dX9_worst_9
