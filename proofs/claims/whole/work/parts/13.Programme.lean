/-! 13.Programme: printed by wip/gen/walk.py -/
theorem dX4_addAct_0 : decode cX4_addAct 0 = .ok (.aload_n 0, 1) := by decide +kernel
theorem dX4_addAct_1 : decode cX4_addAct 1 = .ok (.getfield 30, 3) := by decide +kernel
theorem dX4_addAct_4 : decode cX4_addAct 4 = .ok (.bipush 6, 2) := by decide +kernel
theorem dX4_addAct_6 : decode cX4_addAct 6 = .ok (.if_icmp .lt 5, 3) := by decide +kernel
theorem dX4_addAct_9 : decode cX4_addAct 9 = .ok (.iconst (-1), 1) := by decide +kernel
theorem dX4_addAct_10 : decode cX4_addAct 10 = .ok (.ireturn, 1) := by decide +kernel
theorem dX4_addAct_11 : decode cX4_addAct 11 = .ok (.aload_n 0, 1) := by decide +kernel
theorem dX4_addAct_12 : decode cX4_addAct 12 = .ok (.getfield 11, 3) := by decide +kernel
theorem dX4_addAct_15 : decode cX4_addAct 15 = .ok (.aload_n 0, 1) := by decide +kernel
theorem dX4_addAct_16 : decode cX4_addAct 16 = .ok (.getfield 30, 3) := by decide +kernel
theorem dX4_addAct_19 : decode cX4_addAct 19 = .ok (.iload_n 1, 1) := by decide +kernel
theorem dX4_addAct_20 : decode cX4_addAct 20 = .ok (.iastore, 1) := by decide +kernel
theorem dX4_addAct_21 : decode cX4_addAct 21 = .ok (.aload_n 0, 1) := by decide +kernel
theorem dX4_addAct_22 : decode cX4_addAct 22 = .ok (.getfield 15, 3) := by decide +kernel
theorem dX4_addAct_25 : decode cX4_addAct 25 = .ok (.aload_n 0, 1) := by decide +kernel
theorem dX4_addAct_26 : decode cX4_addAct 26 = .ok (.getfield 30, 3) := by decide +kernel
theorem dX4_addAct_29 : decode cX4_addAct 29 = .ok (.iload_n 2, 1) := by decide +kernel
theorem dX4_addAct_30 : decode cX4_addAct 30 = .ok (.iastore, 1) := by decide +kernel
theorem dX4_addAct_31 : decode cX4_addAct 31 = .ok (.aload_n 0, 1) := by decide +kernel
theorem dX4_addAct_32 : decode cX4_addAct 32 = .ok (.getfield 18, 3) := by decide +kernel
theorem dX4_addAct_35 : decode cX4_addAct 35 = .ok (.aload_n 0, 1) := by decide +kernel
theorem dX4_addAct_36 : decode cX4_addAct 36 = .ok (.getfield 30, 3) := by decide +kernel
theorem dX4_addAct_39 : decode cX4_addAct 39 = .ok (.iload_n 3, 1) := by decide +kernel
theorem dX4_addAct_40 : decode cX4_addAct 40 = .ok (.iastore, 1) := by decide +kernel
theorem dX4_addAct_41 : decode cX4_addAct 41 = .ok (.aload_n 0, 1) := by decide +kernel
theorem dX4_addAct_42 : decode cX4_addAct 42 = .ok (.getfield 21, 3) := by decide +kernel
theorem dX4_addAct_45 : decode cX4_addAct 45 = .ok (.aload_n 0, 1) := by decide +kernel
theorem dX4_addAct_46 : decode cX4_addAct 46 = .ok (.getfield 30, 3) := by decide +kernel
theorem dX4_addAct_49 : decode cX4_addAct 49 = .ok (.iload 4, 2) := by decide +kernel
theorem dX4_addAct_51 : decode cX4_addAct 51 = .ok (.iastore, 1) := by decide +kernel
theorem dX4_addAct_52 : decode cX4_addAct 52 = .ok (.aload_n 0, 1) := by decide +kernel
theorem dX4_addAct_53 : decode cX4_addAct 53 = .ok (.dup, 1) := by decide +kernel
theorem dX4_addAct_54 : decode cX4_addAct 54 = .ok (.getfield 30, 3) := by decide +kernel
theorem dX4_addAct_57 : decode cX4_addAct 57 = .ok (.iconst 1, 1) := by decide +kernel
theorem dX4_addAct_58 : decode cX4_addAct 58 = .ok (.iadd, 1) := by decide +kernel
theorem dX4_addAct_59 : decode cX4_addAct 59 = .ok (.putfield 30, 3) := by decide +kernel
theorem dX4_addAct_62 : decode cX4_addAct 62 = .ok (.aload_n 0, 1) := by decide +kernel
theorem dX4_addAct_63 : decode cX4_addAct 63 = .ok (.iconst 0, 1) := by decide +kernel
theorem dX4_addAct_64 : decode cX4_addAct 64 = .ok (.putfield 34, 3) := by decide +kernel
theorem dX4_addAct_67 : decode cX4_addAct 67 = .ok (.aload_n 0, 1) := by decide +kernel
theorem dX4_addAct_68 : decode cX4_addAct 68 = .ok (.getfield 30, 3) := by decide +kernel
theorem dX4_addAct_71 : decode cX4_addAct 71 = .ok (.iconst 1, 1) := by decide +kernel
theorem dX4_addAct_72 : decode cX4_addAct 72 = .ok (.isub, 1) := by decide +kernel
theorem dX4_addAct_73 : decode cX4_addAct 73 = .ok (.ireturn, 1) := by decide +kernel
def w_X4_addAct (Q : Int32 → gS → Prop) (σ : gS) (a1 : Int32) (a2 : Int32) (a3 : Int32) (a4 : Int32) : Prop :=
    ((σ 51 0) < 6 → vp_in (σ 51 0) 6 ∧ ∀ s3 : gS, s3 = gu σ 47 (σ 51 0).toNatClampNeg a1 → vp_in (s3 51 0) 6 ∧ ∀ s5 : gS, s5 = gu s3 48 (s3 51 0).toNatClampNeg a2 → vp_in (s5 51 0) 6 ∧ ∀ s7 : gS, s7 = gu s5 49 (s5 51 0).toNatClampNeg a3 → vp_in (s7 51 0) 6 ∧ ∀ s9 : gS, s9 = gu s7 50 (s7 51 0).toNatClampNeg a4 → ∀ s10 : gS, s10 = gu s9 51 0 ((s9 51 0) + 1) → ∀ s11 : gS, s11 = gu s10 56 0 0 → Q ((s11 51 0) - 1) s11) ∧ (¬ (σ 51 0) < 6 → Q (-1) σ)
abbrev ws_X4_addAct : List Cond := Cond.code yX4_addAct cX4_addAct 5 (some .int) :: gG
abbrev rm_X4_addAct : Room := { frames := 0, cells := 0, slots := 0, locals := 0 }
theorem k_X4_addAct : gCV yX4_addAct RX4 cX4_addAct 5 (some .int) 4 := ⟨gw_4_10, gw_4_11, gw_1_8, gw_4_12, rfl, by decide +kernel⟩
set_option maxHeartbeats 4000000 in
set_option maxRecDepth 100000 in
theorem c_X4_addAct (l : Launch) (D : va_G) (cy : Nat → ClassId) (ad : Nat → Nat) (A : Nat → Prop) (Q : Int32 → gS → Prop) (σ : gS) (a1 : Int32) (a2 : Int32) (a3 : Int32) (a4 : Int32) (h : w_X4_addAct Q σ a1 a2 a3 a4) : Met l yX4_addAct ws_X4_addAct rm_X4_addAct (va_Pc [.ref (ad 6), .int a1, .int a2, .int a3, .int a4] (gB D cy ad A σ)) (va_Qi Q (gB D cy ad A) A) 0 0 A := by
  refine Met.ofW (cc := cX4_addAct) (maxL := 5) (ret := (some .int)) (by decide) rfl ?_
  intro p e s m args below meth c s₁ B hml hv
  obtain ⟨rfl, hB⟩ := hv
  have hC : gC p c cX4_addAct s m ([.ref (ad 6), .int a1, .int a2, .int a3, .int a4] : List Value).toArray RX4 D cy ad A := g_start B hB
  have hI := g_first hB
  have hx := hC.1
  have hb := hC.2.1
  have hr := B.returns
  have hlocks := B.notSynchronized
  clear B hB
  have hl := lv_entry ([.ref (ad 6), .int a1, .int a2, .int a3, .int a4]) (n := 5) (Nat.le_of_ble_eq_true rfl)
  rw [lg_entry_eq]
  generalize (lg_sl ([.ref (ad 6), .int a1, .int a2, .int a3, .int a4]) ++ List.replicate (5 - (lg_sl ([.ref (ad 6), .int a1, .int a2, .int a3, .int a4])).length) Slot.unset).toArray = ls at hl ⊢
  have hl : lv_has ls 5 [(0, .ref (ad 6)), (1, .int a1), (2, .int a2), (3, .int a3), (4, .int a4)] := hl
  unfold w_X4_addAct at h
  refine lv_aload_n hx hb dX4_addAct_0 rfl (lv_at hl 0 rfl) ?_
  refine gg_X4_acts hC hI gw_1_201 dX4_addAct_1 ?_
  refine lv_bipush (v := 6) hx hb dX4_addAct_4 (by decide) ?_
  refine lv_icmp_lt (tgt := 11) hx hb dX4_addAct_6 (by decide) (fun c1 => ?_) (fun c1 => ?_)
  · have h := h.1 c1
    refine lv_aload_n hx hb dX4_addAct_11 rfl (lv_at hl 0 rfl) ?_
    refine gg_X4_arcs hC hI gw_1_197 dX4_addAct_12 ?_
    refine lv_aload_n hx hb dX4_addAct_15 rfl (lv_at hl 0 rfl) ?_
    refine gg_X4_acts hC hI gw_1_201 dX4_addAct_16 ?_
    refine lv_iload_n hx hb dX4_addAct_19 rfl (lv_at hl 1 rfl) ?_
    obtain ⟨hi2, h⟩ := h
    refine gs_40 hC hI hi2 dX4_addAct_20 (fun s3 H locs es3 hI => ?_)
    have h := h s3 es3
    refine lv_aload_n hx hb dX4_addAct_21 rfl (lv_at hl 0 rfl) ?_
    refine gg_X4_wides hC hI gw_1_198 dX4_addAct_22 ?_
    refine lv_aload_n hx hb dX4_addAct_25 rfl (lv_at hl 0 rfl) ?_
    refine gg_X4_acts hC hI gw_1_201 dX4_addAct_26 ?_
    refine lv_iload_n hx hb dX4_addAct_29 rfl (lv_at hl 2 rfl) ?_
    obtain ⟨hi4, h⟩ := h
    refine gs_41 hC hI hi4 dX4_addAct_30 (fun s5 H locs es5 hI => ?_)
    have h := h s5 es5
    refine lv_aload_n hx hb dX4_addAct_31 rfl (lv_at hl 0 rfl) ?_
    refine gg_X4_ends hC hI gw_1_199 dX4_addAct_32 ?_
    refine lv_aload_n hx hb dX4_addAct_35 rfl (lv_at hl 0 rfl) ?_
    refine gg_X4_acts hC hI gw_1_201 dX4_addAct_36 ?_
    refine lv_iload_n hx hb dX4_addAct_39 rfl (lv_at hl 3 rfl) ?_
    obtain ⟨hi6, h⟩ := h
    refine gs_42 hC hI hi6 dX4_addAct_40 (fun s7 H locs es7 hI => ?_)
    have h := h s7 es7
    refine lv_aload_n hx hb dX4_addAct_41 rfl (lv_at hl 0 rfl) ?_
    refine gg_X4_peoples hC hI gw_1_200 dX4_addAct_42 ?_
    refine lv_aload_n hx hb dX4_addAct_45 rfl (lv_at hl 0 rfl) ?_
    refine gg_X4_acts hC hI gw_1_201 dX4_addAct_46 ?_
    refine lv_iload hx hb dX4_addAct_49 (lv_at hl 4 rfl) ?_
    obtain ⟨hi8, h⟩ := h
    refine gs_43 hC hI hi8 dX4_addAct_51 (fun s9 H locs es9 hI => ?_)
    have h := h s9 es9
    refine lv_aload_n hx hb dX4_addAct_52 rfl (lv_at hl 0 rfl) ?_
    refine lv_dup hx hb dX4_addAct_53 rfl ?_
    refine gg_X4_acts hC hI gw_1_201 dX4_addAct_54 ?_
    refine lv_iconst (v := 1) hx hb dX4_addAct_57 (by decide) ?_
    refine lv_iadd hx hb dX4_addAct_58 ?_
    refine gp_X4_acts hC hI gw_1_201 dX4_addAct_59 (fun s10 H locs es10 hI => ?_)
    have h := h s10 es10
    refine lv_aload_n hx hb dX4_addAct_62 rfl (lv_at hl 0 rfl) ?_
    refine lv_iconst (v := 0) hx hb dX4_addAct_63 (by decide) ?_
    refine gp_X4_isKnown hC hI rfl rfl gw_1_209 dX4_addAct_64 (fun s11 H locs es11 hI => ?_)
    have h := h s11 es11
    refine lv_aload_n hx hb dX4_addAct_67 rfl (lv_at hl 0 rfl) ?_
    refine gg_X4_acts hC hI gw_1_201 dX4_addAct_68 ?_
    refine lv_iconst (v := 1) hx hb dX4_addAct_71 (by decide) ?_
    refine lv_isub hx hb dX4_addAct_72 ?_
    exact g_iret hC hr hlocks hI h dX4_addAct_73
  · have h := h.2 c1
    refine lv_iconst (v := (-1)) hx hb dX4_addAct_9 (by decide) ?_
    exact g_iret hC hr hlocks hI h dX4_addAct_10

theorem dX4_dropActs_0 : decode cX4_dropActs 0 = .ok (.aload_n 0, 1) := by decide +kernel
theorem dX4_dropActs_1 : decode cX4_dropActs 1 = .ok (.getfield 30, 3) := by decide +kernel
theorem dX4_dropActs_4 : decode cX4_dropActs 4 = .ok (.istore_n 1, 1) := by decide +kernel
theorem dX4_dropActs_5 : decode cX4_dropActs 5 = .ok (.aload_n 0, 1) := by decide +kernel
theorem dX4_dropActs_6 : decode cX4_dropActs 6 = .ok (.iconst 0, 1) := by decide +kernel
theorem dX4_dropActs_7 : decode cX4_dropActs 7 = .ok (.putfield 30, 3) := by decide +kernel
theorem dX4_dropActs_10 : decode cX4_dropActs 10 = .ok (.aload_n 0, 1) := by decide +kernel
theorem dX4_dropActs_11 : decode cX4_dropActs 11 = .ok (.iconst 0, 1) := by decide +kernel
theorem dX4_dropActs_12 : decode cX4_dropActs 12 = .ok (.putfield 34, 3) := by decide +kernel
theorem dX4_dropActs_15 : decode cX4_dropActs 15 = .ok (.iload_n 1, 1) := by decide +kernel
theorem dX4_dropActs_16 : decode cX4_dropActs 16 = .ok (.ireturn, 1) := by decide +kernel
def w_X4_dropActs (Q : Int32 → gS → Prop) (σ : gS) : Prop :=
    ∀ y1 : Int32, y1 = (σ 51 0) → ∀ s2 : gS, s2 = gu σ 51 0 0 → ∀ s3 : gS, s3 = gu s2 56 0 0 → Q y1 s3
abbrev ws_X4_dropActs : List Cond := Cond.code yX4_dropActs cX4_dropActs 2 (some .int) :: gG
abbrev rm_X4_dropActs : Room := { frames := 0, cells := 0, slots := 0, locals := 0 }
theorem k_X4_dropActs : gCV yX4_dropActs RX4 cX4_dropActs 2 (some .int) 0 := ⟨gw_2_215, gw_2_216, gw_1_8, gw_2_217, rfl, by decide +kernel⟩
set_option maxHeartbeats 4000000 in
set_option maxRecDepth 100000 in
theorem c_X4_dropActs (l : Launch) (D : va_G) (cy : Nat → ClassId) (ad : Nat → Nat) (A : Nat → Prop) (Q : Int32 → gS → Prop) (σ : gS) (h : w_X4_dropActs Q σ) : Met l yX4_dropActs ws_X4_dropActs rm_X4_dropActs (va_Pc [.ref (ad 6)] (gB D cy ad A σ)) (va_Qi Q (gB D cy ad A) A) 0 0 A := by
  refine Met.ofW (cc := cX4_dropActs) (maxL := 2) (ret := (some .int)) (by decide) rfl ?_
  intro p e s m args below meth c s₁ B hml hv
  obtain ⟨rfl, hB⟩ := hv
  have hC : gC p c cX4_dropActs s m ([.ref (ad 6)] : List Value).toArray RX4 D cy ad A := g_start B hB
  have hI := g_first hB
  have hx := hC.1
  have hb := hC.2.1
  have hr := B.returns
  have hlocks := B.notSynchronized
  clear B hB
  have hl := lv_entry ([.ref (ad 6)]) (n := 2) (Nat.le_of_ble_eq_true rfl)
  rw [lg_entry_eq]
  generalize (lg_sl ([.ref (ad 6)]) ++ List.replicate (2 - (lg_sl ([.ref (ad 6)])).length) Slot.unset).toArray = ls at hl ⊢
  have hl : lv_has ls 2 [(0, .ref (ad 6))] := hl
  unfold w_X4_dropActs at h
  refine lv_aload_n hx hb dX4_dropActs_0 rfl (lv_at hl 0 rfl) ?_
  refine gg_X4_acts hC hI gw_1_201 dX4_dropActs_1 ?_
  refine lv_topi (fun y1 ey1 => ?_)
  have h := h y1 ey1
  refine lv_istore_n (lv' := [(1, .int y1), (0, .ref (ad 6))]) hx hb dX4_dropActs_4 rfl hl (by decide) rfl (fun ls hl => ?_)
  refine lv_aload_n hx hb dX4_dropActs_5 rfl (lv_at hl 1 rfl) ?_
  refine lv_iconst (v := 0) hx hb dX4_dropActs_6 (by decide) ?_
  refine gp_X4_acts hC hI gw_1_201 dX4_dropActs_7 (fun s2 H locs es2 hI => ?_)
  have h := h s2 es2
  refine lv_aload_n hx hb dX4_dropActs_10 rfl (lv_at hl 1 rfl) ?_
  refine lv_iconst (v := 0) hx hb dX4_dropActs_11 (by decide) ?_
  refine gp_X4_isKnown hC hI rfl rfl gw_1_209 dX4_dropActs_12 (fun s3 H locs es3 hI => ?_)
  have h := h s3 es3
  refine lv_iload_n hx hb dX4_dropActs_15 rfl (lv_at hl 0 rfl) ?_
  exact g_iret hC hr hlocks hI h dX4_dropActs_16

theorem dX4_sentBefore_0 : decode cX4_sentBefore 0 = .ok (.iconst 0, 1) := by decide +kernel
theorem dX4_sentBefore_1 : decode cX4_sentBefore 1 = .ok (.istore_n 3, 1) := by decide +kernel
theorem dX4_sentBefore_2 : decode cX4_sentBefore 2 = .ok (.iconst 0, 1) := by decide +kernel
theorem dX4_sentBefore_3 : decode cX4_sentBefore 3 = .ok (.istore 4, 2) := by decide +kernel
theorem dX4_sentBefore_5 : decode cX4_sentBefore 5 = .ok (.iload 4, 2) := by decide +kernel
theorem dX4_sentBefore_7 : decode cX4_sentBefore 7 = .ok (.iload_n 1, 1) := by decide +kernel
theorem dX4_sentBefore_8 : decode cX4_sentBefore 8 = .ok (.if_icmp .ge 66, 3) := by decide +kernel
theorem dX4_sentBefore_11 : decode cX4_sentBefore 11 = .ok (.iload_n 2, 1) := by decide +kernel
theorem dX4_sentBefore_12 : decode cX4_sentBefore 12 = .ok (.aload_n 0, 1) := by decide +kernel
theorem dX4_sentBefore_13 : decode cX4_sentBefore 13 = .ok (.getfield 18, 3) := by decide +kernel
theorem dX4_sentBefore_16 : decode cX4_sentBefore 16 = .ok (.iload 4, 2) := by decide +kernel
theorem dX4_sentBefore_18 : decode cX4_sentBefore 18 = .ok (.iaload, 1) := by decide +kernel
theorem dX4_sentBefore_19 : decode cX4_sentBefore 19 = .ok (.isub, 1) := by decide +kernel
theorem dX4_sentBefore_20 : decode cX4_sentBefore 20 = .ok (.aload_n 0, 1) := by decide +kernel
theorem dX4_sentBefore_21 : decode cX4_sentBefore 21 = .ok (.getfield 24, 3) := by decide +kernel
theorem dX4_sentBefore_24 : decode cX4_sentBefore 24 = .ok (.iload 4, 2) := by decide +kernel
theorem dX4_sentBefore_26 : decode cX4_sentBefore 26 = .ok (.iaload, 1) := by decide +kernel
theorem dX4_sentBefore_27 : decode cX4_sentBefore 27 = .ok (.isub, 1) := by decide +kernel
theorem dX4_sentBefore_28 : decode cX4_sentBefore 28 = .ok (.istore 5, 2) := by decide +kernel
theorem dX4_sentBefore_30 : decode cX4_sentBefore 30 = .ok (.aload_n 0, 1) := by decide +kernel
theorem dX4_sentBefore_31 : decode cX4_sentBefore 31 = .ok (.getfield 11, 3) := by decide +kernel
theorem dX4_sentBefore_34 : decode cX4_sentBefore 34 = .ok (.iload 4, 2) := by decide +kernel
theorem dX4_sentBefore_36 : decode cX4_sentBefore 36 = .ok (.iaload, 1) := by decide +kernel
theorem dX4_sentBefore_37 : decode cX4_sentBefore 37 = .ok (.aload_n 0, 1) := by decide +kernel
theorem dX4_sentBefore_38 : decode cX4_sentBefore 38 = .ok (.getfield 11, 3) := by decide +kernel
theorem dX4_sentBefore_41 : decode cX4_sentBefore 41 = .ok (.iload_n 1, 1) := by decide +kernel
theorem dX4_sentBefore_42 : decode cX4_sentBefore 42 = .ok (.iaload, 1) := by decide +kernel
theorem dX4_sentBefore_43 : decode cX4_sentBefore 43 = .ok (.if_icmp .ne 25, 3) := by decide +kernel
theorem dX4_sentBefore_46 : decode cX4_sentBefore 46 = .ok (.iload 5, 2) := by decide +kernel
theorem dX4_sentBefore_48 : decode cX4_sentBefore 48 = .ok (.ifCond .lt 20, 3) := by decide +kernel
theorem dX4_sentBefore_51 : decode cX4_sentBefore 51 = .ok (.iload 5, 2) := by decide +kernel
theorem dX4_sentBefore_53 : decode cX4_sentBefore 53 = .ok (.bipush 10, 2) := by decide +kernel
theorem dX4_sentBefore_55 : decode cX4_sentBefore 55 = .ok (.if_icmp .ge 13, 3) := by decide +kernel
theorem dX4_sentBefore_58 : decode cX4_sentBefore 58 = .ok (.iload_n 3, 1) := by decide +kernel
theorem dX4_sentBefore_59 : decode cX4_sentBefore 59 = .ok (.aload_n 0, 1) := by decide +kernel
theorem dX4_sentBefore_60 : decode cX4_sentBefore 60 = .ok (.getfield 21, 3) := by decide +kernel
theorem dX4_sentBefore_63 : decode cX4_sentBefore 63 = .ok (.iload 4, 2) := by decide +kernel
theorem dX4_sentBefore_65 : decode cX4_sentBefore 65 = .ok (.iaload, 1) := by decide +kernel
theorem dX4_sentBefore_66 : decode cX4_sentBefore 66 = .ok (.iadd, 1) := by decide +kernel
theorem dX4_sentBefore_67 : decode cX4_sentBefore 67 = .ok (.istore_n 3, 1) := by decide +kernel
theorem dX4_sentBefore_68 : decode cX4_sentBefore 68 = .ok (.iinc 4 1, 3) := by decide +kernel
theorem dX4_sentBefore_71 : decode cX4_sentBefore 71 = .ok (.goto (-66), 3) := by decide +kernel
theorem dX4_sentBefore_74 : decode cX4_sentBefore 74 = .ok (.iload_n 3, 1) := by decide +kernel
theorem dX4_sentBefore_75 : decode cX4_sentBefore 75 = .ok (.ireturn, 1) := by decide +kernel
def w_X4_sentBefore_5 (Q : Int32 → gS → Prop) : Nat → Int32 → Int32 → Int32 → Int32 → gS → Prop
  | 0, _, _, _, _, _ => False
  | n5 + 1, x1, x2, x3, x4, σ =>
    (x1 ≤ x4 → Q x3 σ) ∧ (¬ x1 ≤ x4 → vp_in x4 6 ∧ vp_in x4 6 ∧ ∀ y9 : Int32, y9 = ((x2 - (σ 49 x4.toNatClampNeg)) - (σ 52 x4.toNatClampNeg)) → vp_in x4 6 ∧ vp_in x1 6 ∧ (¬ (σ 47 x4.toNatClampNeg) = (σ 47 x1.toNatClampNeg) → ∀ y13 : Int32, y13 = x4 + 1 → w_X4_sentBefore_5 Q n5 x1 x2 x3 y13 σ) ∧ ((σ 47 x4.toNatClampNeg) = (σ 47 x1.toNatClampNeg) → (y9 < 0 → ∀ y15 : Int32, y15 = x4 + 1 → w_X4_sentBefore_5 Q n5 x1 x2 x3 y15 σ) ∧ (¬ y9 < 0 → (10 ≤ y9 → ∀ y17 : Int32, y17 = x4 + 1 → w_X4_sentBefore_5 Q n5 x1 x2 x3 y17 σ) ∧ (¬ 10 ≤ y9 → vp_in x4 6 ∧ ∀ y19 : Int32, y19 = (x3 + (σ 50 x4.toNatClampNeg)) → ∀ y20 : Int32, y20 = x4 + 1 → w_X4_sentBefore_5 Q n5 x1 x2 y19 y20 σ))))
def w_X4_sentBefore (Q : Int32 → gS → Prop) (σ : gS) (a1 : Int32) (a2 : Int32) : Prop :=
    ∃ n5, w_X4_sentBefore_5 Q n5 a1 a2 0 0 σ
abbrev ws_X4_sentBefore : List Cond := Cond.code yX4_sentBefore cX4_sentBefore 6 (some .int) :: gG
abbrev rm_X4_sentBefore : Room := { frames := 0, cells := 0, slots := 0, locals := 0 }
theorem k_X4_sentBefore : gCV yX4_sentBefore RX4 cX4_sentBefore 6 (some .int) 2 := ⟨gw_2_207, gwp_16, gw_1_8, gw_2_208, rfl, by decide +kernel⟩
set_option maxHeartbeats 4000000 in
set_option maxRecDepth 100000 in
theorem c_X4_sentBefore (l : Launch) (D : va_G) (cy : Nat → ClassId) (ad : Nat → Nat) (A : Nat → Prop) (Q : Int32 → gS → Prop) (σ : gS) (a1 : Int32) (a2 : Int32) (h : w_X4_sentBefore Q σ a1 a2) : Met l yX4_sentBefore ws_X4_sentBefore rm_X4_sentBefore (va_Pc [.ref (ad 6), .int a1, .int a2] (gB D cy ad A σ)) (va_Qi Q (gB D cy ad A) A) 0 0 A := by
  refine Met.ofW (cc := cX4_sentBefore) (maxL := 6) (ret := (some .int)) (by decide) rfl ?_
  intro p e s m args below meth c s₁ B hml hv
  obtain ⟨rfl, hB⟩ := hv
  have hC : gC p c cX4_sentBefore s m ([.ref (ad 6), .int a1, .int a2] : List Value).toArray RX4 D cy ad A := g_start B hB
  have hI := g_first hB
  have hx := hC.1
  have hb := hC.2.1
  have hr := B.returns
  have hlocks := B.notSynchronized
  clear B hB
  have J5 : ∀ (n5 : Nat) (x1 : Int32) (x2 : Int32) (x3 : Int32) (x4 : Int32) (σ : gS) (H : Heap) (locs : List Loc) (ls : Array Slot), w_X4_sentBefore_5 Q n5 x1 x2 x3 x4 σ → gI D cy ad A s.heap σ H locs → lv_has ls 6 [(0, .ref (ad 6)), (1, .int x1), (2, .int x2), (3, .int x3), (4, .int x4)] → W p l e (headSpec ws_X4_sentBefore rm_X4_sentBefore).room s m ([.ref (ad 6), .int a1, .int a2] : List Value).toArray below meth c H locs 0 0 (MQ below (va_Qi Q (gB D cy ad A) A) ([.ref (ad 6), .int a1, .int a2] : List Value).toArray s 0 0 A) (F0 m 5 ls []) := by
    intro n5
    induction n5 with
    | zero => intro x1 x2 x3 x4 σ H locs ls h; exact absurd h (fun h => h)
    | succ n5 ih5 =>
      intro x1 x2 x3 x4 σ H locs ls h hI hl
      unfold w_X4_sentBefore_5 at h
      refine lv_iload hx hb dX4_sentBefore_5 (lv_at hl 4 rfl) ?_
      refine lv_iload_n hx hb dX4_sentBefore_7 rfl (lv_at hl 1 rfl) ?_
      refine lv_icmp_ge (tgt := 74) hx hb dX4_sentBefore_8 (by decide) (fun c6 => ?_) (fun c6 => ?_)
      · have h := h.1 c6
        refine lv_iload_n hx hb dX4_sentBefore_74 rfl (lv_at hl 3 rfl) ?_
        exact g_iret hC hr hlocks hI h dX4_sentBefore_75
      · have h := h.2 c6
        refine lv_iload_n hx hb dX4_sentBefore_11 rfl (lv_at hl 2 rfl) ?_
        refine lv_aload_n hx hb dX4_sentBefore_12 rfl (lv_at hl 0 rfl) ?_
        refine gg_X4_ends hC hI gw_1_199 dX4_sentBefore_13 ?_
        refine lv_iload hx hb dX4_sentBefore_16 (lv_at hl 4 rfl) ?_
        obtain ⟨hi7, h⟩ := h
        refine ga_42 hC hI hi7 dX4_sentBefore_18 ?_
        refine lv_isub hx hb dX4_sentBefore_19 ?_
        refine lv_aload_n hx hb dX4_sentBefore_20 rfl (lv_at hl 0 rfl) ?_
        refine gg_X4_shifts hC hI gw_1_203 dX4_sentBefore_21 ?_
        refine lv_iload hx hb dX4_sentBefore_24 (lv_at hl 4 rfl) ?_
        obtain ⟨hi8, h⟩ := h
        refine ga_44 hC hI hi8 dX4_sentBefore_26 ?_
        refine lv_isub hx hb dX4_sentBefore_27 ?_
        refine lv_topi (fun y9 ey9 => ?_)
        have h := h y9 ey9
        refine lv_istore (lv' := [(5, .int y9), (0, .ref (ad 6)), (1, .int x1), (2, .int x2), (3, .int x3), (4, .int x4)]) hx hb dX4_sentBefore_28 hl (by decide) rfl (fun ls hl => ?_)
        refine lv_aload_n hx hb dX4_sentBefore_30 rfl (lv_at hl 1 rfl) ?_
        refine gg_X4_arcs hC hI gw_1_197 dX4_sentBefore_31 ?_
        refine lv_iload hx hb dX4_sentBefore_34 (lv_at hl 5 rfl) ?_
        obtain ⟨hi10, h⟩ := h
        refine ga_40 hC hI hi10 dX4_sentBefore_36 ?_
        refine lv_aload_n hx hb dX4_sentBefore_37 rfl (lv_at hl 1 rfl) ?_
        refine gg_X4_arcs hC hI gw_1_197 dX4_sentBefore_38 ?_
        refine lv_iload_n hx hb dX4_sentBefore_41 rfl (lv_at hl 2 rfl) ?_
        obtain ⟨hi11, h⟩ := h
        refine ga_40 hC hI hi11 dX4_sentBefore_42 ?_
        refine lv_icmp_ne (tgt := 68) hx hb dX4_sentBefore_43 (by decide) (fun c12 => ?_) (fun c12 => ?_)
        · have h := h.1 c12
          obtain ⟨y13, ey13⟩ : ∃ y : Int32, y = x4 + 1 := ⟨_, rfl⟩
          have h := h y13 ey13
          refine lv_iinc (v := y13) (lv' := [(4, .int y13), (5, .int y9), (0, .ref (ad 6)), (1, .int x1), (2, .int x2), (3, .int x3)]) hx hb dX4_sentBefore_68 hl (k := 5) rfl (by rw [ey13]; rfl) (by decide) rfl (fun ls hl => ?_)
          refine lv_goto (tgt := 5) hx hb dX4_sentBefore_71 (by decide) ?_
          exact ih5 _ _ _ _ _ _ _ _ h hI (lv_sub hl [2, 3, 4, 5, 0] rfl)
        · have h := h.2 c12
          refine lv_iload hx hb dX4_sentBefore_46 (lv_at hl 0 rfl) ?_
          refine lv_if_lt (tgt := 68) hx hb dX4_sentBefore_48 (by decide) (fun c14 => ?_) (fun c14 => ?_)
          · have h := h.1 c14
            obtain ⟨y15, ey15⟩ : ∃ y : Int32, y = x4 + 1 := ⟨_, rfl⟩
            have h := h y15 ey15
            refine lv_iinc (v := y15) (lv' := [(4, .int y15), (5, .int y9), (0, .ref (ad 6)), (1, .int x1), (2, .int x2), (3, .int x3)]) hx hb dX4_sentBefore_68 hl (k := 5) rfl (by rw [ey15]; rfl) (by decide) rfl (fun ls hl => ?_)
            refine lv_goto (tgt := 5) hx hb dX4_sentBefore_71 (by decide) ?_
            exact ih5 _ _ _ _ _ _ _ _ h hI (lv_sub hl [2, 3, 4, 5, 0] rfl)
          · have h := h.2 c14
            refine lv_iload hx hb dX4_sentBefore_51 (lv_at hl 0 rfl) ?_
            refine lv_bipush (v := 10) hx hb dX4_sentBefore_53 (by decide) ?_
            refine lv_icmp_ge (tgt := 68) hx hb dX4_sentBefore_55 (by decide) (fun c16 => ?_) (fun c16 => ?_)
            · have h := h.1 c16
              obtain ⟨y17, ey17⟩ : ∃ y : Int32, y = x4 + 1 := ⟨_, rfl⟩
              have h := h y17 ey17
              refine lv_iinc (v := y17) (lv' := [(4, .int y17), (5, .int y9), (0, .ref (ad 6)), (1, .int x1), (2, .int x2), (3, .int x3)]) hx hb dX4_sentBefore_68 hl (k := 5) rfl (by rw [ey17]; rfl) (by decide) rfl (fun ls hl => ?_)
              refine lv_goto (tgt := 5) hx hb dX4_sentBefore_71 (by decide) ?_
              exact ih5 _ _ _ _ _ _ _ _ h hI (lv_sub hl [2, 3, 4, 5, 0] rfl)
            · have h := h.2 c16
              refine lv_iload_n hx hb dX4_sentBefore_58 rfl (lv_at hl 4 rfl) ?_
              refine lv_aload_n hx hb dX4_sentBefore_59 rfl (lv_at hl 1 rfl) ?_
              refine gg_X4_peoples hC hI gw_1_200 dX4_sentBefore_60 ?_
              refine lv_iload hx hb dX4_sentBefore_63 (lv_at hl 5 rfl) ?_
              obtain ⟨hi18, h⟩ := h
              refine ga_43 hC hI hi18 dX4_sentBefore_65 ?_
              refine lv_iadd hx hb dX4_sentBefore_66 ?_
              refine lv_topi (fun y19 ey19 => ?_)
              have h := h y19 ey19
              refine lv_istore_n (lv' := [(3, .int y19), (5, .int y9), (0, .ref (ad 6)), (1, .int x1), (2, .int x2), (4, .int x4)]) hx hb dX4_sentBefore_67 rfl hl (by decide) rfl (fun ls hl => ?_)
              obtain ⟨y20, ey20⟩ : ∃ y : Int32, y = x4 + 1 := ⟨_, rfl⟩
              have h := h y20 ey20
              refine lv_iinc (v := y20) (lv' := [(4, .int y20), (3, .int y19), (5, .int y9), (0, .ref (ad 6)), (1, .int x1), (2, .int x2)]) hx hb dX4_sentBefore_68 hl (k := 5) rfl (by rw [ey20]; rfl) (by decide) rfl (fun ls hl => ?_)
              refine lv_goto (tgt := 5) hx hb dX4_sentBefore_71 (by decide) ?_
              exact ih5 _ _ _ _ _ _ _ _ h hI (lv_sub hl [3, 4, 5, 1, 0] rfl)
  have hl := lv_entry ([.ref (ad 6), .int a1, .int a2]) (n := 6) (Nat.le_of_ble_eq_true rfl)
  rw [lg_entry_eq]
  generalize (lg_sl ([.ref (ad 6), .int a1, .int a2]) ++ List.replicate (6 - (lg_sl ([.ref (ad 6), .int a1, .int a2])).length) Slot.unset).toArray = ls at hl ⊢
  have hl : lv_has ls 6 [(0, .ref (ad 6)), (1, .int a1), (2, .int a2)] := hl
  unfold w_X4_sentBefore at h
  refine lv_iconst (v := 0) hx hb dX4_sentBefore_0 (by decide) ?_
  refine lv_istore_n (lv' := [(3, .int 0), (0, .ref (ad 6)), (1, .int a1), (2, .int a2)]) hx hb dX4_sentBefore_1 rfl hl (by decide) rfl (fun ls hl => ?_)
  refine lv_iconst (v := 0) hx hb dX4_sentBefore_2 (by decide) ?_
  refine lv_istore (lv' := [(4, .int 0), (3, .int 0), (0, .ref (ad 6)), (1, .int a1), (2, .int a2)]) hx hb dX4_sentBefore_3 hl (by decide) rfl (fun ls hl => ?_)
  obtain ⟨n9, h⟩ := h
  exact J5 n9 _ _ _ _ _ _ _ _ h hI (lv_sub hl [2, 3, 4, 1, 0] rfl)

theorem dX4_addedOver_0 : decode cX4_addedOver 0 = .ok (.aload_n 0, 1) := by decide +kernel
theorem dX4_addedOver_1 : decode cX4_addedOver 1 = .ok (.getfield 18, 3) := by decide +kernel
theorem dX4_addedOver_4 : decode cX4_addedOver 4 = .ok (.iload_n 1, 1) := by decide +kernel
theorem dX4_addedOver_5 : decode cX4_addedOver 5 = .ok (.iaload, 1) := by decide +kernel
theorem dX4_addedOver_6 : decode cX4_addedOver 6 = .ok (.aload_n 0, 1) := by decide +kernel
theorem dX4_addedOver_7 : decode cX4_addedOver 7 = .ok (.getfield 24, 3) := by decide +kernel
theorem dX4_addedOver_10 : decode cX4_addedOver 10 = .ok (.iload_n 1, 1) := by decide +kernel
theorem dX4_addedOver_11 : decode cX4_addedOver 11 = .ok (.iaload, 1) := by decide +kernel
theorem dX4_addedOver_12 : decode cX4_addedOver 12 = .ok (.iadd, 1) := by decide +kernel
theorem dX4_addedOver_13 : decode cX4_addedOver 13 = .ok (.istore_n 2, 1) := by decide +kernel
theorem dX4_addedOver_14 : decode cX4_addedOver 14 = .ok (.iconst 0, 1) := by decide +kernel
theorem dX4_addedOver_15 : decode cX4_addedOver 15 = .ok (.istore_n 3, 1) := by decide +kernel
theorem dX4_addedOver_16 : decode cX4_addedOver 16 = .ok (.iload_n 2, 1) := by decide +kernel
theorem dX4_addedOver_17 : decode cX4_addedOver 17 = .ok (.istore 4, 2) := by decide +kernel
theorem dX4_addedOver_19 : decode cX4_addedOver 19 = .ok (.iload 4, 2) := by decide +kernel
theorem dX4_addedOver_21 : decode cX4_addedOver 21 = .ok (.iload_n 2, 1) := by decide +kernel
theorem dX4_addedOver_22 : decode cX4_addedOver 22 = .ok (.bipush 10, 2) := by decide +kernel
theorem dX4_addedOver_24 : decode cX4_addedOver 24 = .ok (.iadd, 1) := by decide +kernel
theorem dX4_addedOver_25 : decode cX4_addedOver 25 = .ok (.if_icmp .ge 45, 3) := by decide +kernel
theorem dX4_addedOver_28 : decode cX4_addedOver 28 = .ok (.aload_n 0, 1) := by decide +kernel
theorem dX4_addedOver_29 : decode cX4_addedOver 29 = .ok (.getfield 15, 3) := by decide +kernel
theorem dX4_addedOver_32 : decode cX4_addedOver 32 = .ok (.iload_n 1, 1) := by decide +kernel
theorem dX4_addedOver_33 : decode cX4_addedOver 33 = .ok (.iaload, 1) := by decide +kernel
theorem dX4_addedOver_34 : decode cX4_addedOver 34 = .ok (.aload_n 0, 1) := by decide +kernel
theorem dX4_addedOver_35 : decode cX4_addedOver 35 = .ok (.iload_n 1, 1) := by decide +kernel
theorem dX4_addedOver_36 : decode cX4_addedOver 36 = .ok (.iload 4, 2) := by decide +kernel
theorem dX4_addedOver_38 : decode cX4_addedOver 38 = .ok (.invokevirtual 61, 3) := by decide +kernel
theorem dX4_addedOver_41 : decode cX4_addedOver 41 = .ok (.isub, 1) := by decide +kernel
theorem dX4_addedOver_42 : decode cX4_addedOver 42 = .ok (.istore 5, 2) := by decide +kernel
theorem dX4_addedOver_44 : decode cX4_addedOver 44 = .ok (.iload_n 3, 1) := by decide +kernel
theorem dX4_addedOver_45 : decode cX4_addedOver 45 = .ok (.iconst 0, 1) := by decide +kernel
theorem dX4_addedOver_46 : decode cX4_addedOver 46 = .ok (.aload_n 0, 1) := by decide +kernel
theorem dX4_addedOver_47 : decode cX4_addedOver 47 = .ok (.getfield 21, 3) := by decide +kernel
theorem dX4_addedOver_50 : decode cX4_addedOver 50 = .ok (.iload_n 1, 1) := by decide +kernel
theorem dX4_addedOver_51 : decode cX4_addedOver 51 = .ok (.iaload, 1) := by decide +kernel
theorem dX4_addedOver_52 : decode cX4_addedOver 52 = .ok (.iconst 0, 1) := by decide +kernel
theorem dX4_addedOver_53 : decode cX4_addedOver 53 = .ok (.iload 5, 2) := by decide +kernel
theorem dX4_addedOver_55 : decode cX4_addedOver 55 = .ok (.invokestatic 65, 3) := by decide +kernel
theorem dX4_addedOver_58 : decode cX4_addedOver 58 = .ok (.isub, 1) := by decide +kernel
theorem dX4_addedOver_59 : decode cX4_addedOver 59 = .ok (.invokestatic 65, 3) := by decide +kernel
theorem dX4_addedOver_62 : decode cX4_addedOver 62 = .ok (.iadd, 1) := by decide +kernel
theorem dX4_addedOver_63 : decode cX4_addedOver 63 = .ok (.istore_n 3, 1) := by decide +kernel
theorem dX4_addedOver_64 : decode cX4_addedOver 64 = .ok (.iinc 4 1, 3) := by decide +kernel
theorem dX4_addedOver_67 : decode cX4_addedOver 67 = .ok (.goto (-48), 3) := by decide +kernel
theorem dX4_addedOver_70 : decode cX4_addedOver 70 = .ok (.iload_n 3, 1) := by decide +kernel
theorem dX4_addedOver_71 : decode cX4_addedOver 71 = .ok (.ireturn, 1) := by decide +kernel
def w_X4_addedOver_19 (Q : Int32 → gS → Prop) : Nat → Int32 → Int32 → Int32 → Int32 → gS → Prop
  | 0, _, _, _, _, _ => False
  | n19 + 1, x1, x2, x3, x4, σ =>
    ((x2 + 10) ≤ x4 → Q x3 σ) ∧ (¬ (x2 + 10) ≤ x4 → vp_in x1 6 ∧ w_X4_sentBefore  (fun (r8 : Int32) (s7 : gS) => ∀ y9 : Int32, y9 = ((σ 48 x1.toNatClampNeg) - r8) → vp_in x1 6 ∧ ∀ y11 : Int32, y11 = (x3 + (if 0 < ((s7 50 x1.toNatClampNeg) - (if 0 < y9 then y9 else 0)) then ((s7 50 x1.toNatClampNeg) - (if 0 < y9 then y9 else 0)) else 0)) → ∀ y12 : Int32, y12 = x4 + 1 → w_X4_addedOver_19 Q n19 x1 x2 y11 y12 s7) σ x1 x4)
def w_X4_addedOver (Q : Int32 → gS → Prop) (σ : gS) (a1 : Int32) : Prop :=
    vp_in a1 6 ∧ vp_in a1 6 ∧ ∀ y15 : Int32, y15 = ((σ 49 a1.toNatClampNeg) + (σ 52 a1.toNatClampNeg)) → ∃ n19, w_X4_addedOver_19 Q n19 a1 y15 0 y15 σ
abbrev ws_X4_addedOver : List Cond := Cond.code yX4_addedOver cX4_addedOver 6 (some .int) :: gG
abbrev rm_X4_addedOver : Room := { frames := 1, cells := 0, slots := 0, locals := 25 }
theorem k_X4_addedOver : gCV yX4_addedOver RX4 cX4_addedOver 6 (some .int) 1 := ⟨gw_2_203, gwp_15, gw_1_8, gw_2_204, rfl, by decide +kernel⟩
set_option maxHeartbeats 4000000 in
set_option maxRecDepth 100000 in
theorem c_X4_addedOver (l : Launch) (D : va_G) (cy : Nat → ClassId) (ad : Nat → Nat) (A : Nat → Prop) (Q : Int32 → gS → Prop) (σ : gS) (a1 : Int32) (h : w_X4_addedOver Q σ a1) : Met l yX4_addedOver ws_X4_addedOver rm_X4_addedOver (va_Pc [.ref (ad 6), .int a1] (gB D cy ad A σ)) (va_Qi Q (gB D cy ad A) A) 0 0 A := by
  refine Met.ofW (cc := cX4_addedOver) (maxL := 6) (ret := (some .int)) (by decide) rfl ?_
  intro p e s m args below meth c s₁ B hml hv
  obtain ⟨rfl, hB⟩ := hv
  have hC : gC p c cX4_addedOver s m ([.ref (ad 6), .int a1] : List Value).toArray RX4 D cy ad A := g_start B hB
  have hI := g_first hB
  have hx := hC.1
  have hb := hC.2.1
  have hr := B.returns
  have hlocks := B.notSynchronized
  clear B hB
  have J19 : ∀ (n19 : Nat) (x1 : Int32) (x2 : Int32) (x3 : Int32) (x4 : Int32) (σ : gS) (H : Heap) (locs : List Loc) (ls : Array Slot), w_X4_addedOver_19 Q n19 x1 x2 x3 x4 σ → gI D cy ad A s.heap σ H locs → lv_has ls 6 [(0, .ref (ad 6)), (1, .int x1), (2, .int x2), (3, .int x3), (4, .int x4)] → W p l e (headSpec ws_X4_addedOver rm_X4_addedOver).room s m ([.ref (ad 6), .int a1] : List Value).toArray below meth c H locs 0 0 (MQ below (va_Qi Q (gB D cy ad A) A) ([.ref (ad 6), .int a1] : List Value).toArray s 0 0 A) (F0 m 19 ls []) := by
    intro n19
    induction n19 with
    | zero => intro x1 x2 x3 x4 σ H locs ls h; exact absurd h (fun h => h)
    | succ n19 ih19 =>
      intro x1 x2 x3 x4 σ H locs ls h hI hl
      unfold w_X4_addedOver_19 at h
      refine lv_iload hx hb dX4_addedOver_19 (lv_at hl 4 rfl) ?_
      refine lv_iload_n hx hb dX4_addedOver_21 rfl (lv_at hl 2 rfl) ?_
      refine lv_bipush (v := 10) hx hb dX4_addedOver_22 (by decide) ?_
      refine lv_iadd hx hb dX4_addedOver_24 ?_
      refine lv_icmp_ge (tgt := 70) hx hb dX4_addedOver_25 (by decide) (fun c5 => ?_) (fun c5 => ?_)
      · have h := h.1 c5
        refine lv_iload_n hx hb dX4_addedOver_70 rfl (lv_at hl 3 rfl) ?_
        exact g_iret hC hr hlocks hI h dX4_addedOver_71
      · have h := h.2 c5
        refine lv_aload_n hx hb dX4_addedOver_28 rfl (lv_at hl 0 rfl) ?_
        refine gg_X4_wides hC hI gw_1_198 dX4_addedOver_29 ?_
        refine lv_iload_n hx hb dX4_addedOver_32 rfl (lv_at hl 1 rfl) ?_
        obtain ⟨hi6, h⟩ := h
        refine ga_41 hC hI hi6 dX4_addedOver_33 ?_
        refine lv_aload_n hx hb dX4_addedOver_34 rfl (lv_at hl 0 rfl) ?_
        refine lv_iload_n hx hb dX4_addedOver_35 rfl (lv_at hl 1 rfl) ?_
        refine lv_iload hx hb dX4_addedOver_36 (lv_at hl 4 rfl) ?_
        refine g_backi hI (g_runV (As := [.int x1, .int x4]) (rest := [.int (σ 48 x1.toNatClampNeg)]) hC hml hI (c_X4_sentBefore l D cy ad A _  _ _ _ h) k_X4_sentBefore gw_2_205 ⟨rfl, rfl⟩ ⟨Nat.le_of_ble_eq_true rfl, Nat.le_of_ble_eq_true rfl⟩ (grv_6 hC hI) rfl hl.1 rfl (Nat.le_of_ble_eq_true rfl) dX4_addedOver_38 ⟨Nat.le_of_ble_eq_true rfl, Nat.le_of_ble_eq_true rfl⟩) (fun r8 s7 H locs h hI => ?_)
        refine lv_isub hx hb dX4_addedOver_41 ?_
        refine lv_topi (fun y9 ey9 => ?_)
        have h := h y9 ey9
        refine lv_istore (lv' := [(5, .int y9), (0, .ref (ad 6)), (1, .int x1), (2, .int x2), (3, .int x3), (4, .int x4)]) hx hb dX4_addedOver_42 hl (by decide) rfl (fun ls hl => ?_)
        refine lv_iload_n hx hb dX4_addedOver_44 rfl (lv_at hl 4 rfl) ?_
        refine lv_iconst (v := 0) hx hb dX4_addedOver_45 (by decide) ?_
        refine lv_aload_n hx hb dX4_addedOver_46 rfl (lv_at hl 1 rfl) ?_
        refine gg_X4_peoples hC hI gw_1_200 dX4_addedOver_47 ?_
        refine lv_iload_n hx hb dX4_addedOver_50 rfl (lv_at hl 2 rfl) ?_
        obtain ⟨hi10, h⟩ := h
        refine ga_43 hC hI hi10 dX4_addedOver_51 ?_
        refine lv_iconst (v := 0) hx hb dX4_addedOver_52 (by decide) ?_
        refine lv_iload hx hb dX4_addedOver_53 (lv_at hl 0 rfl) ?_
        refine va_mmax hx hb (by rw [hml]; exact hl.1.symm) hC.2.2.2.1 (hC.2.2.1 _ gw_2_209) (hC.2.2.1 _ gw_2_156) (hC.2.2.1 _ gw_1_18) (hC.2.2.1 _ gw_2_157) (Nat.le_of_ble_eq_true rfl) (Nat.le_of_ble_eq_true rfl) (Nat.le_of_ble_eq_true rfl) (Nat.le_of_ble_eq_true rfl) dX4_addedOver_55 ?_
        refine lv_isub hx hb dX4_addedOver_58 ?_
        refine va_mmax hx hb (by rw [hml]; exact hl.1.symm) hC.2.2.2.1 (hC.2.2.1 _ gw_2_209) (hC.2.2.1 _ gw_2_156) (hC.2.2.1 _ gw_1_18) (hC.2.2.1 _ gw_2_157) (Nat.le_of_ble_eq_true rfl) (Nat.le_of_ble_eq_true rfl) (Nat.le_of_ble_eq_true rfl) (Nat.le_of_ble_eq_true rfl) dX4_addedOver_59 ?_
        refine lv_iadd hx hb dX4_addedOver_62 ?_
        refine lv_topi (fun y11 ey11 => ?_)
        have h := h y11 ey11
        refine lv_istore_n (lv' := [(3, .int y11), (5, .int y9), (0, .ref (ad 6)), (1, .int x1), (2, .int x2), (4, .int x4)]) hx hb dX4_addedOver_63 rfl hl (by decide) rfl (fun ls hl => ?_)
        obtain ⟨y12, ey12⟩ : ∃ y : Int32, y = x4 + 1 := ⟨_, rfl⟩
        have h := h y12 ey12
        refine lv_iinc (v := y12) (lv' := [(4, .int y12), (3, .int y11), (5, .int y9), (0, .ref (ad 6)), (1, .int x1), (2, .int x2)]) hx hb dX4_addedOver_64 hl (k := 5) rfl (by rw [ey12]; rfl) (by decide) rfl (fun ls hl => ?_)
        refine lv_goto (tgt := 19) hx hb dX4_addedOver_67 (by decide) ?_
        exact ih19 _ _ _ _ _ _ _ _ h hI (lv_sub hl [3, 4, 5, 1, 0] rfl)
  have hl := lv_entry ([.ref (ad 6), .int a1]) (n := 6) (Nat.le_of_ble_eq_true rfl)
  rw [lg_entry_eq]
  generalize (lg_sl ([.ref (ad 6), .int a1]) ++ List.replicate (6 - (lg_sl ([.ref (ad 6), .int a1])).length) Slot.unset).toArray = ls at hl ⊢
  have hl : lv_has ls 6 [(0, .ref (ad 6)), (1, .int a1)] := hl
  unfold w_X4_addedOver at h
  refine lv_aload_n hx hb dX4_addedOver_0 rfl (lv_at hl 0 rfl) ?_
  refine gg_X4_ends hC hI gw_1_199 dX4_addedOver_1 ?_
  refine lv_iload_n hx hb dX4_addedOver_4 rfl (lv_at hl 1 rfl) ?_
  obtain ⟨hi13, h⟩ := h
  refine ga_42 hC hI hi13 dX4_addedOver_5 ?_
  refine lv_aload_n hx hb dX4_addedOver_6 rfl (lv_at hl 0 rfl) ?_
  refine gg_X4_shifts hC hI gw_1_203 dX4_addedOver_7 ?_
  refine lv_iload_n hx hb dX4_addedOver_10 rfl (lv_at hl 1 rfl) ?_
  obtain ⟨hi14, h⟩ := h
  refine ga_44 hC hI hi14 dX4_addedOver_11 ?_
  refine lv_iadd hx hb dX4_addedOver_12 ?_
  refine lv_topi (fun y15 ey15 => ?_)
  have h := h y15 ey15
  refine lv_istore_n (lv' := [(2, .int y15), (0, .ref (ad 6)), (1, .int a1)]) hx hb dX4_addedOver_13 rfl hl (by decide) rfl (fun ls hl => ?_)
  refine lv_iconst (v := 0) hx hb dX4_addedOver_14 (by decide) ?_
  refine lv_istore_n (lv' := [(3, .int 0), (2, .int y15), (0, .ref (ad 6)), (1, .int a1)]) hx hb dX4_addedOver_15 rfl hl (by decide) rfl (fun ls hl => ?_)
  refine lv_iload_n hx hb dX4_addedOver_16 rfl (lv_at hl 1 rfl) ?_
  refine lv_istore (lv' := [(4, .int y15), (3, .int 0), (2, .int y15), (0, .ref (ad 6)), (1, .int a1)]) hx hb dX4_addedOver_17 hl (by decide) rfl (fun ls hl => ?_)
  obtain ⟨n9, h⟩ := h
  exact J19 n9 _ _ _ _ _ _ _ _ h hI (lv_sub hl [3, 4, 2, 1, 0] rfl)

theorem dX4_tryShifts_0 : decode cX4_tryShifts 0 = .ok (.iload_n 2, 1) := by decide +kernel
theorem dX4_tryShifts_1 : decode cX4_tryShifts 1 = .ok (.aload_n 0, 1) := by decide +kernel
theorem dX4_tryShifts_2 : decode cX4_tryShifts 2 = .ok (.getfield 41, 3) := by decide +kernel
theorem dX4_tryShifts_5 : decode cX4_tryShifts 5 = .ok (.if_icmp .gt 19, 3) := by decide +kernel
theorem dX4_tryShifts_8 : decode cX4_tryShifts 8 = .ok (.iload_n 2, 1) := by decide +kernel
theorem dX4_tryShifts_9 : decode cX4_tryShifts 9 = .ok (.aload_n 0, 1) := by decide +kernel
theorem dX4_tryShifts_10 : decode cX4_tryShifts 10 = .ok (.getfield 41, 3) := by decide +kernel
theorem dX4_tryShifts_13 : decode cX4_tryShifts 13 = .ok (.if_icmp .ne 12, 3) := by decide +kernel
theorem dX4_tryShifts_16 : decode cX4_tryShifts 16 = .ok (.iload_n 3, 1) := by decide +kernel
theorem dX4_tryShifts_17 : decode cX4_tryShifts 17 = .ok (.aload_n 0, 1) := by decide +kernel
theorem dX4_tryShifts_18 : decode cX4_tryShifts 18 = .ok (.getfield 44, 3) := by decide +kernel
theorem dX4_tryShifts_21 : decode cX4_tryShifts 21 = .ok (.if_icmp .lt 4, 3) := by decide +kernel
theorem dX4_tryShifts_24 : decode cX4_tryShifts 24 = .ok (.return_, 1) := by decide +kernel
theorem dX4_tryShifts_25 : decode cX4_tryShifts 25 = .ok (.iload_n 1, 1) := by decide +kernel
theorem dX4_tryShifts_26 : decode cX4_tryShifts 26 = .ok (.aload_n 0, 1) := by decide +kernel
theorem dX4_tryShifts_27 : decode cX4_tryShifts 27 = .ok (.getfield 30, 3) := by decide +kernel
theorem dX4_tryShifts_30 : decode cX4_tryShifts 30 = .ok (.if_icmp .ge 9, 3) := by decide +kernel
theorem dX4_tryShifts_33 : decode cX4_tryShifts 33 = .ok (.iload_n 1, 1) := by decide +kernel
theorem dX4_tryShifts_34 : decode cX4_tryShifts 34 = .ok (.bipush 6, 2) := by decide +kernel
theorem dX4_tryShifts_36 : decode cX4_tryShifts 36 = .ok (.if_icmp .lt 29, 3) := by decide +kernel
theorem dX4_tryShifts_39 : decode cX4_tryShifts 39 = .ok (.aload_n 0, 1) := by decide +kernel
theorem dX4_tryShifts_40 : decode cX4_tryShifts 40 = .ok (.iload_n 2, 1) := by decide +kernel
theorem dX4_tryShifts_41 : decode cX4_tryShifts 41 = .ok (.putfield 41, 3) := by decide +kernel
theorem dX4_tryShifts_44 : decode cX4_tryShifts 44 = .ok (.aload_n 0, 1) := by decide +kernel
theorem dX4_tryShifts_45 : decode cX4_tryShifts 45 = .ok (.iload_n 3, 1) := by decide +kernel
theorem dX4_tryShifts_46 : decode cX4_tryShifts 46 = .ok (.putfield 44, 3) := by decide +kernel
theorem dX4_tryShifts_49 : decode cX4_tryShifts 49 = .ok (.aload_n 0, 1) := by decide +kernel
theorem dX4_tryShifts_50 : decode cX4_tryShifts 50 = .ok (.getfield 24, 3) := by decide +kernel
theorem dX4_tryShifts_53 : decode cX4_tryShifts 53 = .ok (.iconst 0, 1) := by decide +kernel
theorem dX4_tryShifts_54 : decode cX4_tryShifts 54 = .ok (.aload_n 0, 1) := by decide +kernel
theorem dX4_tryShifts_55 : decode cX4_tryShifts 55 = .ok (.getfield 27, 3) := by decide +kernel
theorem dX4_tryShifts_58 : decode cX4_tryShifts 58 = .ok (.iconst 0, 1) := by decide +kernel
theorem dX4_tryShifts_59 : decode cX4_tryShifts 59 = .ok (.bipush 6, 2) := by decide +kernel
theorem dX4_tryShifts_61 : decode cX4_tryShifts 61 = .ok (.invokestatic 51, 3) := by decide +kernel
theorem dX4_tryShifts_64 : decode cX4_tryShifts 64 = .ok (.return_, 1) := by decide +kernel
theorem dX4_tryShifts_65 : decode cX4_tryShifts 65 = .ok (.iconst 0, 1) := by decide +kernel
theorem dX4_tryShifts_66 : decode cX4_tryShifts 66 = .ok (.istore 4, 2) := by decide +kernel
theorem dX4_tryShifts_68 : decode cX4_tryShifts 68 = .ok (.iload 4, 2) := by decide +kernel
theorem dX4_tryShifts_70 : decode cX4_tryShifts 70 = .ok (.bipush 20, 2) := by decide +kernel
theorem dX4_tryShifts_72 : decode cX4_tryShifts 72 = .ok (.if_icmp .gt 35, 3) := by decide +kernel
theorem dX4_tryShifts_75 : decode cX4_tryShifts 75 = .ok (.aload_n 0, 1) := by decide +kernel
theorem dX4_tryShifts_76 : decode cX4_tryShifts 76 = .ok (.getfield 24, 3) := by decide +kernel
theorem dX4_tryShifts_79 : decode cX4_tryShifts 79 = .ok (.iload_n 1, 1) := by decide +kernel
theorem dX4_tryShifts_80 : decode cX4_tryShifts 80 = .ok (.iload 4, 2) := by decide +kernel
theorem dX4_tryShifts_82 : decode cX4_tryShifts 82 = .ok (.iastore, 1) := by decide +kernel
theorem dX4_tryShifts_83 : decode cX4_tryShifts 83 = .ok (.aload_n 0, 1) := by decide +kernel
theorem dX4_tryShifts_84 : decode cX4_tryShifts 84 = .ok (.iload_n 1, 1) := by decide +kernel
theorem dX4_tryShifts_85 : decode cX4_tryShifts 85 = .ok (.iconst 1, 1) := by decide +kernel
theorem dX4_tryShifts_86 : decode cX4_tryShifts 86 = .ok (.iadd, 1) := by decide +kernel
theorem dX4_tryShifts_87 : decode cX4_tryShifts 87 = .ok (.iload_n 2, 1) := by decide +kernel
theorem dX4_tryShifts_88 : decode cX4_tryShifts 88 = .ok (.aload_n 0, 1) := by decide +kernel
theorem dX4_tryShifts_89 : decode cX4_tryShifts 89 = .ok (.iload_n 1, 1) := by decide +kernel
theorem dX4_tryShifts_90 : decode cX4_tryShifts 90 = .ok (.invokevirtual 57, 3) := by decide +kernel
theorem dX4_tryShifts_93 : decode cX4_tryShifts 93 = .ok (.iadd, 1) := by decide +kernel
theorem dX4_tryShifts_94 : decode cX4_tryShifts 94 = .ok (.iload_n 3, 1) := by decide +kernel
theorem dX4_tryShifts_95 : decode cX4_tryShifts 95 = .ok (.iload 4, 2) := by decide +kernel
theorem dX4_tryShifts_97 : decode cX4_tryShifts 97 = .ok (.iadd, 1) := by decide +kernel
theorem dX4_tryShifts_98 : decode cX4_tryShifts 98 = .ok (.invokevirtual 47, 3) := by decide +kernel
theorem dX4_tryShifts_101 : decode cX4_tryShifts 101 = .ok (.iinc 4 10, 3) := by decide +kernel
theorem dX4_tryShifts_104 : decode cX4_tryShifts 104 = .ok (.goto (-36), 3) := by decide +kernel
theorem dX4_tryShifts_107 : decode cX4_tryShifts 107 = .ok (.return_, 1) := by decide +kernel
def w_X4_tryShifts_39 (Q : gS → Prop) (rc : (gS → Prop) → gS → Int32 → Int32 → Int32 → Prop) (x2 : Int32) (x3 : Int32) (σ : gS) : Prop :=
    ∀ s1 : gS, s1 = gu σ 54 0 x2 → ∀ s2 : gS, s2 = gu s1 55 0 x3 → ∀ s3 : gS, s3 = gcp s2 52 53 6 → Q s3
def w_X4_tryShifts_68 (Q : gS → Prop) (rc : (gS → Prop) → gS → Int32 → Int32 → Int32 → Prop) : Nat → Int32 → Int32 → Int32 → Int32 → gS → Prop
  | 0, _, _, _, _, _ => False
  | n68 + 1, x1, x2, x3, x4, σ =>
    (20 < x4 → Q σ) ∧ (¬ 20 < x4 → vp_in x1 6 ∧ ∀ s6 : gS, s6 = gu σ 52 x1.toNatClampNeg x4 → w_X4_addedOver  (fun (r8 : Int32) (s7 : gS) => rc (fun (s9 : gS) => ∀ y11 : Int32, y11 = x4 + 10 → w_X4_tryShifts_68 Q rc n68 x1 x2 x3 y11 s9) s7 (x1 + 1) (x2 + r8) (x3 + x4)) s6 x1)
def w_X4_tryShifts_25 (Q : gS → Prop) (rc : (gS → Prop) → gS → Int32 → Int32 → Int32 → Prop) (x1 : Int32) (x2 : Int32) (x3 : Int32) (σ : gS) : Prop :=
    ((σ 51 0) ≤ x1 → w_X4_tryShifts_39 Q rc x2 x3 σ) ∧ (¬ (σ 51 0) ≤ x1 → (x1 < 6 → ∃ n68, w_X4_tryShifts_68 Q rc n68 x1 x2 x3 0 σ) ∧ (¬ x1 < 6 → w_X4_tryShifts_39 Q rc x2 x3 σ))
def w_X4_tryShifts_b (Q : gS → Prop) (rc : (gS → Prop) → gS → Int32 → Int32 → Int32 → Prop) (σ : gS) (a1 : Int32) (a2 : Int32) (a3 : Int32) : Prop :=
    ((σ 54 0) < a2 → Q σ) ∧ (¬ (σ 54 0) < a2 → (¬ a2 = (σ 54 0) → w_X4_tryShifts_25 Q rc a1 a2 a3 σ) ∧ (a2 = (σ 54 0) → (a3 < (σ 55 0) → w_X4_tryShifts_25 Q rc a1 a2 a3 σ) ∧ (¬ a3 < (σ 55 0) → Q σ)))
def w_X4_tryShifts : Nat → (gS → Prop) → gS → Int32 → Int32 → Int32 → Prop
  | 0, _, _, _, _, _ => False
  | d + 1, Q, σ, a1, a2, a3 => w_X4_tryShifts_b Q (w_X4_tryShifts d) σ a1 a2 a3
abbrev ws_X4_tryShifts : List Cond := Cond.code yX4_tryShifts cX4_tryShifts 5 none :: gG
abbrev rm_X4_tryShifts (d : Nat) : Room := { frames := 2 + d, cells := 0, slots := 0, locals := 50 + 24 * d }
theorem k_X4_tryShifts : gCV yX4_tryShifts RX4 cX4_tryShifts 5 none 3 := ⟨gw_2_196, gwp_14, gw_1_8, gw_2_197, rfl, by decide +kernel⟩
set_option maxHeartbeats 4000000 in
set_option maxRecDepth 100000 in
theorem c_X4_tryShifts (l : Launch) (D : va_G) (cy : Nat → ClassId) (ad : Nat → Nat) (A : Nat → Prop) : ∀ (d : Nat) (Q : gS → Prop) (σ : gS) (a1 : Int32) (a2 : Int32) (a3 : Int32) (h : w_X4_tryShifts d Q σ a1 a2 a3), Met l yX4_tryShifts ws_X4_tryShifts (rm_X4_tryShifts d) (va_Pc [.ref (ad 6), .int a1, .int a2, .int a3] (gB D cy ad A σ)) (va_Qv Q (gB D cy ad A) A) 0 0 A := by
  intro d
  induction d with
  | zero => intro Q σ a1 a2 a3 h; exact absurd h (fun h => h)
  | succ d ihd =>
  intro Q σ a1 a2 a3 h
  have h : w_X4_tryShifts_b Q (w_X4_tryShifts d) σ a1 a2 a3 := h
  generalize w_X4_tryShifts d = rc at h ihd
  refine Met.ofW (cc := cX4_tryShifts) (maxL := 5) (ret := none) (by decide) rfl ?_
  intro p e s m args below meth c s₁ B hml hv
  obtain ⟨rfl, hB⟩ := hv
  have hC : gC p c cX4_tryShifts s m ([.ref (ad 6), .int a1, .int a2, .int a3] : List Value).toArray RX4 D cy ad A := g_start B hB
  have hI := g_first hB
  have hx := hC.1
  have hb := hC.2.1
  have hr := B.returns
  have hlocks := B.notSynchronized
  clear B hB
  have J39 : ∀ (x2 : Int32) (x3 : Int32) (σ : gS) (H : Heap) (locs : List Loc) (ls : Array Slot), w_X4_tryShifts_39 Q rc x2 x3 σ → gI D cy ad A s.heap σ H locs → lv_has ls 5 [(0, .ref (ad 6)), (2, .int x2), (3, .int x3)] → W p l e (headSpec ws_X4_tryShifts (rm_X4_tryShifts (d + 1))).room s m ([.ref (ad 6), .int a1, .int a2, .int a3] : List Value).toArray below meth c H locs 0 0 (MQ below (va_Qv Q (gB D cy ad A) A) ([.ref (ad 6), .int a1, .int a2, .int a3] : List Value).toArray s 0 0 A) (F0 m 39 ls []) := by
    intro x2 x3 σ H locs ls h hI hl
    unfold w_X4_tryShifts_39 at h
    refine lv_aload_n hx hb dX4_tryShifts_39 rfl (lv_at hl 0 rfl) ?_
    refine lv_iload_n hx hb dX4_tryShifts_40 rfl (lv_at hl 1 rfl) ?_
    refine gp_X4_bestOver hC hI gw_1_206 dX4_tryShifts_41 (fun s1 H locs es1 hI => ?_)
    have h := h s1 es1
    refine lv_aload_n hx hb dX4_tryShifts_44 rfl (lv_at hl 0 rfl) ?_
    refine lv_iload_n hx hb dX4_tryShifts_45 rfl (lv_at hl 2 rfl) ?_
    refine gp_X4_bestSum hC hI gw_1_208 dX4_tryShifts_46 (fun s2 H locs es2 hI => ?_)
    have h := h s2 es2
    refine lv_aload_n hx hb dX4_tryShifts_49 rfl (lv_at hl 0 rfl) ?_
    refine gg_X4_shifts hC hI gw_1_203 dX4_tryShifts_50 ?_
    refine lv_iconst (v := 0) hx hb dX4_tryShifts_53 (by decide) ?_
    refine lv_aload_n hx hb dX4_tryShifts_54 rfl (lv_at hl 0 rfl) ?_
    refine gg_X4_bestShifts hC hI gw_1_204 dX4_tryShifts_55 ?_
    refine lv_iconst (v := 0) hx hb dX4_tryShifts_58 (by decide) ?_
    refine lv_bipush (v := 6) hx hb dX4_tryShifts_59 (by decide) ?_
    refine va_copyi hx hb (by rw [hml]; exact hl.1.symm) hC.2.2.2.1 (hC.2.2.1 _ gw_2_198) (hC.2.2.1 _ gw_2_200) (hC.2.2.1 _ gw_2_199) (hC.2.2.1 _ gw_1_19) hC.2.2.2.2.1 hI.1 hI.2.1 hI.2.2 44 45 0 0 (ty := .int) rfl rfl rfl rfl rfl (by decide) (by decide) (by decide) (by decide) (by decide) (fun _ _ => rfl) (by simp [headSpec]; omega) (Nat.le_trans (m := 40) (by decide) (by first | (simp [headSpec]; done) | (simp [headSpec]; omega))) dX4_tryShifts_61 (fun H locs hP hD hS => ?_)
    obtain ⟨s3, es3⟩ : ∃ z : gS, z = gcp s2 52 53 6 := ⟨_, rfl⟩
    have h := h s3 es3
    have hI : gI D cy ad A s.heap s3 H locs := by rw [es3]; exact ⟨hP, hD, hS⟩
    exact g_vret hC hr hlocks hI h dX4_tryShifts_64
  have J68 : ∀ (n68 : Nat) (x1 : Int32) (x2 : Int32) (x3 : Int32) (x4 : Int32) (σ : gS) (H : Heap) (locs : List Loc) (ls : Array Slot), w_X4_tryShifts_68 Q rc n68 x1 x2 x3 x4 σ → gI D cy ad A s.heap σ H locs → lv_has ls 5 [(0, .ref (ad 6)), (1, .int x1), (2, .int x2), (3, .int x3), (4, .int x4)] → W p l e (headSpec ws_X4_tryShifts (rm_X4_tryShifts (d + 1))).room s m ([.ref (ad 6), .int a1, .int a2, .int a3] : List Value).toArray below meth c H locs 0 0 (MQ below (va_Qv Q (gB D cy ad A) A) ([.ref (ad 6), .int a1, .int a2, .int a3] : List Value).toArray s 0 0 A) (F0 m 68 ls []) := by
    intro n68
    induction n68 with
    | zero => intro x1 x2 x3 x4 σ H locs ls h; exact absurd h (fun h => h)
    | succ n68 ih68 =>
      intro x1 x2 x3 x4 σ H locs ls h hI hl
      unfold w_X4_tryShifts_68 at h
      refine lv_iload hx hb dX4_tryShifts_68 (lv_at hl 4 rfl) ?_
      refine lv_bipush (v := 20) hx hb dX4_tryShifts_70 (by decide) ?_
      refine lv_icmp_gt (tgt := 107) hx hb dX4_tryShifts_72 (by decide) (fun c4 => ?_) (fun c4 => ?_)
      · have h := h.1 c4
        exact g_vret hC hr hlocks hI h dX4_tryShifts_107
      · have h := h.2 c4
        refine lv_aload_n hx hb dX4_tryShifts_75 rfl (lv_at hl 0 rfl) ?_
        refine gg_X4_shifts hC hI gw_1_203 dX4_tryShifts_76 ?_
        refine lv_iload_n hx hb dX4_tryShifts_79 rfl (lv_at hl 1 rfl) ?_
        refine lv_iload hx hb dX4_tryShifts_80 (lv_at hl 4 rfl) ?_
        obtain ⟨hi5, h⟩ := h
        refine gs_44 hC hI hi5 dX4_tryShifts_82 (fun s6 H locs es6 hI => ?_)
        have h := h s6 es6
        refine lv_aload_n hx hb dX4_tryShifts_83 rfl (lv_at hl 0 rfl) ?_
        refine lv_iload_n hx hb dX4_tryShifts_84 rfl (lv_at hl 1 rfl) ?_
        refine lv_iconst (v := 1) hx hb dX4_tryShifts_85 (by decide) ?_
        refine lv_iadd hx hb dX4_tryShifts_86 ?_
        refine lv_iload_n hx hb dX4_tryShifts_87 rfl (lv_at hl 2 rfl) ?_
        refine lv_aload_n hx hb dX4_tryShifts_88 rfl (lv_at hl 0 rfl) ?_
        refine lv_iload_n hx hb dX4_tryShifts_89 rfl (lv_at hl 1 rfl) ?_
        refine g_backi hI (g_runV (As := [.int x1]) (rest := [.int x2, .int (x1 + 1), .ref (ad 6)]) hC hml hI (c_X4_addedOver l D cy ad A _  _ _ h) k_X4_addedOver gw_2_201 ⟨rfl, rfl⟩ ⟨by first | (simp [headSpec]; done) | (simp [headSpec]; omega), by first | (simp [headSpec]; done) | (simp [headSpec]; omega)⟩ (grv_6 hC hI) rfl hl.1 rfl (Nat.le_of_ble_eq_true rfl) dX4_tryShifts_90 ⟨Nat.le_of_ble_eq_true rfl, Nat.le_of_ble_eq_true rfl⟩) (fun r8 s7 H locs h hI => ?_)
        refine lv_iadd hx hb dX4_tryShifts_93 ?_
        refine lv_iload_n hx hb dX4_tryShifts_94 rfl (lv_at hl 3 rfl) ?_
        refine lv_iload hx hb dX4_tryShifts_95 (lv_at hl 4 rfl) ?_
        refine lv_iadd hx hb dX4_tryShifts_97 ?_
        refine g_backv hI (g_runV (As := [.int (x1 + 1), .int (x2 + r8), .int (x3 + x4)]) (rest := []) hC hml hI (ihd _ _ _ _ _ h) k_X4_tryShifts gw_2_194 ⟨rfl, rfl⟩ ⟨by first | (simp [headSpec]; done) | (simp [headSpec]; omega), by first | (simp [headSpec]; done) | (simp [headSpec]; omega)⟩ (grv_6 hC hI) rfl hl.1 rfl (Nat.le_of_ble_eq_true rfl) dX4_tryShifts_98 ⟨Nat.le_of_ble_eq_true rfl, Nat.le_of_ble_eq_true rfl⟩) (fun s9 H locs h hI => ?_)
        obtain ⟨y11, ey11⟩ : ∃ y : Int32, y = x4 + 10 := ⟨_, rfl⟩
        have h := h y11 ey11
        refine lv_iinc (v := y11) (lv' := [(4, .int y11), (0, .ref (ad 6)), (1, .int x1), (2, .int x2), (3, .int x3)]) hx hb dX4_tryShifts_101 hl (k := 4) rfl (by rw [ey11]; rfl) (by decide) rfl (fun ls hl => ?_)
        refine lv_goto (tgt := 68) hx hb dX4_tryShifts_104 (by decide) ?_
        exact ih68 _ _ _ _ _ _ _ _ h hI (lv_sub hl [1, 2, 3, 4, 0] rfl)
  have J25 : ∀ (x1 : Int32) (x2 : Int32) (x3 : Int32) (σ : gS) (H : Heap) (locs : List Loc) (ls : Array Slot), w_X4_tryShifts_25 Q rc x1 x2 x3 σ → gI D cy ad A s.heap σ H locs → lv_has ls 5 [(0, .ref (ad 6)), (1, .int x1), (2, .int x2), (3, .int x3)] → W p l e (headSpec ws_X4_tryShifts (rm_X4_tryShifts (d + 1))).room s m ([.ref (ad 6), .int a1, .int a2, .int a3] : List Value).toArray below meth c H locs 0 0 (MQ below (va_Qv Q (gB D cy ad A) A) ([.ref (ad 6), .int a1, .int a2, .int a3] : List Value).toArray s 0 0 A) (F0 m 25 ls []) := by
    intro x1 x2 x3 σ H locs ls h hI hl
    unfold w_X4_tryShifts_25 at h
    refine lv_iload_n hx hb dX4_tryShifts_25 rfl (lv_at hl 1 rfl) ?_
    refine lv_aload_n hx hb dX4_tryShifts_26 rfl (lv_at hl 0 rfl) ?_
    refine gg_X4_acts hC hI gw_1_201 dX4_tryShifts_27 ?_
    refine lv_icmp_ge (tgt := 39) hx hb dX4_tryShifts_30 (by decide) (fun c12 => ?_) (fun c12 => ?_)
    · have h := h.1 c12
      exact J39 _ _ _ _ _ _ h hI (lv_sub hl [0, 2, 3] rfl)
    · have h := h.2 c12
      refine lv_iload_n hx hb dX4_tryShifts_33 rfl (lv_at hl 1 rfl) ?_
      refine lv_bipush (v := 6) hx hb dX4_tryShifts_34 (by decide) ?_
      refine lv_icmp_lt (tgt := 65) hx hb dX4_tryShifts_36 (by decide) (fun c13 => ?_) (fun c13 => ?_)
      · have h := h.1 c13
        refine lv_iconst (v := 0) hx hb dX4_tryShifts_65 (by decide) ?_
        refine lv_istore (lv' := [(4, .int 0), (0, .ref (ad 6)), (1, .int x1), (2, .int x2), (3, .int x3)]) hx hb dX4_tryShifts_66 hl (by decide) rfl (fun ls hl => ?_)
        obtain ⟨n9, h⟩ := h
        exact J68 n9 _ _ _ _ _ _ _ _ h hI (lv_sub hl [1, 2, 3, 4, 0] rfl)
      · have h := h.2 c13
        exact J39 _ _ _ _ _ _ h hI (lv_sub hl [0, 2, 3] rfl)
  have hl := lv_entry ([.ref (ad 6), .int a1, .int a2, .int a3]) (n := 5) (Nat.le_of_ble_eq_true rfl)
  rw [lg_entry_eq]
  generalize (lg_sl ([.ref (ad 6), .int a1, .int a2, .int a3]) ++ List.replicate (5 - (lg_sl ([.ref (ad 6), .int a1, .int a2, .int a3])).length) Slot.unset).toArray = ls at hl ⊢
  have hl : lv_has ls 5 [(0, .ref (ad 6)), (1, .int a1), (2, .int a2), (3, .int a3)] := hl
  unfold w_X4_tryShifts_b at h
  refine lv_iload_n hx hb dX4_tryShifts_0 rfl (lv_at hl 2 rfl) ?_
  refine lv_aload_n hx hb dX4_tryShifts_1 rfl (lv_at hl 0 rfl) ?_
  refine gg_X4_bestOver hC hI gw_1_206 dX4_tryShifts_2 ?_
  refine lv_icmp_gt (tgt := 24) hx hb dX4_tryShifts_5 (by decide) (fun c14 => ?_) (fun c14 => ?_)
  · have h := h.1 c14
    exact g_vret hC hr hlocks hI h dX4_tryShifts_24
  · have h := h.2 c14
    refine lv_iload_n hx hb dX4_tryShifts_8 rfl (lv_at hl 2 rfl) ?_
    refine lv_aload_n hx hb dX4_tryShifts_9 rfl (lv_at hl 0 rfl) ?_
    refine gg_X4_bestOver hC hI gw_1_206 dX4_tryShifts_10 ?_
    refine lv_icmp_ne (tgt := 25) hx hb dX4_tryShifts_13 (by decide) (fun c15 => ?_) (fun c15 => ?_)
    · have h := h.1 c15
      exact J25 _ _ _ _ _ _ _ h hI (lv_sub hl [0, 1, 2, 3] rfl)
    · have h := h.2 c15
      refine lv_iload_n hx hb dX4_tryShifts_16 rfl (lv_at hl 3 rfl) ?_
      refine lv_aload_n hx hb dX4_tryShifts_17 rfl (lv_at hl 0 rfl) ?_
      refine gg_X4_bestSum hC hI gw_1_208 dX4_tryShifts_18 ?_
      refine lv_icmp_lt (tgt := 25) hx hb dX4_tryShifts_21 (by decide) (fun c16 => ?_) (fun c16 => ?_)
      · have h := h.1 c16
        exact J25 _ _ _ _ _ _ _ h hI (lv_sub hl [0, 1, 2, 3] rfl)
      · have h := h.2 c16
        exact g_vret hC hr hlocks hI h dX4_tryShifts_24

theorem dX4_findBest_0 : decode cX4_findBest 0 = .ok (.aload_n 0, 1) := by decide +kernel
theorem dX4_findBest_1 : decode cX4_findBest 1 = .ok (.getfield 34, 3) := by decide +kernel
theorem dX4_findBest_4 : decode cX4_findBest 4 = .ok (.ifCond .eq 4, 3) := by decide +kernel
theorem dX4_findBest_7 : decode cX4_findBest 7 = .ok (.return_, 1) := by decide +kernel
theorem dX4_findBest_8 : decode cX4_findBest 8 = .ok (.aload_n 0, 1) := by decide +kernel
theorem dX4_findBest_9 : decode cX4_findBest 9 = .ok (.ldc 40, 2) := by decide +kernel
theorem dX4_findBest_11 : decode cX4_findBest 11 = .ok (.putfield 41, 3) := by decide +kernel
theorem dX4_findBest_14 : decode cX4_findBest 14 = .ok (.aload_n 0, 1) := by decide +kernel
theorem dX4_findBest_15 : decode cX4_findBest 15 = .ok (.ldc 40, 2) := by decide +kernel
theorem dX4_findBest_17 : decode cX4_findBest 17 = .ok (.putfield 44, 3) := by decide +kernel
theorem dX4_findBest_20 : decode cX4_findBest 20 = .ok (.aload_n 0, 1) := by decide +kernel
theorem dX4_findBest_21 : decode cX4_findBest 21 = .ok (.iconst 0, 1) := by decide +kernel
theorem dX4_findBest_22 : decode cX4_findBest 22 = .ok (.iconst 0, 1) := by decide +kernel
theorem dX4_findBest_23 : decode cX4_findBest 23 = .ok (.iconst 0, 1) := by decide +kernel
theorem dX4_findBest_24 : decode cX4_findBest 24 = .ok (.invokevirtual 47, 3) := by decide +kernel
theorem dX4_findBest_27 : decode cX4_findBest 27 = .ok (.aload_n 0, 1) := by decide +kernel
theorem dX4_findBest_28 : decode cX4_findBest 28 = .ok (.iconst 1, 1) := by decide +kernel
theorem dX4_findBest_29 : decode cX4_findBest 29 = .ok (.putfield 34, 3) := by decide +kernel
theorem dX4_findBest_32 : decode cX4_findBest 32 = .ok (.return_, 1) := by decide +kernel
def w_X4_findBest (Q : gS → Prop) (σ : gS) : Prop :=
    ((σ 56 0) = 0 → ∀ s2 : gS, s2 = gu σ 54 0 2147483647 → ∀ s3 : gS, s3 = gu s2 55 0 2147483647 → w_X4_tryShifts 8  (fun (s4 : gS) => ∀ s6 : gS, s6 = gu s4 56 0 1 → Q s6) s3 0 0 0) ∧ (¬ (σ 56 0) = 0 → Q σ)
abbrev ws_X4_findBest : List Cond := Cond.code yX4_findBest cX4_findBest 1 none :: gG
abbrev rm_X4_findBest : Room := { frames := 11, cells := 0, slots := 0, locals := 266 }
theorem k_X4_findBest : gCV yX4_findBest RX4 cX4_findBest 1 none 0 := ⟨gw_2_190, gw_2_191, gw_1_8, gw_2_192, rfl, by decide +kernel⟩
set_option maxHeartbeats 4000000 in
set_option maxRecDepth 100000 in
theorem c_X4_findBest (l : Launch) (D : va_G) (cy : Nat → ClassId) (ad : Nat → Nat) (A : Nat → Prop) (Q : gS → Prop) (σ : gS) (h : w_X4_findBest Q σ) : Met l yX4_findBest ws_X4_findBest rm_X4_findBest (va_Pc [.ref (ad 6)] (gB D cy ad A σ)) (va_Qv Q (gB D cy ad A) A) 0 0 A := by
  refine Met.ofW (cc := cX4_findBest) (maxL := 1) (ret := none) (by decide) rfl ?_
  intro p e s m args below meth c s₁ B hml hv
  obtain ⟨rfl, hB⟩ := hv
  have hC : gC p c cX4_findBest s m ([.ref (ad 6)] : List Value).toArray RX4 D cy ad A := g_start B hB
  have hI := g_first hB
  have hx := hC.1
  have hb := hC.2.1
  have hr := B.returns
  have hlocks := B.notSynchronized
  clear B hB
  have hl := lv_entry ([.ref (ad 6)]) (n := 1) (Nat.le_of_ble_eq_true rfl)
  rw [lg_entry_eq]
  generalize (lg_sl ([.ref (ad 6)]) ++ List.replicate (1 - (lg_sl ([.ref (ad 6)])).length) Slot.unset).toArray = ls at hl ⊢
  have hl : lv_has ls 1 [(0, .ref (ad 6))] := hl
  unfold w_X4_findBest at h
  refine lv_aload_n hx hb dX4_findBest_0 rfl (lv_at hl 0 rfl) ?_
  refine gg_X4_isKnown hC hI gw_1_209 dX4_findBest_1 ?_
  refine lv_if_eq (tgt := 8) hx hb dX4_findBest_4 (by decide) (fun c1 => ?_) (fun c1 => ?_)
  · have h := h.1 c1
    refine lv_aload_n hx hb dX4_findBest_8 rfl (lv_at hl 0 rfl) ?_
    refine lv_ldc (v := 2147483647) hx hb hC.2.2.2.1 (hC.2.2.1 _ gw_2_193) dX4_findBest_9 ?_
    refine gp_X4_bestOver hC hI gw_1_206 dX4_findBest_11 (fun s2 H locs es2 hI => ?_)
    have h := h s2 es2
    refine lv_aload_n hx hb dX4_findBest_14 rfl (lv_at hl 0 rfl) ?_
    refine lv_ldc (v := 2147483647) hx hb hC.2.2.2.1 (hC.2.2.1 _ gw_2_193) dX4_findBest_15 ?_
    refine gp_X4_bestSum hC hI gw_1_208 dX4_findBest_17 (fun s3 H locs es3 hI => ?_)
    have h := h s3 es3
    refine lv_aload_n hx hb dX4_findBest_20 rfl (lv_at hl 0 rfl) ?_
    refine lv_iconst (v := 0) hx hb dX4_findBest_21 (by decide) ?_
    refine lv_iconst (v := 0) hx hb dX4_findBest_22 (by decide) ?_
    refine lv_iconst (v := 0) hx hb dX4_findBest_23 (by decide) ?_
    refine g_backv hI (g_runV (As := [.int 0, .int 0, .int 0]) (rest := []) hC hml hI (c_X4_tryShifts l D cy ad A 8 _  _ _ _ _ h) k_X4_tryShifts gw_2_194 ⟨rfl, rfl⟩ ⟨Nat.le_of_ble_eq_true rfl, Nat.le_of_ble_eq_true rfl⟩ (grv_6 hC hI) rfl hl.1 rfl (Nat.le_of_ble_eq_true rfl) dX4_findBest_24 ⟨Nat.le_of_ble_eq_true rfl, Nat.le_of_ble_eq_true rfl⟩) (fun s4 H locs h hI => ?_)
    refine lv_aload_n hx hb dX4_findBest_27 rfl (lv_at hl 0 rfl) ?_
    refine lv_iconst (v := 1) hx hb dX4_findBest_28 (by decide) ?_
    refine gp_X4_isKnown hC hI rfl rfl gw_1_209 dX4_findBest_29 (fun s6 H locs es6 hI => ?_)
    have h := h s6 es6
    exact g_vret hC hr hlocks hI h dX4_findBest_32
  · have h := h.2 c1
    exact g_vret hC hr hlocks hI h dX4_findBest_7
