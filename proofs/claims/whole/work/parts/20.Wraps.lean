/-! 20.Wraps: printed by wip/gen/walk.py -/
theorem dL_lane_0 : decode cL_lane 0 = .ok (.aload_n 3, 1) := by decide +kernel
theorem dL_lane_1 : decode cL_lane 1 = .ok (.iconst 0, 1) := by decide +kernel
theorem dL_lane_2 : decode cL_lane 2 = .ok (.aload_n 0, 1) := by decide +kernel
theorem dL_lane_3 : decode cL_lane 3 = .ok (.iload_n 1, 1) := by decide +kernel
theorem dL_lane_4 : decode cL_lane 4 = .ok (.iload_n 2, 1) := by decide +kernel
theorem dL_lane_5 : decode cL_lane 5 = .ok (.invokevirtual 7, 3) := by decide +kernel
theorem dL_lane_8 : decode cL_lane 8 = .ok (.ifCond .eq 7, 3) := by decide +kernel
theorem dL_lane_11 : decode cL_lane 11 = .ok (.lconst 1, 1) := by decide +kernel
theorem dL_lane_12 : decode cL_lane 12 = .ok (.goto 4, 3) := by decide +kernel
theorem dL_lane_15 : decode cL_lane 15 = .ok (.lconst 0, 1) := by decide +kernel
theorem dL_lane_16 : decode cL_lane 16 = .ok (.lastore, 1) := by decide +kernel
theorem dL_lane_17 : decode cL_lane 17 = .ok (.goto 7, 3) := by decide +kernel
theorem dL_lane_20 : decode cL_lane 20 = .ok (.astore 4, 2) := by decide +kernel
theorem dL_lane_22 : decode cL_lane 22 = .ok (.iconst 1, 1) := by decide +kernel
theorem dL_lane_23 : decode cL_lane 23 = .ok (.ireturn, 1) := by decide +kernel
theorem dL_lane_24 : decode cL_lane 24 = .ok (.iconst 0, 1) := by decide +kernel
theorem dL_lane_25 : decode cL_lane 25 = .ok (.ireturn, 1) := by decide +kernel
def w_L_lane (Q : Int32 → gS → Prop) (σ : gS) (a1 : Int32) (a2 : Int32) : Prop :=
    w_X8_lane  (fun (r2 : Int32) (s1 : gS) => (r2 = 0 → ∀ s5 : gS, s5 = gu s1 110 (0 : Int32).toNatClampNeg 0 → Q 0 s5) ∧ (¬ r2 = 0 → ∀ s7 : gS, s7 = gu s1 110 (0 : Int32).toNatClampNeg 1 → Q 0 s7)) (fun (k9 : Nat) (s9 : gS) => (k9 = 0 → Q 1 s9) ∧ (¬ k9 = 0 → False)) σ a1 a2
abbrev ws_L_lane : List Cond := Cond.codeWith yL_lane cL_lane 5 (some .int) [(0, 17, 20, 13)] :: gG
abbrev rm_L_lane : Room := { frames := 8, cells := 1, slots := 6, locals := 133 }
theorem k_L_lane : gCW yL_lane cL_lane 5 (some .int) [(0, 17, 20, 13)] 4 := ⟨gw_3_26, gw_1_0, gw_3_27, by decide +kernel⟩
set_option maxHeartbeats 4000000 in
set_option maxRecDepth 100000 in
theorem c_L_lane (l : Launch) (hst : l.stackTraces = false) (D : va_G) (cy : Nat → ClassId) (ad : Nat → Nat) (A : Nat → Prop) (Q : Int32 → gS → Prop) (σ : gS) (a1 : Int32) (a2 : Int32) (h : w_L_lane Q σ a1 a2) : Met l yL_lane ws_L_lane rm_L_lane (va_Pc [.ref (ad 0), .int a1, .int a2, .ref (ad 83)] (gB D cy ad A σ)) (va_Qi Q (gB D cy ad A) A) 1 6 A := by
  refine va_MetW (cc := cL_lane) (maxL := 5) (ret := (some .int)) (by decide) rfl ?_
  intro p e s m args below meth c s₁ B hml hv
  obtain ⟨rfl, hB⟩ := hv
  obtain ⟨hC, htab⟩ : gC p c cL_lane s m ([.ref (ad 0), .int a1, .int a2, .ref (ad 83)] : List Value).toArray RL D cy ad A ∧ _ := g_startW B hB
  have hI := g_first hB
  have hx := hC.1
  have hb := hC.2.1
  have hr := B.returns
  have hlocks := B.notSynchronized
  clear B hB
  have hl := lv_entry ([.ref (ad 0), .int a1, .int a2, .ref (ad 83)]) (n := 5) (Nat.le_of_ble_eq_true rfl)
  rw [lg_entry_eq]
  generalize (lg_sl ([.ref (ad 0), .int a1, .int a2, .ref (ad 83)]) ++ List.replicate (5 - (lg_sl ([.ref (ad 0), .int a1, .int a2, .ref (ad 83)])).length) Slot.unset).toArray = ls at hl ⊢
  have hl : lv_has ls 5 [(0, .ref (ad 0)), (1, .int a1), (2, .int a2), (3, .ref (ad 83))] := hl
  unfold w_L_lane at h
  refine lv_aload_n hx hb dL_lane_0 rfl (lv_at hl 3 rfl) ?_
  refine lv_iconst (v := 0) hx hb dL_lane_1 (by decide) ?_
  refine lv_aload_n hx hb dL_lane_2 rfl (lv_at hl 0 rfl) ?_
  refine lv_iload_n hx hb dL_lane_3 rfl (lv_at hl 1 rfl) ?_
  refine lv_iload_n hx hb dL_lane_4 rfl (lv_at hl 2 rfl) ?_
  refine gy_backi hI (gy_runV (As := [.int a1, .int a2]) (rest := [.int 0, .ref (ad 83)]) hC hml hI (c_X8_lane l hst D cy ad A _ _  _ _ _ h) k_X8_lane gw_3_29 ⟨rfl, rfl⟩ ⟨Nat.le_of_ble_eq_true rfl, Nat.le_of_ble_eq_true rfl⟩ (grv_0 hC hI) rfl hl.1 rfl (Nat.le_of_ble_eq_true rfl) dL_lane_5 ⟨Nat.le_of_ble_eq_true rfl, Nat.le_of_ble_eq_true rfl⟩) (fun k9 s9 H locs ce9 q9 hk9 h hI h19 h29 h39 => ?_) (fun r2 s1 H locs h hI => ?_)
  · by_cases cx0 : k9 = 0
    · have h := h.1 cx0
      rw [cx0] at h39
      refine vx_catch (own := RL) (E := gEx 0) (name := "java/lang/IndexOutOfBoundsException") hC.2.2.2.1 [] ⟨0, 17, 20, 13⟩ [] (by rw [htab]; rfl) (fun _ hz => nomatch hz) rfl (by decide) (hC.2.2.1 _ gw_3_28) (va_Nw.use (gNl_on _ (by decide)) (hC.Z.2.2.2.2.2.2.1 (.castable "java/lang/IndexOutOfBoundsException" "java/lang/IndexOutOfBoundsException") (by decide))) h19 h29 h39 ?_
      refine lv_astore (lv' := [(4, .ref q9), (0, .ref (ad 0)), (1, .int a1), (2, .int a2), (3, .ref (ad 83))]) hx hb dL_lane_20 hl (by decide) rfl (fun ls hl => ?_)
      refine lv_iconst (v := 1) hx hb dL_lane_22 (by decide) ?_
      exact g_iret hC hr hlocks hI h dL_lane_23
    exact (h.2 cx0).elim
  · refine lv_if_eq (tgt := 15) hx hb dL_lane_8 (by decide) (fun c3 => ?_) (fun c3 => ?_)
    · have h := h.1 c3
      refine lv_lconst (v := 0) hx hb dL_lane_15 (by decide) ?_
      refine gs_83 (x := 0) hC hI (by decide) (by unfold vp_in; decide) dL_lane_16 (fun s5 H locs es5 hI => ?_)
      have h := h s5 es5
      refine lv_goto (tgt := 24) hx hb dL_lane_17 (by decide) ?_
      refine lv_iconst (v := 0) hx hb dL_lane_24 (by decide) ?_
      exact g_iret hC hr hlocks hI h dL_lane_25
    · have h := h.2 c3
      refine lv_lconst (v := 1) hx hb dL_lane_11 (by decide) ?_
      refine lv_goto (tgt := 16) hx hb dL_lane_12 (by decide) ?_
      refine gs_83 (x := 1) hC hI (by decide) (by unfold vp_in; decide) dL_lane_16 (fun s7 H locs es7 hI => ?_)
      have h := h s7 es7
      refine lv_goto (tgt := 24) hx hb dL_lane_17 (by decide) ?_
      refine lv_iconst (v := 0) hx hb dL_lane_24 (by decide) ?_
      exact g_iret hC hr hlocks hI h dL_lane_25

theorem dL_gate_0 : decode cL_gate 0 = .ok (.aload_n 0, 1) := by decide +kernel
theorem dL_gate_1 : decode cL_gate 1 = .ok (.iload_n 1, 1) := by decide +kernel
theorem dL_gate_2 : decode cL_gate 2 = .ok (.invokevirtual 15, 3) := by decide +kernel
theorem dL_gate_5 : decode cL_gate 5 = .ok (.goto 6, 3) := by decide +kernel
theorem dL_gate_8 : decode cL_gate 8 = .ok (.astore_n 2, 1) := by decide +kernel
theorem dL_gate_9 : decode cL_gate 9 = .ok (.iconst 1, 1) := by decide +kernel
theorem dL_gate_10 : decode cL_gate 10 = .ok (.ireturn, 1) := by decide +kernel
theorem dL_gate_11 : decode cL_gate 11 = .ok (.iconst 0, 1) := by decide +kernel
theorem dL_gate_12 : decode cL_gate 12 = .ok (.ireturn, 1) := by decide +kernel
def w_L_gate (Q : Int32 → gS → Prop) (σ : gS) (a1 : Int32) : Prop :=
    w_X8_gate  (fun (s1 : gS) => Q 0 s1) (fun (k9 : Nat) (s9 : gS) => (k9 = 0 → Q 1 s9) ∧ (¬ k9 = 0 → False)) σ a1
abbrev ws_L_gate : List Cond := Cond.codeWith yL_gate cL_gate 3 (some .int) [(0, 5, 8, 13)] :: gG
abbrev rm_L_gate : Room := { frames := 8, cells := 1, slots := 6, locals := 132 }
theorem k_L_gate : gCW yL_gate cL_gate 3 (some .int) [(0, 5, 8, 13)] 2 := ⟨gw_3_104, gw_1_0, gw_3_105, by decide +kernel⟩
set_option maxHeartbeats 4000000 in
set_option maxRecDepth 100000 in
theorem c_L_gate (l : Launch) (hst : l.stackTraces = false) (D : va_G) (cy : Nat → ClassId) (ad : Nat → Nat) (A : Nat → Prop) (Q : Int32 → gS → Prop) (σ : gS) (a1 : Int32) (h : w_L_gate Q σ a1) : Met l yL_gate ws_L_gate rm_L_gate (va_Pc [.ref (ad 0), .int a1] (gB D cy ad A σ)) (va_Qi Q (gB D cy ad A) A) 1 6 A := by
  refine va_MetW (cc := cL_gate) (maxL := 3) (ret := (some .int)) (by decide) rfl ?_
  intro p e s m args below meth c s₁ B hml hv
  obtain ⟨rfl, hB⟩ := hv
  obtain ⟨hC, htab⟩ : gC p c cL_gate s m ([.ref (ad 0), .int a1] : List Value).toArray RL D cy ad A ∧ _ := g_startW B hB
  have hI := g_first hB
  have hx := hC.1
  have hb := hC.2.1
  have hr := B.returns
  have hlocks := B.notSynchronized
  clear B hB
  have hl := lv_entry ([.ref (ad 0), .int a1]) (n := 3) (Nat.le_of_ble_eq_true rfl)
  rw [lg_entry_eq]
  generalize (lg_sl ([.ref (ad 0), .int a1]) ++ List.replicate (3 - (lg_sl ([.ref (ad 0), .int a1])).length) Slot.unset).toArray = ls at hl ⊢
  have hl : lv_has ls 3 [(0, .ref (ad 0)), (1, .int a1)] := hl
  unfold w_L_gate at h
  refine lv_aload_n hx hb dL_gate_0 rfl (lv_at hl 0 rfl) ?_
  refine lv_iload_n hx hb dL_gate_1 rfl (lv_at hl 1 rfl) ?_
  refine gy_backv hI (gy_runV (As := [.int a1]) (rest := []) hC hml hI (c_X8_gate l hst D cy ad A _ _  _ _ h) k_X8_gate gw_3_106 ⟨rfl, rfl⟩ ⟨Nat.le_of_ble_eq_true rfl, Nat.le_of_ble_eq_true rfl⟩ (grv_0 hC hI) rfl hl.1 rfl (Nat.le_of_ble_eq_true rfl) dL_gate_2 ⟨Nat.le_of_ble_eq_true rfl, Nat.le_of_ble_eq_true rfl⟩) (fun k9 s9 H locs ce9 q9 hk9 h hI h19 h29 h39 => ?_) (fun s1 H locs h hI => ?_)
  · by_cases cx0 : k9 = 0
    · have h := h.1 cx0
      rw [cx0] at h39
      refine vx_catch (own := RL) (E := gEx 0) (name := "java/lang/IndexOutOfBoundsException") hC.2.2.2.1 [] ⟨0, 5, 8, 13⟩ [] (by rw [htab]; rfl) (fun _ hz => nomatch hz) rfl (by decide) (hC.2.2.1 _ gw_3_28) (va_Nw.use (gNl_on _ (by decide)) (hC.Z.2.2.2.2.2.2.1 (.castable "java/lang/IndexOutOfBoundsException" "java/lang/IndexOutOfBoundsException") (by decide))) h19 h29 h39 ?_
      refine lv_astore_n (lv' := [(2, .ref q9), (0, .ref (ad 0)), (1, .int a1)]) hx hb dL_gate_8 rfl hl (by decide) rfl (fun ls hl => ?_)
      refine lv_iconst (v := 1) hx hb dL_gate_9 (by decide) ?_
      exact g_iret hC hr hlocks hI h dL_gate_10
    exact (h.2 cx0).elim
  · refine lv_goto (tgt := 11) hx hb dL_gate_5 (by decide) ?_
    refine lv_iconst (v := 0) hx hb dL_gate_11 (by decide) ?_
    exact g_iret hC hr hlocks hI h dL_gate_12

theorem dL_tent_0 : decode cL_tent 0 = .ok (.aload_n 3, 1) := by decide +kernel
theorem dL_tent_1 : decode cL_tent 1 = .ok (.iconst 0, 1) := by decide +kernel
theorem dL_tent_2 : decode cL_tent 2 = .ok (.aload_n 0, 1) := by decide +kernel
theorem dL_tent_3 : decode cL_tent 3 = .ok (.iload_n 1, 1) := by decide +kernel
theorem dL_tent_4 : decode cL_tent 4 = .ok (.iload_n 2, 1) := by decide +kernel
theorem dL_tent_5 : decode cL_tent 5 = .ok (.invokevirtual 19, 3) := by decide +kernel
theorem dL_tent_8 : decode cL_tent 8 = .ok (.i2l, 1) := by decide +kernel
theorem dL_tent_9 : decode cL_tent 9 = .ok (.lastore, 1) := by decide +kernel
theorem dL_tent_10 : decode cL_tent 10 = .ok (.goto 11, 3) := by decide +kernel
theorem dL_tent_13 : decode cL_tent 13 = .ok (.astore 4, 2) := by decide +kernel
theorem dL_tent_15 : decode cL_tent 15 = .ok (.iconst 1, 1) := by decide +kernel
theorem dL_tent_16 : decode cL_tent 16 = .ok (.ireturn, 1) := by decide +kernel
theorem dL_tent_17 : decode cL_tent 17 = .ok (.astore 4, 2) := by decide +kernel
theorem dL_tent_19 : decode cL_tent 19 = .ok (.iconst 2, 1) := by decide +kernel
theorem dL_tent_20 : decode cL_tent 20 = .ok (.ireturn, 1) := by decide +kernel
theorem dL_tent_21 : decode cL_tent 21 = .ok (.iconst 0, 1) := by decide +kernel
theorem dL_tent_22 : decode cL_tent 22 = .ok (.ireturn, 1) := by decide +kernel
def w_L_tent (Q : Int32 → gS → Prop) (σ : gS) (a1 : Int32) (a2 : Int32) : Prop :=
    w_X8_tent  (fun (r2 : Int32) (s1 : gS) => ∀ s4 : gS, s4 = gu s1 110 (0 : Int32).toNatClampNeg r2 → Q 0 s4) (fun (k9 : Nat) (s9 : gS) => (k9 = 1 → Q 1 s9) ∧ (k9 = 2 → Q 2 s9) ∧ (¬ k9 = 1 → ¬ k9 = 2 → False)) σ a1 a2
abbrev ws_L_tent : List Cond := Cond.codeWith yL_tent cL_tent 5 (some .int) [(0, 10, 13, 23), (0, 10, 17, 25)] :: gG
abbrev rm_L_tent : Room := { frames := 8, cells := 3, slots := 18, locals := 134 }
theorem k_L_tent : gCW yL_tent cL_tent 5 (some .int) [(0, 10, 13, 23), (0, 10, 17, 25)] 4 := ⟨gw_3_111, gw_1_0, gw_3_112, by decide +kernel⟩
set_option maxHeartbeats 4000000 in
set_option maxRecDepth 100000 in
theorem c_L_tent (l : Launch) (hst : l.stackTraces = false) (D : va_G) (cy : Nat → ClassId) (ad : Nat → Nat) (A : Nat → Prop) (Q : Int32 → gS → Prop) (σ : gS) (a1 : Int32) (a2 : Int32) (h : w_L_tent Q σ a1 a2) : Met l yL_tent ws_L_tent rm_L_tent (va_Pc [.ref (ad 0), .int a1, .int a2, .ref (ad 83)] (gB D cy ad A σ)) (va_Qi Q (gB D cy ad A) A) 3 18 A := by
  refine va_MetW (cc := cL_tent) (maxL := 5) (ret := (some .int)) (by decide) rfl ?_
  intro p e s m args below meth c s₁ B hml hv
  obtain ⟨rfl, hB⟩ := hv
  obtain ⟨hC, htab⟩ : gC p c cL_tent s m ([.ref (ad 0), .int a1, .int a2, .ref (ad 83)] : List Value).toArray RL D cy ad A ∧ _ := g_startW B hB
  have hI := g_first hB
  have hx := hC.1
  have hb := hC.2.1
  have hr := B.returns
  have hlocks := B.notSynchronized
  clear B hB
  have hl := lv_entry ([.ref (ad 0), .int a1, .int a2, .ref (ad 83)]) (n := 5) (Nat.le_of_ble_eq_true rfl)
  rw [lg_entry_eq]
  generalize (lg_sl ([.ref (ad 0), .int a1, .int a2, .ref (ad 83)]) ++ List.replicate (5 - (lg_sl ([.ref (ad 0), .int a1, .int a2, .ref (ad 83)])).length) Slot.unset).toArray = ls at hl ⊢
  have hl : lv_has ls 5 [(0, .ref (ad 0)), (1, .int a1), (2, .int a2), (3, .ref (ad 83))] := hl
  unfold w_L_tent at h
  refine lv_aload_n hx hb dL_tent_0 rfl (lv_at hl 3 rfl) ?_
  refine lv_iconst (v := 0) hx hb dL_tent_1 (by decide) ?_
  refine lv_aload_n hx hb dL_tent_2 rfl (lv_at hl 0 rfl) ?_
  refine lv_iload_n hx hb dL_tent_3 rfl (lv_at hl 1 rfl) ?_
  refine lv_iload_n hx hb dL_tent_4 rfl (lv_at hl 2 rfl) ?_
  refine gy_backi hI (gy_runV (As := [.int a1, .int a2]) (rest := [.int 0, .ref (ad 83)]) hC hml hI (c_X8_tent l hst D cy ad A _ _  _ _ _ h) k_X8_tent gw_3_115 ⟨rfl, rfl⟩ ⟨Nat.le_of_ble_eq_true rfl, Nat.le_of_ble_eq_true rfl⟩ (grv_0 hC hI) rfl hl.1 rfl (Nat.le_of_ble_eq_true rfl) dL_tent_5 ⟨Nat.le_of_ble_eq_true rfl, Nat.le_of_ble_eq_true rfl⟩) (fun k9 s9 H locs ce9 q9 hk9 h hI h19 h29 h39 => ?_) (fun r2 s1 H locs h hI => ?_)
  · by_cases cx0 : k9 = 1
    · have h := h.1 cx0
      rw [cx0] at h39
      refine vx_catch (own := RL) (E := gEx 1) (name := "java/lang/IllegalArgumentException") hC.2.2.2.1 [] ⟨0, 10, 13, 23⟩ [⟨0, 10, 17, 25⟩] (by rw [htab]; rfl) (fun _ hz => nomatch hz) rfl (by decide) (hC.2.2.1 _ gw_3_113) (va_Nw.use (gNl_on _ (by decide)) (hC.Z.2.2.2.2.2.2.1 (.castable "java/lang/IllegalArgumentException" "java/lang/IllegalArgumentException") (by decide))) h19 h29 h39 ?_
      refine lv_astore (lv' := [(4, .ref q9), (0, .ref (ad 0)), (1, .int a1), (2, .int a2), (3, .ref (ad 83))]) hx hb dL_tent_13 hl (by decide) rfl (fun ls hl => ?_)
      refine lv_iconst (v := 1) hx hb dL_tent_15 (by decide) ?_
      exact g_iret hC hr hlocks hI h dL_tent_16
    by_cases cx1 : k9 = 2
    · have h := h.2.1 cx1
      rw [cx1] at h39
      refine vx_catch (own := RL) (E := gEx 2) (name := "java/lang/UnsupportedOperationException") hC.2.2.2.1 [⟨0, 10, 13, 23⟩] ⟨0, 10, 17, 25⟩ [] (by rw [htab]; rfl) (List.forall_mem_cons.mpr ⟨Or.inr ⟨by decide, gEx 1, hC.2.2.1 _ gw_3_113, hC.Z.2.2.2.2.2.2.2 2 1 (by decide) (by decide) (by decide)⟩, (fun _ hz => nomatch hz)⟩) rfl (by decide) (hC.2.2.1 _ gw_3_114) (va_Nw.use (gNl_on _ (by decide)) (hC.Z.2.2.2.2.2.2.1 (.castable "java/lang/UnsupportedOperationException" "java/lang/UnsupportedOperationException") (by decide))) h19 h29 h39 ?_
      refine lv_astore (lv' := [(4, .ref q9), (0, .ref (ad 0)), (1, .int a1), (2, .int a2), (3, .ref (ad 83))]) hx hb dL_tent_17 hl (by decide) rfl (fun ls hl => ?_)
      refine lv_iconst (v := 2) hx hb dL_tent_19 (by decide) ?_
      exact g_iret hC hr hlocks hI h dL_tent_20
    exact (h.2.2 cx0 cx1).elim
  · refine lv_i2l hx hb dL_tent_8 rfl ?_
    refine gs_83 (x := r2) hC hI rfl (by unfold vp_in; decide) dL_tent_9 (fun s4 H locs es4 hI => ?_)
    have h := h s4 es4
    refine lv_goto (tgt := 21) hx hb dL_tent_10 (by decide) ?_
    refine lv_iconst (v := 0) hx hb dL_tent_21 (by decide) ?_
    exact g_iret hC hr hlocks hI h dL_tent_22

theorem dL_strike_0 : decode cL_strike 0 = .ok (.aload_n 2, 1) := by decide +kernel
theorem dL_strike_1 : decode cL_strike 1 = .ok (.iconst 0, 1) := by decide +kernel
theorem dL_strike_2 : decode cL_strike 2 = .ok (.aload_n 0, 1) := by decide +kernel
theorem dL_strike_3 : decode cL_strike 3 = .ok (.iload_n 1, 1) := by decide +kernel
theorem dL_strike_4 : decode cL_strike 4 = .ok (.invokevirtual 27, 3) := by decide +kernel
theorem dL_strike_7 : decode cL_strike 7 = .ok (.ifCond .eq 7, 3) := by decide +kernel
theorem dL_strike_10 : decode cL_strike 10 = .ok (.lconst 1, 1) := by decide +kernel
theorem dL_strike_11 : decode cL_strike 11 = .ok (.goto 4, 3) := by decide +kernel
theorem dL_strike_14 : decode cL_strike 14 = .ok (.lconst 0, 1) := by decide +kernel
theorem dL_strike_15 : decode cL_strike 15 = .ok (.lastore, 1) := by decide +kernel
theorem dL_strike_16 : decode cL_strike 16 = .ok (.goto 6, 3) := by decide +kernel
theorem dL_strike_19 : decode cL_strike 19 = .ok (.astore_n 3, 1) := by decide +kernel
theorem dL_strike_20 : decode cL_strike 20 = .ok (.iconst 1, 1) := by decide +kernel
theorem dL_strike_21 : decode cL_strike 21 = .ok (.ireturn, 1) := by decide +kernel
theorem dL_strike_22 : decode cL_strike 22 = .ok (.iconst 0, 1) := by decide +kernel
theorem dL_strike_23 : decode cL_strike 23 = .ok (.ireturn, 1) := by decide +kernel
def w_L_strike (Q : Int32 → gS → Prop) (σ : gS) (a1 : Int32) : Prop :=
    w_X8_strike  (fun (r2 : Int32) (s1 : gS) => (r2 = 0 → ∀ s5 : gS, s5 = gu s1 110 (0 : Int32).toNatClampNeg 0 → Q 0 s5) ∧ (¬ r2 = 0 → ∀ s7 : gS, s7 = gu s1 110 (0 : Int32).toNatClampNeg 1 → Q 0 s7)) (fun (k9 : Nat) (s9 : gS) => (k9 = 0 → Q 1 s9) ∧ (¬ k9 = 0 → False)) σ a1
abbrev ws_L_strike : List Cond := Cond.codeWith yL_strike cL_strike 4 (some .int) [(0, 16, 19, 13)] :: gG
abbrev rm_L_strike : Room := { frames := 8, cells := 1, slots := 6, locals := 132 }
theorem k_L_strike : gCW yL_strike cL_strike 4 (some .int) [(0, 16, 19, 13)] 3 := ⟨gw_3_173, gw_1_0, gw_3_174, by decide +kernel⟩
set_option maxHeartbeats 4000000 in
set_option maxRecDepth 100000 in
theorem c_L_strike (l : Launch) (hst : l.stackTraces = false) (D : va_G) (cy : Nat → ClassId) (ad : Nat → Nat) (A : Nat → Prop) (Q : Int32 → gS → Prop) (σ : gS) (a1 : Int32) (h : w_L_strike Q σ a1) : Met l yL_strike ws_L_strike rm_L_strike (va_Pc [.ref (ad 0), .int a1, .ref (ad 83)] (gB D cy ad A σ)) (va_Qi Q (gB D cy ad A) A) 1 6 A := by
  refine va_MetW (cc := cL_strike) (maxL := 4) (ret := (some .int)) (by decide) rfl ?_
  intro p e s m args below meth c s₁ B hml hv
  obtain ⟨rfl, hB⟩ := hv
  obtain ⟨hC, htab⟩ : gC p c cL_strike s m ([.ref (ad 0), .int a1, .ref (ad 83)] : List Value).toArray RL D cy ad A ∧ _ := g_startW B hB
  have hI := g_first hB
  have hx := hC.1
  have hb := hC.2.1
  have hr := B.returns
  have hlocks := B.notSynchronized
  clear B hB
  have hl := lv_entry ([.ref (ad 0), .int a1, .ref (ad 83)]) (n := 4) (Nat.le_of_ble_eq_true rfl)
  rw [lg_entry_eq]
  generalize (lg_sl ([.ref (ad 0), .int a1, .ref (ad 83)]) ++ List.replicate (4 - (lg_sl ([.ref (ad 0), .int a1, .ref (ad 83)])).length) Slot.unset).toArray = ls at hl ⊢
  have hl : lv_has ls 4 [(0, .ref (ad 0)), (1, .int a1), (2, .ref (ad 83))] := hl
  unfold w_L_strike at h
  refine lv_aload_n hx hb dL_strike_0 rfl (lv_at hl 2 rfl) ?_
  refine lv_iconst (v := 0) hx hb dL_strike_1 (by decide) ?_
  refine lv_aload_n hx hb dL_strike_2 rfl (lv_at hl 0 rfl) ?_
  refine lv_iload_n hx hb dL_strike_3 rfl (lv_at hl 1 rfl) ?_
  refine gy_backi hI (gy_runV (As := [.int a1]) (rest := [.int 0, .ref (ad 83)]) hC hml hI (c_X8_strike l hst D cy ad A _ _  _ _ h) k_X8_strike gw_3_175 ⟨rfl, rfl⟩ ⟨Nat.le_of_ble_eq_true rfl, Nat.le_of_ble_eq_true rfl⟩ (grv_0 hC hI) rfl hl.1 rfl (Nat.le_of_ble_eq_true rfl) dL_strike_4 ⟨Nat.le_of_ble_eq_true rfl, Nat.le_of_ble_eq_true rfl⟩) (fun k9 s9 H locs ce9 q9 hk9 h hI h19 h29 h39 => ?_) (fun r2 s1 H locs h hI => ?_)
  · by_cases cx0 : k9 = 0
    · have h := h.1 cx0
      rw [cx0] at h39
      refine vx_catch (own := RL) (E := gEx 0) (name := "java/lang/IndexOutOfBoundsException") hC.2.2.2.1 [] ⟨0, 16, 19, 13⟩ [] (by rw [htab]; rfl) (fun _ hz => nomatch hz) rfl (by decide) (hC.2.2.1 _ gw_3_28) (va_Nw.use (gNl_on _ (by decide)) (hC.Z.2.2.2.2.2.2.1 (.castable "java/lang/IndexOutOfBoundsException" "java/lang/IndexOutOfBoundsException") (by decide))) h19 h29 h39 ?_
      refine lv_astore_n (lv' := [(3, .ref q9), (0, .ref (ad 0)), (1, .int a1), (2, .ref (ad 83))]) hx hb dL_strike_19 rfl hl (by decide) rfl (fun ls hl => ?_)
      refine lv_iconst (v := 1) hx hb dL_strike_20 (by decide) ?_
      exact g_iret hC hr hlocks hI h dL_strike_21
    exact (h.2 cx0).elim
  · refine lv_if_eq (tgt := 14) hx hb dL_strike_7 (by decide) (fun c3 => ?_) (fun c3 => ?_)
    · have h := h.1 c3
      refine lv_lconst (v := 0) hx hb dL_strike_14 (by decide) ?_
      refine gs_83 (x := 0) hC hI (by decide) (by unfold vp_in; decide) dL_strike_15 (fun s5 H locs es5 hI => ?_)
      have h := h s5 es5
      refine lv_goto (tgt := 22) hx hb dL_strike_16 (by decide) ?_
      refine lv_iconst (v := 0) hx hb dL_strike_22 (by decide) ?_
      exact g_iret hC hr hlocks hI h dL_strike_23
    · have h := h.2 c3
      refine lv_lconst (v := 1) hx hb dL_strike_10 (by decide) ?_
      refine lv_goto (tgt := 15) hx hb dL_strike_11 (by decide) ?_
      refine gs_83 (x := 1) hC hI (by decide) (by unfold vp_in; decide) dL_strike_15 (fun s7 H locs es7 hI => ?_)
      have h := h s7 es7
      refine lv_goto (tgt := 22) hx hb dL_strike_16 (by decide) ?_
      refine lv_iconst (v := 0) hx hb dL_strike_22 (by decide) ?_
      exact g_iret hC hr hlocks hI h dL_strike_23

theorem dL_at_0 : decode cL_at 0 = .ok (.aload_n 2, 1) := by decide +kernel
theorem dL_at_1 : decode cL_at 1 = .ok (.iconst 0, 1) := by decide +kernel
theorem dL_at_2 : decode cL_at 2 = .ok (.aload_n 0, 1) := by decide +kernel
theorem dL_at_3 : decode cL_at 3 = .ok (.iload_n 1, 1) := by decide +kernel
theorem dL_at_4 : decode cL_at 4 = .ok (.invokevirtual 31, 3) := by decide +kernel
theorem dL_at_7 : decode cL_at 7 = .ok (.i2l, 1) := by decide +kernel
theorem dL_at_8 : decode cL_at 8 = .ok (.lastore, 1) := by decide +kernel
theorem dL_at_9 : decode cL_at 9 = .ok (.goto 6, 3) := by decide +kernel
theorem dL_at_12 : decode cL_at 12 = .ok (.astore_n 3, 1) := by decide +kernel
theorem dL_at_13 : decode cL_at 13 = .ok (.iconst 1, 1) := by decide +kernel
theorem dL_at_14 : decode cL_at 14 = .ok (.ireturn, 1) := by decide +kernel
theorem dL_at_15 : decode cL_at 15 = .ok (.iconst 0, 1) := by decide +kernel
theorem dL_at_16 : decode cL_at 16 = .ok (.ireturn, 1) := by decide +kernel
def w_L_at (Q : Int32 → gS → Prop) (σ : gS) (a1 : Int32) : Prop :=
    w_X8_at  (fun (r2 : Int32) (s1 : gS) => ∀ s4 : gS, s4 = gu s1 110 (0 : Int32).toNatClampNeg r2 → Q 0 s4) (fun (k9 : Nat) (s9 : gS) => (k9 = 0 → Q 1 s9) ∧ (¬ k9 = 0 → False)) σ a1
abbrev ws_L_at : List Cond := Cond.codeWith yL_at cL_at 4 (some .int) [(0, 9, 12, 13)] :: gG
abbrev rm_L_at : Room := { frames := 8, cells := 1, slots := 6, locals := 132 }
theorem k_L_at : gCW yL_at cL_at 4 (some .int) [(0, 9, 12, 13)] 3 := ⟨gw_3_184, gw_1_0, gw_3_185, by decide +kernel⟩
set_option maxHeartbeats 4000000 in
set_option maxRecDepth 100000 in
theorem c_L_at (l : Launch) (hst : l.stackTraces = false) (D : va_G) (cy : Nat → ClassId) (ad : Nat → Nat) (A : Nat → Prop) (Q : Int32 → gS → Prop) (σ : gS) (a1 : Int32) (h : w_L_at Q σ a1) : Met l yL_at ws_L_at rm_L_at (va_Pc [.ref (ad 0), .int a1, .ref (ad 83)] (gB D cy ad A σ)) (va_Qi Q (gB D cy ad A) A) 1 6 A := by
  refine va_MetW (cc := cL_at) (maxL := 4) (ret := (some .int)) (by decide) rfl ?_
  intro p e s m args below meth c s₁ B hml hv
  obtain ⟨rfl, hB⟩ := hv
  obtain ⟨hC, htab⟩ : gC p c cL_at s m ([.ref (ad 0), .int a1, .ref (ad 83)] : List Value).toArray RL D cy ad A ∧ _ := g_startW B hB
  have hI := g_first hB
  have hx := hC.1
  have hb := hC.2.1
  have hr := B.returns
  have hlocks := B.notSynchronized
  clear B hB
  have hl := lv_entry ([.ref (ad 0), .int a1, .ref (ad 83)]) (n := 4) (Nat.le_of_ble_eq_true rfl)
  rw [lg_entry_eq]
  generalize (lg_sl ([.ref (ad 0), .int a1, .ref (ad 83)]) ++ List.replicate (4 - (lg_sl ([.ref (ad 0), .int a1, .ref (ad 83)])).length) Slot.unset).toArray = ls at hl ⊢
  have hl : lv_has ls 4 [(0, .ref (ad 0)), (1, .int a1), (2, .ref (ad 83))] := hl
  unfold w_L_at at h
  refine lv_aload_n hx hb dL_at_0 rfl (lv_at hl 2 rfl) ?_
  refine lv_iconst (v := 0) hx hb dL_at_1 (by decide) ?_
  refine lv_aload_n hx hb dL_at_2 rfl (lv_at hl 0 rfl) ?_
  refine lv_iload_n hx hb dL_at_3 rfl (lv_at hl 1 rfl) ?_
  refine gy_backi hI (gy_runV (As := [.int a1]) (rest := [.int 0, .ref (ad 83)]) hC hml hI (c_X8_at l hst D cy ad A _ _  _ _ h) k_X8_at gw_3_186 ⟨rfl, rfl⟩ ⟨Nat.le_of_ble_eq_true rfl, Nat.le_of_ble_eq_true rfl⟩ (grv_0 hC hI) rfl hl.1 rfl (Nat.le_of_ble_eq_true rfl) dL_at_4 ⟨Nat.le_of_ble_eq_true rfl, Nat.le_of_ble_eq_true rfl⟩) (fun k9 s9 H locs ce9 q9 hk9 h hI h19 h29 h39 => ?_) (fun r2 s1 H locs h hI => ?_)
  · by_cases cx0 : k9 = 0
    · have h := h.1 cx0
      rw [cx0] at h39
      refine vx_catch (own := RL) (E := gEx 0) (name := "java/lang/IndexOutOfBoundsException") hC.2.2.2.1 [] ⟨0, 9, 12, 13⟩ [] (by rw [htab]; rfl) (fun _ hz => nomatch hz) rfl (by decide) (hC.2.2.1 _ gw_3_28) (va_Nw.use (gNl_on _ (by decide)) (hC.Z.2.2.2.2.2.2.1 (.castable "java/lang/IndexOutOfBoundsException" "java/lang/IndexOutOfBoundsException") (by decide))) h19 h29 h39 ?_
      refine lv_astore_n (lv' := [(3, .ref q9), (0, .ref (ad 0)), (1, .int a1), (2, .ref (ad 83))]) hx hb dL_at_12 rfl hl (by decide) rfl (fun ls hl => ?_)
      refine lv_iconst (v := 1) hx hb dL_at_13 (by decide) ?_
      exact g_iret hC hr hlocks hI h dL_at_14
    exact (h.2 cx0).elim
  · refine lv_i2l hx hb dL_at_7 rfl ?_
    refine gs_83 (x := r2) hC hI rfl (by unfold vp_in; decide) dL_at_8 (fun s4 H locs es4 hI => ?_)
    have h := h s4 es4
    refine lv_goto (tgt := 15) hx hb dL_at_9 (by decide) ?_
    refine lv_iconst (v := 0) hx hb dL_at_15 (by decide) ?_
    exact g_iret hC hr hlocks hI h dL_at_16

theorem dL_place_0 : decode cL_place 0 = .ok (.aload_n 3, 1) := by decide +kernel
theorem dL_place_1 : decode cL_place 1 = .ok (.iconst 0, 1) := by decide +kernel
theorem dL_place_2 : decode cL_place 2 = .ok (.aload_n 0, 1) := by decide +kernel
theorem dL_place_3 : decode cL_place 3 = .ok (.iload_n 1, 1) := by decide +kernel
theorem dL_place_4 : decode cL_place 4 = .ok (.iload_n 2, 1) := by decide +kernel
theorem dL_place_5 : decode cL_place 5 = .ok (.invokevirtual 35, 3) := by decide +kernel
theorem dL_place_8 : decode cL_place 8 = .ok (.i2l, 1) := by decide +kernel
theorem dL_place_9 : decode cL_place 9 = .ok (.lastore, 1) := by decide +kernel
theorem dL_place_10 : decode cL_place 10 = .ok (.goto 11, 3) := by decide +kernel
theorem dL_place_13 : decode cL_place 13 = .ok (.astore 4, 2) := by decide +kernel
theorem dL_place_15 : decode cL_place 15 = .ok (.iconst 1, 1) := by decide +kernel
theorem dL_place_16 : decode cL_place 16 = .ok (.ireturn, 1) := by decide +kernel
theorem dL_place_17 : decode cL_place 17 = .ok (.astore 4, 2) := by decide +kernel
theorem dL_place_19 : decode cL_place 19 = .ok (.iconst 2, 1) := by decide +kernel
theorem dL_place_20 : decode cL_place 20 = .ok (.ireturn, 1) := by decide +kernel
theorem dL_place_21 : decode cL_place 21 = .ok (.iconst 0, 1) := by decide +kernel
theorem dL_place_22 : decode cL_place 22 = .ok (.ireturn, 1) := by decide +kernel
def w_L_place (Q : Int32 → gS → Prop) (σ : gS) (a1 : Int32) (a2 : Int32) : Prop :=
    w_X8_place  (fun (r2 : Int32) (s1 : gS) => ∀ s4 : gS, s4 = gu s1 110 (0 : Int32).toNatClampNeg r2 → Q 0 s4) (fun (k9 : Nat) (s9 : gS) => (k9 = 1 → Q 1 s9) ∧ (k9 = 2 → Q 2 s9) ∧ (¬ k9 = 1 → ¬ k9 = 2 → False)) σ a1 a2
abbrev ws_L_place : List Cond := Cond.codeWith yL_place cL_place 5 (some .int) [(0, 10, 13, 23), (0, 10, 17, 25)] :: gG
abbrev rm_L_place : Room := { frames := 8, cells := 3, slots := 18, locals := 134 }
theorem k_L_place : gCW yL_place cL_place 5 (some .int) [(0, 10, 13, 23), (0, 10, 17, 25)] 4 := ⟨gw_3_191, gw_1_0, gw_3_192, by decide +kernel⟩
set_option maxHeartbeats 4000000 in
set_option maxRecDepth 100000 in
theorem c_L_place (l : Launch) (hst : l.stackTraces = false) (D : va_G) (cy : Nat → ClassId) (ad : Nat → Nat) (A : Nat → Prop) (Q : Int32 → gS → Prop) (σ : gS) (a1 : Int32) (a2 : Int32) (h : w_L_place Q σ a1 a2) : Met l yL_place ws_L_place rm_L_place (va_Pc [.ref (ad 0), .int a1, .int a2, .ref (ad 83)] (gB D cy ad A σ)) (va_Qi Q (gB D cy ad A) A) 3 18 A := by
  refine va_MetW (cc := cL_place) (maxL := 5) (ret := (some .int)) (by decide) rfl ?_
  intro p e s m args below meth c s₁ B hml hv
  obtain ⟨rfl, hB⟩ := hv
  obtain ⟨hC, htab⟩ : gC p c cL_place s m ([.ref (ad 0), .int a1, .int a2, .ref (ad 83)] : List Value).toArray RL D cy ad A ∧ _ := g_startW B hB
  have hI := g_first hB
  have hx := hC.1
  have hb := hC.2.1
  have hr := B.returns
  have hlocks := B.notSynchronized
  clear B hB
  have hl := lv_entry ([.ref (ad 0), .int a1, .int a2, .ref (ad 83)]) (n := 5) (Nat.le_of_ble_eq_true rfl)
  rw [lg_entry_eq]
  generalize (lg_sl ([.ref (ad 0), .int a1, .int a2, .ref (ad 83)]) ++ List.replicate (5 - (lg_sl ([.ref (ad 0), .int a1, .int a2, .ref (ad 83)])).length) Slot.unset).toArray = ls at hl ⊢
  have hl : lv_has ls 5 [(0, .ref (ad 0)), (1, .int a1), (2, .int a2), (3, .ref (ad 83))] := hl
  unfold w_L_place at h
  refine lv_aload_n hx hb dL_place_0 rfl (lv_at hl 3 rfl) ?_
  refine lv_iconst (v := 0) hx hb dL_place_1 (by decide) ?_
  refine lv_aload_n hx hb dL_place_2 rfl (lv_at hl 0 rfl) ?_
  refine lv_iload_n hx hb dL_place_3 rfl (lv_at hl 1 rfl) ?_
  refine lv_iload_n hx hb dL_place_4 rfl (lv_at hl 2 rfl) ?_
  refine gy_backi hI (gy_runV (As := [.int a1, .int a2]) (rest := [.int 0, .ref (ad 83)]) hC hml hI (c_X8_place l hst D cy ad A _ _  _ _ _ h) k_X8_place gw_3_193 ⟨rfl, rfl⟩ ⟨Nat.le_of_ble_eq_true rfl, Nat.le_of_ble_eq_true rfl⟩ (grv_0 hC hI) rfl hl.1 rfl (Nat.le_of_ble_eq_true rfl) dL_place_5 ⟨Nat.le_of_ble_eq_true rfl, Nat.le_of_ble_eq_true rfl⟩) (fun k9 s9 H locs ce9 q9 hk9 h hI h19 h29 h39 => ?_) (fun r2 s1 H locs h hI => ?_)
  · by_cases cx0 : k9 = 1
    · have h := h.1 cx0
      rw [cx0] at h39
      refine vx_catch (own := RL) (E := gEx 1) (name := "java/lang/IllegalArgumentException") hC.2.2.2.1 [] ⟨0, 10, 13, 23⟩ [⟨0, 10, 17, 25⟩] (by rw [htab]; rfl) (fun _ hz => nomatch hz) rfl (by decide) (hC.2.2.1 _ gw_3_113) (va_Nw.use (gNl_on _ (by decide)) (hC.Z.2.2.2.2.2.2.1 (.castable "java/lang/IllegalArgumentException" "java/lang/IllegalArgumentException") (by decide))) h19 h29 h39 ?_
      refine lv_astore (lv' := [(4, .ref q9), (0, .ref (ad 0)), (1, .int a1), (2, .int a2), (3, .ref (ad 83))]) hx hb dL_place_13 hl (by decide) rfl (fun ls hl => ?_)
      refine lv_iconst (v := 1) hx hb dL_place_15 (by decide) ?_
      exact g_iret hC hr hlocks hI h dL_place_16
    by_cases cx1 : k9 = 2
    · have h := h.2.1 cx1
      rw [cx1] at h39
      refine vx_catch (own := RL) (E := gEx 2) (name := "java/lang/UnsupportedOperationException") hC.2.2.2.1 [⟨0, 10, 13, 23⟩] ⟨0, 10, 17, 25⟩ [] (by rw [htab]; rfl) (List.forall_mem_cons.mpr ⟨Or.inr ⟨by decide, gEx 1, hC.2.2.1 _ gw_3_113, hC.Z.2.2.2.2.2.2.2 2 1 (by decide) (by decide) (by decide)⟩, (fun _ hz => nomatch hz)⟩) rfl (by decide) (hC.2.2.1 _ gw_3_114) (va_Nw.use (gNl_on _ (by decide)) (hC.Z.2.2.2.2.2.2.1 (.castable "java/lang/UnsupportedOperationException" "java/lang/UnsupportedOperationException") (by decide))) h19 h29 h39 ?_
      refine lv_astore (lv' := [(4, .ref q9), (0, .ref (ad 0)), (1, .int a1), (2, .int a2), (3, .ref (ad 83))]) hx hb dL_place_17 hl (by decide) rfl (fun ls hl => ?_)
      refine lv_iconst (v := 2) hx hb dL_place_19 (by decide) ?_
      exact g_iret hC hr hlocks hI h dL_place_20
    exact (h.2.2 cx0 cx1).elim
  · refine lv_i2l hx hb dL_place_8 rfl ?_
    refine gs_83 (x := r2) hC hI rfl (by unfold vp_in; decide) dL_place_9 (fun s4 H locs es4 hI => ?_)
    have h := h s4 es4
    refine lv_goto (tgt := 21) hx hb dL_place_10 (by decide) ?_
    refine lv_iconst (v := 0) hx hb dL_place_21 (by decide) ?_
    exact g_iret hC hr hlocks hI h dL_place_22

theorem dL_crowd_0 : decode cL_crowd 0 = .ok (.aload_n 0, 1) := by decide +kernel
theorem dL_crowd_1 : decode cL_crowd 1 = .ok (.iload_n 1, 1) := by decide +kernel
theorem dL_crowd_2 : decode cL_crowd 2 = .ok (.iload_n 2, 1) := by decide +kernel
theorem dL_crowd_3 : decode cL_crowd 3 = .ok (.invokevirtual 38, 3) := by decide +kernel
theorem dL_crowd_6 : decode cL_crowd 6 = .ok (.goto 9, 3) := by decide +kernel
theorem dL_crowd_9 : decode cL_crowd 9 = .ok (.astore_n 3, 1) := by decide +kernel
theorem dL_crowd_10 : decode cL_crowd 10 = .ok (.iconst 1, 1) := by decide +kernel
theorem dL_crowd_11 : decode cL_crowd 11 = .ok (.ireturn, 1) := by decide +kernel
theorem dL_crowd_12 : decode cL_crowd 12 = .ok (.astore_n 3, 1) := by decide +kernel
theorem dL_crowd_13 : decode cL_crowd 13 = .ok (.iconst 2, 1) := by decide +kernel
theorem dL_crowd_14 : decode cL_crowd 14 = .ok (.ireturn, 1) := by decide +kernel
theorem dL_crowd_15 : decode cL_crowd 15 = .ok (.iconst 0, 1) := by decide +kernel
theorem dL_crowd_16 : decode cL_crowd 16 = .ok (.ireturn, 1) := by decide +kernel
def w_L_crowd (Q : Int32 → gS → Prop) (σ : gS) (a1 : Int32) (a2 : Int32) : Prop :=
    w_X8_crowd  (fun (s1 : gS) => Q 0 s1) (fun (k9 : Nat) (s9 : gS) => (k9 = 0 → Q 1 s9) ∧ (k9 = 1 → Q 2 s9) ∧ (¬ k9 = 0 → ¬ k9 = 1 → False)) σ a1 a2
abbrev ws_L_crowd : List Cond := Cond.codeWith yL_crowd cL_crowd 4 (some .int) [(0, 6, 9, 13), (0, 6, 12, 23)] :: gG
abbrev rm_L_crowd : Room := { frames := 8, cells := 2, slots := 12, locals := 134 }
theorem k_L_crowd : gCW yL_crowd cL_crowd 4 (some .int) [(0, 6, 9, 13), (0, 6, 12, 23)] 3 := ⟨gw_3_206, gw_1_0, gw_3_207, by decide +kernel⟩
set_option maxHeartbeats 4000000 in
set_option maxRecDepth 100000 in
theorem c_L_crowd (l : Launch) (hst : l.stackTraces = false) (D : va_G) (cy : Nat → ClassId) (ad : Nat → Nat) (A : Nat → Prop) (Q : Int32 → gS → Prop) (σ : gS) (a1 : Int32) (a2 : Int32) (h : w_L_crowd Q σ a1 a2) : Met l yL_crowd ws_L_crowd rm_L_crowd (va_Pc [.ref (ad 0), .int a1, .int a2] (gB D cy ad A σ)) (va_Qi Q (gB D cy ad A) A) 2 12 A := by
  refine va_MetW (cc := cL_crowd) (maxL := 4) (ret := (some .int)) (by decide) rfl ?_
  intro p e s m args below meth c s₁ B hml hv
  obtain ⟨rfl, hB⟩ := hv
  obtain ⟨hC, htab⟩ : gC p c cL_crowd s m ([.ref (ad 0), .int a1, .int a2] : List Value).toArray RL D cy ad A ∧ _ := g_startW B hB
  have hI := g_first hB
  have hx := hC.1
  have hb := hC.2.1
  have hr := B.returns
  have hlocks := B.notSynchronized
  clear B hB
  have hl := lv_entry ([.ref (ad 0), .int a1, .int a2]) (n := 4) (Nat.le_of_ble_eq_true rfl)
  rw [lg_entry_eq]
  generalize (lg_sl ([.ref (ad 0), .int a1, .int a2]) ++ List.replicate (4 - (lg_sl ([.ref (ad 0), .int a1, .int a2])).length) Slot.unset).toArray = ls at hl ⊢
  have hl : lv_has ls 4 [(0, .ref (ad 0)), (1, .int a1), (2, .int a2)] := hl
  unfold w_L_crowd at h
  refine lv_aload_n hx hb dL_crowd_0 rfl (lv_at hl 0 rfl) ?_
  refine lv_iload_n hx hb dL_crowd_1 rfl (lv_at hl 1 rfl) ?_
  refine lv_iload_n hx hb dL_crowd_2 rfl (lv_at hl 2 rfl) ?_
  refine gy_backv hI (gy_runV (As := [.int a1, .int a2]) (rest := []) hC hml hI (c_X8_crowd l hst D cy ad A _ _  _ _ _ h) k_X8_crowd gw_3_208 ⟨rfl, rfl⟩ ⟨Nat.le_of_ble_eq_true rfl, Nat.le_of_ble_eq_true rfl⟩ (grv_0 hC hI) rfl hl.1 rfl (Nat.le_of_ble_eq_true rfl) dL_crowd_3 ⟨Nat.le_of_ble_eq_true rfl, Nat.le_of_ble_eq_true rfl⟩) (fun k9 s9 H locs ce9 q9 hk9 h hI h19 h29 h39 => ?_) (fun s1 H locs h hI => ?_)
  · by_cases cx0 : k9 = 0
    · have h := h.1 cx0
      rw [cx0] at h39
      refine vx_catch (own := RL) (E := gEx 0) (name := "java/lang/IndexOutOfBoundsException") hC.2.2.2.1 [] ⟨0, 6, 9, 13⟩ [⟨0, 6, 12, 23⟩] (by rw [htab]; rfl) (fun _ hz => nomatch hz) rfl (by decide) (hC.2.2.1 _ gw_3_28) (va_Nw.use (gNl_on _ (by decide)) (hC.Z.2.2.2.2.2.2.1 (.castable "java/lang/IndexOutOfBoundsException" "java/lang/IndexOutOfBoundsException") (by decide))) h19 h29 h39 ?_
      refine lv_astore_n (lv' := [(3, .ref q9), (0, .ref (ad 0)), (1, .int a1), (2, .int a2)]) hx hb dL_crowd_9 rfl hl (by decide) rfl (fun ls hl => ?_)
      refine lv_iconst (v := 1) hx hb dL_crowd_10 (by decide) ?_
      exact g_iret hC hr hlocks hI h dL_crowd_11
    by_cases cx1 : k9 = 1
    · have h := h.2.1 cx1
      rw [cx1] at h39
      refine vx_catch (own := RL) (E := gEx 1) (name := "java/lang/IllegalArgumentException") hC.2.2.2.1 [⟨0, 6, 9, 13⟩] ⟨0, 6, 12, 23⟩ [] (by rw [htab]; rfl) (List.forall_mem_cons.mpr ⟨Or.inr ⟨by decide, gEx 0, hC.2.2.1 _ gw_3_28, hC.Z.2.2.2.2.2.2.2 1 0 (by decide) (by decide) (by decide)⟩, (fun _ hz => nomatch hz)⟩) rfl (by decide) (hC.2.2.1 _ gw_3_113) (va_Nw.use (gNl_on _ (by decide)) (hC.Z.2.2.2.2.2.2.1 (.castable "java/lang/IllegalArgumentException" "java/lang/IllegalArgumentException") (by decide))) h19 h29 h39 ?_
      refine lv_astore_n (lv' := [(3, .ref q9), (0, .ref (ad 0)), (1, .int a1), (2, .int a2)]) hx hb dL_crowd_12 rfl hl (by decide) rfl (fun ls hl => ?_)
      refine lv_iconst (v := 2) hx hb dL_crowd_13 (by decide) ?_
      exact g_iret hC hr hlocks hI h dL_crowd_14
    exact (h.2.2 cx0 cx1).elim
  · refine lv_goto (tgt := 15) hx hb dL_crowd_6 (by decide) ?_
    refine lv_iconst (v := 0) hx hb dL_crowd_15 (by decide) ?_
    exact g_iret hC hr hlocks hI h dL_crowd_16

theorem dL_shut_0 : decode cL_shut 0 = .ok (.aload_n 3, 1) := by decide +kernel
theorem dL_shut_1 : decode cL_shut 1 = .ok (.iconst 0, 1) := by decide +kernel
theorem dL_shut_2 : decode cL_shut 2 = .ok (.aload_n 0, 1) := by decide +kernel
theorem dL_shut_3 : decode cL_shut 3 = .ok (.iload_n 1, 1) := by decide +kernel
theorem dL_shut_4 : decode cL_shut 4 = .ok (.iload_n 2, 1) := by decide +kernel
theorem dL_shut_5 : decode cL_shut 5 = .ok (.invokevirtual 42, 3) := by decide +kernel
theorem dL_shut_8 : decode cL_shut 8 = .ok (.ifCond .eq 7, 3) := by decide +kernel
theorem dL_shut_11 : decode cL_shut 11 = .ok (.lconst 1, 1) := by decide +kernel
theorem dL_shut_12 : decode cL_shut 12 = .ok (.goto 4, 3) := by decide +kernel
theorem dL_shut_15 : decode cL_shut 15 = .ok (.lconst 0, 1) := by decide +kernel
theorem dL_shut_16 : decode cL_shut 16 = .ok (.lastore, 1) := by decide +kernel
theorem dL_shut_17 : decode cL_shut 17 = .ok (.goto 7, 3) := by decide +kernel
theorem dL_shut_20 : decode cL_shut 20 = .ok (.astore 4, 2) := by decide +kernel
theorem dL_shut_22 : decode cL_shut 22 = .ok (.iconst 1, 1) := by decide +kernel
theorem dL_shut_23 : decode cL_shut 23 = .ok (.ireturn, 1) := by decide +kernel
theorem dL_shut_24 : decode cL_shut 24 = .ok (.iconst 0, 1) := by decide +kernel
theorem dL_shut_25 : decode cL_shut 25 = .ok (.ireturn, 1) := by decide +kernel
def w_L_shut (Q : Int32 → gS → Prop) (σ : gS) (a1 : Int32) (a2 : Int32) : Prop :=
    w_X8_shut  (fun (r2 : Int32) (s1 : gS) => (r2 = 0 → ∀ s5 : gS, s5 = gu s1 110 (0 : Int32).toNatClampNeg 0 → Q 0 s5) ∧ (¬ r2 = 0 → ∀ s7 : gS, s7 = gu s1 110 (0 : Int32).toNatClampNeg 1 → Q 0 s7)) (fun (k9 : Nat) (s9 : gS) => (k9 = 0 → Q 1 s9) ∧ (¬ k9 = 0 → False)) σ a1 a2
abbrev ws_L_shut : List Cond := Cond.codeWith yL_shut cL_shut 5 (some .int) [(0, 17, 20, 13)] :: gG
abbrev rm_L_shut : Room := { frames := 8, cells := 1, slots := 6, locals := 133 }
theorem k_L_shut : gCW yL_shut cL_shut 5 (some .int) [(0, 17, 20, 13)] 4 := ⟨gw_3_217, gw_1_0, gw_3_218, by decide +kernel⟩
set_option maxHeartbeats 4000000 in
set_option maxRecDepth 100000 in
theorem c_L_shut (l : Launch) (hst : l.stackTraces = false) (D : va_G) (cy : Nat → ClassId) (ad : Nat → Nat) (A : Nat → Prop) (Q : Int32 → gS → Prop) (σ : gS) (a1 : Int32) (a2 : Int32) (h : w_L_shut Q σ a1 a2) : Met l yL_shut ws_L_shut rm_L_shut (va_Pc [.ref (ad 0), .int a1, .int a2, .ref (ad 83)] (gB D cy ad A σ)) (va_Qi Q (gB D cy ad A) A) 1 6 A := by
  refine va_MetW (cc := cL_shut) (maxL := 5) (ret := (some .int)) (by decide) rfl ?_
  intro p e s m args below meth c s₁ B hml hv
  obtain ⟨rfl, hB⟩ := hv
  obtain ⟨hC, htab⟩ : gC p c cL_shut s m ([.ref (ad 0), .int a1, .int a2, .ref (ad 83)] : List Value).toArray RL D cy ad A ∧ _ := g_startW B hB
  have hI := g_first hB
  have hx := hC.1
  have hb := hC.2.1
  have hr := B.returns
  have hlocks := B.notSynchronized
  clear B hB
  have hl := lv_entry ([.ref (ad 0), .int a1, .int a2, .ref (ad 83)]) (n := 5) (Nat.le_of_ble_eq_true rfl)
  rw [lg_entry_eq]
  generalize (lg_sl ([.ref (ad 0), .int a1, .int a2, .ref (ad 83)]) ++ List.replicate (5 - (lg_sl ([.ref (ad 0), .int a1, .int a2, .ref (ad 83)])).length) Slot.unset).toArray = ls at hl ⊢
  have hl : lv_has ls 5 [(0, .ref (ad 0)), (1, .int a1), (2, .int a2), (3, .ref (ad 83))] := hl
  unfold w_L_shut at h
  refine lv_aload_n hx hb dL_shut_0 rfl (lv_at hl 3 rfl) ?_
  refine lv_iconst (v := 0) hx hb dL_shut_1 (by decide) ?_
  refine lv_aload_n hx hb dL_shut_2 rfl (lv_at hl 0 rfl) ?_
  refine lv_iload_n hx hb dL_shut_3 rfl (lv_at hl 1 rfl) ?_
  refine lv_iload_n hx hb dL_shut_4 rfl (lv_at hl 2 rfl) ?_
  refine gy_backi hI (gy_runV (As := [.int a1, .int a2]) (rest := [.int 0, .ref (ad 83)]) hC hml hI (c_X8_shut l hst D cy ad A _ _  _ _ _ h) k_X8_shut gw_3_219 ⟨rfl, rfl⟩ ⟨Nat.le_of_ble_eq_true rfl, Nat.le_of_ble_eq_true rfl⟩ (grv_0 hC hI) rfl hl.1 rfl (Nat.le_of_ble_eq_true rfl) dL_shut_5 ⟨Nat.le_of_ble_eq_true rfl, Nat.le_of_ble_eq_true rfl⟩) (fun k9 s9 H locs ce9 q9 hk9 h hI h19 h29 h39 => ?_) (fun r2 s1 H locs h hI => ?_)
  · by_cases cx0 : k9 = 0
    · have h := h.1 cx0
      rw [cx0] at h39
      refine vx_catch (own := RL) (E := gEx 0) (name := "java/lang/IndexOutOfBoundsException") hC.2.2.2.1 [] ⟨0, 17, 20, 13⟩ [] (by rw [htab]; rfl) (fun _ hz => nomatch hz) rfl (by decide) (hC.2.2.1 _ gw_3_28) (va_Nw.use (gNl_on _ (by decide)) (hC.Z.2.2.2.2.2.2.1 (.castable "java/lang/IndexOutOfBoundsException" "java/lang/IndexOutOfBoundsException") (by decide))) h19 h29 h39 ?_
      refine lv_astore (lv' := [(4, .ref q9), (0, .ref (ad 0)), (1, .int a1), (2, .int a2), (3, .ref (ad 83))]) hx hb dL_shut_20 hl (by decide) rfl (fun ls hl => ?_)
      refine lv_iconst (v := 1) hx hb dL_shut_22 (by decide) ?_
      exact g_iret hC hr hlocks hI h dL_shut_23
    exact (h.2 cx0).elim
  · refine lv_if_eq (tgt := 15) hx hb dL_shut_8 (by decide) (fun c3 => ?_) (fun c3 => ?_)
    · have h := h.1 c3
      refine lv_lconst (v := 0) hx hb dL_shut_15 (by decide) ?_
      refine gs_83 (x := 0) hC hI (by decide) (by unfold vp_in; decide) dL_shut_16 (fun s5 H locs es5 hI => ?_)
      have h := h s5 es5
      refine lv_goto (tgt := 24) hx hb dL_shut_17 (by decide) ?_
      refine lv_iconst (v := 0) hx hb dL_shut_24 (by decide) ?_
      exact g_iret hC hr hlocks hI h dL_shut_25
    · have h := h.2 c3
      refine lv_lconst (v := 1) hx hb dL_shut_11 (by decide) ?_
      refine lv_goto (tgt := 16) hx hb dL_shut_12 (by decide) ?_
      refine gs_83 (x := 1) hC hI (by decide) (by unfold vp_in; decide) dL_shut_16 (fun s7 H locs es7 hI => ?_)
      have h := h s7 es7
      refine lv_goto (tgt := 24) hx hb dL_shut_17 (by decide) ?_
      refine lv_iconst (v := 0) hx hb dL_shut_24 (by decide) ?_
      exact g_iret hC hr hlocks hI h dL_shut_25

theorem dL_way_0 : decode cL_way 0 = .ok (.aload 5, 2) := by decide +kernel
theorem dL_way_2 : decode cL_way 2 = .ok (.iconst 0, 1) := by decide +kernel
theorem dL_way_3 : decode cL_way 3 = .ok (.aload_n 0, 1) := by decide +kernel
theorem dL_way_4 : decode cL_way 4 = .ok (.iload_n 1, 1) := by decide +kernel
theorem dL_way_5 : decode cL_way 5 = .ok (.iload_n 2, 1) := by decide +kernel
theorem dL_way_6 : decode cL_way 6 = .ok (.iload_n 3, 1) := by decide +kernel
theorem dL_way_7 : decode cL_way 7 = .ok (.iload 4, 2) := by decide +kernel
theorem dL_way_9 : decode cL_way 9 = .ok (.invokevirtual 45, 3) := by decide +kernel
theorem dL_way_12 : decode cL_way 12 = .ok (.i2l, 1) := by decide +kernel
theorem dL_way_13 : decode cL_way 13 = .ok (.lastore, 1) := by decide +kernel
theorem dL_way_14 : decode cL_way 14 = .ok (.goto 15, 3) := by decide +kernel
theorem dL_way_17 : decode cL_way 17 = .ok (.astore 6, 2) := by decide +kernel
theorem dL_way_19 : decode cL_way 19 = .ok (.iconst 1, 1) := by decide +kernel
theorem dL_way_20 : decode cL_way 20 = .ok (.ireturn, 1) := by decide +kernel
theorem dL_way_21 : decode cL_way 21 = .ok (.astore 6, 2) := by decide +kernel
theorem dL_way_23 : decode cL_way 23 = .ok (.iconst 2, 1) := by decide +kernel
theorem dL_way_24 : decode cL_way 24 = .ok (.ireturn, 1) := by decide +kernel
theorem dL_way_25 : decode cL_way 25 = .ok (.astore 6, 2) := by decide +kernel
theorem dL_way_27 : decode cL_way 27 = .ok (.iconst 3, 1) := by decide +kernel
theorem dL_way_28 : decode cL_way 28 = .ok (.ireturn, 1) := by decide +kernel
theorem dL_way_29 : decode cL_way 29 = .ok (.iconst 0, 1) := by decide +kernel
theorem dL_way_30 : decode cL_way 30 = .ok (.ireturn, 1) := by decide +kernel
def w_L_way (Q : Int32 → gS → Prop) (σ : gS) (a1 : Int32) (a2 : Int32) (a3 : Int32) (a4 : Int32) : Prop :=
    w_X8_way  (fun (r2 : Int32) (s1 : gS) => ∀ s4 : gS, s4 = gu s1 110 (0 : Int32).toNatClampNeg r2 → Q 0 s4) (fun (k9 : Nat) (s9 : gS) => (k9 = 0 → Q 1 s9) ∧ (k9 = 1 → Q 2 s9) ∧ (k9 = 2 → Q 3 s9) ∧ (¬ k9 = 0 → ¬ k9 = 1 → ¬ k9 = 2 → False)) σ a1 a2 a3 a4
abbrev ws_L_way : List Cond := Cond.codeWith yL_way cL_way 7 (some .int) [(0, 14, 17, 13), (0, 14, 21, 23), (0, 14, 25, 25)] :: gG
abbrev rm_L_way : Room := { frames := 8, cells := 5, slots := 30, locals := 136 }
theorem k_L_way : gCW yL_way cL_way 7 (some .int) [(0, 14, 17, 13), (0, 14, 21, 23), (0, 14, 25, 25)] 6 := ⟨gw_3_228, gw_1_0, gw_3_229, by decide +kernel⟩
set_option maxHeartbeats 4000000 in
set_option maxRecDepth 100000 in
theorem c_L_way (l : Launch) (hst : l.stackTraces = false) (D : va_G) (cy : Nat → ClassId) (ad : Nat → Nat) (A : Nat → Prop) (Q : Int32 → gS → Prop) (σ : gS) (a1 : Int32) (a2 : Int32) (a3 : Int32) (a4 : Int32) (h : w_L_way Q σ a1 a2 a3 a4) : Met l yL_way ws_L_way rm_L_way (va_Pc [.ref (ad 0), .int a1, .int a2, .int a3, .int a4, .ref (ad 83)] (gB D cy ad A σ)) (va_Qi Q (gB D cy ad A) A) 5 30 A := by
  refine va_MetW (cc := cL_way) (maxL := 7) (ret := (some .int)) (by decide) rfl ?_
  intro p e s m args below meth c s₁ B hml hv
  obtain ⟨rfl, hB⟩ := hv
  obtain ⟨hC, htab⟩ : gC p c cL_way s m ([.ref (ad 0), .int a1, .int a2, .int a3, .int a4, .ref (ad 83)] : List Value).toArray RL D cy ad A ∧ _ := g_startW B hB
  have hI := g_first hB
  have hx := hC.1
  have hb := hC.2.1
  have hr := B.returns
  have hlocks := B.notSynchronized
  clear B hB
  have hl := lv_entry ([.ref (ad 0), .int a1, .int a2, .int a3, .int a4, .ref (ad 83)]) (n := 7) (Nat.le_of_ble_eq_true rfl)
  rw [lg_entry_eq]
  generalize (lg_sl ([.ref (ad 0), .int a1, .int a2, .int a3, .int a4, .ref (ad 83)]) ++ List.replicate (7 - (lg_sl ([.ref (ad 0), .int a1, .int a2, .int a3, .int a4, .ref (ad 83)])).length) Slot.unset).toArray = ls at hl ⊢
  have hl : lv_has ls 7 [(0, .ref (ad 0)), (1, .int a1), (2, .int a2), (3, .int a3), (4, .int a4), (5, .ref (ad 83))] := hl
  unfold w_L_way at h
  refine lv_aload hx hb dL_way_0 (lv_at hl 5 rfl) ?_
  refine lv_iconst (v := 0) hx hb dL_way_2 (by decide) ?_
  refine lv_aload_n hx hb dL_way_3 rfl (lv_at hl 0 rfl) ?_
  refine lv_iload_n hx hb dL_way_4 rfl (lv_at hl 1 rfl) ?_
  refine lv_iload_n hx hb dL_way_5 rfl (lv_at hl 2 rfl) ?_
  refine lv_iload_n hx hb dL_way_6 rfl (lv_at hl 3 rfl) ?_
  refine lv_iload hx hb dL_way_7 (lv_at hl 4 rfl) ?_
  refine gy_backi hI (gy_runV (As := [.int a1, .int a2, .int a3, .int a4]) (rest := [.int 0, .ref (ad 83)]) hC hml hI (c_X8_way l hst D cy ad A _ _  _ _ _ _ _ h) k_X8_way gw_3_230 ⟨rfl, rfl⟩ ⟨Nat.le_of_ble_eq_true rfl, Nat.le_of_ble_eq_true rfl⟩ (grv_0 hC hI) rfl hl.1 rfl (Nat.le_of_ble_eq_true rfl) dL_way_9 ⟨Nat.le_of_ble_eq_true rfl, Nat.le_of_ble_eq_true rfl⟩) (fun k9 s9 H locs ce9 q9 hk9 h hI h19 h29 h39 => ?_) (fun r2 s1 H locs h hI => ?_)
  · by_cases cx0 : k9 = 0
    · have h := h.1 cx0
      rw [cx0] at h39
      refine vx_catch (own := RL) (E := gEx 0) (name := "java/lang/IndexOutOfBoundsException") hC.2.2.2.1 [] ⟨0, 14, 17, 13⟩ [⟨0, 14, 21, 23⟩, ⟨0, 14, 25, 25⟩] (by rw [htab]; rfl) (fun _ hz => nomatch hz) rfl (by decide) (hC.2.2.1 _ gw_3_28) (va_Nw.use (gNl_on _ (by decide)) (hC.Z.2.2.2.2.2.2.1 (.castable "java/lang/IndexOutOfBoundsException" "java/lang/IndexOutOfBoundsException") (by decide))) h19 h29 h39 ?_
      refine lv_astore (lv' := [(6, .ref q9), (0, .ref (ad 0)), (1, .int a1), (2, .int a2), (3, .int a3), (4, .int a4), (5, .ref (ad 83))]) hx hb dL_way_17 hl (by decide) rfl (fun ls hl => ?_)
      refine lv_iconst (v := 1) hx hb dL_way_19 (by decide) ?_
      exact g_iret hC hr hlocks hI h dL_way_20
    by_cases cx1 : k9 = 1
    · have h := h.2.1 cx1
      rw [cx1] at h39
      refine vx_catch (own := RL) (E := gEx 1) (name := "java/lang/IllegalArgumentException") hC.2.2.2.1 [⟨0, 14, 17, 13⟩] ⟨0, 14, 21, 23⟩ [⟨0, 14, 25, 25⟩] (by rw [htab]; rfl) (List.forall_mem_cons.mpr ⟨Or.inr ⟨by decide, gEx 0, hC.2.2.1 _ gw_3_28, hC.Z.2.2.2.2.2.2.2 1 0 (by decide) (by decide) (by decide)⟩, (fun _ hz => nomatch hz)⟩) rfl (by decide) (hC.2.2.1 _ gw_3_113) (va_Nw.use (gNl_on _ (by decide)) (hC.Z.2.2.2.2.2.2.1 (.castable "java/lang/IllegalArgumentException" "java/lang/IllegalArgumentException") (by decide))) h19 h29 h39 ?_
      refine lv_astore (lv' := [(6, .ref q9), (0, .ref (ad 0)), (1, .int a1), (2, .int a2), (3, .int a3), (4, .int a4), (5, .ref (ad 83))]) hx hb dL_way_21 hl (by decide) rfl (fun ls hl => ?_)
      refine lv_iconst (v := 2) hx hb dL_way_23 (by decide) ?_
      exact g_iret hC hr hlocks hI h dL_way_24
    by_cases cx2 : k9 = 2
    · have h := h.2.2.1 cx2
      rw [cx2] at h39
      refine vx_catch (own := RL) (E := gEx 2) (name := "java/lang/UnsupportedOperationException") hC.2.2.2.1 [⟨0, 14, 17, 13⟩, ⟨0, 14, 21, 23⟩] ⟨0, 14, 25, 25⟩ [] (by rw [htab]; rfl) (List.forall_mem_cons.mpr ⟨Or.inr ⟨by decide, gEx 0, hC.2.2.1 _ gw_3_28, hC.Z.2.2.2.2.2.2.2 2 0 (by decide) (by decide) (by decide)⟩, (List.forall_mem_cons.mpr ⟨Or.inr ⟨by decide, gEx 1, hC.2.2.1 _ gw_3_113, hC.Z.2.2.2.2.2.2.2 2 1 (by decide) (by decide) (by decide)⟩, (fun _ hz => nomatch hz)⟩)⟩) rfl (by decide) (hC.2.2.1 _ gw_3_114) (va_Nw.use (gNl_on _ (by decide)) (hC.Z.2.2.2.2.2.2.1 (.castable "java/lang/UnsupportedOperationException" "java/lang/UnsupportedOperationException") (by decide))) h19 h29 h39 ?_
      refine lv_astore (lv' := [(6, .ref q9), (0, .ref (ad 0)), (1, .int a1), (2, .int a2), (3, .int a3), (4, .int a4), (5, .ref (ad 83))]) hx hb dL_way_25 hl (by decide) rfl (fun ls hl => ?_)
      refine lv_iconst (v := 3) hx hb dL_way_27 (by decide) ?_
      exact g_iret hC hr hlocks hI h dL_way_28
    exact (h.2.2.2 cx0 cx1 cx2).elim
  · refine lv_i2l hx hb dL_way_12 rfl ?_
    refine gs_83 (x := r2) hC hI rfl (by unfold vp_in; decide) dL_way_13 (fun s4 H locs es4 hI => ?_)
    have h := h s4 es4
    refine lv_goto (tgt := 29) hx hb dL_way_14 (by decide) ?_
    refine lv_iconst (v := 0) hx hb dL_way_29 (by decide) ?_
    exact g_iret hC hr hlocks hI h dL_way_30

theorem dL_act_0 : decode cL_act 0 = .ok (.aload 5, 2) := by decide +kernel
theorem dL_act_2 : decode cL_act 2 = .ok (.iconst 0, 1) := by decide +kernel
theorem dL_act_3 : decode cL_act 3 = .ok (.aload_n 0, 1) := by decide +kernel
theorem dL_act_4 : decode cL_act 4 = .ok (.iload_n 1, 1) := by decide +kernel
theorem dL_act_5 : decode cL_act 5 = .ok (.iload_n 2, 1) := by decide +kernel
theorem dL_act_6 : decode cL_act 6 = .ok (.iload_n 3, 1) := by decide +kernel
theorem dL_act_7 : decode cL_act 7 = .ok (.iload 4, 2) := by decide +kernel
theorem dL_act_9 : decode cL_act 9 = .ok (.invokevirtual 49, 3) := by decide +kernel
theorem dL_act_12 : decode cL_act 12 = .ok (.i2l, 1) := by decide +kernel
theorem dL_act_13 : decode cL_act 13 = .ok (.lastore, 1) := by decide +kernel
theorem dL_act_14 : decode cL_act 14 = .ok (.goto 11, 3) := by decide +kernel
theorem dL_act_17 : decode cL_act 17 = .ok (.astore 6, 2) := by decide +kernel
theorem dL_act_19 : decode cL_act 19 = .ok (.iconst 1, 1) := by decide +kernel
theorem dL_act_20 : decode cL_act 20 = .ok (.ireturn, 1) := by decide +kernel
theorem dL_act_21 : decode cL_act 21 = .ok (.astore 6, 2) := by decide +kernel
theorem dL_act_23 : decode cL_act 23 = .ok (.iconst 2, 1) := by decide +kernel
theorem dL_act_24 : decode cL_act 24 = .ok (.ireturn, 1) := by decide +kernel
theorem dL_act_25 : decode cL_act 25 = .ok (.iconst 0, 1) := by decide +kernel
theorem dL_act_26 : decode cL_act 26 = .ok (.ireturn, 1) := by decide +kernel
def w_L_act (Q : Int32 → gS → Prop) (σ : gS) (a1 : Int32) (a2 : Int32) (a3 : Int32) (a4 : Int32) : Prop :=
    w_X8_act  (fun (r2 : Int32) (s1 : gS) => ∀ s4 : gS, s4 = gu s1 110 (0 : Int32).toNatClampNeg r2 → Q 0 s4) (fun (k9 : Nat) (s9 : gS) => (k9 = 0 → Q 1 s9) ∧ (k9 = 1 → Q 2 s9) ∧ (¬ k9 = 0 → ¬ k9 = 1 → False)) σ a1 a2 a3 a4
abbrev ws_L_act : List Cond := Cond.codeWith yL_act cL_act 7 (some .int) [(0, 14, 17, 13), (0, 14, 21, 23)] :: gG
abbrev rm_L_act : Room := { frames := 8, cells := 3, slots := 18, locals := 137 }
theorem k_L_act : gCW yL_act cL_act 7 (some .int) [(0, 14, 17, 13), (0, 14, 21, 23)] 6 := ⟨gw_4_3, gw_1_0, gw_4_4, by decide +kernel⟩
set_option maxHeartbeats 4000000 in
set_option maxRecDepth 100000 in
theorem c_L_act (l : Launch) (hst : l.stackTraces = false) (D : va_G) (cy : Nat → ClassId) (ad : Nat → Nat) (A : Nat → Prop) (Q : Int32 → gS → Prop) (σ : gS) (a1 : Int32) (a2 : Int32) (a3 : Int32) (a4 : Int32) (h : w_L_act Q σ a1 a2 a3 a4) : Met l yL_act ws_L_act rm_L_act (va_Pc [.ref (ad 0), .int a1, .int a2, .int a3, .int a4, .ref (ad 83)] (gB D cy ad A σ)) (va_Qi Q (gB D cy ad A) A) 3 18 A := by
  refine va_MetW (cc := cL_act) (maxL := 7) (ret := (some .int)) (by decide) rfl ?_
  intro p e s m args below meth c s₁ B hml hv
  obtain ⟨rfl, hB⟩ := hv
  obtain ⟨hC, htab⟩ : gC p c cL_act s m ([.ref (ad 0), .int a1, .int a2, .int a3, .int a4, .ref (ad 83)] : List Value).toArray RL D cy ad A ∧ _ := g_startW B hB
  have hI := g_first hB
  have hx := hC.1
  have hb := hC.2.1
  have hr := B.returns
  have hlocks := B.notSynchronized
  clear B hB
  have hl := lv_entry ([.ref (ad 0), .int a1, .int a2, .int a3, .int a4, .ref (ad 83)]) (n := 7) (Nat.le_of_ble_eq_true rfl)
  rw [lg_entry_eq]
  generalize (lg_sl ([.ref (ad 0), .int a1, .int a2, .int a3, .int a4, .ref (ad 83)]) ++ List.replicate (7 - (lg_sl ([.ref (ad 0), .int a1, .int a2, .int a3, .int a4, .ref (ad 83)])).length) Slot.unset).toArray = ls at hl ⊢
  have hl : lv_has ls 7 [(0, .ref (ad 0)), (1, .int a1), (2, .int a2), (3, .int a3), (4, .int a4), (5, .ref (ad 83))] := hl
  unfold w_L_act at h
  refine lv_aload hx hb dL_act_0 (lv_at hl 5 rfl) ?_
  refine lv_iconst (v := 0) hx hb dL_act_2 (by decide) ?_
  refine lv_aload_n hx hb dL_act_3 rfl (lv_at hl 0 rfl) ?_
  refine lv_iload_n hx hb dL_act_4 rfl (lv_at hl 1 rfl) ?_
  refine lv_iload_n hx hb dL_act_5 rfl (lv_at hl 2 rfl) ?_
  refine lv_iload_n hx hb dL_act_6 rfl (lv_at hl 3 rfl) ?_
  refine lv_iload hx hb dL_act_7 (lv_at hl 4 rfl) ?_
  refine gy_backi hI (gy_runV (As := [.int a1, .int a2, .int a3, .int a4]) (rest := [.int 0, .ref (ad 83)]) hC hml hI (c_X8_act l hst D cy ad A _ _  _ _ _ _ _ h) k_X8_act gw_4_5 ⟨rfl, rfl⟩ ⟨Nat.le_of_ble_eq_true rfl, Nat.le_of_ble_eq_true rfl⟩ (grv_0 hC hI) rfl hl.1 rfl (Nat.le_of_ble_eq_true rfl) dL_act_9 ⟨Nat.le_of_ble_eq_true rfl, Nat.le_of_ble_eq_true rfl⟩) (fun k9 s9 H locs ce9 q9 hk9 h hI h19 h29 h39 => ?_) (fun r2 s1 H locs h hI => ?_)
  · by_cases cx0 : k9 = 0
    · have h := h.1 cx0
      rw [cx0] at h39
      refine vx_catch (own := RL) (E := gEx 0) (name := "java/lang/IndexOutOfBoundsException") hC.2.2.2.1 [] ⟨0, 14, 17, 13⟩ [⟨0, 14, 21, 23⟩] (by rw [htab]; rfl) (fun _ hz => nomatch hz) rfl (by decide) (hC.2.2.1 _ gw_3_28) (va_Nw.use (gNl_on _ (by decide)) (hC.Z.2.2.2.2.2.2.1 (.castable "java/lang/IndexOutOfBoundsException" "java/lang/IndexOutOfBoundsException") (by decide))) h19 h29 h39 ?_
      refine lv_astore (lv' := [(6, .ref q9), (0, .ref (ad 0)), (1, .int a1), (2, .int a2), (3, .int a3), (4, .int a4), (5, .ref (ad 83))]) hx hb dL_act_17 hl (by decide) rfl (fun ls hl => ?_)
      refine lv_iconst (v := 1) hx hb dL_act_19 (by decide) ?_
      exact g_iret hC hr hlocks hI h dL_act_20
    by_cases cx1 : k9 = 1
    · have h := h.2.1 cx1
      rw [cx1] at h39
      refine vx_catch (own := RL) (E := gEx 1) (name := "java/lang/IllegalArgumentException") hC.2.2.2.1 [⟨0, 14, 17, 13⟩] ⟨0, 14, 21, 23⟩ [] (by rw [htab]; rfl) (List.forall_mem_cons.mpr ⟨Or.inr ⟨by decide, gEx 0, hC.2.2.1 _ gw_3_28, hC.Z.2.2.2.2.2.2.2 1 0 (by decide) (by decide) (by decide)⟩, (fun _ hz => nomatch hz)⟩) rfl (by decide) (hC.2.2.1 _ gw_3_113) (va_Nw.use (gNl_on _ (by decide)) (hC.Z.2.2.2.2.2.2.1 (.castable "java/lang/IllegalArgumentException" "java/lang/IllegalArgumentException") (by decide))) h19 h29 h39 ?_
      refine lv_astore (lv' := [(6, .ref q9), (0, .ref (ad 0)), (1, .int a1), (2, .int a2), (3, .int a3), (4, .int a4), (5, .ref (ad 83))]) hx hb dL_act_21 hl (by decide) rfl (fun ls hl => ?_)
      refine lv_iconst (v := 2) hx hb dL_act_23 (by decide) ?_
      exact g_iret hC hr hlocks hI h dL_act_24
    exact (h.2.2 cx0 cx1).elim
  · refine lv_i2l hx hb dL_act_12 rfl ?_
    refine gs_83 (x := r2) hC hI rfl (by unfold vp_in; decide) dL_act_13 (fun s4 H locs es4 hI => ?_)
    have h := h s4 es4
    refine lv_goto (tgt := 25) hx hb dL_act_14 (by decide) ?_
    refine lv_iconst (v := 0) hx hb dL_act_25 (by decide) ?_
    exact g_iret hC hr hlocks hI h dL_act_26

theorem dL_shift_0 : decode cL_shift 0 = .ok (.aload_n 2, 1) := by decide +kernel
theorem dL_shift_1 : decode cL_shift 1 = .ok (.iconst 0, 1) := by decide +kernel
theorem dL_shift_2 : decode cL_shift 2 = .ok (.aload_n 0, 1) := by decide +kernel
theorem dL_shift_3 : decode cL_shift 3 = .ok (.iload_n 1, 1) := by decide +kernel
theorem dL_shift_4 : decode cL_shift 4 = .ok (.invokevirtual 53, 3) := by decide +kernel
theorem dL_shift_7 : decode cL_shift 7 = .ok (.i2l, 1) := by decide +kernel
theorem dL_shift_8 : decode cL_shift 8 = .ok (.lastore, 1) := by decide +kernel
theorem dL_shift_9 : decode cL_shift 9 = .ok (.goto 6, 3) := by decide +kernel
theorem dL_shift_12 : decode cL_shift 12 = .ok (.astore_n 3, 1) := by decide +kernel
theorem dL_shift_13 : decode cL_shift 13 = .ok (.iconst 1, 1) := by decide +kernel
theorem dL_shift_14 : decode cL_shift 14 = .ok (.ireturn, 1) := by decide +kernel
theorem dL_shift_15 : decode cL_shift 15 = .ok (.iconst 0, 1) := by decide +kernel
theorem dL_shift_16 : decode cL_shift 16 = .ok (.ireturn, 1) := by decide +kernel
def w_L_shift (Q : Int32 → gS → Prop) (σ : gS) (a1 : Int32) : Prop :=
    w_X8_shift  (fun (r2 : Int32) (s1 : gS) => ∀ s4 : gS, s4 = gu s1 110 (0 : Int32).toNatClampNeg r2 → Q 0 s4) (fun (k9 : Nat) (s9 : gS) => (k9 = 0 → Q 1 s9) ∧ (¬ k9 = 0 → False)) σ a1
abbrev ws_L_shift : List Cond := Cond.codeWith yL_shift cL_shift 4 (some .int) [(0, 9, 12, 13)] :: gG
abbrev rm_L_shift : Room := { frames := 13, cells := 1, slots := 6, locals := 307 }
theorem k_L_shift : gCW yL_shift cL_shift 4 (some .int) [(0, 9, 12, 13)] 3 := ⟨gw_4_14, gw_1_0, gw_4_15, by decide +kernel⟩
set_option maxHeartbeats 4000000 in
set_option maxRecDepth 100000 in
theorem c_L_shift (l : Launch) (hst : l.stackTraces = false) (D : va_G) (cy : Nat → ClassId) (ad : Nat → Nat) (A : Nat → Prop) (Q : Int32 → gS → Prop) (σ : gS) (a1 : Int32) (h : w_L_shift Q σ a1) : Met l yL_shift ws_L_shift rm_L_shift (va_Pc [.ref (ad 0), .int a1, .ref (ad 83)] (gB D cy ad A σ)) (va_Qi Q (gB D cy ad A) A) 1 6 A := by
  refine va_MetW (cc := cL_shift) (maxL := 4) (ret := (some .int)) (by decide) rfl ?_
  intro p e s m args below meth c s₁ B hml hv
  obtain ⟨rfl, hB⟩ := hv
  obtain ⟨hC, htab⟩ : gC p c cL_shift s m ([.ref (ad 0), .int a1, .ref (ad 83)] : List Value).toArray RL D cy ad A ∧ _ := g_startW B hB
  have hI := g_first hB
  have hx := hC.1
  have hb := hC.2.1
  have hr := B.returns
  have hlocks := B.notSynchronized
  clear B hB
  have hl := lv_entry ([.ref (ad 0), .int a1, .ref (ad 83)]) (n := 4) (Nat.le_of_ble_eq_true rfl)
  rw [lg_entry_eq]
  generalize (lg_sl ([.ref (ad 0), .int a1, .ref (ad 83)]) ++ List.replicate (4 - (lg_sl ([.ref (ad 0), .int a1, .ref (ad 83)])).length) Slot.unset).toArray = ls at hl ⊢
  have hl : lv_has ls 4 [(0, .ref (ad 0)), (1, .int a1), (2, .ref (ad 83))] := hl
  unfold w_L_shift at h
  refine lv_aload_n hx hb dL_shift_0 rfl (lv_at hl 2 rfl) ?_
  refine lv_iconst (v := 0) hx hb dL_shift_1 (by decide) ?_
  refine lv_aload_n hx hb dL_shift_2 rfl (lv_at hl 0 rfl) ?_
  refine lv_iload_n hx hb dL_shift_3 rfl (lv_at hl 1 rfl) ?_
  refine gy_backi hI (gy_runV (As := [.int a1]) (rest := [.int 0, .ref (ad 83)]) hC hml hI (c_X8_shift l hst D cy ad A _ _  _ _ h) k_X8_shift gw_4_16 ⟨rfl, rfl⟩ ⟨Nat.le_of_ble_eq_true rfl, Nat.le_of_ble_eq_true rfl⟩ (grv_0 hC hI) rfl hl.1 rfl (Nat.le_of_ble_eq_true rfl) dL_shift_4 ⟨Nat.le_of_ble_eq_true rfl, Nat.le_of_ble_eq_true rfl⟩) (fun k9 s9 H locs ce9 q9 hk9 h hI h19 h29 h39 => ?_) (fun r2 s1 H locs h hI => ?_)
  · by_cases cx0 : k9 = 0
    · have h := h.1 cx0
      rw [cx0] at h39
      refine vx_catch (own := RL) (E := gEx 0) (name := "java/lang/IndexOutOfBoundsException") hC.2.2.2.1 [] ⟨0, 9, 12, 13⟩ [] (by rw [htab]; rfl) (fun _ hz => nomatch hz) rfl (by decide) (hC.2.2.1 _ gw_3_28) (va_Nw.use (gNl_on _ (by decide)) (hC.Z.2.2.2.2.2.2.1 (.castable "java/lang/IndexOutOfBoundsException" "java/lang/IndexOutOfBoundsException") (by decide))) h19 h29 h39 ?_
      refine lv_astore_n (lv' := [(3, .ref q9), (0, .ref (ad 0)), (1, .int a1), (2, .ref (ad 83))]) hx hb dL_shift_12 rfl hl (by decide) rfl (fun ls hl => ?_)
      refine lv_iconst (v := 1) hx hb dL_shift_13 (by decide) ?_
      exact g_iret hC hr hlocks hI h dL_shift_14
    exact (h.2 cx0).elim
  · refine lv_i2l hx hb dL_shift_7 rfl ?_
    refine gs_83 (x := r2) hC hI rfl (by unfold vp_in; decide) dL_shift_8 (fun s4 H locs es4 hI => ?_)
    have h := h s4 es4
    refine lv_goto (tgt := 15) hx hb dL_shift_9 (by decide) ?_
    refine lv_iconst (v := 0) hx hb dL_shift_15 (by decide) ?_
    exact g_iret hC hr hlocks hI h dL_shift_16

theorem dL_minutes_0 : decode cL_minutes 0 = .ok (.aload_n 2, 1) := by decide +kernel
theorem dL_minutes_1 : decode cL_minutes 1 = .ok (.iconst 0, 1) := by decide +kernel
theorem dL_minutes_2 : decode cL_minutes 2 = .ok (.aload_n 0, 1) := by decide +kernel
theorem dL_minutes_3 : decode cL_minutes 3 = .ok (.iload_n 1, 1) := by decide +kernel
theorem dL_minutes_4 : decode cL_minutes 4 = .ok (.invokevirtual 56, 3) := by decide +kernel
theorem dL_minutes_7 : decode cL_minutes 7 = .ok (.i2l, 1) := by decide +kernel
theorem dL_minutes_8 : decode cL_minutes 8 = .ok (.lastore, 1) := by decide +kernel
theorem dL_minutes_9 : decode cL_minutes 9 = .ok (.goto 6, 3) := by decide +kernel
theorem dL_minutes_12 : decode cL_minutes 12 = .ok (.astore_n 3, 1) := by decide +kernel
theorem dL_minutes_13 : decode cL_minutes 13 = .ok (.iconst 1, 1) := by decide +kernel
theorem dL_minutes_14 : decode cL_minutes 14 = .ok (.ireturn, 1) := by decide +kernel
theorem dL_minutes_15 : decode cL_minutes 15 = .ok (.iconst 0, 1) := by decide +kernel
theorem dL_minutes_16 : decode cL_minutes 16 = .ok (.ireturn, 1) := by decide +kernel
def w_L_minutes (Q : Int32 → gS → Prop) (σ : gS) (a1 : Int32) : Prop :=
    w_X8_minutes  (fun (r2 : Int32) (s1 : gS) => ∀ s4 : gS, s4 = gu s1 110 (0 : Int32).toNatClampNeg r2 → Q 0 s4) (fun (k9 : Nat) (s9 : gS) => (k9 = 1 → Q 1 s9) ∧ (¬ k9 = 1 → False)) σ a1
abbrev ws_L_minutes : List Cond := Cond.codeWith yL_minutes cL_minutes 4 (some .int) [(0, 9, 12, 23)] :: gG
abbrev rm_L_minutes : Room := { frames := 8, cells := 1, slots := 6, locals := 133 }
theorem k_L_minutes : gCW yL_minutes cL_minutes 4 (some .int) [(0, 9, 12, 23)] 3 := ⟨gw_4_21, gw_1_0, gw_4_22, by decide +kernel⟩
set_option maxHeartbeats 4000000 in
set_option maxRecDepth 100000 in
theorem c_L_minutes (l : Launch) (hst : l.stackTraces = false) (D : va_G) (cy : Nat → ClassId) (ad : Nat → Nat) (A : Nat → Prop) (Q : Int32 → gS → Prop) (σ : gS) (a1 : Int32) (h : w_L_minutes Q σ a1) : Met l yL_minutes ws_L_minutes rm_L_minutes (va_Pc [.ref (ad 0), .int a1, .ref (ad 83)] (gB D cy ad A σ)) (va_Qi Q (gB D cy ad A) A) 1 6 A := by
  refine va_MetW (cc := cL_minutes) (maxL := 4) (ret := (some .int)) (by decide) rfl ?_
  intro p e s m args below meth c s₁ B hml hv
  obtain ⟨rfl, hB⟩ := hv
  obtain ⟨hC, htab⟩ : gC p c cL_minutes s m ([.ref (ad 0), .int a1, .ref (ad 83)] : List Value).toArray RL D cy ad A ∧ _ := g_startW B hB
  have hI := g_first hB
  have hx := hC.1
  have hb := hC.2.1
  have hr := B.returns
  have hlocks := B.notSynchronized
  clear B hB
  have hl := lv_entry ([.ref (ad 0), .int a1, .ref (ad 83)]) (n := 4) (Nat.le_of_ble_eq_true rfl)
  rw [lg_entry_eq]
  generalize (lg_sl ([.ref (ad 0), .int a1, .ref (ad 83)]) ++ List.replicate (4 - (lg_sl ([.ref (ad 0), .int a1, .ref (ad 83)])).length) Slot.unset).toArray = ls at hl ⊢
  have hl : lv_has ls 4 [(0, .ref (ad 0)), (1, .int a1), (2, .ref (ad 83))] := hl
  unfold w_L_minutes at h
  refine lv_aload_n hx hb dL_minutes_0 rfl (lv_at hl 2 rfl) ?_
  refine lv_iconst (v := 0) hx hb dL_minutes_1 (by decide) ?_
  refine lv_aload_n hx hb dL_minutes_2 rfl (lv_at hl 0 rfl) ?_
  refine lv_iload_n hx hb dL_minutes_3 rfl (lv_at hl 1 rfl) ?_
  refine gy_backi hI (gy_runV (As := [.int a1]) (rest := [.int 0, .ref (ad 83)]) hC hml hI (c_X8_minutes l hst D cy ad A _ _  _ _ h) k_X8_minutes gw_4_23 ⟨rfl, rfl⟩ ⟨Nat.le_of_ble_eq_true rfl, Nat.le_of_ble_eq_true rfl⟩ (grv_0 hC hI) rfl hl.1 rfl (Nat.le_of_ble_eq_true rfl) dL_minutes_4 ⟨Nat.le_of_ble_eq_true rfl, Nat.le_of_ble_eq_true rfl⟩) (fun k9 s9 H locs ce9 q9 hk9 h hI h19 h29 h39 => ?_) (fun r2 s1 H locs h hI => ?_)
  · by_cases cx0 : k9 = 1
    · have h := h.1 cx0
      rw [cx0] at h39
      refine vx_catch (own := RL) (E := gEx 1) (name := "java/lang/IllegalArgumentException") hC.2.2.2.1 [] ⟨0, 9, 12, 23⟩ [] (by rw [htab]; rfl) (fun _ hz => nomatch hz) rfl (by decide) (hC.2.2.1 _ gw_3_113) (va_Nw.use (gNl_on _ (by decide)) (hC.Z.2.2.2.2.2.2.1 (.castable "java/lang/IllegalArgumentException" "java/lang/IllegalArgumentException") (by decide))) h19 h29 h39 ?_
      refine lv_astore_n (lv' := [(3, .ref q9), (0, .ref (ad 0)), (1, .int a1), (2, .ref (ad 83))]) hx hb dL_minutes_12 rfl hl (by decide) rfl (fun ls hl => ?_)
      refine lv_iconst (v := 1) hx hb dL_minutes_13 (by decide) ?_
      exact g_iret hC hr hlocks hI h dL_minutes_14
    exact (h.2 cx0).elim
  · refine lv_i2l hx hb dL_minutes_7 rfl ?_
    refine gs_83 (x := r2) hC hI rfl (by unfold vp_in; decide) dL_minutes_8 (fun s4 H locs es4 hI => ?_)
    have h := h s4 es4
    refine lv_goto (tgt := 15) hx hb dL_minutes_9 (by decide) ?_
    refine lv_iconst (v := 0) hx hb dL_minutes_15 (by decide) ?_
    exact g_iret hC hr hlocks hI h dL_minutes_16

theorem dL_pass_0 : decode cL_pass 0 = .ok (.aload 4, 2) := by decide +kernel
theorem dL_pass_2 : decode cL_pass 2 = .ok (.iconst 0, 1) := by decide +kernel
theorem dL_pass_3 : decode cL_pass 3 = .ok (.aload_n 0, 1) := by decide +kernel
theorem dL_pass_4 : decode cL_pass 4 = .ok (.iload_n 1, 1) := by decide +kernel
theorem dL_pass_5 : decode cL_pass 5 = .ok (.iload_n 2, 1) := by decide +kernel
theorem dL_pass_6 : decode cL_pass 6 = .ok (.iload_n 3, 1) := by decide +kernel
theorem dL_pass_7 : decode cL_pass 7 = .ok (.invokevirtual 59, 3) := by decide +kernel
theorem dL_pass_10 : decode cL_pass 10 = .ok (.i2l, 1) := by decide +kernel
theorem dL_pass_11 : decode cL_pass 11 = .ok (.lastore, 1) := by decide +kernel
theorem dL_pass_12 : decode cL_pass 12 = .ok (.goto 11, 3) := by decide +kernel
theorem dL_pass_15 : decode cL_pass 15 = .ok (.astore 5, 2) := by decide +kernel
theorem dL_pass_17 : decode cL_pass 17 = .ok (.iconst 1, 1) := by decide +kernel
theorem dL_pass_18 : decode cL_pass 18 = .ok (.ireturn, 1) := by decide +kernel
theorem dL_pass_19 : decode cL_pass 19 = .ok (.astore 5, 2) := by decide +kernel
theorem dL_pass_21 : decode cL_pass 21 = .ok (.iconst 2, 1) := by decide +kernel
theorem dL_pass_22 : decode cL_pass 22 = .ok (.ireturn, 1) := by decide +kernel
theorem dL_pass_23 : decode cL_pass 23 = .ok (.iconst 0, 1) := by decide +kernel
theorem dL_pass_24 : decode cL_pass 24 = .ok (.ireturn, 1) := by decide +kernel
def w_L_pass (Q : Int32 → gS → Prop) (σ : gS) (a1 : Int32) (a2 : Int32) (a3 : Int32) : Prop :=
    w_X8_pass  (fun (r2 : Int32) (s1 : gS) => ∀ s4 : gS, s4 = gu s1 110 (0 : Int32).toNatClampNeg r2 → Q 0 s4) (fun (k9 : Nat) (s9 : gS) => (k9 = 0 → Q 1 s9) ∧ (k9 = 1 → Q 2 s9) ∧ (¬ k9 = 0 → ¬ k9 = 1 → False)) σ a1 a2 a3
abbrev ws_L_pass : List Cond := Cond.codeWith yL_pass cL_pass 6 (some .int) [(0, 12, 15, 13), (0, 12, 19, 23)] :: gG
abbrev rm_L_pass : Room := { frames := 8, cells := 2, slots := 12, locals := 135 }
theorem k_L_pass : gCW yL_pass cL_pass 6 (some .int) [(0, 12, 15, 13), (0, 12, 19, 23)] 5 := ⟨gw_4_29, gw_1_0, gw_4_30, by decide +kernel⟩
set_option maxHeartbeats 4000000 in
set_option maxRecDepth 100000 in
theorem c_L_pass (l : Launch) (hst : l.stackTraces = false) (D : va_G) (cy : Nat → ClassId) (ad : Nat → Nat) (A : Nat → Prop) (Q : Int32 → gS → Prop) (σ : gS) (a1 : Int32) (a2 : Int32) (a3 : Int32) (h : w_L_pass Q σ a1 a2 a3) : Met l yL_pass ws_L_pass rm_L_pass (va_Pc [.ref (ad 0), .int a1, .int a2, .int a3, .ref (ad 83)] (gB D cy ad A σ)) (va_Qi Q (gB D cy ad A) A) 2 12 A := by
  refine va_MetW (cc := cL_pass) (maxL := 6) (ret := (some .int)) (by decide) rfl ?_
  intro p e s m args below meth c s₁ B hml hv
  obtain ⟨rfl, hB⟩ := hv
  obtain ⟨hC, htab⟩ : gC p c cL_pass s m ([.ref (ad 0), .int a1, .int a2, .int a3, .ref (ad 83)] : List Value).toArray RL D cy ad A ∧ _ := g_startW B hB
  have hI := g_first hB
  have hx := hC.1
  have hb := hC.2.1
  have hr := B.returns
  have hlocks := B.notSynchronized
  clear B hB
  have hl := lv_entry ([.ref (ad 0), .int a1, .int a2, .int a3, .ref (ad 83)]) (n := 6) (Nat.le_of_ble_eq_true rfl)
  rw [lg_entry_eq]
  generalize (lg_sl ([.ref (ad 0), .int a1, .int a2, .int a3, .ref (ad 83)]) ++ List.replicate (6 - (lg_sl ([.ref (ad 0), .int a1, .int a2, .int a3, .ref (ad 83)])).length) Slot.unset).toArray = ls at hl ⊢
  have hl : lv_has ls 6 [(0, .ref (ad 0)), (1, .int a1), (2, .int a2), (3, .int a3), (4, .ref (ad 83))] := hl
  unfold w_L_pass at h
  refine lv_aload hx hb dL_pass_0 (lv_at hl 4 rfl) ?_
  refine lv_iconst (v := 0) hx hb dL_pass_2 (by decide) ?_
  refine lv_aload_n hx hb dL_pass_3 rfl (lv_at hl 0 rfl) ?_
  refine lv_iload_n hx hb dL_pass_4 rfl (lv_at hl 1 rfl) ?_
  refine lv_iload_n hx hb dL_pass_5 rfl (lv_at hl 2 rfl) ?_
  refine lv_iload_n hx hb dL_pass_6 rfl (lv_at hl 3 rfl) ?_
  refine gy_backi hI (gy_runV (As := [.int a1, .int a2, .int a3]) (rest := [.int 0, .ref (ad 83)]) hC hml hI (c_X8_pass l hst D cy ad A _ _  _ _ _ _ h) k_X8_pass gw_4_31 ⟨rfl, rfl⟩ ⟨Nat.le_of_ble_eq_true rfl, Nat.le_of_ble_eq_true rfl⟩ (grv_0 hC hI) rfl hl.1 rfl (Nat.le_of_ble_eq_true rfl) dL_pass_7 ⟨Nat.le_of_ble_eq_true rfl, Nat.le_of_ble_eq_true rfl⟩) (fun k9 s9 H locs ce9 q9 hk9 h hI h19 h29 h39 => ?_) (fun r2 s1 H locs h hI => ?_)
  · by_cases cx0 : k9 = 0
    · have h := h.1 cx0
      rw [cx0] at h39
      refine vx_catch (own := RL) (E := gEx 0) (name := "java/lang/IndexOutOfBoundsException") hC.2.2.2.1 [] ⟨0, 12, 15, 13⟩ [⟨0, 12, 19, 23⟩] (by rw [htab]; rfl) (fun _ hz => nomatch hz) rfl (by decide) (hC.2.2.1 _ gw_3_28) (va_Nw.use (gNl_on _ (by decide)) (hC.Z.2.2.2.2.2.2.1 (.castable "java/lang/IndexOutOfBoundsException" "java/lang/IndexOutOfBoundsException") (by decide))) h19 h29 h39 ?_
      refine lv_astore (lv' := [(5, .ref q9), (0, .ref (ad 0)), (1, .int a1), (2, .int a2), (3, .int a3), (4, .ref (ad 83))]) hx hb dL_pass_15 hl (by decide) rfl (fun ls hl => ?_)
      refine lv_iconst (v := 1) hx hb dL_pass_17 (by decide) ?_
      exact g_iret hC hr hlocks hI h dL_pass_18
    by_cases cx1 : k9 = 1
    · have h := h.2.1 cx1
      rw [cx1] at h39
      refine vx_catch (own := RL) (E := gEx 1) (name := "java/lang/IllegalArgumentException") hC.2.2.2.1 [⟨0, 12, 15, 13⟩] ⟨0, 12, 19, 23⟩ [] (by rw [htab]; rfl) (List.forall_mem_cons.mpr ⟨Or.inr ⟨by decide, gEx 0, hC.2.2.1 _ gw_3_28, hC.Z.2.2.2.2.2.2.2 1 0 (by decide) (by decide) (by decide)⟩, (fun _ hz => nomatch hz)⟩) rfl (by decide) (hC.2.2.1 _ gw_3_113) (va_Nw.use (gNl_on _ (by decide)) (hC.Z.2.2.2.2.2.2.1 (.castable "java/lang/IllegalArgumentException" "java/lang/IllegalArgumentException") (by decide))) h19 h29 h39 ?_
      refine lv_astore (lv' := [(5, .ref q9), (0, .ref (ad 0)), (1, .int a1), (2, .int a2), (3, .int a3), (4, .ref (ad 83))]) hx hb dL_pass_19 hl (by decide) rfl (fun ls hl => ?_)
      refine lv_iconst (v := 2) hx hb dL_pass_21 (by decide) ?_
      exact g_iret hC hr hlocks hI h dL_pass_22
    exact (h.2.2 cx0 cx1).elim
  · refine lv_i2l hx hb dL_pass_10 rfl ?_
    refine gs_83 (x := r2) hC hI rfl (by unfold vp_in; decide) dL_pass_11 (fun s4 H locs es4 hI => ?_)
    have h := h s4 es4
    refine lv_goto (tgt := 23) hx hb dL_pass_12 (by decide) ?_
    refine lv_iconst (v := 0) hx hb dL_pass_23 (by decide) ?_
    exact g_iret hC hr hlocks hI h dL_pass_24

theorem dL_inside_0 : decode cL_inside 0 = .ok (.aload 4, 2) := by decide +kernel
theorem dL_inside_2 : decode cL_inside 2 = .ok (.iconst 0, 1) := by decide +kernel
theorem dL_inside_3 : decode cL_inside 3 = .ok (.aload_n 0, 1) := by decide +kernel
theorem dL_inside_4 : decode cL_inside 4 = .ok (.iload_n 1, 1) := by decide +kernel
theorem dL_inside_5 : decode cL_inside 5 = .ok (.iload_n 2, 1) := by decide +kernel
theorem dL_inside_6 : decode cL_inside 6 = .ok (.iload_n 3, 1) := by decide +kernel
theorem dL_inside_7 : decode cL_inside 7 = .ok (.invokevirtual 63, 3) := by decide +kernel
theorem dL_inside_10 : decode cL_inside 10 = .ok (.ifCond .eq 7, 3) := by decide +kernel
theorem dL_inside_13 : decode cL_inside 13 = .ok (.lconst 1, 1) := by decide +kernel
theorem dL_inside_14 : decode cL_inside 14 = .ok (.goto 4, 3) := by decide +kernel
theorem dL_inside_17 : decode cL_inside 17 = .ok (.lconst 0, 1) := by decide +kernel
theorem dL_inside_18 : decode cL_inside 18 = .ok (.lastore, 1) := by decide +kernel
theorem dL_inside_19 : decode cL_inside 19 = .ok (.goto 7, 3) := by decide +kernel
theorem dL_inside_22 : decode cL_inside 22 = .ok (.astore 5, 2) := by decide +kernel
theorem dL_inside_24 : decode cL_inside 24 = .ok (.iconst 1, 1) := by decide +kernel
theorem dL_inside_25 : decode cL_inside 25 = .ok (.ireturn, 1) := by decide +kernel
theorem dL_inside_26 : decode cL_inside 26 = .ok (.iconst 0, 1) := by decide +kernel
theorem dL_inside_27 : decode cL_inside 27 = .ok (.ireturn, 1) := by decide +kernel
def w_L_inside (Q : Int32 → gS → Prop) (σ : gS) (a1 : Int32) (a2 : Int32) (a3 : Int32) : Prop :=
    w_X8_inside  (fun (r2 : Int32) (s1 : gS) => (r2 = 0 → ∀ s5 : gS, s5 = gu s1 110 (0 : Int32).toNatClampNeg 0 → Q 0 s5) ∧ (¬ r2 = 0 → ∀ s7 : gS, s7 = gu s1 110 (0 : Int32).toNatClampNeg 1 → Q 0 s7)) (fun (k9 : Nat) (s9 : gS) => (k9 = 0 → Q 1 s9) ∧ (¬ k9 = 0 → False)) σ a1 a2 a3
abbrev ws_L_inside : List Cond := Cond.codeWith yL_inside cL_inside 6 (some .int) [(0, 19, 22, 13)] :: gG
abbrev rm_L_inside : Room := { frames := 8, cells := 1, slots := 6, locals := 134 }
theorem k_L_inside : gCW yL_inside cL_inside 6 (some .int) [(0, 19, 22, 13)] 5 := ⟨gw_4_48, gw_1_0, gw_4_49, by decide +kernel⟩
set_option maxHeartbeats 4000000 in
set_option maxRecDepth 100000 in
theorem c_L_inside (l : Launch) (hst : l.stackTraces = false) (D : va_G) (cy : Nat → ClassId) (ad : Nat → Nat) (A : Nat → Prop) (Q : Int32 → gS → Prop) (σ : gS) (a1 : Int32) (a2 : Int32) (a3 : Int32) (h : w_L_inside Q σ a1 a2 a3) : Met l yL_inside ws_L_inside rm_L_inside (va_Pc [.ref (ad 0), .int a1, .int a2, .int a3, .ref (ad 83)] (gB D cy ad A σ)) (va_Qi Q (gB D cy ad A) A) 1 6 A := by
  refine va_MetW (cc := cL_inside) (maxL := 6) (ret := (some .int)) (by decide) rfl ?_
  intro p e s m args below meth c s₁ B hml hv
  obtain ⟨rfl, hB⟩ := hv
  obtain ⟨hC, htab⟩ : gC p c cL_inside s m ([.ref (ad 0), .int a1, .int a2, .int a3, .ref (ad 83)] : List Value).toArray RL D cy ad A ∧ _ := g_startW B hB
  have hI := g_first hB
  have hx := hC.1
  have hb := hC.2.1
  have hr := B.returns
  have hlocks := B.notSynchronized
  clear B hB
  have hl := lv_entry ([.ref (ad 0), .int a1, .int a2, .int a3, .ref (ad 83)]) (n := 6) (Nat.le_of_ble_eq_true rfl)
  rw [lg_entry_eq]
  generalize (lg_sl ([.ref (ad 0), .int a1, .int a2, .int a3, .ref (ad 83)]) ++ List.replicate (6 - (lg_sl ([.ref (ad 0), .int a1, .int a2, .int a3, .ref (ad 83)])).length) Slot.unset).toArray = ls at hl ⊢
  have hl : lv_has ls 6 [(0, .ref (ad 0)), (1, .int a1), (2, .int a2), (3, .int a3), (4, .ref (ad 83))] := hl
  unfold w_L_inside at h
  refine lv_aload hx hb dL_inside_0 (lv_at hl 4 rfl) ?_
  refine lv_iconst (v := 0) hx hb dL_inside_2 (by decide) ?_
  refine lv_aload_n hx hb dL_inside_3 rfl (lv_at hl 0 rfl) ?_
  refine lv_iload_n hx hb dL_inside_4 rfl (lv_at hl 1 rfl) ?_
  refine lv_iload_n hx hb dL_inside_5 rfl (lv_at hl 2 rfl) ?_
  refine lv_iload_n hx hb dL_inside_6 rfl (lv_at hl 3 rfl) ?_
  refine gy_backi hI (gy_runV (As := [.int a1, .int a2, .int a3]) (rest := [.int 0, .ref (ad 83)]) hC hml hI (c_X8_inside l hst D cy ad A _ _  _ _ _ _ h) k_X8_inside gw_4_50 ⟨rfl, rfl⟩ ⟨Nat.le_of_ble_eq_true rfl, Nat.le_of_ble_eq_true rfl⟩ (grv_0 hC hI) rfl hl.1 rfl (Nat.le_of_ble_eq_true rfl) dL_inside_7 ⟨Nat.le_of_ble_eq_true rfl, Nat.le_of_ble_eq_true rfl⟩) (fun k9 s9 H locs ce9 q9 hk9 h hI h19 h29 h39 => ?_) (fun r2 s1 H locs h hI => ?_)
  · by_cases cx0 : k9 = 0
    · have h := h.1 cx0
      rw [cx0] at h39
      refine vx_catch (own := RL) (E := gEx 0) (name := "java/lang/IndexOutOfBoundsException") hC.2.2.2.1 [] ⟨0, 19, 22, 13⟩ [] (by rw [htab]; rfl) (fun _ hz => nomatch hz) rfl (by decide) (hC.2.2.1 _ gw_3_28) (va_Nw.use (gNl_on _ (by decide)) (hC.Z.2.2.2.2.2.2.1 (.castable "java/lang/IndexOutOfBoundsException" "java/lang/IndexOutOfBoundsException") (by decide))) h19 h29 h39 ?_
      refine lv_astore (lv' := [(5, .ref q9), (0, .ref (ad 0)), (1, .int a1), (2, .int a2), (3, .int a3), (4, .ref (ad 83))]) hx hb dL_inside_22 hl (by decide) rfl (fun ls hl => ?_)
      refine lv_iconst (v := 1) hx hb dL_inside_24 (by decide) ?_
      exact g_iret hC hr hlocks hI h dL_inside_25
    exact (h.2 cx0).elim
  · refine lv_if_eq (tgt := 17) hx hb dL_inside_10 (by decide) (fun c3 => ?_) (fun c3 => ?_)
    · have h := h.1 c3
      refine lv_lconst (v := 0) hx hb dL_inside_17 (by decide) ?_
      refine gs_83 (x := 0) hC hI (by decide) (by unfold vp_in; decide) dL_inside_18 (fun s5 H locs es5 hI => ?_)
      have h := h s5 es5
      refine lv_goto (tgt := 26) hx hb dL_inside_19 (by decide) ?_
      refine lv_iconst (v := 0) hx hb dL_inside_26 (by decide) ?_
      exact g_iret hC hr hlocks hI h dL_inside_27
    · have h := h.2 c3
      refine lv_lconst (v := 1) hx hb dL_inside_13 (by decide) ?_
      refine lv_goto (tgt := 18) hx hb dL_inside_14 (by decide) ?_
      refine gs_83 (x := 1) hC hI (by decide) (by unfold vp_in; decide) dL_inside_18 (fun s7 H locs es7 hI => ?_)
      have h := h s7 es7
      refine lv_goto (tgt := 26) hx hb dL_inside_19 (by decide) ?_
      refine lv_iconst (v := 0) hx hb dL_inside_26 (by decide) ?_
      exact g_iret hC hr hlocks hI h dL_inside_27

theorem dL_noise_0 : decode cL_noise 0 = .ok (.aload_n 0, 1) := by decide +kernel
theorem dL_noise_1 : decode cL_noise 1 = .ok (.iload_n 1, 1) := by decide +kernel
theorem dL_noise_2 : decode cL_noise 2 = .ok (.iload_n 2, 1) := by decide +kernel
theorem dL_noise_3 : decode cL_noise 3 = .ok (.invokevirtual 67, 3) := by decide +kernel
theorem dL_noise_6 : decode cL_noise 6 = .ok (.goto 6, 3) := by decide +kernel
theorem dL_noise_9 : decode cL_noise 9 = .ok (.astore_n 3, 1) := by decide +kernel
theorem dL_noise_10 : decode cL_noise 10 = .ok (.iconst 1, 1) := by decide +kernel
theorem dL_noise_11 : decode cL_noise 11 = .ok (.ireturn, 1) := by decide +kernel
theorem dL_noise_12 : decode cL_noise 12 = .ok (.iconst 0, 1) := by decide +kernel
theorem dL_noise_13 : decode cL_noise 13 = .ok (.ireturn, 1) := by decide +kernel
def w_L_noise (Q : Int32 → gS → Prop) (σ : gS) (a1 : Int32) (a2 : Int32) : Prop :=
    w_X8_noise  (fun (s1 : gS) => Q 0 s1) (fun (k9 : Nat) (s9 : gS) => (k9 = 1 → Q 1 s9) ∧ (¬ k9 = 1 → False)) σ a1 a2
abbrev ws_L_noise : List Cond := Cond.codeWith yL_noise cL_noise 4 (some .int) [(0, 6, 9, 23)] :: gG
abbrev rm_L_noise : Room := { frames := 8, cells := 2, slots := 12, locals := 134 }
theorem k_L_noise : gCW yL_noise cL_noise 4 (some .int) [(0, 6, 9, 23)] 3 := ⟨gw_4_59, gw_1_0, gw_4_60, by decide +kernel⟩
set_option maxHeartbeats 4000000 in
set_option maxRecDepth 100000 in
theorem c_L_noise (l : Launch) (hst : l.stackTraces = false) (D : va_G) (cy : Nat → ClassId) (ad : Nat → Nat) (A : Nat → Prop) (Q : Int32 → gS → Prop) (σ : gS) (a1 : Int32) (a2 : Int32) (h : w_L_noise Q σ a1 a2) : Met l yL_noise ws_L_noise rm_L_noise (va_Pc [.ref (ad 0), .int a1, .int a2] (gB D cy ad A σ)) (va_Qi Q (gB D cy ad A) A) 2 12 A := by
  refine va_MetW (cc := cL_noise) (maxL := 4) (ret := (some .int)) (by decide) rfl ?_
  intro p e s m args below meth c s₁ B hml hv
  obtain ⟨rfl, hB⟩ := hv
  obtain ⟨hC, htab⟩ : gC p c cL_noise s m ([.ref (ad 0), .int a1, .int a2] : List Value).toArray RL D cy ad A ∧ _ := g_startW B hB
  have hI := g_first hB
  have hx := hC.1
  have hb := hC.2.1
  have hr := B.returns
  have hlocks := B.notSynchronized
  clear B hB
  have hl := lv_entry ([.ref (ad 0), .int a1, .int a2]) (n := 4) (Nat.le_of_ble_eq_true rfl)
  rw [lg_entry_eq]
  generalize (lg_sl ([.ref (ad 0), .int a1, .int a2]) ++ List.replicate (4 - (lg_sl ([.ref (ad 0), .int a1, .int a2])).length) Slot.unset).toArray = ls at hl ⊢
  have hl : lv_has ls 4 [(0, .ref (ad 0)), (1, .int a1), (2, .int a2)] := hl
  unfold w_L_noise at h
  refine lv_aload_n hx hb dL_noise_0 rfl (lv_at hl 0 rfl) ?_
  refine lv_iload_n hx hb dL_noise_1 rfl (lv_at hl 1 rfl) ?_
  refine lv_iload_n hx hb dL_noise_2 rfl (lv_at hl 2 rfl) ?_
  refine gy_backv hI (gy_runV (As := [.int a1, .int a2]) (rest := []) hC hml hI (c_X8_noise l hst D cy ad A _ _  _ _ _ h) k_X8_noise gw_4_61 ⟨rfl, rfl⟩ ⟨Nat.le_of_ble_eq_true rfl, Nat.le_of_ble_eq_true rfl⟩ (grv_0 hC hI) rfl hl.1 rfl (Nat.le_of_ble_eq_true rfl) dL_noise_3 ⟨Nat.le_of_ble_eq_true rfl, Nat.le_of_ble_eq_true rfl⟩) (fun k9 s9 H locs ce9 q9 hk9 h hI h19 h29 h39 => ?_) (fun s1 H locs h hI => ?_)
  · by_cases cx0 : k9 = 1
    · have h := h.1 cx0
      rw [cx0] at h39
      refine vx_catch (own := RL) (E := gEx 1) (name := "java/lang/IllegalArgumentException") hC.2.2.2.1 [] ⟨0, 6, 9, 23⟩ [] (by rw [htab]; rfl) (fun _ hz => nomatch hz) rfl (by decide) (hC.2.2.1 _ gw_3_113) (va_Nw.use (gNl_on _ (by decide)) (hC.Z.2.2.2.2.2.2.1 (.castable "java/lang/IllegalArgumentException" "java/lang/IllegalArgumentException") (by decide))) h19 h29 h39 ?_
      refine lv_astore_n (lv' := [(3, .ref q9), (0, .ref (ad 0)), (1, .int a1), (2, .int a2)]) hx hb dL_noise_9 rfl hl (by decide) rfl (fun ls hl => ?_)
      refine lv_iconst (v := 1) hx hb dL_noise_10 (by decide) ?_
      exact g_iret hC hr hlocks hI h dL_noise_11
    exact (h.2 cx0).elim
  · refine lv_goto (tgt := 12) hx hb dL_noise_6 (by decide) ?_
    refine lv_iconst (v := 0) hx hb dL_noise_12 (by decide) ?_
    exact g_iret hC hr hlocks hI h dL_noise_13

theorem dL_licence_0 : decode cL_licence 0 = .ok (.aload_n 1, 1) := by decide +kernel
theorem dL_licence_1 : decode cL_licence 1 = .ok (.iconst 0, 1) := by decide +kernel
theorem dL_licence_2 : decode cL_licence 2 = .ok (.aload_n 0, 1) := by decide +kernel
theorem dL_licence_3 : decode cL_licence 3 = .ok (.invokevirtual 70, 3) := by decide +kernel
theorem dL_licence_6 : decode cL_licence 6 = .ok (.i2l, 1) := by decide +kernel
theorem dL_licence_7 : decode cL_licence 7 = .ok (.lastore, 1) := by decide +kernel
theorem dL_licence_8 : decode cL_licence 8 = .ok (.goto 6, 3) := by decide +kernel
theorem dL_licence_11 : decode cL_licence 11 = .ok (.astore_n 2, 1) := by decide +kernel
theorem dL_licence_12 : decode cL_licence 12 = .ok (.iconst 1, 1) := by decide +kernel
theorem dL_licence_13 : decode cL_licence 13 = .ok (.ireturn, 1) := by decide +kernel
theorem dL_licence_14 : decode cL_licence 14 = .ok (.iconst 0, 1) := by decide +kernel
theorem dL_licence_15 : decode cL_licence 15 = .ok (.ireturn, 1) := by decide +kernel
def w_L_licence (Q : Int32 → gS → Prop) (σ : gS) : Prop :=
    w_X8_licence  (fun (r2 : Int32) (s1 : gS) => ∀ s4 : gS, s4 = gu s1 110 (0 : Int32).toNatClampNeg r2 → Q 0 s4) (fun (k9 : Nat) (s9 : gS) => (k9 = 1 → Q 1 s9) ∧ (¬ k9 = 1 → False)) σ
abbrev ws_L_licence : List Cond := Cond.codeWith yL_licence cL_licence 3 (some .int) [(0, 8, 11, 23)] :: gG
abbrev rm_L_licence : Room := { frames := 9, cells := 1, slots := 6, locals := 197 }
theorem k_L_licence : gCW yL_licence cL_licence 3 (some .int) [(0, 8, 11, 23)] 2 := ⟨gw_4_66, gw_1_0, gw_4_67, by decide +kernel⟩
set_option maxHeartbeats 4000000 in
set_option maxRecDepth 100000 in
theorem c_L_licence (l : Launch) (hst : l.stackTraces = false) (D : va_G) (cy : Nat → ClassId) (ad : Nat → Nat) (A : Nat → Prop) (Q : Int32 → gS → Prop) (σ : gS) (h : w_L_licence Q σ) : Met l yL_licence ws_L_licence rm_L_licence (va_Pc [.ref (ad 0), .ref (ad 83)] (gB D cy ad A σ)) (va_Qi Q (gB D cy ad A) A) 1 6 A := by
  refine va_MetW (cc := cL_licence) (maxL := 3) (ret := (some .int)) (by decide) rfl ?_
  intro p e s m args below meth c s₁ B hml hv
  obtain ⟨rfl, hB⟩ := hv
  obtain ⟨hC, htab⟩ : gC p c cL_licence s m ([.ref (ad 0), .ref (ad 83)] : List Value).toArray RL D cy ad A ∧ _ := g_startW B hB
  have hI := g_first hB
  have hx := hC.1
  have hb := hC.2.1
  have hr := B.returns
  have hlocks := B.notSynchronized
  clear B hB
  have hl := lv_entry ([.ref (ad 0), .ref (ad 83)]) (n := 3) (Nat.le_of_ble_eq_true rfl)
  rw [lg_entry_eq]
  generalize (lg_sl ([.ref (ad 0), .ref (ad 83)]) ++ List.replicate (3 - (lg_sl ([.ref (ad 0), .ref (ad 83)])).length) Slot.unset).toArray = ls at hl ⊢
  have hl : lv_has ls 3 [(0, .ref (ad 0)), (1, .ref (ad 83))] := hl
  unfold w_L_licence at h
  refine lv_aload_n hx hb dL_licence_0 rfl (lv_at hl 1 rfl) ?_
  refine lv_iconst (v := 0) hx hb dL_licence_1 (by decide) ?_
  refine lv_aload_n hx hb dL_licence_2 rfl (lv_at hl 0 rfl) ?_
  refine gy_backi hI (gy_runV (As := []) (rest := [.int 0, .ref (ad 83)]) hC hml hI (c_X8_licence l hst D cy ad A _ _  _ h) k_X8_licence gw_4_68 ⟨rfl, rfl⟩ ⟨Nat.le_of_ble_eq_true rfl, Nat.le_of_ble_eq_true rfl⟩ (grv_0 hC hI) rfl hl.1 rfl (Nat.le_of_ble_eq_true rfl) dL_licence_3 ⟨Nat.le_of_ble_eq_true rfl, Nat.le_of_ble_eq_true rfl⟩) (fun k9 s9 H locs ce9 q9 hk9 h hI h19 h29 h39 => ?_) (fun r2 s1 H locs h hI => ?_)
  · by_cases cx0 : k9 = 1
    · have h := h.1 cx0
      rw [cx0] at h39
      refine vx_catch (own := RL) (E := gEx 1) (name := "java/lang/IllegalArgumentException") hC.2.2.2.1 [] ⟨0, 8, 11, 23⟩ [] (by rw [htab]; rfl) (fun _ hz => nomatch hz) rfl (by decide) (hC.2.2.1 _ gw_3_113) (va_Nw.use (gNl_on _ (by decide)) (hC.Z.2.2.2.2.2.2.1 (.castable "java/lang/IllegalArgumentException" "java/lang/IllegalArgumentException") (by decide))) h19 h29 h39 ?_
      refine lv_astore_n (lv' := [(2, .ref q9), (0, .ref (ad 0)), (1, .ref (ad 83))]) hx hb dL_licence_11 rfl hl (by decide) rfl (fun ls hl => ?_)
      refine lv_iconst (v := 1) hx hb dL_licence_12 (by decide) ?_
      exact g_iret hC hr hlocks hI h dL_licence_13
    exact (h.2 cx0).elim
  · refine lv_i2l hx hb dL_licence_6 rfl ?_
    refine gs_83 (x := r2) hC hI rfl (by unfold vp_in; decide) dL_licence_7 (fun s4 H locs es4 hI => ?_)
    have h := h s4 es4
    refine lv_goto (tgt := 14) hx hb dL_licence_8 (by decide) ?_
    refine lv_iconst (v := 0) hx hb dL_licence_14 (by decide) ?_
    exact g_iret hC hr hlocks hI h dL_licence_15
