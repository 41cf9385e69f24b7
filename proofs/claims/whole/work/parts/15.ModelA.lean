/-! 15.ModelA: printed by wip/gen/walk.py -/
theorem dX9_thrown_0 : decode cX9_thrown 0 = .ok (.aload_n 0, 1) := by decide +kernel
theorem dX9_thrown_1 : decode cX9_thrown 1 = .ok (.getfield 3, 3) := by decide +kernel
theorem dX9_thrown_4 : decode cX9_thrown 4 = .ok (.ireturn, 1) := by decide +kernel
def w_X9_thrown (Q : Int32 → gS → Prop) (σ : gS) : Prop :=
    Q (σ 63 0) σ
abbrev ws_X9_thrown : List Cond := Cond.code yX9_thrown cX9_thrown 1 (some .int) :: gG
abbrev rm_X9_thrown : Room := { frames := 0, cells := 0, slots := 0, locals := 0 }
theorem k_X9_thrown : gCV yX9_thrown RX9 cX9_thrown 1 (some .int) 0 := ⟨gw_4_179, gw_4_180, gw_1_11, gw_4_181, rfl, by decide +kernel⟩
set_option maxHeartbeats 4000000 in
set_option maxRecDepth 100000 in
theorem c_X9_thrown (l : Launch) (D : va_G) (cy : Nat → ClassId) (ad : Nat → Nat) (A : Nat → Prop) (Q : Int32 → gS → Prop) (σ : gS) (h : w_X9_thrown Q σ) : Met l yX9_thrown ws_X9_thrown rm_X9_thrown (va_Pc [.ref (ad 10)] (gB D cy ad A σ)) (va_Qi Q (gB D cy ad A) A) 0 0 A := by
  refine Met.ofW (cc := cX9_thrown) (maxL := 1) (ret := (some .int)) (by decide) rfl ?_
  intro p e s m args below meth c s₁ B hml hv
  obtain ⟨rfl, hB⟩ := hv
  have hC : gC p c cX9_thrown s m ([.ref (ad 10)] : List Value).toArray RX9 D cy ad A := g_start B hB
  have hI := g_first hB
  have hx := hC.1
  have hb := hC.2.1
  have hr := B.returns
  have hlocks := B.notSynchronized
  clear B hB
  have hl := lv_entry ([.ref (ad 10)]) (n := 1) (Nat.le_of_ble_eq_true rfl)
  rw [lg_entry_eq]
  generalize (lg_sl ([.ref (ad 10)]) ++ List.replicate (1 - (lg_sl ([.ref (ad 10)])).length) Slot.unset).toArray = ls at hl ⊢
  have hl : lv_has ls 1 [(0, .ref (ad 10))] := hl
  unfold w_X9_thrown at h
  refine lv_aload_n hx hb dX9_thrown_0 rfl (lv_at hl 0 rfl) ?_
  refine gg_X9_thrown hC hI gw_4_188 dX9_thrown_1 ?_
  exact g_iret hC hr hlocks hI h dX9_thrown_4

theorem dX9_throwsIf_0 : decode cX9_throwsIf 0 = .ok (.iload_n 1, 1) := by decide +kernel
theorem dX9_throwsIf_1 : decode cX9_throwsIf 1 = .ok (.ifCond .eq 8, 3) := by decide +kernel
theorem dX9_throwsIf_4 : decode cX9_throwsIf 4 = .ok (.aload_n 0, 1) := by decide +kernel
theorem dX9_throwsIf_5 : decode cX9_throwsIf 5 = .ok (.iload_n 2, 1) := by decide +kernel
theorem dX9_throwsIf_6 : decode cX9_throwsIf 6 = .ok (.putfield 3, 3) := by decide +kernel
theorem dX9_throwsIf_9 : decode cX9_throwsIf 9 = .ok (.iload_n 1, 1) := by decide +kernel
theorem dX9_throwsIf_10 : decode cX9_throwsIf 10 = .ok (.ireturn, 1) := by decide +kernel
def w_X9_throwsIf (Q : Int32 → gS → Prop) (σ : gS) (a1 : Int32) (a2 : Int32) : Prop :=
    (a1 = 0 → gz a1 ∧ Q a1 σ) ∧ (¬ a1 = 0 → ∀ s2 : gS, s2 = gu σ 63 0 a2 → gz a1 ∧ Q a1 s2)
abbrev ws_X9_throwsIf : List Cond := Cond.code yX9_throwsIf cX9_throwsIf 3 (some .boolean) :: gG
abbrev rm_X9_throwsIf : Room := { frames := 0, cells := 0, slots := 0, locals := 0 }
theorem k_X9_throwsIf : gCV yX9_throwsIf RX9 cX9_throwsIf 3 (some .boolean) 2 := ⟨gw_5_102, gwp_34, gw_1_11, gw_5_103, rfl, by decide +kernel⟩
set_option maxHeartbeats 4000000 in
set_option maxRecDepth 100000 in
theorem c_X9_throwsIf (l : Launch) (D : va_G) (cy : Nat → ClassId) (ad : Nat → Nat) (A : Nat → Prop) (Q : Int32 → gS → Prop) (σ : gS) (a1 : Int32) (a2 : Int32) (h : w_X9_throwsIf Q σ a1 a2) : Met l yX9_throwsIf ws_X9_throwsIf rm_X9_throwsIf (va_Pc [.ref (ad 10), .int a1, .int a2] (gB D cy ad A σ)) (va_Qi Q (gB D cy ad A) A) 0 0 A := by
  refine Met.ofW (cc := cX9_throwsIf) (maxL := 3) (ret := (some .boolean)) (by decide) rfl ?_
  intro p e s m args below meth c s₁ B hml hv
  obtain ⟨rfl, hB⟩ := hv
  have hC : gC p c cX9_throwsIf s m ([.ref (ad 10), .int a1, .int a2] : List Value).toArray RX9 D cy ad A := g_start B hB
  have hI := g_first hB
  have hx := hC.1
  have hb := hC.2.1
  have hr := B.returns
  have hlocks := B.notSynchronized
  clear B hB
  have hl := lv_entry ([.ref (ad 10), .int a1, .int a2]) (n := 3) (Nat.le_of_ble_eq_true rfl)
  rw [lg_entry_eq]
  generalize (lg_sl ([.ref (ad 10), .int a1, .int a2]) ++ List.replicate (3 - (lg_sl ([.ref (ad 10), .int a1, .int a2])).length) Slot.unset).toArray = ls at hl ⊢
  have hl : lv_has ls 3 [(0, .ref (ad 10)), (1, .int a1), (2, .int a2)] := hl
  unfold w_X9_throwsIf at h
  refine lv_iload_n hx hb dX9_throwsIf_0 rfl (lv_at hl 1 rfl) ?_
  refine lv_if_eq (tgt := 9) hx hb dX9_throwsIf_1 (by decide) (fun c1 => ?_) (fun c1 => ?_)
  · have h := h.1 c1
    refine lv_iload_n hx hb dX9_throwsIf_9 rfl (lv_at hl 1 rfl) ?_
    exact g_zret hC hr hlocks h.1 hI h.2 dX9_throwsIf_10
  · have h := h.2 c1
    refine lv_aload_n hx hb dX9_throwsIf_4 rfl (lv_at hl 0 rfl) ?_
    refine lv_iload_n hx hb dX9_throwsIf_5 rfl (lv_at hl 2 rfl) ?_
    refine gp_X9_thrown hC hI gw_4_188 dX9_throwsIf_6 (fun s2 H locs es2 hI => ?_)
    have h := h s2 es2
    refine lv_iload_n hx hb dX9_throwsIf_9 rfl (lv_at hl 1 rfl) ?_
    exact g_zret hC hr hlocks h.1 hI h.2 dX9_throwsIf_10

theorem dX9_in_0 : decode cX9_in 0 = .ok (.iload_n 0, 1) := by decide +kernel
theorem dX9_in_1 : decode cX9_in 1 = .ok (.iload_n 1, 1) := by decide +kernel
theorem dX9_in_2 : decode cX9_in 2 = .ok (.if_icmp .lt 12, 3) := by decide +kernel
theorem dX9_in_5 : decode cX9_in 5 = .ok (.iload_n 0, 1) := by decide +kernel
theorem dX9_in_6 : decode cX9_in 6 = .ok (.iload_n 2, 1) := by decide +kernel
theorem dX9_in_7 : decode cX9_in 7 = .ok (.if_icmp .gt 7, 3) := by decide +kernel
theorem dX9_in_10 : decode cX9_in 10 = .ok (.iconst 1, 1) := by decide +kernel
theorem dX9_in_11 : decode cX9_in 11 = .ok (.goto 4, 3) := by decide +kernel
theorem dX9_in_14 : decode cX9_in 14 = .ok (.iconst 0, 1) := by decide +kernel
theorem dX9_in_15 : decode cX9_in 15 = .ok (.ireturn, 1) := by decide +kernel
def w_X9_in_14 (Q : Int32 → gS → Prop) (σ : gS) : Prop :=
    Q 0 σ
def w_X9_in (Q : Int32 → gS → Prop) (σ : gS) (a0 : Int32) (a1 : Int32) (a2 : Int32) : Prop :=
    (a0 < a1 → w_X9_in_14 Q σ) ∧ (¬ a0 < a1 → (a2 < a0 → w_X9_in_14 Q σ) ∧ (¬ a2 < a0 → Q 1 σ))
abbrev ws_X9_in : List Cond := Cond.code yX9_in cX9_in 3 (some .boolean) :: gG
abbrev rm_X9_in : Room := { frames := 0, cells := 0, slots := 0, locals := 0 }
theorem k_X9_in : gCS yX9_in cX9_in 3 (some .boolean) 3 := ⟨gw_5_98, gw_1_11, gw_5_99, by decide +kernel⟩
set_option maxHeartbeats 4000000 in
set_option maxRecDepth 100000 in
theorem c_X9_in (l : Launch) (D : va_G) (cy : Nat → ClassId) (ad : Nat → Nat) (A : Nat → Prop) (Q : Int32 → gS → Prop) (σ : gS) (a0 : Int32) (a1 : Int32) (a2 : Int32) (h : w_X9_in Q σ a0 a1 a2) : Met l yX9_in ws_X9_in rm_X9_in (va_Pc [.int a0, .int a1, .int a2] (gB D cy ad A σ)) (va_Qi Q (gB D cy ad A) A) 0 0 A := by
  refine Met.ofW (cc := cX9_in) (maxL := 3) (ret := (some .boolean)) (by decide) rfl ?_
  intro p e s m args below meth c s₁ B hml hv
  obtain ⟨rfl, hB⟩ := hv
  have hC : gC p c cX9_in s m ([.int a0, .int a1, .int a2] : List Value).toArray RX9 D cy ad A := g_start B hB
  have hI := g_first hB
  have hx := hC.1
  have hb := hC.2.1
  have hr := B.returns
  have hlocks := B.notSynchronized
  clear B hB
  have J14 : ∀ (σ : gS) (H : Heap) (locs : List Loc) (ls : Array Slot), w_X9_in_14 Q σ → gI D cy ad A s.heap σ H locs → lv_has ls 3 [] → W p l e (headSpec ws_X9_in rm_X9_in).room s m ([.int a0, .int a1, .int a2] : List Value).toArray below meth c H locs 0 0 (MQ below (va_Qi Q (gB D cy ad A) A) ([.int a0, .int a1, .int a2] : List Value).toArray s 0 0 A) (F0 m 14 ls []) := by
    intro σ H locs ls h hI hl
    unfold w_X9_in_14 at h
    refine lv_iconst (v := 0) hx hb dX9_in_14 (by decide) ?_
    exact g_zret hC hr hlocks rfl hI h dX9_in_15
  have hl := lv_entry ([.int a0, .int a1, .int a2]) (n := 3) (Nat.le_of_ble_eq_true rfl)
  rw [lg_entry_eq]
  generalize (lg_sl ([.int a0, .int a1, .int a2]) ++ List.replicate (3 - (lg_sl ([.int a0, .int a1, .int a2])).length) Slot.unset).toArray = ls at hl ⊢
  have hl : lv_has ls 3 [(0, .int a0), (1, .int a1), (2, .int a2)] := hl
  unfold w_X9_in at h
  refine lv_iload_n hx hb dX9_in_0 rfl (lv_at hl 0 rfl) ?_
  refine lv_iload_n hx hb dX9_in_1 rfl (lv_at hl 1 rfl) ?_
  refine lv_icmp_lt (tgt := 14) hx hb dX9_in_2 (by decide) (fun c1 => ?_) (fun c1 => ?_)
  · have h := h.1 c1
    exact J14 _ _ _ _ h hI (lv_sub hl [] rfl)
  · have h := h.2 c1
    refine lv_iload_n hx hb dX9_in_5 rfl (lv_at hl 0 rfl) ?_
    refine lv_iload_n hx hb dX9_in_6 rfl (lv_at hl 2 rfl) ?_
    refine lv_icmp_gt (tgt := 14) hx hb dX9_in_7 (by decide) (fun c2 => ?_) (fun c2 => ?_)
    · have h := h.1 c2
      exact J14 _ _ _ _ h hI (lv_sub hl [] rfl)
    · have h := h.2 c2
      refine lv_iconst (v := 1) hx hb dX9_in_10 (by decide) ?_
      refine lv_goto (tgt := 15) hx hb dX9_in_11 (by decide) ?_
      exact g_zret hC hr hlocks rfl hI h dX9_in_15

theorem dX9_noSquare_0 : decode cX9_noSquare 0 = .ok (.iload_n 0, 1) := by decide +kernel
theorem dX9_noSquare_1 : decode cX9_noSquare 1 = .ok (.iconst 0, 1) := by decide +kernel
theorem dX9_noSquare_2 : decode cX9_noSquare 2 = .ok (.sipush 191, 3) := by decide +kernel
theorem dX9_noSquare_5 : decode cX9_noSquare 5 = .ok (.invokestatic 115, 3) := by decide +kernel
theorem dX9_noSquare_8 : decode cX9_noSquare 8 = .ok (.ifCond .ne 7, 3) := by decide +kernel
theorem dX9_noSquare_11 : decode cX9_noSquare 11 = .ok (.iconst 1, 1) := by decide +kernel
theorem dX9_noSquare_12 : decode cX9_noSquare 12 = .ok (.goto 4, 3) := by decide +kernel
theorem dX9_noSquare_15 : decode cX9_noSquare 15 = .ok (.iconst 0, 1) := by decide +kernel
theorem dX9_noSquare_16 : decode cX9_noSquare 16 = .ok (.ireturn, 1) := by decide +kernel
def w_X9_noSquare (Q : Int32 → gS → Prop) (σ : gS) (a0 : Int32) : Prop :=
    w_X9_in  (fun (r2 : Int32) (s1 : gS) => (¬ r2 = 0 → Q 0 s1) ∧ (r2 = 0 → Q 1 s1)) σ a0 0 191
abbrev ws_X9_noSquare : List Cond := Cond.code yX9_noSquare cX9_noSquare 1 (some .boolean) :: gG
abbrev rm_X9_noSquare : Room := { frames := 1, cells := 0, slots := 0, locals := 22 }
theorem k_X9_noSquare : gCS yX9_noSquare cX9_noSquare 1 (some .boolean) 1 := ⟨gw_5_95, gw_1_11, gw_5_96, by decide +kernel⟩
set_option maxHeartbeats 4000000 in
set_option maxRecDepth 100000 in
theorem c_X9_noSquare (l : Launch) (D : va_G) (cy : Nat → ClassId) (ad : Nat → Nat) (A : Nat → Prop) (Q : Int32 → gS → Prop) (σ : gS) (a0 : Int32) (h : w_X9_noSquare Q σ a0) : Met l yX9_noSquare ws_X9_noSquare rm_X9_noSquare (va_Pc [.int a0] (gB D cy ad A σ)) (va_Qi Q (gB D cy ad A) A) 0 0 A := by
  refine Met.ofW (cc := cX9_noSquare) (maxL := 1) (ret := (some .boolean)) (by decide) rfl ?_
  intro p e s m args below meth c s₁ B hml hv
  obtain ⟨rfl, hB⟩ := hv
  have hC : gC p c cX9_noSquare s m ([.int a0] : List Value).toArray RX9 D cy ad A := g_start B hB
  have hI := g_first hB
  have hx := hC.1
  have hb := hC.2.1
  have hr := B.returns
  have hlocks := B.notSynchronized
  clear B hB
  have hl := lv_entry ([.int a0]) (n := 1) (Nat.le_of_ble_eq_true rfl)
  rw [lg_entry_eq]
  generalize (lg_sl ([.int a0]) ++ List.replicate (1 - (lg_sl ([.int a0])).length) Slot.unset).toArray = ls at hl ⊢
  have hl : lv_has ls 1 [(0, .int a0)] := hl
  unfold w_X9_noSquare at h
  refine lv_iload_n hx hb dX9_noSquare_0 rfl (lv_at hl 0 rfl) ?_
  refine lv_iconst (v := 0) hx hb dX9_noSquare_1 (by decide) ?_
  refine lv_sipush (v := 191) hx hb dX9_noSquare_2 (by decide) ?_
  refine g_backi hI (g_runS (As := [.int a0, .int 0, .int 191]) (rest := []) hC hml hI (c_X9_in l D cy ad A _  _ _ _ _ h) k_X9_in gw_5_97 ⟨rfl, rfl⟩ ⟨Nat.le_of_ble_eq_true rfl, Nat.le_of_ble_eq_true rfl⟩ rfl hl.1 rfl (Nat.le_of_ble_eq_true rfl) dX9_noSquare_5 ⟨Nat.le_of_ble_eq_true rfl, Nat.le_of_ble_eq_true rfl⟩) (fun r2 s1 H locs h hI => ?_)
  refine lv_if_ne (tgt := 15) hx hb dX9_noSquare_8 (by decide) (fun c3 => ?_) (fun c3 => ?_)
  · have h := h.1 c3
    refine lv_iconst (v := 0) hx hb dX9_noSquare_15 (by decide) ?_
    exact g_zret hC hr hlocks rfl hI h dX9_noSquare_16
  · have h := h.2 c3
    refine lv_iconst (v := 1) hx hb dX9_noSquare_11 (by decide) ?_
    refine lv_goto (tgt := 16) hx hb dX9_noSquare_12 (by decide) ?_
    exact g_zret hC hr hlocks rfl hI h dX9_noSquare_16

theorem dX9_lane_0 : decode cX9_lane 0 = .ok (.aload_n 0, 1) := by decide +kernel
theorem dX9_lane_1 : decode cX9_lane 1 = .ok (.iconst 0, 1) := by decide +kernel
theorem dX9_lane_2 : decode cX9_lane 2 = .ok (.putfield 3, 3) := by decide +kernel
theorem dX9_lane_5 : decode cX9_lane 5 = .ok (.aload_n 0, 1) := by decide +kernel
theorem dX9_lane_6 : decode cX9_lane 6 = .ok (.iload_n 1, 1) := by decide +kernel
theorem dX9_lane_7 : decode cX9_lane 7 = .ok (.invokestatic 119, 3) := by decide +kernel
theorem dX9_lane_10 : decode cX9_lane 10 = .ok (.iconst 1, 1) := by decide +kernel
theorem dX9_lane_11 : decode cX9_lane 11 = .ok (.invokevirtual 123, 3) := by decide +kernel
theorem dX9_lane_14 : decode cX9_lane 14 = .ok (.ifCond .ne 22, 3) := by decide +kernel
theorem dX9_lane_17 : decode cX9_lane 17 = .ok (.aload_n 0, 1) := by decide +kernel
theorem dX9_lane_18 : decode cX9_lane 18 = .ok (.getfield 13, 3) := by decide +kernel
theorem dX9_lane_21 : decode cX9_lane 21 = .ok (.iload_n 1, 1) := by decide +kernel
theorem dX9_lane_22 : decode cX9_lane 22 = .ok (.iaload, 1) := by decide +kernel
theorem dX9_lane_23 : decode cX9_lane 23 = .ok (.iload_n 2, 1) := by decide +kernel
theorem dX9_lane_24 : decode cX9_lane 24 = .ok (.ifCond .eq 7, 3) := by decide +kernel
theorem dX9_lane_27 : decode cX9_lane 27 = .ok (.iconst (-1), 1) := by decide +kernel
theorem dX9_lane_28 : decode cX9_lane 28 = .ok (.goto 5, 3) := by decide +kernel
theorem dX9_lane_31 : decode cX9_lane 31 = .ok (.bipush (-2), 2) := by decide +kernel
theorem dX9_lane_33 : decode cX9_lane 33 = .ok (.if_icmp .eq 5, 3) := by decide +kernel
theorem dX9_lane_36 : decode cX9_lane 36 = .ok (.iconst 0, 1) := by decide +kernel
theorem dX9_lane_37 : decode cX9_lane 37 = .ok (.ireturn, 1) := by decide +kernel
theorem dX9_lane_38 : decode cX9_lane 38 = .ok (.aload_n 0, 1) := by decide +kernel
theorem dX9_lane_39 : decode cX9_lane 39 = .ok (.getfield 13, 3) := by decide +kernel
theorem dX9_lane_42 : decode cX9_lane 42 = .ok (.iload_n 1, 1) := by decide +kernel
theorem dX9_lane_43 : decode cX9_lane 43 = .ok (.iload_n 2, 1) := by decide +kernel
theorem dX9_lane_44 : decode cX9_lane 44 = .ok (.ifCond .eq 8, 3) := by decide +kernel
theorem dX9_lane_47 : decode cX9_lane 47 = .ok (.bipush (-2), 2) := by decide +kernel
theorem dX9_lane_49 : decode cX9_lane 49 = .ok (.goto 4, 3) := by decide +kernel
theorem dX9_lane_52 : decode cX9_lane 52 = .ok (.iconst (-1), 1) := by decide +kernel
theorem dX9_lane_53 : decode cX9_lane 53 = .ok (.iastore, 1) := by decide +kernel
theorem dX9_lane_54 : decode cX9_lane 54 = .ok (.iconst 1, 1) := by decide +kernel
theorem dX9_lane_55 : decode cX9_lane 55 = .ok (.ireturn, 1) := by decide +kernel
def w_X9_lane_33 (Q : Int32 → gS → Prop) (x1 : Int32) (x2 : Int32) (v0 : Int32) (v1 : Int32) (σ : gS) : Prop :=
    (v1 = v0 → (x2 = 0 → vp_in x1 192 ∧ ∀ s5 : gS, s5 = gu σ 64 x1.toNatClampNeg (-1) → Q 1 s5) ∧ (¬ x2 = 0 → vp_in x1 192 ∧ ∀ s7 : gS, s7 = gu σ 64 x1.toNatClampNeg (-2) → Q 1 s7)) ∧ (¬ v1 = v0 → Q 0 σ)
def w_X9_lane (Q : Int32 → gS → Prop) (σ : gS) (a1 : Int32) (a2 : Int32) : Prop :=
    ∀ s8 : gS, s8 = gu σ 63 0 0 → w_X9_noSquare  (fun (r10 : Int32) (s9 : gS) => w_X9_throwsIf  (fun (r12 : Int32) (s11 : gS) => (¬ r12 = 0 → Q 0 s11) ∧ (r12 = 0 → vp_in a1 192 ∧ (a2 = 0 → w_X9_lane_33 Q a1 a2 (-2) (s11 64 a1.toNatClampNeg) s11) ∧ (¬ a2 = 0 → w_X9_lane_33 Q a1 a2 (-1) (s11 64 a1.toNatClampNeg) s11))) s9 r10 1) s8 a1
abbrev ws_X9_lane : List Cond := Cond.code yX9_lane cX9_lane 3 (some .boolean) :: gG
abbrev rm_X9_lane : Room := { frames := 2, cells := 0, slots := 0, locals := 42 }
theorem k_X9_lane : gCV yX9_lane RX9 cX9_lane 3 (some .boolean) 2 := ⟨gw_5_91, gw_5_92, gw_1_11, gw_5_93, rfl, by decide +kernel⟩
set_option maxHeartbeats 4000000 in
set_option maxRecDepth 100000 in
theorem c_X9_lane (l : Launch) (D : va_G) (cy : Nat → ClassId) (ad : Nat → Nat) (A : Nat → Prop) (Q : Int32 → gS → Prop) (σ : gS) (a1 : Int32) (a2 : Int32) (h : w_X9_lane Q σ a1 a2) : Met l yX9_lane ws_X9_lane rm_X9_lane (va_Pc [.ref (ad 10), .int a1, .int a2] (gB D cy ad A σ)) (va_Qi Q (gB D cy ad A) A) 0 0 A := by
  refine Met.ofW (cc := cX9_lane) (maxL := 3) (ret := (some .boolean)) (by decide) rfl ?_
  intro p e s m args below meth c s₁ B hml hv
  obtain ⟨rfl, hB⟩ := hv
  have hC : gC p c cX9_lane s m ([.ref (ad 10), .int a1, .int a2] : List Value).toArray RX9 D cy ad A := g_start B hB
  have hI := g_first hB
  have hx := hC.1
  have hb := hC.2.1
  have hr := B.returns
  have hlocks := B.notSynchronized
  clear B hB
  have J33 : ∀ (x1 : Int32) (x2 : Int32) (v0 : Int32) (v1 : Int32) (σ : gS) (H : Heap) (locs : List Loc) (ls : Array Slot), w_X9_lane_33 Q x1 x2 v0 v1 σ → gI D cy ad A s.heap σ H locs → lv_has ls 3 [(0, .ref (ad 10)), (1, .int x1), (2, .int x2)] → W p l e (headSpec ws_X9_lane rm_X9_lane).room s m ([.ref (ad 10), .int a1, .int a2] : List Value).toArray below meth c H locs 0 0 (MQ below (va_Qi Q (gB D cy ad A) A) ([.ref (ad 10), .int a1, .int a2] : List Value).toArray s 0 0 A) (F0 m 33 ls [.int v0, .int v1]) := by
    intro x1 x2 v0 v1 σ H locs ls h hI hl
    unfold w_X9_lane_33 at h
    refine lv_icmp_eq (tgt := 38) hx hb dX9_lane_33 (by decide) (fun c2 => ?_) (fun c2 => ?_)
    · have h := h.1 c2
      refine lv_aload_n hx hb dX9_lane_38 rfl (lv_at hl 0 rfl) ?_
      refine gg_X9_on hC hI gw_4_189 dX9_lane_39 ?_
      refine lv_iload_n hx hb dX9_lane_42 rfl (lv_at hl 1 rfl) ?_
      refine lv_iload_n hx hb dX9_lane_43 rfl (lv_at hl 2 rfl) ?_
      refine lv_if_eq (tgt := 52) hx hb dX9_lane_44 (by decide) (fun c3 => ?_) (fun c3 => ?_)
      · have h := h.1 c3
        refine lv_iconst (v := (-1)) hx hb dX9_lane_52 (by decide) ?_
        obtain ⟨hi4, h⟩ := h
        refine gs_51 hC hI hi4 dX9_lane_53 (fun s5 H locs es5 hI => ?_)
        have h := h s5 es5
        refine lv_iconst (v := 1) hx hb dX9_lane_54 (by decide) ?_
        exact g_zret hC hr hlocks rfl hI h dX9_lane_55
      · have h := h.2 c3
        refine lv_bipush (v := (-2)) hx hb dX9_lane_47 (by decide) ?_
        refine lv_goto (tgt := 53) hx hb dX9_lane_49 (by decide) ?_
        obtain ⟨hi6, h⟩ := h
        refine gs_51 hC hI hi6 dX9_lane_53 (fun s7 H locs es7 hI => ?_)
        have h := h s7 es7
        refine lv_iconst (v := 1) hx hb dX9_lane_54 (by decide) ?_
        exact g_zret hC hr hlocks rfl hI h dX9_lane_55
    · have h := h.2 c2
      refine lv_iconst (v := 0) hx hb dX9_lane_36 (by decide) ?_
      exact g_zret hC hr hlocks rfl hI h dX9_lane_37
  have hl := lv_entry ([.ref (ad 10), .int a1, .int a2]) (n := 3) (Nat.le_of_ble_eq_true rfl)
  rw [lg_entry_eq]
  generalize (lg_sl ([.ref (ad 10), .int a1, .int a2]) ++ List.replicate (3 - (lg_sl ([.ref (ad 10), .int a1, .int a2])).length) Slot.unset).toArray = ls at hl ⊢
  have hl : lv_has ls 3 [(0, .ref (ad 10)), (1, .int a1), (2, .int a2)] := hl
  unfold w_X9_lane at h
  refine lv_aload_n hx hb dX9_lane_0 rfl (lv_at hl 0 rfl) ?_
  refine lv_iconst (v := 0) hx hb dX9_lane_1 (by decide) ?_
  refine gp_X9_thrown hC hI gw_4_188 dX9_lane_2 (fun s8 H locs es8 hI => ?_)
  have h := h s8 es8
  refine lv_aload_n hx hb dX9_lane_5 rfl (lv_at hl 0 rfl) ?_
  refine lv_iload_n hx hb dX9_lane_6 rfl (lv_at hl 1 rfl) ?_
  refine g_backi hI (g_runS (As := [.int a1]) (rest := [.ref (ad 10)]) hC hml hI (c_X9_noSquare l D cy ad A _  _ _ h) k_X9_noSquare gw_5_94 ⟨rfl, rfl⟩ ⟨Nat.le_of_ble_eq_true rfl, Nat.le_of_ble_eq_true rfl⟩ rfl hl.1 rfl (Nat.le_of_ble_eq_true rfl) dX9_lane_7 ⟨Nat.le_of_ble_eq_true rfl, Nat.le_of_ble_eq_true rfl⟩) (fun r10 s9 H locs h hI => ?_)
  refine lv_iconst (v := 1) hx hb dX9_lane_10 (by decide) ?_
  refine g_backi hI (g_runV (As := [.int r10, .int 1]) (rest := []) hC hml hI (c_X9_throwsIf l D cy ad A _  _ _ _ h) k_X9_throwsIf gw_5_100 ⟨rfl, rfl⟩ ⟨Nat.le_of_ble_eq_true rfl, Nat.le_of_ble_eq_true rfl⟩ (grv_10 hC hI) rfl hl.1 rfl (Nat.le_of_ble_eq_true rfl) dX9_lane_11 ⟨Nat.le_of_ble_eq_true rfl, Nat.le_of_ble_eq_true rfl⟩) (fun r12 s11 H locs h hI => ?_)
  refine lv_if_ne (tgt := 36) hx hb dX9_lane_14 (by decide) (fun c13 => ?_) (fun c13 => ?_)
  · have h := h.1 c13
    refine lv_iconst (v := 0) hx hb dX9_lane_36 (by decide) ?_
    exact g_zret hC hr hlocks rfl hI h dX9_lane_37
  · have h := h.2 c13
    refine lv_aload_n hx hb dX9_lane_17 rfl (lv_at hl 0 rfl) ?_
    refine gg_X9_on hC hI gw_4_189 dX9_lane_18 ?_
    refine lv_iload_n hx hb dX9_lane_21 rfl (lv_at hl 1 rfl) ?_
    obtain ⟨hi14, h⟩ := h
    refine ga_51 hC hI hi14 dX9_lane_22 ?_
    refine lv_iload_n hx hb dX9_lane_23 rfl (lv_at hl 2 rfl) ?_
    refine lv_if_eq (tgt := 31) hx hb dX9_lane_24 (by decide) (fun c15 => ?_) (fun c15 => ?_)
    · have h := h.1 c15
      refine lv_bipush (v := (-2)) hx hb dX9_lane_31 (by decide) ?_
      exact J33 _ _ _ _ _ _ _ _ h hI (lv_sub hl [0, 1, 2] rfl)
    · have h := h.2 c15
      refine lv_iconst (v := (-1)) hx hb dX9_lane_27 (by decide) ?_
      refine lv_goto (tgt := 33) hx hb dX9_lane_28 (by decide) ?_
      exact J33 _ _ _ _ _ _ _ _ h hI (lv_sub hl [0, 1, 2] rfl)

theorem dX9_gate_0 : decode cX9_gate 0 = .ok (.aload_n 0, 1) := by decide +kernel
theorem dX9_gate_1 : decode cX9_gate 1 = .ok (.iconst 0, 1) := by decide +kernel
theorem dX9_gate_2 : decode cX9_gate 2 = .ok (.putfield 3, 3) := by decide +kernel
theorem dX9_gate_5 : decode cX9_gate 5 = .ok (.aload_n 0, 1) := by decide +kernel
theorem dX9_gate_6 : decode cX9_gate 6 = .ok (.iload_n 1, 1) := by decide +kernel
theorem dX9_gate_7 : decode cX9_gate 7 = .ok (.invokestatic 119, 3) := by decide +kernel
theorem dX9_gate_10 : decode cX9_gate 10 = .ok (.iconst 1, 1) := by decide +kernel
theorem dX9_gate_11 : decode cX9_gate 11 = .ok (.invokevirtual 123, 3) := by decide +kernel
theorem dX9_gate_14 : decode cX9_gate 14 = .ok (.ifCond .eq 4, 3) := by decide +kernel
theorem dX9_gate_17 : decode cX9_gate 17 = .ok (.return_, 1) := by decide +kernel
theorem dX9_gate_18 : decode cX9_gate 18 = .ok (.aload_n 0, 1) := by decide +kernel
theorem dX9_gate_19 : decode cX9_gate 19 = .ok (.iload_n 1, 1) := by decide +kernel
theorem dX9_gate_20 : decode cX9_gate 20 = .ok (.putfield 127, 3) := by decide +kernel
theorem dX9_gate_23 : decode cX9_gate 23 = .ok (.return_, 1) := by decide +kernel
def w_X9_gate (Q : gS → Prop) (σ : gS) (a1 : Int32) : Prop :=
    ∀ s1 : gS, s1 = gu σ 63 0 0 → w_X9_noSquare  (fun (r3 : Int32) (s2 : gS) => w_X9_throwsIf  (fun (r5 : Int32) (s4 : gS) => (r5 = 0 → ∀ s7 : gS, s7 = gu s4 67 0 a1 → Q s7) ∧ (¬ r5 = 0 → Q s4)) s2 r3 1) s1 a1
abbrev ws_X9_gate : List Cond := Cond.code yX9_gate cX9_gate 2 none :: gG
abbrev rm_X9_gate : Room := { frames := 2, cells := 0, slots := 0, locals := 42 }
theorem k_X9_gate : gCV yX9_gate RX9 cX9_gate 2 none 1 := ⟨gw_5_105, gw_5_106, gw_1_11, gw_5_107, rfl, by decide +kernel⟩
set_option maxHeartbeats 4000000 in
set_option maxRecDepth 100000 in
theorem c_X9_gate (l : Launch) (D : va_G) (cy : Nat → ClassId) (ad : Nat → Nat) (A : Nat → Prop) (Q : gS → Prop) (σ : gS) (a1 : Int32) (h : w_X9_gate Q σ a1) : Met l yX9_gate ws_X9_gate rm_X9_gate (va_Pc [.ref (ad 10), .int a1] (gB D cy ad A σ)) (va_Qv Q (gB D cy ad A) A) 0 0 A := by
  refine Met.ofW (cc := cX9_gate) (maxL := 2) (ret := none) (by decide) rfl ?_
  intro p e s m args below meth c s₁ B hml hv
  obtain ⟨rfl, hB⟩ := hv
  have hC : gC p c cX9_gate s m ([.ref (ad 10), .int a1] : List Value).toArray RX9 D cy ad A := g_start B hB
  have hI := g_first hB
  have hx := hC.1
  have hb := hC.2.1
  have hr := B.returns
  have hlocks := B.notSynchronized
  clear B hB
  have hl := lv_entry ([.ref (ad 10), .int a1]) (n := 2) (Nat.le_of_ble_eq_true rfl)
  rw [lg_entry_eq]
  generalize (lg_sl ([.ref (ad 10), .int a1]) ++ List.replicate (2 - (lg_sl ([.ref (ad 10), .int a1])).length) Slot.unset).toArray = ls at hl ⊢
  have hl : lv_has ls 2 [(0, .ref (ad 10)), (1, .int a1)] := hl
  unfold w_X9_gate at h
  refine lv_aload_n hx hb dX9_gate_0 rfl (lv_at hl 0 rfl) ?_
  refine lv_iconst (v := 0) hx hb dX9_gate_1 (by decide) ?_
  refine gp_X9_thrown hC hI gw_4_188 dX9_gate_2 (fun s1 H locs es1 hI => ?_)
  have h := h s1 es1
  refine lv_aload_n hx hb dX9_gate_5 rfl (lv_at hl 0 rfl) ?_
  refine lv_iload_n hx hb dX9_gate_6 rfl (lv_at hl 1 rfl) ?_
  refine g_backi hI (g_runS (As := [.int a1]) (rest := [.ref (ad 10)]) hC hml hI (c_X9_noSquare l D cy ad A _  _ _ h) k_X9_noSquare gw_5_94 ⟨rfl, rfl⟩ ⟨Nat.le_of_ble_eq_true rfl, Nat.le_of_ble_eq_true rfl⟩ rfl hl.1 rfl (Nat.le_of_ble_eq_true rfl) dX9_gate_7 ⟨Nat.le_of_ble_eq_true rfl, Nat.le_of_ble_eq_true rfl⟩) (fun r3 s2 H locs h hI => ?_)
  refine lv_iconst (v := 1) hx hb dX9_gate_10 (by decide) ?_
  refine g_backi hI (g_runV (As := [.int r3, .int 1]) (rest := []) hC hml hI (c_X9_throwsIf l D cy ad A _  _ _ _ h) k_X9_throwsIf gw_5_100 ⟨rfl, rfl⟩ ⟨Nat.le_of_ble_eq_true rfl, Nat.le_of_ble_eq_true rfl⟩ (grv_10 hC hI) rfl hl.1 rfl (Nat.le_of_ble_eq_true rfl) dX9_gate_11 ⟨Nat.le_of_ble_eq_true rfl, Nat.le_of_ble_eq_true rfl⟩) (fun r5 s4 H locs h hI => ?_)
  refine lv_if_eq (tgt := 18) hx hb dX9_gate_14 (by decide) (fun c6 => ?_) (fun c6 => ?_)
  · have h := h.1 c6
    refine lv_aload_n hx hb dX9_gate_18 rfl (lv_at hl 0 rfl) ?_
    refine lv_iload_n hx hb dX9_gate_19 rfl (lv_at hl 1 rfl) ?_
    refine gp_X9_gate hC hI gw_4_192 dX9_gate_20 (fun s7 H locs es7 hI => ?_)
    have h := h s7 es7
    exact g_vret hC hr hlocks hI h dX9_gate_23
  · have h := h.2 c6
    exact g_vret hC hr hlocks hI h dX9_gate_17

theorem dX9_isFree_0 : decode cX9_isFree 0 = .ok (.iload_n 1, 1) := by decide +kernel
theorem dX9_isFree_1 : decode cX9_isFree 1 = .ok (.bipush 16, 2) := by decide +kernel
theorem dX9_isFree_3 : decode cX9_isFree 3 = .ok (.irem, 1) := by decide +kernel
theorem dX9_isFree_4 : decode cX9_isFree 4 = .ok (.iload_n 2, 1) := by decide +kernel
theorem dX9_isFree_5 : decode cX9_isFree 5 = .ok (.iadd, 1) := by decide +kernel
theorem dX9_isFree_6 : decode cX9_isFree 6 = .ok (.bipush 16, 2) := by decide +kernel
theorem dX9_isFree_8 : decode cX9_isFree 8 = .ok (.if_icmp .gt 14, 3) := by decide +kernel
theorem dX9_isFree_11 : decode cX9_isFree 11 = .ok (.iload_n 1, 1) := by decide +kernel
theorem dX9_isFree_12 : decode cX9_isFree 12 = .ok (.bipush 16, 2) := by decide +kernel
theorem dX9_isFree_14 : decode cX9_isFree 14 = .ok (.idiv, 1) := by decide +kernel
theorem dX9_isFree_15 : decode cX9_isFree 15 = .ok (.iload_n 3, 1) := by decide +kernel
theorem dX9_isFree_16 : decode cX9_isFree 16 = .ok (.iadd, 1) := by decide +kernel
theorem dX9_isFree_17 : decode cX9_isFree 17 = .ok (.bipush 12, 2) := by decide +kernel
theorem dX9_isFree_19 : decode cX9_isFree 19 = .ok (.if_icmp .le 5, 3) := by decide +kernel
theorem dX9_isFree_22 : decode cX9_isFree 22 = .ok (.iconst 0, 1) := by decide +kernel
theorem dX9_isFree_23 : decode cX9_isFree 23 = .ok (.ireturn, 1) := by decide +kernel
theorem dX9_isFree_24 : decode cX9_isFree 24 = .ok (.iconst 1, 1) := by decide +kernel
theorem dX9_isFree_25 : decode cX9_isFree 25 = .ok (.istore 4, 2) := by decide +kernel
theorem dX9_isFree_27 : decode cX9_isFree 27 = .ok (.iconst 0, 1) := by decide +kernel
theorem dX9_isFree_28 : decode cX9_isFree 28 = .ok (.istore 5, 2) := by decide +kernel
theorem dX9_isFree_30 : decode cX9_isFree 30 = .ok (.iload 5, 2) := by decide +kernel
theorem dX9_isFree_32 : decode cX9_isFree 32 = .ok (.iload_n 3, 1) := by decide +kernel
theorem dX9_isFree_33 : decode cX9_isFree 33 = .ok (.if_icmp .ge 55, 3) := by decide +kernel
theorem dX9_isFree_36 : decode cX9_isFree 36 = .ok (.iconst 0, 1) := by decide +kernel
theorem dX9_isFree_37 : decode cX9_isFree 37 = .ok (.istore 6, 2) := by decide +kernel
theorem dX9_isFree_39 : decode cX9_isFree 39 = .ok (.iload 6, 2) := by decide +kernel
theorem dX9_isFree_41 : decode cX9_isFree 41 = .ok (.iload_n 2, 1) := by decide +kernel
theorem dX9_isFree_42 : decode cX9_isFree 42 = .ok (.if_icmp .ge 40, 3) := by decide +kernel
theorem dX9_isFree_45 : decode cX9_isFree 45 = .ok (.iload 4, 2) := by decide +kernel
theorem dX9_isFree_47 : decode cX9_isFree 47 = .ok (.ifCond .eq 26, 3) := by decide +kernel
theorem dX9_isFree_50 : decode cX9_isFree 50 = .ok (.aload_n 0, 1) := by decide +kernel
theorem dX9_isFree_51 : decode cX9_isFree 51 = .ok (.getfield 13, 3) := by decide +kernel
theorem dX9_isFree_54 : decode cX9_isFree 54 = .ok (.iload_n 1, 1) := by decide +kernel
theorem dX9_isFree_55 : decode cX9_isFree 55 = .ok (.bipush 16, 2) := by decide +kernel
theorem dX9_isFree_57 : decode cX9_isFree 57 = .ok (.iload 5, 2) := by decide +kernel
theorem dX9_isFree_59 : decode cX9_isFree 59 = .ok (.imul, 1) := by decide +kernel
theorem dX9_isFree_60 : decode cX9_isFree 60 = .ok (.iadd, 1) := by decide +kernel
theorem dX9_isFree_61 : decode cX9_isFree 61 = .ok (.iload 6, 2) := by decide +kernel
theorem dX9_isFree_63 : decode cX9_isFree 63 = .ok (.iadd, 1) := by decide +kernel
theorem dX9_isFree_64 : decode cX9_isFree 64 = .ok (.iaload, 1) := by decide +kernel
theorem dX9_isFree_65 : decode cX9_isFree 65 = .ok (.iconst (-1), 1) := by decide +kernel
theorem dX9_isFree_66 : decode cX9_isFree 66 = .ok (.if_icmp .ne 7, 3) := by decide +kernel
theorem dX9_isFree_69 : decode cX9_isFree 69 = .ok (.iconst 1, 1) := by decide +kernel
theorem dX9_isFree_70 : decode cX9_isFree 70 = .ok (.goto 4, 3) := by decide +kernel
theorem dX9_isFree_73 : decode cX9_isFree 73 = .ok (.iconst 0, 1) := by decide +kernel
theorem dX9_isFree_74 : decode cX9_isFree 74 = .ok (.istore 4, 2) := by decide +kernel
theorem dX9_isFree_76 : decode cX9_isFree 76 = .ok (.iinc 6 1, 3) := by decide +kernel
theorem dX9_isFree_79 : decode cX9_isFree 79 = .ok (.goto (-40), 3) := by decide +kernel
theorem dX9_isFree_82 : decode cX9_isFree 82 = .ok (.iinc 5 1, 3) := by decide +kernel
theorem dX9_isFree_85 : decode cX9_isFree 85 = .ok (.goto (-55), 3) := by decide +kernel
theorem dX9_isFree_88 : decode cX9_isFree 88 = .ok (.iload 4, 2) := by decide +kernel
theorem dX9_isFree_90 : decode cX9_isFree 90 = .ok (.ireturn, 1) := by decide +kernel
def w_X9_isFree_73 (Q : Int32 → gS → Prop) (k30 : Int32 → Int32 → Int32 → Int32 → Int32 → gS → Prop) (k39 : Int32 → Int32 → Int32 → Int32 → Int32 → Int32 → gS → Prop) (x1 : Int32) (x2 : Int32) (x3 : Int32) (x5 : Int32) (x6 : Int32) (σ : gS) : Prop :=
    ∀ y2 : Int32, y2 = x6 + 1 → k39 x1 x2 x3 0 x5 y2 σ
def w_X9_isFree_39 (Q : Int32 → gS → Prop) (k30 : Int32 → Int32 → Int32 → Int32 → Int32 → gS → Prop) : Nat → Int32 → Int32 → Int32 → Int32 → Int32 → Int32 → gS → Prop
  | 0, _, _, _, _, _, _, _ => False
  | n39 + 1, x1, x2, x3, x4, x5, x6, σ =>
    (x2 ≤ x6 → ∀ y4 : Int32, y4 = x5 + 1 → k30 x1 x2 x3 x4 y4 σ) ∧ (¬ x2 ≤ x6 → (x4 = 0 → w_X9_isFree_73 Q k30 (w_X9_isFree_39 Q k30 n39) x1 x2 x3 x5 x6 σ) ∧ (¬ x4 = 0 → vp_in ((x1 + (16 * x5)) + x6) 192 ∧ (¬ (σ 64 ((x1 + (16 * x5)) + x6).toNatClampNeg) = (-1) → w_X9_isFree_73 Q k30 (w_X9_isFree_39 Q k30 n39) x1 x2 x3 x5 x6 σ) ∧ ((σ 64 ((x1 + (16 * x5)) + x6).toNatClampNeg) = (-1) → ∀ y8 : Int32, y8 = x6 + 1 → w_X9_isFree_39 Q k30 n39 x1 x2 x3 1 x5 y8 σ)))
def w_X9_isFree_30 (Q : Int32 → gS → Prop) : Nat → Int32 → Int32 → Int32 → Int32 → Int32 → gS → Prop
  | 0, _, _, _, _, _, _ => False
  | n30 + 1, x1, x2, x3, x4, x5, σ =>
    (x3 ≤ x5 → gz x4 ∧ Q x4 σ) ∧ (¬ x3 ≤ x5 → ∃ n39, w_X9_isFree_39 Q (w_X9_isFree_30 Q n30) n39 x1 x2 x3 x4 x5 0 σ)
def w_X9_isFree (Q : Int32 → gS → Prop) (σ : gS) (a1 : Int32) (a2 : Int32) (a3 : Int32) : Prop :=
    (16 < ((a1 - a1 / 16 * 16) + a2) → Q 0 σ) ∧ (¬ 16 < ((a1 - a1 / 16 * 16) + a2) → (((a1 / 16) + a3) ≤ 12 → ∃ n30, w_X9_isFree_30 Q n30 a1 a2 a3 1 0 σ) ∧ (¬ ((a1 / 16) + a3) ≤ 12 → Q 0 σ))
abbrev ws_X9_isFree : List Cond := Cond.code yX9_isFree cX9_isFree 7 (some .boolean) :: gG
abbrev rm_X9_isFree : Room := { frames := 0, cells := 0, slots := 0, locals := 0 }
theorem k_X9_isFree : gCV yX9_isFree RX9 cX9_isFree 7 (some .boolean) 3 := ⟨gw_5_115, gwp_35, gw_1_11, gw_5_116, rfl, by decide +kernel⟩
set_option maxHeartbeats 4000000 in
set_option maxRecDepth 100000 in
theorem c_X9_isFree (l : Launch) (D : va_G) (cy : Nat → ClassId) (ad : Nat → Nat) (A : Nat → Prop) (Q : Int32 → gS → Prop) (σ : gS) (a1 : Int32) (a2 : Int32) (a3 : Int32) (h : w_X9_isFree Q σ a1 a2 a3) : Met l yX9_isFree ws_X9_isFree rm_X9_isFree (va_Pc [.ref (ad 10), .int a1, .int a2, .int a3] (gB D cy ad A σ)) (va_Qi Q (gB D cy ad A) A) 0 0 A := by
  refine Met.ofW (cc := cX9_isFree) (maxL := 7) (ret := (some .boolean)) (by decide) rfl ?_
  intro p e s m args below meth c s₁ B hml hv
  obtain ⟨rfl, hB⟩ := hv
  have hC : gC p c cX9_isFree s m ([.ref (ad 10), .int a1, .int a2, .int a3] : List Value).toArray RX9 D cy ad A := g_start B hB
  have hI := g_first hB
  have hx := hC.1
  have hb := hC.2.1
  have hr := B.returns
  have hlocks := B.notSynchronized
  clear B hB
  have J30 : ∀ (n30 : Nat) (x1 : Int32) (x2 : Int32) (x3 : Int32) (x4 : Int32) (x5 : Int32) (σ : gS) (H : Heap) (locs : List Loc) (ls : Array Slot), w_X9_isFree_30 Q n30 x1 x2 x3 x4 x5 σ → gI D cy ad A s.heap σ H locs → lv_has ls 7 [(0, .ref (ad 10)), (1, .int x1), (2, .int x2), (3, .int x3), (4, .int x4), (5, .int x5)] → W p l e (headSpec ws_X9_isFree rm_X9_isFree).room s m ([.ref (ad 10), .int a1, .int a2, .int a3] : List Value).toArray below meth c H locs 0 0 (MQ below (va_Qi Q (gB D cy ad A) A) ([.ref (ad 10), .int a1, .int a2, .int a3] : List Value).toArray s 0 0 A) (F0 m 30 ls []) := by
    intro n30
    induction n30 with
    | zero => intro x1 x2 x3 x4 x5 σ H locs ls h; exact absurd h (fun h => h)
    | succ n30 ih30 =>
      have J39 : ∀ (n39 : Nat) (x1 : Int32) (x2 : Int32) (x3 : Int32) (x4 : Int32) (x5 : Int32) (x6 : Int32) (σ : gS) (H : Heap) (locs : List Loc) (ls : Array Slot), w_X9_isFree_39 Q (w_X9_isFree_30 Q n30) n39 x1 x2 x3 x4 x5 x6 σ → gI D cy ad A s.heap σ H locs → lv_has ls 7 [(0, .ref (ad 10)), (1, .int x1), (2, .int x2), (3, .int x3), (4, .int x4), (5, .int x5), (6, .int x6)] → W p l e (headSpec ws_X9_isFree rm_X9_isFree).room s m ([.ref (ad 10), .int a1, .int a2, .int a3] : List Value).toArray below meth c H locs 0 0 (MQ below (va_Qi Q (gB D cy ad A) A) ([.ref (ad 10), .int a1, .int a2, .int a3] : List Value).toArray s 0 0 A) (F0 m 39 ls []) := by
        intro n39
        induction n39 with
        | zero => intro x1 x2 x3 x4 x5 x6 σ H locs ls h; exact absurd h (fun h => h)
        | succ n39 ih39 =>
          have J73 : ∀ (x1 : Int32) (x2 : Int32) (x3 : Int32) (x5 : Int32) (x6 : Int32) (σ : gS) (H : Heap) (locs : List Loc) (ls : Array Slot), w_X9_isFree_73 Q (w_X9_isFree_30 Q n30) (w_X9_isFree_39 Q (w_X9_isFree_30 Q n30) n39) x1 x2 x3 x5 x6 σ → gI D cy ad A s.heap σ H locs → lv_has ls 7 [(0, .ref (ad 10)), (1, .int x1), (2, .int x2), (3, .int x3), (5, .int x5), (6, .int x6)] → W p l e (headSpec ws_X9_isFree rm_X9_isFree).room s m ([.ref (ad 10), .int a1, .int a2, .int a3] : List Value).toArray below meth c H locs 0 0 (MQ below (va_Qi Q (gB D cy ad A) A) ([.ref (ad 10), .int a1, .int a2, .int a3] : List Value).toArray s 0 0 A) (F0 m 73 ls []) := by
            intro x1 x2 x3 x5 x6 σ H locs ls h hI hl
            unfold w_X9_isFree_73 at h
            refine lv_iconst (v := 0) hx hb dX9_isFree_73 (by decide) ?_
            refine lv_istore (lv' := [(4, .int 0), (0, .ref (ad 10)), (1, .int x1), (2, .int x2), (3, .int x3), (5, .int x5), (6, .int x6)]) hx hb dX9_isFree_74 hl (by decide) rfl (fun ls hl => ?_)
            obtain ⟨y2, ey2⟩ : ∃ y : Int32, y = x6 + 1 := ⟨_, rfl⟩
            have h := h y2 ey2
            refine lv_iinc (v := y2) (lv' := [(6, .int y2), (4, .int 0), (0, .ref (ad 10)), (1, .int x1), (2, .int x2), (3, .int x3), (5, .int x5)]) hx hb dX9_isFree_76 hl (k := 6) rfl (by rw [ey2]; rfl) (by decide) rfl (fun ls hl => ?_)
            refine lv_goto (tgt := 39) hx hb dX9_isFree_79 (by decide) ?_
            exact ih39 _ _ _ _ _ _ _ _ _ _ h hI (lv_sub hl [2, 3, 4, 5, 1, 6, 0] rfl)
          intro x1 x2 x3 x4 x5 x6 σ H locs ls h hI hl
          unfold w_X9_isFree_39 at h
          refine lv_iload hx hb dX9_isFree_39 (lv_at hl 6 rfl) ?_
          refine lv_iload_n hx hb dX9_isFree_41 rfl (lv_at hl 2 rfl) ?_
          refine lv_icmp_ge (tgt := 82) hx hb dX9_isFree_42 (by decide) (fun c3 => ?_) (fun c3 => ?_)
          · have h := h.1 c3
            obtain ⟨y4, ey4⟩ : ∃ y : Int32, y = x5 + 1 := ⟨_, rfl⟩
            have h := h y4 ey4
            refine lv_iinc (v := y4) (lv' := [(5, .int y4), (0, .ref (ad 10)), (1, .int x1), (2, .int x2), (3, .int x3), (4, .int x4), (6, .int x6)]) hx hb dX9_isFree_82 hl (k := 5) rfl (by rw [ey4]; rfl) (by decide) rfl (fun ls hl => ?_)
            refine lv_goto (tgt := 30) hx hb dX9_isFree_85 (by decide) ?_
            exact ih30 _ _ _ _ _ _ _ _ _ h hI (lv_sub hl [1, 2, 3, 4, 5, 0] rfl)
          · have h := h.2 c3
            refine lv_iload hx hb dX9_isFree_45 (lv_at hl 4 rfl) ?_
            refine lv_if_eq (tgt := 73) hx hb dX9_isFree_47 (by decide) (fun c5 => ?_) (fun c5 => ?_)
            · have h := h.1 c5
              exact J73 _ _ _ _ _ _ _ _ _ h hI (lv_sub hl [0, 1, 2, 3, 5, 6] rfl)
            · have h := h.2 c5
              refine lv_aload_n hx hb dX9_isFree_50 rfl (lv_at hl 0 rfl) ?_
              refine gg_X9_on hC hI gw_4_189 dX9_isFree_51 ?_
              refine lv_iload_n hx hb dX9_isFree_54 rfl (lv_at hl 1 rfl) ?_
              refine lv_bipush (v := 16) hx hb dX9_isFree_55 (by decide) ?_
              refine lv_iload hx hb dX9_isFree_57 (lv_at hl 5 rfl) ?_
              refine lv_imul hx hb dX9_isFree_59 ?_
              refine lv_iadd hx hb dX9_isFree_60 ?_
              refine lv_iload hx hb dX9_isFree_61 (lv_at hl 6 rfl) ?_
              refine lv_iadd hx hb dX9_isFree_63 ?_
              obtain ⟨hi6, h⟩ := h
              refine ga_51 hC hI hi6 dX9_isFree_64 ?_
              refine lv_iconst (v := (-1)) hx hb dX9_isFree_65 (by decide) ?_
              refine lv_icmp_ne (tgt := 73) hx hb dX9_isFree_66 (by decide) (fun c7 => ?_) (fun c7 => ?_)
              · have h := h.1 c7
                exact J73 _ _ _ _ _ _ _ _ _ h hI (lv_sub hl [0, 1, 2, 3, 5, 6] rfl)
              · have h := h.2 c7
                refine lv_iconst (v := 1) hx hb dX9_isFree_69 (by decide) ?_
                refine lv_goto (tgt := 74) hx hb dX9_isFree_70 (by decide) ?_
                refine lv_istore (lv' := [(4, .int 1), (0, .ref (ad 10)), (1, .int x1), (2, .int x2), (3, .int x3), (5, .int x5), (6, .int x6)]) hx hb dX9_isFree_74 hl (by decide) rfl (fun ls hl => ?_)
                obtain ⟨y8, ey8⟩ : ∃ y : Int32, y = x6 + 1 := ⟨_, rfl⟩
                have h := h y8 ey8
                refine lv_iinc (v := y8) (lv' := [(6, .int y8), (4, .int 1), (0, .ref (ad 10)), (1, .int x1), (2, .int x2), (3, .int x3), (5, .int x5)]) hx hb dX9_isFree_76 hl (k := 6) rfl (by rw [ey8]; rfl) (by decide) rfl (fun ls hl => ?_)
                refine lv_goto (tgt := 39) hx hb dX9_isFree_79 (by decide) ?_
                exact ih39 _ _ _ _ _ _ _ _ _ _ h hI (lv_sub hl [2, 3, 4, 5, 1, 6, 0] rfl)
      intro x1 x2 x3 x4 x5 σ H locs ls h hI hl
      unfold w_X9_isFree_30 at h
      refine lv_iload hx hb dX9_isFree_30 (lv_at hl 5 rfl) ?_
      refine lv_iload_n hx hb dX9_isFree_32 rfl (lv_at hl 3 rfl) ?_
      refine lv_icmp_ge (tgt := 88) hx hb dX9_isFree_33 (by decide) (fun c9 => ?_) (fun c9 => ?_)
      · have h := h.1 c9
        refine lv_iload hx hb dX9_isFree_88 (lv_at hl 4 rfl) ?_
        exact g_zret hC hr hlocks h.1 hI h.2 dX9_isFree_90
      · have h := h.2 c9
        refine lv_iconst (v := 0) hx hb dX9_isFree_36 (by decide) ?_
        refine lv_istore (lv' := [(6, .int 0), (0, .ref (ad 10)), (1, .int x1), (2, .int x2), (3, .int x3), (4, .int x4), (5, .int x5)]) hx hb dX9_isFree_37 hl (by decide) rfl (fun ls hl => ?_)
        obtain ⟨n9, h⟩ := h
        exact J39 n9 _ _ _ _ _ _ _ _ _ _ h hI (lv_sub hl [1, 2, 3, 4, 5, 6, 0] rfl)
  have hl := lv_entry ([.ref (ad 10), .int a1, .int a2, .int a3]) (n := 7) (Nat.le_of_ble_eq_true rfl)
  rw [lg_entry_eq]
  generalize (lg_sl ([.ref (ad 10), .int a1, .int a2, .int a3]) ++ List.replicate (7 - (lg_sl ([.ref (ad 10), .int a1, .int a2, .int a3])).length) Slot.unset).toArray = ls at hl ⊢
  have hl : lv_has ls 7 [(0, .ref (ad 10)), (1, .int a1), (2, .int a2), (3, .int a3)] := hl
  unfold w_X9_isFree at h
  refine lv_iload_n hx hb dX9_isFree_0 rfl (lv_at hl 1 rfl) ?_
  refine lv_bipush (v := 16) hx hb dX9_isFree_1 (by decide) ?_
  refine lv_irem hx hb dX9_isFree_3 (by decide) ?_
  refine lv_iload_n hx hb dX9_isFree_4 rfl (lv_at hl 2 rfl) ?_
  refine lv_iadd hx hb dX9_isFree_5 ?_
  refine lv_bipush (v := 16) hx hb dX9_isFree_6 (by decide) ?_
  refine lv_icmp_gt (tgt := 22) hx hb dX9_isFree_8 (by decide) (fun c10 => ?_) (fun c10 => ?_)
  · have h := h.1 c10
    refine lv_iconst (v := 0) hx hb dX9_isFree_22 (by decide) ?_
    exact g_zret hC hr hlocks rfl hI h dX9_isFree_23
  · have h := h.2 c10
    refine lv_iload_n hx hb dX9_isFree_11 rfl (lv_at hl 1 rfl) ?_
    refine lv_bipush (v := 16) hx hb dX9_isFree_12 (by decide) ?_
    refine lv_idiv hx hb dX9_isFree_14 (by decide) ?_
    refine lv_iload_n hx hb dX9_isFree_15 rfl (lv_at hl 3 rfl) ?_
    refine lv_iadd hx hb dX9_isFree_16 ?_
    refine lv_bipush (v := 12) hx hb dX9_isFree_17 (by decide) ?_
    refine lv_icmp_le (tgt := 24) hx hb dX9_isFree_19 (by decide) (fun c11 => ?_) (fun c11 => ?_)
    · have h := h.1 c11
      refine lv_iconst (v := 1) hx hb dX9_isFree_24 (by decide) ?_
      refine lv_istore (lv' := [(4, .int 1), (0, .ref (ad 10)), (1, .int a1), (2, .int a2), (3, .int a3)]) hx hb dX9_isFree_25 hl (by decide) rfl (fun ls hl => ?_)
      refine lv_iconst (v := 0) hx hb dX9_isFree_27 (by decide) ?_
      refine lv_istore (lv' := [(5, .int 0), (4, .int 1), (0, .ref (ad 10)), (1, .int a1), (2, .int a2), (3, .int a3)]) hx hb dX9_isFree_28 hl (by decide) rfl (fun ls hl => ?_)
      obtain ⟨n9, h⟩ := h
      exact J30 n9 _ _ _ _ _ _ _ _ _ h hI (lv_sub hl [2, 3, 4, 5, 1, 0] rfl)
    · have h := h.2 c11
      refine lv_iconst (v := 0) hx hb dX9_isFree_22 (by decide) ?_
      exact g_zret hC hr hlocks rfl hI h dX9_isFree_23

theorem dX9_tent_0 : decode cX9_tent 0 = .ok (.aload_n 0, 1) := by decide +kernel
theorem dX9_tent_1 : decode cX9_tent 1 = .ok (.iconst 0, 1) := by decide +kernel
theorem dX9_tent_2 : decode cX9_tent 2 = .ok (.putfield 3, 3) := by decide +kernel
theorem dX9_tent_5 : decode cX9_tent 5 = .ok (.aload_n 0, 1) := by decide +kernel
theorem dX9_tent_6 : decode cX9_tent 6 = .ok (.iload_n 1, 1) := by decide +kernel
theorem dX9_tent_7 : decode cX9_tent 7 = .ok (.iconst 1, 1) := by decide +kernel
theorem dX9_tent_8 : decode cX9_tent 8 = .ok (.iconst 5, 1) := by decide +kernel
theorem dX9_tent_9 : decode cX9_tent 9 = .ok (.invokestatic 115, 3) := by decide +kernel
theorem dX9_tent_12 : decode cX9_tent 12 = .ok (.ifCond .eq 12, 3) := by decide +kernel
theorem dX9_tent_15 : decode cX9_tent 15 = .ok (.iload_n 2, 1) := by decide +kernel
theorem dX9_tent_16 : decode cX9_tent 16 = .ok (.iconst 1, 1) := by decide +kernel
theorem dX9_tent_17 : decode cX9_tent 17 = .ok (.iconst 5, 1) := by decide +kernel
theorem dX9_tent_18 : decode cX9_tent 18 = .ok (.invokestatic 115, 3) := by decide +kernel
theorem dX9_tent_21 : decode cX9_tent 21 = .ok (.ifCond .ne 7, 3) := by decide +kernel
theorem dX9_tent_24 : decode cX9_tent 24 = .ok (.iconst 1, 1) := by decide +kernel
theorem dX9_tent_25 : decode cX9_tent 25 = .ok (.goto 4, 3) := by decide +kernel
theorem dX9_tent_28 : decode cX9_tent 28 = .ok (.iconst 0, 1) := by decide +kernel
theorem dX9_tent_29 : decode cX9_tent 29 = .ok (.iconst 1, 1) := by decide +kernel
theorem dX9_tent_30 : decode cX9_tent 30 = .ok (.invokevirtual 123, 3) := by decide +kernel
theorem dX9_tent_33 : decode cX9_tent 33 = .ok (.ifCond .ne 25, 3) := by decide +kernel
theorem dX9_tent_36 : decode cX9_tent 36 = .ok (.aload_n 0, 1) := by decide +kernel
theorem dX9_tent_37 : decode cX9_tent 37 = .ok (.aload_n 0, 1) := by decide +kernel
theorem dX9_tent_38 : decode cX9_tent 38 = .ok (.getfield 130, 3) := by decide +kernel
theorem dX9_tent_41 : decode cX9_tent 41 = .ok (.bipush 60, 2) := by decide +kernel
theorem dX9_tent_43 : decode cX9_tent 43 = .ok (.if_icmp .ne 7, 3) := by decide +kernel
theorem dX9_tent_46 : decode cX9_tent 46 = .ok (.iconst 1, 1) := by decide +kernel
theorem dX9_tent_47 : decode cX9_tent 47 = .ok (.goto 4, 3) := by decide +kernel
theorem dX9_tent_50 : decode cX9_tent 50 = .ok (.iconst 0, 1) := by decide +kernel
theorem dX9_tent_51 : decode cX9_tent 51 = .ok (.iconst 2, 1) := by decide +kernel
theorem dX9_tent_52 : decode cX9_tent 52 = .ok (.invokevirtual 123, 3) := by decide +kernel
theorem dX9_tent_55 : decode cX9_tent 55 = .ok (.ifCond .eq 5, 3) := by decide +kernel
theorem dX9_tent_58 : decode cX9_tent 58 = .ok (.iconst 0, 1) := by decide +kernel
theorem dX9_tent_59 : decode cX9_tent 59 = .ok (.ireturn, 1) := by decide +kernel
theorem dX9_tent_60 : decode cX9_tent 60 = .ok (.iconst (-1), 1) := by decide +kernel
theorem dX9_tent_61 : decode cX9_tent 61 = .ok (.istore_n 3, 1) := by decide +kernel
theorem dX9_tent_62 : decode cX9_tent 62 = .ok (.iconst 0, 1) := by decide +kernel
theorem dX9_tent_63 : decode cX9_tent 63 = .ok (.istore 4, 2) := by decide +kernel
theorem dX9_tent_65 : decode cX9_tent 65 = .ok (.iconst 0, 1) := by decide +kernel
theorem dX9_tent_66 : decode cX9_tent 66 = .ok (.istore 5, 2) := by decide +kernel
theorem dX9_tent_68 : decode cX9_tent 68 = .ok (.iload 5, 2) := by decide +kernel
theorem dX9_tent_70 : decode cX9_tent 70 = .ok (.sipush 192, 3) := by decide +kernel
theorem dX9_tent_73 : decode cX9_tent 73 = .ok (.if_icmp .ge 76, 3) := by decide +kernel
theorem dX9_tent_76 : decode cX9_tent 76 = .ok (.iload 5, 2) := by decide +kernel
theorem dX9_tent_78 : decode cX9_tent 78 = .ok (.bipush 16, 2) := by decide +kernel
theorem dX9_tent_80 : decode cX9_tent 80 = .ok (.irem, 1) := by decide +kernel
theorem dX9_tent_81 : decode cX9_tent 81 = .ok (.aload_n 0, 1) := by decide +kernel
theorem dX9_tent_82 : decode cX9_tent 82 = .ok (.getfield 127, 3) := by decide +kernel
theorem dX9_tent_85 : decode cX9_tent 85 = .ok (.bipush 16, 2) := by decide +kernel
theorem dX9_tent_87 : decode cX9_tent 87 = .ok (.irem, 1) := by decide +kernel
theorem dX9_tent_88 : decode cX9_tent 88 = .ok (.isub, 1) := by decide +kernel
theorem dX9_tent_89 : decode cX9_tent 89 = .ok (.invokestatic 133, 3) := by decide +kernel
theorem dX9_tent_92 : decode cX9_tent 92 = .ok (.iload 5, 2) := by decide +kernel
theorem dX9_tent_94 : decode cX9_tent 94 = .ok (.bipush 16, 2) := by decide +kernel
theorem dX9_tent_96 : decode cX9_tent 96 = .ok (.idiv, 1) := by decide +kernel
theorem dX9_tent_97 : decode cX9_tent 97 = .ok (.aload_n 0, 1) := by decide +kernel
theorem dX9_tent_98 : decode cX9_tent 98 = .ok (.getfield 127, 3) := by decide +kernel
theorem dX9_tent_101 : decode cX9_tent 101 = .ok (.bipush 16, 2) := by decide +kernel
theorem dX9_tent_103 : decode cX9_tent 103 = .ok (.idiv, 1) := by decide +kernel
theorem dX9_tent_104 : decode cX9_tent 104 = .ok (.isub, 1) := by decide +kernel
theorem dX9_tent_105 : decode cX9_tent 105 = .ok (.invokestatic 133, 3) := by decide +kernel
theorem dX9_tent_108 : decode cX9_tent 108 = .ok (.iadd, 1) := by decide +kernel
theorem dX9_tent_109 : decode cX9_tent 109 = .ok (.istore 6, 2) := by decide +kernel
theorem dX9_tent_111 : decode cX9_tent 111 = .ok (.iload_n 3, 1) := by decide +kernel
theorem dX9_tent_112 : decode cX9_tent 112 = .ok (.ifCond .lt 10, 3) := by decide +kernel
theorem dX9_tent_115 : decode cX9_tent 115 = .ok (.iload 6, 2) := by decide +kernel
theorem dX9_tent_117 : decode cX9_tent 117 = .ok (.iload 4, 2) := by decide +kernel
theorem dX9_tent_119 : decode cX9_tent 119 = .ok (.if_icmp .ge 24, 3) := by decide +kernel
theorem dX9_tent_122 : decode cX9_tent 122 = .ok (.aload_n 0, 1) := by decide +kernel
theorem dX9_tent_123 : decode cX9_tent 123 = .ok (.iload 5, 2) := by decide +kernel
theorem dX9_tent_125 : decode cX9_tent 125 = .ok (.iload_n 1, 1) := by decide +kernel
theorem dX9_tent_126 : decode cX9_tent 126 = .ok (.iload_n 2, 1) := by decide +kernel
theorem dX9_tent_127 : decode cX9_tent 127 = .ok (.invokevirtual 139, 3) := by decide +kernel
theorem dX9_tent_130 : decode cX9_tent 130 = .ok (.ifCond .ne 6, 3) := by decide +kernel
theorem dX9_tent_133 : decode cX9_tent 133 = .ok (.goto 10, 3) := by decide +kernel
theorem dX9_tent_136 : decode cX9_tent 136 = .ok (.iload 5, 2) := by decide +kernel
theorem dX9_tent_138 : decode cX9_tent 138 = .ok (.istore_n 3, 1) := by decide +kernel
theorem dX9_tent_139 : decode cX9_tent 139 = .ok (.iload 6, 2) := by decide +kernel
theorem dX9_tent_141 : decode cX9_tent 141 = .ok (.istore 4, 2) := by decide +kernel
theorem dX9_tent_143 : decode cX9_tent 143 = .ok (.iinc 5 1, 3) := by decide +kernel
theorem dX9_tent_146 : decode cX9_tent 146 = .ok (.goto (-78), 3) := by decide +kernel
theorem dX9_tent_149 : decode cX9_tent 149 = .ok (.iload_n 3, 1) := by decide +kernel
theorem dX9_tent_150 : decode cX9_tent 150 = .ok (.ifCond .ge 5, 3) := by decide +kernel
theorem dX9_tent_153 : decode cX9_tent 153 = .ok (.iconst (-1), 1) := by decide +kernel
theorem dX9_tent_154 : decode cX9_tent 154 = .ok (.ireturn, 1) := by decide +kernel
theorem dX9_tent_155 : decode cX9_tent 155 = .ok (.iconst 0, 1) := by decide +kernel
theorem dX9_tent_156 : decode cX9_tent 156 = .ok (.istore 5, 2) := by decide +kernel
theorem dX9_tent_158 : decode cX9_tent 158 = .ok (.iload 5, 2) := by decide +kernel
theorem dX9_tent_160 : decode cX9_tent 160 = .ok (.iload_n 2, 1) := by decide +kernel
theorem dX9_tent_161 : decode cX9_tent 161 = .ok (.if_icmp .ge 43, 3) := by decide +kernel
theorem dX9_tent_164 : decode cX9_tent 164 = .ok (.iconst 0, 1) := by decide +kernel
theorem dX9_tent_165 : decode cX9_tent 165 = .ok (.istore 6, 2) := by decide +kernel
theorem dX9_tent_167 : decode cX9_tent 167 = .ok (.iload 6, 2) := by decide +kernel
theorem dX9_tent_169 : decode cX9_tent 169 = .ok (.iload_n 1, 1) := by decide +kernel
theorem dX9_tent_170 : decode cX9_tent 170 = .ok (.if_icmp .ge 28, 3) := by decide +kernel
theorem dX9_tent_173 : decode cX9_tent 173 = .ok (.aload_n 0, 1) := by decide +kernel
theorem dX9_tent_174 : decode cX9_tent 174 = .ok (.getfield 13, 3) := by decide +kernel
theorem dX9_tent_177 : decode cX9_tent 177 = .ok (.iload_n 3, 1) := by decide +kernel
theorem dX9_tent_178 : decode cX9_tent 178 = .ok (.bipush 16, 2) := by decide +kernel
theorem dX9_tent_180 : decode cX9_tent 180 = .ok (.iload 5, 2) := by decide +kernel
theorem dX9_tent_182 : decode cX9_tent 182 = .ok (.imul, 1) := by decide +kernel
theorem dX9_tent_183 : decode cX9_tent 183 = .ok (.iadd, 1) := by decide +kernel
theorem dX9_tent_184 : decode cX9_tent 184 = .ok (.iload 6, 2) := by decide +kernel
theorem dX9_tent_186 : decode cX9_tent 186 = .ok (.iadd, 1) := by decide +kernel
theorem dX9_tent_187 : decode cX9_tent 187 = .ok (.aload_n 0, 1) := by decide +kernel
theorem dX9_tent_188 : decode cX9_tent 188 = .ok (.getfield 130, 3) := by decide +kernel
theorem dX9_tent_191 : decode cX9_tent 191 = .ok (.iastore, 1) := by decide +kernel
theorem dX9_tent_192 : decode cX9_tent 192 = .ok (.iinc 6 1, 3) := by decide +kernel
theorem dX9_tent_195 : decode cX9_tent 195 = .ok (.goto (-28), 3) := by decide +kernel
theorem dX9_tent_198 : decode cX9_tent 198 = .ok (.iinc 5 1, 3) := by decide +kernel
theorem dX9_tent_201 : decode cX9_tent 201 = .ok (.goto (-43), 3) := by decide +kernel
theorem dX9_tent_204 : decode cX9_tent 204 = .ok (.aload_n 0, 1) := by decide +kernel
theorem dX9_tent_205 : decode cX9_tent 205 = .ok (.getfield 17, 3) := by decide +kernel
theorem dX9_tent_208 : decode cX9_tent 208 = .ok (.aload_n 0, 1) := by decide +kernel
theorem dX9_tent_209 : decode cX9_tent 209 = .ok (.getfield 130, 3) := by decide +kernel
theorem dX9_tent_212 : decode cX9_tent 212 = .ok (.iconst 1, 1) := by decide +kernel
theorem dX9_tent_213 : decode cX9_tent 213 = .ok (.bastore, 1) := by decide +kernel
theorem dX9_tent_214 : decode cX9_tent 214 = .ok (.aload_n 0, 1) := by decide +kernel
theorem dX9_tent_215 : decode cX9_tent 215 = .ok (.dup, 1) := by decide +kernel
theorem dX9_tent_216 : decode cX9_tent 216 = .ok (.getfield 130, 3) := by decide +kernel
theorem dX9_tent_219 : decode cX9_tent 219 = .ok (.iconst 1, 1) := by decide +kernel
theorem dX9_tent_220 : decode cX9_tent 220 = .ok (.iadd, 1) := by decide +kernel
theorem dX9_tent_221 : decode cX9_tent 221 = .ok (.putfield 130, 3) := by decide +kernel
theorem dX9_tent_224 : decode cX9_tent 224 = .ok (.aload_n 0, 1) := by decide +kernel
theorem dX9_tent_225 : decode cX9_tent 225 = .ok (.getfield 130, 3) := by decide +kernel
theorem dX9_tent_228 : decode cX9_tent 228 = .ok (.iconst 1, 1) := by decide +kernel
theorem dX9_tent_229 : decode cX9_tent 229 = .ok (.isub, 1) := by decide +kernel
theorem dX9_tent_230 : decode cX9_tent 230 = .ok (.ireturn, 1) := by decide +kernel
def w_X9_tent_167 (Q : Int32 → gS → Prop) (k158 : Int32 → Int32 → Int32 → Int32 → gS → Prop) : Nat → Int32 → Int32 → Int32 → Int32 → Int32 → gS → Prop
  | 0, _, _, _, _, _, _ => False
  | n167 + 1, x1, x2, x3, x5, x6, σ =>
    (x1 ≤ x6 → ∀ y2 : Int32, y2 = x5 + 1 → k158 x1 x2 x3 y2 σ) ∧ (¬ x1 ≤ x6 → vp_in ((x3 + (16 * x5)) + x6) 192 ∧ ∀ s4 : gS, s4 = gu σ 64 ((x3 + (16 * x5)) + x6).toNatClampNeg (σ 66 0) → ∀ y5 : Int32, y5 = x6 + 1 → w_X9_tent_167 Q k158 n167 x1 x2 x3 x5 y5 s4)
def w_X9_tent_158 (Q : Int32 → gS → Prop) : Nat → Int32 → Int32 → Int32 → Int32 → gS → Prop
  | 0, _, _, _, _, _ => False
  | n158 + 1, x1, x2, x3, x5, σ =>
    (x2 ≤ x5 → vp_in (σ 66 0) 60 ∧ ∀ s8 : gS, s8 = gu σ 65 (σ 66 0).toNatClampNeg (vp_nar .boolean 1) → ∀ s9 : gS, s9 = gu s8 66 0 ((s8 66 0) + 1) → Q ((s9 66 0) - 1) s9) ∧ (¬ x2 ≤ x5 → ∃ n167, w_X9_tent_167 Q (w_X9_tent_158 Q n158) n167 x1 x2 x3 x5 0 σ)
def w_X9_tent_122 (Q : Int32 → gS → Prop) (k68 : Int32 → Int32 → Int32 → Int32 → Int32 → gS → Prop) (x1 : Int32) (x2 : Int32) (x3 : Int32) (x4 : Int32) (x5 : Int32) (x6 : Int32) (σ : gS) : Prop :=
    w_X9_isFree  (fun (r11 : Int32) (s10 : gS) => (¬ r11 = 0 → ∀ y13 : Int32, y13 = x5 + 1 → k68 x1 x2 x5 x6 y13 s10) ∧ (r11 = 0 → ∀ y14 : Int32, y14 = x5 + 1 → k68 x1 x2 x3 x4 y14 s10)) σ x5 x1 x2
def w_X9_tent_68 (Q : Int32 → gS → Prop) : Nat → Int32 → Int32 → Int32 → Int32 → Int32 → gS → Prop
  | 0, _, _, _, _, _, _ => False
  | n68 + 1, x1, x2, x3, x4, x5, σ =>
    (192 ≤ x5 → (0 ≤ x3 → ∃ n158, w_X9_tent_158 Q n158 x1 x2 x3 0 σ) ∧ (¬ 0 ≤ x3 → Q (-1) σ)) ∧ (¬ 192 ≤ x5 → ∀ y17 : Int32, y17 = ((if 0 ≤ ((x5 - x5 / 16 * 16) - ((σ 67 0) - (σ 67 0) / 16 * 16)) then ((x5 - x5 / 16 * 16) - ((σ 67 0) - (σ 67 0) / 16 * 16)) else 0 - ((x5 - x5 / 16 * 16) - ((σ 67 0) - (σ 67 0) / 16 * 16))) + (if 0 ≤ ((x5 / 16) - ((σ 67 0) / 16)) then ((x5 / 16) - ((σ 67 0) / 16)) else 0 - ((x5 / 16) - ((σ 67 0) / 16)))) → (x3 < 0 → w_X9_tent_122 Q (w_X9_tent_68 Q n68) x1 x2 x3 x4 x5 y17 σ) ∧ (¬ x3 < 0 → (x4 ≤ y17 → ∀ y20 : Int32, y20 = x5 + 1 → w_X9_tent_68 Q n68 x1 x2 x3 x4 y20 σ) ∧ (¬ x4 ≤ y17 → w_X9_tent_122 Q (w_X9_tent_68 Q n68) x1 x2 x3 x4 x5 y17 σ)))
def w_X9_tent_51 (Q : Int32 → gS → Prop) (x1 : Int32) (x2 : Int32) (v0 : Int32) (σ : gS) : Prop :=
    w_X9_throwsIf  (fun (r22 : Int32) (s21 : gS) => (r22 = 0 → ∃ n68, w_X9_tent_68 Q n68 x1 x2 (-1) 0 0 s21) ∧ (¬ r22 = 0 → Q 0 s21)) σ v0 2
def w_X9_tent_29 (Q : Int32 → gS → Prop) (x1 : Int32) (x2 : Int32) (v0 : Int32) (σ : gS) : Prop :=
    w_X9_throwsIf  (fun (r25 : Int32) (s24 : gS) => (¬ r25 = 0 → Q 0 s24) ∧ (r25 = 0 → (¬ (s24 66 0) = 60 → w_X9_tent_51 Q x1 x2 0 s24) ∧ ((s24 66 0) = 60 → w_X9_tent_51 Q x1 x2 1 s24))) σ v0 1
def w_X9_tent (Q : Int32 → gS → Prop) (σ : gS) (a1 : Int32) (a2 : Int32) : Prop :=
    ∀ s28 : gS, s28 = gu σ 63 0 0 → w_X9_in  (fun (r30 : Int32) (s29 : gS) => (r30 = 0 → w_X9_tent_29 Q a1 a2 1 s29) ∧ (¬ r30 = 0 → w_X9_in  (fun (r33 : Int32) (s32 : gS) => (¬ r33 = 0 → w_X9_tent_29 Q a1 a2 0 s32) ∧ (r33 = 0 → w_X9_tent_29 Q a1 a2 1 s32)) s29 a2 1 5)) s28 a1 1 5
abbrev ws_X9_tent : List Cond := Cond.code yX9_tent cX9_tent 7 (some .int) :: gG
abbrev rm_X9_tent : Room := { frames := 1, cells := 0, slots := 0, locals := 26 }
theorem k_X9_tent : gCV yX9_tent RX9 cX9_tent 7 (some .int) 2 := ⟨gw_5_109, gw_5_110, gw_1_11, gw_5_111, rfl, by decide +kernel⟩
set_option maxHeartbeats 4000000 in
set_option maxRecDepth 100000 in
theorem c_X9_tent (l : Launch) (D : va_G) (cy : Nat → ClassId) (ad : Nat → Nat) (A : Nat → Prop) (Q : Int32 → gS → Prop) (σ : gS) (a1 : Int32) (a2 : Int32) (h : w_X9_tent Q σ a1 a2) : Met l yX9_tent ws_X9_tent rm_X9_tent (va_Pc [.ref (ad 10), .int a1, .int a2] (gB D cy ad A σ)) (va_Qi Q (gB D cy ad A) A) 0 0 A := by
  refine Met.ofW (cc := cX9_tent) (maxL := 7) (ret := (some .int)) (by decide) rfl ?_
  intro p e s m args below meth c s₁ B hml hv
  obtain ⟨rfl, hB⟩ := hv
  have hC : gC p c cX9_tent s m ([.ref (ad 10), .int a1, .int a2] : List Value).toArray RX9 D cy ad A := g_start B hB
  have hI := g_first hB
  have hx := hC.1
  have hb := hC.2.1
  have hr := B.returns
  have hlocks := B.notSynchronized
  clear B hB
  have J158 : ∀ (n158 : Nat) (x1 : Int32) (x2 : Int32) (x3 : Int32) (x5 : Int32) (σ : gS) (H : Heap) (locs : List Loc) (ls : Array Slot), w_X9_tent_158 Q n158 x1 x2 x3 x5 σ → gI D cy ad A s.heap σ H locs → lv_has ls 7 [(0, .ref (ad 10)), (1, .int x1), (2, .int x2), (3, .int x3), (5, .int x5)] → W p l e (headSpec ws_X9_tent rm_X9_tent).room s m ([.ref (ad 10), .int a1, .int a2] : List Value).toArray below meth c H locs 0 0 (MQ below (va_Qi Q (gB D cy ad A) A) ([.ref (ad 10), .int a1, .int a2] : List Value).toArray s 0 0 A) (F0 m 158 ls []) := by
    intro n158
    induction n158 with
    | zero => intro x1 x2 x3 x5 σ H locs ls h; exact absurd h (fun h => h)
    | succ n158 ih158 =>
      have J167 : ∀ (n167 : Nat) (x1 : Int32) (x2 : Int32) (x3 : Int32) (x5 : Int32) (x6 : Int32) (σ : gS) (H : Heap) (locs : List Loc) (ls : Array Slot), w_X9_tent_167 Q (w_X9_tent_158 Q n158) n167 x1 x2 x3 x5 x6 σ → gI D cy ad A s.heap σ H locs → lv_has ls 7 [(0, .ref (ad 10)), (1, .int x1), (2, .int x2), (3, .int x3), (5, .int x5), (6, .int x6)] → W p l e (headSpec ws_X9_tent rm_X9_tent).room s m ([.ref (ad 10), .int a1, .int a2] : List Value).toArray below meth c H locs 0 0 (MQ below (va_Qi Q (gB D cy ad A) A) ([.ref (ad 10), .int a1, .int a2] : List Value).toArray s 0 0 A) (F0 m 167 ls []) := by
        intro n167
        induction n167 with
        | zero => intro x1 x2 x3 x5 x6 σ H locs ls h; exact absurd h (fun h => h)
        | succ n167 ih167 =>
          intro x1 x2 x3 x5 x6 σ H locs ls h hI hl
          unfold w_X9_tent_167 at h
          refine lv_iload hx hb dX9_tent_167 (lv_at hl 5 rfl) ?_
          refine lv_iload_n hx hb dX9_tent_169 rfl (lv_at hl 1 rfl) ?_
          refine lv_icmp_ge (tgt := 198) hx hb dX9_tent_170 (by decide) (fun c1 => ?_) (fun c1 => ?_)
          · have h := h.1 c1
            obtain ⟨y2, ey2⟩ : ∃ y : Int32, y = x5 + 1 := ⟨_, rfl⟩
            have h := h y2 ey2
            refine lv_iinc (v := y2) (lv' := [(5, .int y2), (0, .ref (ad 10)), (1, .int x1), (2, .int x2), (3, .int x3), (6, .int x6)]) hx hb dX9_tent_198 hl (k := 4) rfl (by rw [ey2]; rfl) (by decide) rfl (fun ls hl => ?_)
            refine lv_goto (tgt := 158) hx hb dX9_tent_201 (by decide) ?_
            exact ih158 _ _ _ _ _ _ _ _ h hI (lv_sub hl [1, 2, 3, 4, 0] rfl)
          · have h := h.2 c1
            refine lv_aload_n hx hb dX9_tent_173 rfl (lv_at hl 0 rfl) ?_
            refine gg_X9_on hC hI gw_4_189 dX9_tent_174 ?_
            refine lv_iload_n hx hb dX9_tent_177 rfl (lv_at hl 3 rfl) ?_
            refine lv_bipush (v := 16) hx hb dX9_tent_178 (by decide) ?_
            refine lv_iload hx hb dX9_tent_180 (lv_at hl 4 rfl) ?_
            refine lv_imul hx hb dX9_tent_182 ?_
            refine lv_iadd hx hb dX9_tent_183 ?_
            refine lv_iload hx hb dX9_tent_184 (lv_at hl 5 rfl) ?_
            refine lv_iadd hx hb dX9_tent_186 ?_
            refine lv_aload_n hx hb dX9_tent_187 rfl (lv_at hl 0 rfl) ?_
            refine gg_X9_tents hC hI gw_4_191 dX9_tent_188 ?_
            obtain ⟨hi3, h⟩ := h
            refine gs_51 hC hI hi3 dX9_tent_191 (fun s4 H locs es4 hI => ?_)
            have h := h s4 es4
            obtain ⟨y5, ey5⟩ : ∃ y : Int32, y = x6 + 1 := ⟨_, rfl⟩
            have h := h y5 ey5
            refine lv_iinc (v := y5) (lv' := [(6, .int y5), (0, .ref (ad 10)), (1, .int x1), (2, .int x2), (3, .int x3), (5, .int x5)]) hx hb dX9_tent_192 hl (k := 5) rfl (by rw [ey5]; rfl) (by decide) rfl (fun ls hl => ?_)
            refine lv_goto (tgt := 167) hx hb dX9_tent_195 (by decide) ?_
            exact ih167 _ _ _ _ _ _ _ _ _ h hI (lv_sub hl [1, 2, 3, 4, 5, 0] rfl)
      intro x1 x2 x3 x5 σ H locs ls h hI hl
      unfold w_X9_tent_158 at h
      refine lv_iload hx hb dX9_tent_158 (lv_at hl 4 rfl) ?_
      refine lv_iload_n hx hb dX9_tent_160 rfl (lv_at hl 2 rfl) ?_
      refine lv_icmp_ge (tgt := 204) hx hb dX9_tent_161 (by decide) (fun c6 => ?_) (fun c6 => ?_)
      · have h := h.1 c6
        refine lv_aload_n hx hb dX9_tent_204 rfl (lv_at hl 0 rfl) ?_
        refine gg_X9_stands hC hI gw_4_190 dX9_tent_205 ?_
        refine lv_aload_n hx hb dX9_tent_208 rfl (lv_at hl 0 rfl) ?_
        refine gg_X9_tents hC hI gw_4_191 dX9_tent_209 ?_
        refine lv_iconst (v := 1) hx hb dX9_tent_212 (by decide) ?_
        obtain ⟨hi7, h⟩ := h
        refine gs_52 hC hI hi7 dX9_tent_213 (fun s8 H locs es8 hI => ?_)
        have h := h s8 es8
        refine lv_aload_n hx hb dX9_tent_214 rfl (lv_at hl 0 rfl) ?_
        refine lv_dup hx hb dX9_tent_215 rfl ?_
        refine gg_X9_tents hC hI gw_4_191 dX9_tent_216 ?_
        refine lv_iconst (v := 1) hx hb dX9_tent_219 (by decide) ?_
        refine lv_iadd hx hb dX9_tent_220 ?_
        refine gp_X9_tents hC hI gw_4_191 dX9_tent_221 (fun s9 H locs es9 hI => ?_)
        have h := h s9 es9
        refine lv_aload_n hx hb dX9_tent_224 rfl (lv_at hl 0 rfl) ?_
        refine gg_X9_tents hC hI gw_4_191 dX9_tent_225 ?_
        refine lv_iconst (v := 1) hx hb dX9_tent_228 (by decide) ?_
        refine lv_isub hx hb dX9_tent_229 ?_
        exact g_iret hC hr hlocks hI h dX9_tent_230
      · have h := h.2 c6
        refine lv_iconst (v := 0) hx hb dX9_tent_164 (by decide) ?_
        refine lv_istore (lv' := [(6, .int 0), (0, .ref (ad 10)), (1, .int x1), (2, .int x2), (3, .int x3), (5, .int x5)]) hx hb dX9_tent_165 hl (by decide) rfl (fun ls hl => ?_)
        obtain ⟨n9, h⟩ := h
        exact J167 n9 _ _ _ _ _ _ _ _ _ h hI (lv_sub hl [1, 2, 3, 4, 5, 0] rfl)
  have J68 : ∀ (n68 : Nat) (x1 : Int32) (x2 : Int32) (x3 : Int32) (x4 : Int32) (x5 : Int32) (σ : gS) (H : Heap) (locs : List Loc) (ls : Array Slot), w_X9_tent_68 Q n68 x1 x2 x3 x4 x5 σ → gI D cy ad A s.heap σ H locs → lv_has ls 7 [(0, .ref (ad 10)), (1, .int x1), (2, .int x2), (3, .int x3), (4, .int x4), (5, .int x5)] → W p l e (headSpec ws_X9_tent rm_X9_tent).room s m ([.ref (ad 10), .int a1, .int a2] : List Value).toArray below meth c H locs 0 0 (MQ below (va_Qi Q (gB D cy ad A) A) ([.ref (ad 10), .int a1, .int a2] : List Value).toArray s 0 0 A) (F0 m 68 ls []) := by
    intro n68
    induction n68 with
    | zero => intro x1 x2 x3 x4 x5 σ H locs ls h; exact absurd h (fun h => h)
    | succ n68 ih68 =>
      have J122 : ∀ (x1 : Int32) (x2 : Int32) (x3 : Int32) (x4 : Int32) (x5 : Int32) (x6 : Int32) (σ : gS) (H : Heap) (locs : List Loc) (ls : Array Slot), w_X9_tent_122 Q (w_X9_tent_68 Q n68) x1 x2 x3 x4 x5 x6 σ → gI D cy ad A s.heap σ H locs → lv_has ls 7 [(0, .ref (ad 10)), (1, .int x1), (2, .int x2), (3, .int x3), (4, .int x4), (5, .int x5), (6, .int x6)] → W p l e (headSpec ws_X9_tent rm_X9_tent).room s m ([.ref (ad 10), .int a1, .int a2] : List Value).toArray below meth c H locs 0 0 (MQ below (va_Qi Q (gB D cy ad A) A) ([.ref (ad 10), .int a1, .int a2] : List Value).toArray s 0 0 A) (F0 m 122 ls []) := by
        intro x1 x2 x3 x4 x5 x6 σ H locs ls h hI hl
        unfold w_X9_tent_122 at h
        refine lv_aload_n hx hb dX9_tent_122 rfl (lv_at hl 0 rfl) ?_
        refine lv_iload hx hb dX9_tent_123 (lv_at hl 5 rfl) ?_
        refine lv_iload_n hx hb dX9_tent_125 rfl (lv_at hl 1 rfl) ?_
        refine lv_iload_n hx hb dX9_tent_126 rfl (lv_at hl 2 rfl) ?_
        refine g_backi hI (g_runV (As := [.int x5, .int x1, .int x2]) (rest := []) hC hml hI (c_X9_isFree l D cy ad A _  _ _ _ _ h) k_X9_isFree gw_5_113 ⟨rfl, rfl⟩ ⟨Nat.le_of_ble_eq_true rfl, Nat.le_of_ble_eq_true rfl⟩ (grv_10 hC hI) rfl hl.1 rfl (Nat.le_of_ble_eq_true rfl) dX9_tent_127 ⟨Nat.le_of_ble_eq_true rfl, Nat.le_of_ble_eq_true rfl⟩) (fun r11 s10 H locs h hI => ?_)
        refine lv_if_ne (tgt := 136) hx hb dX9_tent_130 (by decide) (fun c12 => ?_) (fun c12 => ?_)
        · have h := h.1 c12
          refine lv_iload hx hb dX9_tent_136 (lv_at hl 5 rfl) ?_
          refine lv_istore_n (lv' := [(3, .int x5), (0, .ref (ad 10)), (1, .int x1), (2, .int x2), (4, .int x4), (5, .int x5), (6, .int x6)]) hx hb dX9_tent_138 rfl hl (by decide) rfl (fun ls hl => ?_)
          refine lv_iload hx hb dX9_tent_139 (lv_at hl 6 rfl) ?_
          refine lv_istore (lv' := [(4, .int x6), (3, .int x5), (0, .ref (ad 10)), (1, .int x1), (2, .int x2), (5, .int x5), (6, .int x6)]) hx hb dX9_tent_141 hl (by decide) rfl (fun ls hl => ?_)
          obtain ⟨y13, ey13⟩ : ∃ y : Int32, y = x5 + 1 := ⟨_, rfl⟩
          have h := h y13 ey13
          refine lv_iinc (v := y13) (lv' := [(5, .int y13), (4, .int x6), (3, .int x5), (0, .ref (ad 10)), (1, .int x1), (2, .int x2), (6, .int x6)]) hx hb dX9_tent_143 hl (k := 5) rfl (by rw [ey13]; rfl) (by decide) rfl (fun ls hl => ?_)
          refine lv_goto (tgt := 68) hx hb dX9_tent_146 (by decide) ?_
          exact ih68 _ _ _ _ _ _ _ _ _ h hI (lv_sub hl [3, 4, 5, 2, 1, 0] rfl)
        · have h := h.2 c12
          refine lv_goto (tgt := 143) hx hb dX9_tent_133 (by decide) ?_
          obtain ⟨y14, ey14⟩ : ∃ y : Int32, y = x5 + 1 := ⟨_, rfl⟩
          have h := h y14 ey14
          refine lv_iinc (v := y14) (lv' := [(5, .int y14), (0, .ref (ad 10)), (1, .int x1), (2, .int x2), (3, .int x3), (4, .int x4), (6, .int x6)]) hx hb dX9_tent_143 hl (k := 5) rfl (by rw [ey14]; rfl) (by decide) rfl (fun ls hl => ?_)
          refine lv_goto (tgt := 68) hx hb dX9_tent_146 (by decide) ?_
          exact ih68 _ _ _ _ _ _ _ _ _ h hI (lv_sub hl [1, 2, 3, 4, 5, 0] rfl)
      intro x1 x2 x3 x4 x5 σ H locs ls h hI hl
      unfold w_X9_tent_68 at h
      refine lv_iload hx hb dX9_tent_68 (lv_at hl 5 rfl) ?_
      refine lv_sipush (v := 192) hx hb dX9_tent_70 (by decide) ?_
      refine lv_icmp_ge (tgt := 149) hx hb dX9_tent_73 (by decide) (fun c15 => ?_) (fun c15 => ?_)
      · have h := h.1 c15
        refine lv_iload_n hx hb dX9_tent_149 rfl (lv_at hl 3 rfl) ?_
        refine lv_if_ge (tgt := 155) hx hb dX9_tent_150 (by decide) (fun c16 => ?_) (fun c16 => ?_)
        · have h := h.1 c16
          refine lv_iconst (v := 0) hx hb dX9_tent_155 (by decide) ?_
          refine lv_istore (lv' := [(5, .int 0), (0, .ref (ad 10)), (1, .int x1), (2, .int x2), (3, .int x3), (4, .int x4)]) hx hb dX9_tent_156 hl (by decide) rfl (fun ls hl => ?_)
          obtain ⟨n9, h⟩ := h
          exact J158 n9 _ _ _ _ _ _ _ _ h hI (lv_sub hl [1, 2, 3, 4, 0] rfl)
        · have h := h.2 c16
          refine lv_iconst (v := (-1)) hx hb dX9_tent_153 (by decide) ?_
          exact g_iret hC hr hlocks hI h dX9_tent_154
      · have h := h.2 c15
        refine lv_iload hx hb dX9_tent_76 (lv_at hl 5 rfl) ?_
        refine lv_bipush (v := 16) hx hb dX9_tent_78 (by decide) ?_
        refine lv_irem hx hb dX9_tent_80 (by decide) ?_
        refine lv_aload_n hx hb dX9_tent_81 rfl (lv_at hl 0 rfl) ?_
        refine gg_X9_gate hC hI gw_4_192 dX9_tent_82 ?_
        refine lv_bipush (v := 16) hx hb dX9_tent_85 (by decide) ?_
        refine lv_irem hx hb dX9_tent_87 (by decide) ?_
        refine lv_isub hx hb dX9_tent_88 ?_
        refine va_mabs hx hb (by rw [hml]; exact hl.1.symm) hC.2.2.2.1 (hC.2.2.1 _ gw_5_112) (hC.2.2.1 _ gw_3_166) (hC.2.2.1 _ gw_1_18) (hC.2.2.1 _ gw_3_167) (Nat.le_of_ble_eq_true rfl) (Nat.le_of_ble_eq_true rfl) (Nat.le_of_ble_eq_true rfl) (Nat.le_of_ble_eq_true rfl) dX9_tent_89 ?_
        refine lv_iload hx hb dX9_tent_92 (lv_at hl 5 rfl) ?_
        refine lv_bipush (v := 16) hx hb dX9_tent_94 (by decide) ?_
        refine lv_idiv hx hb dX9_tent_96 (by decide) ?_
        refine lv_aload_n hx hb dX9_tent_97 rfl (lv_at hl 0 rfl) ?_
        refine gg_X9_gate hC hI gw_4_192 dX9_tent_98 ?_
        refine lv_bipush (v := 16) hx hb dX9_tent_101 (by decide) ?_
        refine lv_idiv hx hb dX9_tent_103 (by decide) ?_
        refine lv_isub hx hb dX9_tent_104 ?_
        refine va_mabs hx hb (by rw [hml]; exact hl.1.symm) hC.2.2.2.1 (hC.2.2.1 _ gw_5_112) (hC.2.2.1 _ gw_3_166) (hC.2.2.1 _ gw_1_18) (hC.2.2.1 _ gw_3_167) (Nat.le_of_ble_eq_true rfl) (Nat.le_of_ble_eq_true rfl) (Nat.le_of_ble_eq_true rfl) (Nat.le_of_ble_eq_true rfl) dX9_tent_105 ?_
        refine lv_iadd hx hb dX9_tent_108 ?_
        refine lv_topi (fun y17 ey17 => ?_)
        have h := h y17 ey17
        refine lv_istore (lv' := [(6, .int y17), (0, .ref (ad 10)), (1, .int x1), (2, .int x2), (3, .int x3), (4, .int x4), (5, .int x5)]) hx hb dX9_tent_109 hl (by decide) rfl (fun ls hl => ?_)
        refine lv_iload_n hx hb dX9_tent_111 rfl (lv_at hl 4 rfl) ?_
        refine lv_if_lt (tgt := 122) hx hb dX9_tent_112 (by decide) (fun c18 => ?_) (fun c18 => ?_)
        · have h := h.1 c18
          exact J122 _ _ _ _ _ _ _ _ _ _ h hI (lv_sub hl [1, 2, 3, 4, 5, 6, 0] rfl)
        · have h := h.2 c18
          refine lv_iload hx hb dX9_tent_115 (lv_at hl 0 rfl) ?_
          refine lv_iload hx hb dX9_tent_117 (lv_at hl 5 rfl) ?_
          refine lv_icmp_ge (tgt := 143) hx hb dX9_tent_119 (by decide) (fun c19 => ?_) (fun c19 => ?_)
          · have h := h.1 c19
            obtain ⟨y20, ey20⟩ : ∃ y : Int32, y = x5 + 1 := ⟨_, rfl⟩
            have h := h y20 ey20
            refine lv_iinc (v := y20) (lv' := [(5, .int y20), (6, .int y17), (0, .ref (ad 10)), (1, .int x1), (2, .int x2), (3, .int x3), (4, .int x4)]) hx hb dX9_tent_143 hl (k := 6) rfl (by rw [ey20]; rfl) (by decide) rfl (fun ls hl => ?_)
            refine lv_goto (tgt := 68) hx hb dX9_tent_146 (by decide) ?_
            exact ih68 _ _ _ _ _ _ _ _ _ h hI (lv_sub hl [2, 3, 4, 5, 6, 0] rfl)
          · have h := h.2 c19
            exact J122 _ _ _ _ _ _ _ _ _ _ h hI (lv_sub hl [1, 2, 3, 4, 5, 6, 0] rfl)
  have J51 : ∀ (x1 : Int32) (x2 : Int32) (v0 : Int32) (σ : gS) (H : Heap) (locs : List Loc) (ls : Array Slot), w_X9_tent_51 Q x1 x2 v0 σ → gI D cy ad A s.heap σ H locs → lv_has ls 7 [(0, .ref (ad 10)), (1, .int x1), (2, .int x2)] → W p l e (headSpec ws_X9_tent rm_X9_tent).room s m ([.ref (ad 10), .int a1, .int a2] : List Value).toArray below meth c H locs 0 0 (MQ below (va_Qi Q (gB D cy ad A) A) ([.ref (ad 10), .int a1, .int a2] : List Value).toArray s 0 0 A) (F0 m 51 ls [.int v0, .ref (ad 10)]) := by
    intro x1 x2 v0 σ H locs ls h hI hl
    unfold w_X9_tent_51 at h
    refine lv_iconst (v := 2) hx hb dX9_tent_51 (by decide) ?_
    refine g_backi hI (g_runV (As := [.int v0, .int 2]) (rest := []) hC hml hI (c_X9_throwsIf l D cy ad A _  _ _ _ h) k_X9_throwsIf gw_5_100 ⟨rfl, rfl⟩ ⟨Nat.le_of_ble_eq_true rfl, Nat.le_of_ble_eq_true rfl⟩ (grv_10 hC hI) rfl hl.1 rfl (Nat.le_of_ble_eq_true rfl) dX9_tent_52 ⟨Nat.le_of_ble_eq_true rfl, Nat.le_of_ble_eq_true rfl⟩) (fun r22 s21 H locs h hI => ?_)
    refine lv_if_eq (tgt := 60) hx hb dX9_tent_55 (by decide) (fun c23 => ?_) (fun c23 => ?_)
    · have h := h.1 c23
      refine lv_iconst (v := (-1)) hx hb dX9_tent_60 (by decide) ?_
      refine lv_istore_n (lv' := [(3, .int (-1)), (0, .ref (ad 10)), (1, .int x1), (2, .int x2)]) hx hb dX9_tent_61 rfl hl (by decide) rfl (fun ls hl => ?_)
      refine lv_iconst (v := 0) hx hb dX9_tent_62 (by decide) ?_
      refine lv_istore (lv' := [(4, .int 0), (3, .int (-1)), (0, .ref (ad 10)), (1, .int x1), (2, .int x2)]) hx hb dX9_tent_63 hl (by decide) rfl (fun ls hl => ?_)
      refine lv_iconst (v := 0) hx hb dX9_tent_65 (by decide) ?_
      refine lv_istore (lv' := [(5, .int 0), (4, .int 0), (3, .int (-1)), (0, .ref (ad 10)), (1, .int x1), (2, .int x2)]) hx hb dX9_tent_66 hl (by decide) rfl (fun ls hl => ?_)
      obtain ⟨n9, h⟩ := h
      exact J68 n9 _ _ _ _ _ _ _ _ _ h hI (lv_sub hl [3, 4, 5, 2, 1, 0] rfl)
    · have h := h.2 c23
      refine lv_iconst (v := 0) hx hb dX9_tent_58 (by decide) ?_
      exact g_iret hC hr hlocks hI h dX9_tent_59
  have J29 : ∀ (x1 : Int32) (x2 : Int32) (v0 : Int32) (σ : gS) (H : Heap) (locs : List Loc) (ls : Array Slot), w_X9_tent_29 Q x1 x2 v0 σ → gI D cy ad A s.heap σ H locs → lv_has ls 7 [(0, .ref (ad 10)), (1, .int x1), (2, .int x2)] → W p l e (headSpec ws_X9_tent rm_X9_tent).room s m ([.ref (ad 10), .int a1, .int a2] : List Value).toArray below meth c H locs 0 0 (MQ below (va_Qi Q (gB D cy ad A) A) ([.ref (ad 10), .int a1, .int a2] : List Value).toArray s 0 0 A) (F0 m 29 ls [.int v0, .ref (ad 10)]) := by
    intro x1 x2 v0 σ H locs ls h hI hl
    unfold w_X9_tent_29 at h
    refine lv_iconst (v := 1) hx hb dX9_tent_29 (by decide) ?_
    refine g_backi hI (g_runV (As := [.int v0, .int 1]) (rest := []) hC hml hI (c_X9_throwsIf l D cy ad A _  _ _ _ h) k_X9_throwsIf gw_5_100 ⟨rfl, rfl⟩ ⟨Nat.le_of_ble_eq_true rfl, Nat.le_of_ble_eq_true rfl⟩ (grv_10 hC hI) rfl hl.1 rfl (Nat.le_of_ble_eq_true rfl) dX9_tent_30 ⟨Nat.le_of_ble_eq_true rfl, Nat.le_of_ble_eq_true rfl⟩) (fun r25 s24 H locs h hI => ?_)
    refine lv_if_ne (tgt := 58) hx hb dX9_tent_33 (by decide) (fun c26 => ?_) (fun c26 => ?_)
    · have h := h.1 c26
      refine lv_iconst (v := 0) hx hb dX9_tent_58 (by decide) ?_
      exact g_iret hC hr hlocks hI h dX9_tent_59
    · have h := h.2 c26
      refine lv_aload_n hx hb dX9_tent_36 rfl (lv_at hl 0 rfl) ?_
      refine lv_aload_n hx hb dX9_tent_37 rfl (lv_at hl 0 rfl) ?_
      refine gg_X9_tents hC hI gw_4_191 dX9_tent_38 ?_
      refine lv_bipush (v := 60) hx hb dX9_tent_41 (by decide) ?_
      refine lv_icmp_ne (tgt := 50) hx hb dX9_tent_43 (by decide) (fun c27 => ?_) (fun c27 => ?_)
      · have h := h.1 c27
        refine lv_iconst (v := 0) hx hb dX9_tent_50 (by decide) ?_
        exact J51 _ _ _ _ _ _ _ h hI (lv_sub hl [0, 1, 2] rfl)
      · have h := h.2 c27
        refine lv_iconst (v := 1) hx hb dX9_tent_46 (by decide) ?_
        refine lv_goto (tgt := 51) hx hb dX9_tent_47 (by decide) ?_
        exact J51 _ _ _ _ _ _ _ h hI (lv_sub hl [0, 1, 2] rfl)
  have hl := lv_entry ([.ref (ad 10), .int a1, .int a2]) (n := 7) (Nat.le_of_ble_eq_true rfl)
  rw [lg_entry_eq]
  generalize (lg_sl ([.ref (ad 10), .int a1, .int a2]) ++ List.replicate (7 - (lg_sl ([.ref (ad 10), .int a1, .int a2])).length) Slot.unset).toArray = ls at hl ⊢
  have hl : lv_has ls 7 [(0, .ref (ad 10)), (1, .int a1), (2, .int a2)] := hl
  unfold w_X9_tent at h
  refine lv_aload_n hx hb dX9_tent_0 rfl (lv_at hl 0 rfl) ?_
  refine lv_iconst (v := 0) hx hb dX9_tent_1 (by decide) ?_
  refine gp_X9_thrown hC hI gw_4_188 dX9_tent_2 (fun s28 H locs es28 hI => ?_)
  have h := h s28 es28
  refine lv_aload_n hx hb dX9_tent_5 rfl (lv_at hl 0 rfl) ?_
  refine lv_iload_n hx hb dX9_tent_6 rfl (lv_at hl 1 rfl) ?_
  refine lv_iconst (v := 1) hx hb dX9_tent_7 (by decide) ?_
  refine lv_iconst (v := 5) hx hb dX9_tent_8 (by decide) ?_
  refine g_backi hI (g_runS (As := [.int a1, .int 1, .int 5]) (rest := [.ref (ad 10)]) hC hml hI (c_X9_in l D cy ad A _  _ _ _ _ h) k_X9_in gw_5_97 ⟨rfl, rfl⟩ ⟨Nat.le_of_ble_eq_true rfl, Nat.le_of_ble_eq_true rfl⟩ rfl hl.1 rfl (Nat.le_of_ble_eq_true rfl) dX9_tent_9 ⟨Nat.le_of_ble_eq_true rfl, Nat.le_of_ble_eq_true rfl⟩) (fun r30 s29 H locs h hI => ?_)
  refine lv_if_eq (tgt := 24) hx hb dX9_tent_12 (by decide) (fun c31 => ?_) (fun c31 => ?_)
  · have h := h.1 c31
    refine lv_iconst (v := 1) hx hb dX9_tent_24 (by decide) ?_
    refine lv_goto (tgt := 29) hx hb dX9_tent_25 (by decide) ?_
    exact J29 _ _ _ _ _ _ _ h hI (lv_sub hl [0, 1, 2] rfl)
  · have h := h.2 c31
    refine lv_iload_n hx hb dX9_tent_15 rfl (lv_at hl 2 rfl) ?_
    refine lv_iconst (v := 1) hx hb dX9_tent_16 (by decide) ?_
    refine lv_iconst (v := 5) hx hb dX9_tent_17 (by decide) ?_
    refine g_backi hI (g_runS (As := [.int a2, .int 1, .int 5]) (rest := [.ref (ad 10)]) hC hml hI (c_X9_in l D cy ad A _  _ _ _ _ h) k_X9_in gw_5_97 ⟨rfl, rfl⟩ ⟨Nat.le_of_ble_eq_true rfl, Nat.le_of_ble_eq_true rfl⟩ rfl hl.1 rfl (Nat.le_of_ble_eq_true rfl) dX9_tent_18 ⟨Nat.le_of_ble_eq_true rfl, Nat.le_of_ble_eq_true rfl⟩) (fun r33 s32 H locs h hI => ?_)
    refine lv_if_ne (tgt := 28) hx hb dX9_tent_21 (by decide) (fun c34 => ?_) (fun c34 => ?_)
    · have h := h.1 c34
      refine lv_iconst (v := 0) hx hb dX9_tent_28 (by decide) ?_
      exact J29 _ _ _ _ _ _ _ h hI (lv_sub hl [0, 1, 2] rfl)
    · have h := h.2 c34
      refine lv_iconst (v := 1) hx hb dX9_tent_24 (by decide) ?_
      refine lv_goto (tgt := 29) hx hb dX9_tent_25 (by decide) ?_
      exact J29 _ _ _ _ _ _ _ h hI (lv_sub hl [0, 1, 2] rfl)

theorem dX9_strike_0 : decode cX9_strike 0 = .ok (.aload_n 0, 1) := by decide +kernel
theorem dX9_strike_1 : decode cX9_strike 1 = .ok (.iconst 0, 1) := by decide +kernel
theorem dX9_strike_2 : decode cX9_strike 2 = .ok (.putfield 3, 3) := by decide +kernel
theorem dX9_strike_5 : decode cX9_strike 5 = .ok (.aload_n 0, 1) := by decide +kernel
theorem dX9_strike_6 : decode cX9_strike 6 = .ok (.iload_n 1, 1) := by decide +kernel
theorem dX9_strike_7 : decode cX9_strike 7 = .ok (.iconst 0, 1) := by decide +kernel
theorem dX9_strike_8 : decode cX9_strike 8 = .ok (.aload_n 0, 1) := by decide +kernel
theorem dX9_strike_9 : decode cX9_strike 9 = .ok (.getfield 130, 3) := by decide +kernel
theorem dX9_strike_12 : decode cX9_strike 12 = .ok (.iconst 1, 1) := by decide +kernel
theorem dX9_strike_13 : decode cX9_strike 13 = .ok (.isub, 1) := by decide +kernel
theorem dX9_strike_14 : decode cX9_strike 14 = .ok (.invokestatic 115, 3) := by decide +kernel
theorem dX9_strike_17 : decode cX9_strike 17 = .ok (.ifCond .ne 7, 3) := by decide +kernel
theorem dX9_strike_20 : decode cX9_strike 20 = .ok (.iconst 1, 1) := by decide +kernel
theorem dX9_strike_21 : decode cX9_strike 21 = .ok (.goto 4, 3) := by decide +kernel
theorem dX9_strike_24 : decode cX9_strike 24 = .ok (.iconst 0, 1) := by decide +kernel
theorem dX9_strike_25 : decode cX9_strike 25 = .ok (.iconst 1, 1) := by decide +kernel
theorem dX9_strike_26 : decode cX9_strike 26 = .ok (.invokevirtual 123, 3) := by decide +kernel
theorem dX9_strike_29 : decode cX9_strike 29 = .ok (.ifCond .ne 12, 3) := by decide +kernel
theorem dX9_strike_32 : decode cX9_strike 32 = .ok (.aload_n 0, 1) := by decide +kernel
theorem dX9_strike_33 : decode cX9_strike 33 = .ok (.getfield 17, 3) := by decide +kernel
theorem dX9_strike_36 : decode cX9_strike 36 = .ok (.iload_n 1, 1) := by decide +kernel
theorem dX9_strike_37 : decode cX9_strike 37 = .ok (.baload, 1) := by decide +kernel
theorem dX9_strike_38 : decode cX9_strike 38 = .ok (.ifCond .ne 5, 3) := by decide +kernel
theorem dX9_strike_41 : decode cX9_strike 41 = .ok (.iconst 0, 1) := by decide +kernel
theorem dX9_strike_42 : decode cX9_strike 42 = .ok (.ireturn, 1) := by decide +kernel
theorem dX9_strike_43 : decode cX9_strike 43 = .ok (.aload_n 0, 1) := by decide +kernel
theorem dX9_strike_44 : decode cX9_strike 44 = .ok (.getfield 17, 3) := by decide +kernel
theorem dX9_strike_47 : decode cX9_strike 47 = .ok (.iload_n 1, 1) := by decide +kernel
theorem dX9_strike_48 : decode cX9_strike 48 = .ok (.iconst 0, 1) := by decide +kernel
theorem dX9_strike_49 : decode cX9_strike 49 = .ok (.bastore, 1) := by decide +kernel
theorem dX9_strike_50 : decode cX9_strike 50 = .ok (.iconst 0, 1) := by decide +kernel
theorem dX9_strike_51 : decode cX9_strike 51 = .ok (.istore_n 2, 1) := by decide +kernel
theorem dX9_strike_52 : decode cX9_strike 52 = .ok (.iload_n 2, 1) := by decide +kernel
theorem dX9_strike_53 : decode cX9_strike 53 = .ok (.sipush 192, 3) := by decide +kernel
theorem dX9_strike_56 : decode cX9_strike 56 = .ok (.if_icmp .ge 26, 3) := by decide +kernel
theorem dX9_strike_59 : decode cX9_strike 59 = .ok (.aload_n 0, 1) := by decide +kernel
theorem dX9_strike_60 : decode cX9_strike 60 = .ok (.getfield 13, 3) := by decide +kernel
theorem dX9_strike_63 : decode cX9_strike 63 = .ok (.iload_n 2, 1) := by decide +kernel
theorem dX9_strike_64 : decode cX9_strike 64 = .ok (.iaload, 1) := by decide +kernel
theorem dX9_strike_65 : decode cX9_strike 65 = .ok (.iload_n 1, 1) := by decide +kernel
theorem dX9_strike_66 : decode cX9_strike 66 = .ok (.if_icmp .ne 10, 3) := by decide +kernel
theorem dX9_strike_69 : decode cX9_strike 69 = .ok (.aload_n 0, 1) := by decide +kernel
theorem dX9_strike_70 : decode cX9_strike 70 = .ok (.getfield 13, 3) := by decide +kernel
theorem dX9_strike_73 : decode cX9_strike 73 = .ok (.iload_n 2, 1) := by decide +kernel
theorem dX9_strike_74 : decode cX9_strike 74 = .ok (.iconst (-1), 1) := by decide +kernel
theorem dX9_strike_75 : decode cX9_strike 75 = .ok (.iastore, 1) := by decide +kernel
theorem dX9_strike_76 : decode cX9_strike 76 = .ok (.iinc 2 1, 3) := by decide +kernel
theorem dX9_strike_79 : decode cX9_strike 79 = .ok (.goto (-27), 3) := by decide +kernel
theorem dX9_strike_82 : decode cX9_strike 82 = .ok (.iconst 1, 1) := by decide +kernel
theorem dX9_strike_83 : decode cX9_strike 83 = .ok (.ireturn, 1) := by decide +kernel
def w_X9_strike_52 (Q : Int32 → gS → Prop) : Nat → Int32 → Int32 → gS → Prop
  | 0, _, _, _ => False
  | n52 + 1, x1, x2, σ =>
    (192 ≤ x2 → Q 1 σ) ∧ (¬ 192 ≤ x2 → vp_in x2 192 ∧ (¬ (σ 64 x2.toNatClampNeg) = x1 → ∀ y6 : Int32, y6 = x2 + 1 → w_X9_strike_52 Q n52 x1 y6 σ) ∧ ((σ 64 x2.toNatClampNeg) = x1 → vp_in x2 192 ∧ ∀ s8 : gS, s8 = gu σ 64 x2.toNatClampNeg (-1) → ∀ y9 : Int32, y9 = x2 + 1 → w_X9_strike_52 Q n52 x1 y9 s8))
def w_X9_strike_25 (Q : Int32 → gS → Prop) (x1 : Int32) (v0 : Int32) (σ : gS) : Prop :=
    w_X9_throwsIf  (fun (r11 : Int32) (s10 : gS) => (¬ r11 = 0 → Q 0 s10) ∧ (r11 = 0 → vp_in x1 60 ∧ (¬ (s10 65 x1.toNatClampNeg) = 0 → vp_in x1 60 ∧ ∀ s16 : gS, s16 = gu s10 65 x1.toNatClampNeg (vp_nar .boolean 0) → ∃ n52, w_X9_strike_52 Q n52 x1 0 s16) ∧ ((s10 65 x1.toNatClampNeg) = 0 → Q 0 s10))) σ v0 1
def w_X9_strike (Q : Int32 → gS → Prop) (σ : gS) (a1 : Int32) : Prop :=
    ∀ s17 : gS, s17 = gu σ 63 0 0 → w_X9_in  (fun (r19 : Int32) (s18 : gS) => (¬ r19 = 0 → w_X9_strike_25 Q a1 0 s18) ∧ (r19 = 0 → w_X9_strike_25 Q a1 1 s18)) s17 a1 0 ((s17 66 0) - 1)
abbrev ws_X9_strike : List Cond := Cond.code yX9_strike cX9_strike 3 (some .boolean) :: gG
abbrev rm_X9_strike : Room := { frames := 1, cells := 0, slots := 0, locals := 22 }
theorem k_X9_strike : gCV yX9_strike RX9 cX9_strike 3 (some .boolean) 1 := ⟨gw_5_118, gw_5_119, gw_1_11, gw_5_120, rfl, by decide +kernel⟩
set_option maxHeartbeats 4000000 in
set_option maxRecDepth 100000 in
theorem c_X9_strike (l : Launch) (D : va_G) (cy : Nat → ClassId) (ad : Nat → Nat) (A : Nat → Prop) (Q : Int32 → gS → Prop) (σ : gS) (a1 : Int32) (h : w_X9_strike Q σ a1) : Met l yX9_strike ws_X9_strike rm_X9_strike (va_Pc [.ref (ad 10), .int a1] (gB D cy ad A σ)) (va_Qi Q (gB D cy ad A) A) 0 0 A := by
  refine Met.ofW (cc := cX9_strike) (maxL := 3) (ret := (some .boolean)) (by decide) rfl ?_
  intro p e s m args below meth c s₁ B hml hv
  obtain ⟨rfl, hB⟩ := hv
  have hC : gC p c cX9_strike s m ([.ref (ad 10), .int a1] : List Value).toArray RX9 D cy ad A := g_start B hB
  have hI := g_first hB
  have hx := hC.1
  have hb := hC.2.1
  have hr := B.returns
  have hlocks := B.notSynchronized
  clear B hB
  have J52 : ∀ (n52 : Nat) (x1 : Int32) (x2 : Int32) (σ : gS) (H : Heap) (locs : List Loc) (ls : Array Slot), w_X9_strike_52 Q n52 x1 x2 σ → gI D cy ad A s.heap σ H locs → lv_has ls 3 [(0, .ref (ad 10)), (1, .int x1), (2, .int x2)] → W p l e (headSpec ws_X9_strike rm_X9_strike).room s m ([.ref (ad 10), .int a1] : List Value).toArray below meth c H locs 0 0 (MQ below (va_Qi Q (gB D cy ad A) A) ([.ref (ad 10), .int a1] : List Value).toArray s 0 0 A) (F0 m 52 ls []) := by
    intro n52
    induction n52 with
    | zero => intro x1 x2 σ H locs ls h; exact absurd h (fun h => h)
    | succ n52 ih52 =>
      intro x1 x2 σ H locs ls h hI hl
      unfold w_X9_strike_52 at h
      refine lv_iload_n hx hb dX9_strike_52 rfl (lv_at hl 2 rfl) ?_
      refine lv_sipush (v := 192) hx hb dX9_strike_53 (by decide) ?_
      refine lv_icmp_ge (tgt := 82) hx hb dX9_strike_56 (by decide) (fun c3 => ?_) (fun c3 => ?_)
      · have h := h.1 c3
        refine lv_iconst (v := 1) hx hb dX9_strike_82 (by decide) ?_
        exact g_zret hC hr hlocks rfl hI h dX9_strike_83
      · have h := h.2 c3
        refine lv_aload_n hx hb dX9_strike_59 rfl (lv_at hl 0 rfl) ?_
        refine gg_X9_on hC hI gw_4_189 dX9_strike_60 ?_
        refine lv_iload_n hx hb dX9_strike_63 rfl (lv_at hl 2 rfl) ?_
        obtain ⟨hi4, h⟩ := h
        refine ga_51 hC hI hi4 dX9_strike_64 ?_
        refine lv_iload_n hx hb dX9_strike_65 rfl (lv_at hl 1 rfl) ?_
        refine lv_icmp_ne (tgt := 76) hx hb dX9_strike_66 (by decide) (fun c5 => ?_) (fun c5 => ?_)
        · have h := h.1 c5
          obtain ⟨y6, ey6⟩ : ∃ y : Int32, y = x2 + 1 := ⟨_, rfl⟩
          have h := h y6 ey6
          refine lv_iinc (v := y6) (lv' := [(2, .int y6), (0, .ref (ad 10)), (1, .int x1)]) hx hb dX9_strike_76 hl (k := 2) rfl (by rw [ey6]; rfl) (by decide) rfl (fun ls hl => ?_)
          refine lv_goto (tgt := 52) hx hb dX9_strike_79 (by decide) ?_
          exact ih52 _ _ _ _ _ _ h hI (lv_sub hl [1, 2, 0] rfl)
        · have h := h.2 c5
          refine lv_aload_n hx hb dX9_strike_69 rfl (lv_at hl 0 rfl) ?_
          refine gg_X9_on hC hI gw_4_189 dX9_strike_70 ?_
          refine lv_iload_n hx hb dX9_strike_73 rfl (lv_at hl 2 rfl) ?_
          refine lv_iconst (v := (-1)) hx hb dX9_strike_74 (by decide) ?_
          obtain ⟨hi7, h⟩ := h
          refine gs_51 hC hI hi7 dX9_strike_75 (fun s8 H locs es8 hI => ?_)
          have h := h s8 es8
          obtain ⟨y9, ey9⟩ : ∃ y : Int32, y = x2 + 1 := ⟨_, rfl⟩
          have h := h y9 ey9
          refine lv_iinc (v := y9) (lv' := [(2, .int y9), (0, .ref (ad 10)), (1, .int x1)]) hx hb dX9_strike_76 hl (k := 2) rfl (by rw [ey9]; rfl) (by decide) rfl (fun ls hl => ?_)
          refine lv_goto (tgt := 52) hx hb dX9_strike_79 (by decide) ?_
          exact ih52 _ _ _ _ _ _ h hI (lv_sub hl [1, 2, 0] rfl)
  have J25 : ∀ (x1 : Int32) (v0 : Int32) (σ : gS) (H : Heap) (locs : List Loc) (ls : Array Slot), w_X9_strike_25 Q x1 v0 σ → gI D cy ad A s.heap σ H locs → lv_has ls 3 [(0, .ref (ad 10)), (1, .int x1)] → W p l e (headSpec ws_X9_strike rm_X9_strike).room s m ([.ref (ad 10), .int a1] : List Value).toArray below meth c H locs 0 0 (MQ below (va_Qi Q (gB D cy ad A) A) ([.ref (ad 10), .int a1] : List Value).toArray s 0 0 A) (F0 m 25 ls [.int v0, .ref (ad 10)]) := by
    intro x1 v0 σ H locs ls h hI hl
    unfold w_X9_strike_25 at h
    refine lv_iconst (v := 1) hx hb dX9_strike_25 (by decide) ?_
    refine g_backi hI (g_runV (As := [.int v0, .int 1]) (rest := []) hC hml hI (c_X9_throwsIf l D cy ad A _  _ _ _ h) k_X9_throwsIf gw_5_100 ⟨rfl, rfl⟩ ⟨Nat.le_of_ble_eq_true rfl, Nat.le_of_ble_eq_true rfl⟩ (grv_10 hC hI) rfl hl.1 rfl (Nat.le_of_ble_eq_true rfl) dX9_strike_26 ⟨Nat.le_of_ble_eq_true rfl, Nat.le_of_ble_eq_true rfl⟩) (fun r11 s10 H locs h hI => ?_)
    refine lv_if_ne (tgt := 41) hx hb dX9_strike_29 (by decide) (fun c12 => ?_) (fun c12 => ?_)
    · have h := h.1 c12
      refine lv_iconst (v := 0) hx hb dX9_strike_41 (by decide) ?_
      exact g_zret hC hr hlocks rfl hI h dX9_strike_42
    · have h := h.2 c12
      refine lv_aload_n hx hb dX9_strike_32 rfl (lv_at hl 0 rfl) ?_
      refine gg_X9_stands hC hI gw_4_190 dX9_strike_33 ?_
      refine lv_iload_n hx hb dX9_strike_36 rfl (lv_at hl 1 rfl) ?_
      obtain ⟨hi13, h⟩ := h
      refine ga_52 hC hI hi13 dX9_strike_37 ?_
      refine lv_if_ne (tgt := 43) hx hb dX9_strike_38 (by decide) (fun c14 => ?_) (fun c14 => ?_)
      · have h := h.1 c14
        refine lv_aload_n hx hb dX9_strike_43 rfl (lv_at hl 0 rfl) ?_
        refine gg_X9_stands hC hI gw_4_190 dX9_strike_44 ?_
        refine lv_iload_n hx hb dX9_strike_47 rfl (lv_at hl 1 rfl) ?_
        refine lv_iconst (v := 0) hx hb dX9_strike_48 (by decide) ?_
        obtain ⟨hi15, h⟩ := h
        refine gs_52 hC hI hi15 dX9_strike_49 (fun s16 H locs es16 hI => ?_)
        have h := h s16 es16
        refine lv_iconst (v := 0) hx hb dX9_strike_50 (by decide) ?_
        refine lv_istore_n (lv' := [(2, .int 0), (0, .ref (ad 10)), (1, .int x1)]) hx hb dX9_strike_51 rfl hl (by decide) rfl (fun ls hl => ?_)
        obtain ⟨n9, h⟩ := h
        exact J52 n9 _ _ _ _ _ _ h hI (lv_sub hl [1, 2, 0] rfl)
      · have h := h.2 c14
        refine lv_iconst (v := 0) hx hb dX9_strike_41 (by decide) ?_
        exact g_zret hC hr hlocks rfl hI h dX9_strike_42
  have hl := lv_entry ([.ref (ad 10), .int a1]) (n := 3) (Nat.le_of_ble_eq_true rfl)
  rw [lg_entry_eq]
  generalize (lg_sl ([.ref (ad 10), .int a1]) ++ List.replicate (3 - (lg_sl ([.ref (ad 10), .int a1])).length) Slot.unset).toArray = ls at hl ⊢
  have hl : lv_has ls 3 [(0, .ref (ad 10)), (1, .int a1)] := hl
  unfold w_X9_strike at h
  refine lv_aload_n hx hb dX9_strike_0 rfl (lv_at hl 0 rfl) ?_
  refine lv_iconst (v := 0) hx hb dX9_strike_1 (by decide) ?_
  refine gp_X9_thrown hC hI gw_4_188 dX9_strike_2 (fun s17 H locs es17 hI => ?_)
  have h := h s17 es17
  refine lv_aload_n hx hb dX9_strike_5 rfl (lv_at hl 0 rfl) ?_
  refine lv_iload_n hx hb dX9_strike_6 rfl (lv_at hl 1 rfl) ?_
  refine lv_iconst (v := 0) hx hb dX9_strike_7 (by decide) ?_
  refine lv_aload_n hx hb dX9_strike_8 rfl (lv_at hl 0 rfl) ?_
  refine gg_X9_tents hC hI gw_4_191 dX9_strike_9 ?_
  refine lv_iconst (v := 1) hx hb dX9_strike_12 (by decide) ?_
  refine lv_isub hx hb dX9_strike_13 ?_
  refine g_backi hI (g_runS (As := [.int a1, .int 0, .int ((s17 66 0) - 1)]) (rest := [.ref (ad 10)]) hC hml hI (c_X9_in l D cy ad A _  _ _ _ _ h) k_X9_in gw_5_97 ⟨rfl, rfl⟩ ⟨Nat.le_of_ble_eq_true rfl, Nat.le_of_ble_eq_true rfl⟩ rfl hl.1 rfl (Nat.le_of_ble_eq_true rfl) dX9_strike_14 ⟨Nat.le_of_ble_eq_true rfl, Nat.le_of_ble_eq_true rfl⟩) (fun r19 s18 H locs h hI => ?_)
  refine lv_if_ne (tgt := 24) hx hb dX9_strike_17 (by decide) (fun c20 => ?_) (fun c20 => ?_)
  · have h := h.1 c20
    refine lv_iconst (v := 0) hx hb dX9_strike_24 (by decide) ?_
    exact J25 _ _ _ _ _ _ h hI (lv_sub hl [0, 1] rfl)
  · have h := h.2 c20
    refine lv_iconst (v := 1) hx hb dX9_strike_20 (by decide) ?_
    refine lv_goto (tgt := 25) hx hb dX9_strike_21 (by decide) ?_
    exact J25 _ _ _ _ _ _ h hI (lv_sub hl [0, 1] rfl)

theorem dX9_at_0 : decode cX9_at 0 = .ok (.aload_n 0, 1) := by decide +kernel
theorem dX9_at_1 : decode cX9_at 1 = .ok (.iconst 0, 1) := by decide +kernel
theorem dX9_at_2 : decode cX9_at 2 = .ok (.putfield 3, 3) := by decide +kernel
theorem dX9_at_5 : decode cX9_at 5 = .ok (.aload_n 0, 1) := by decide +kernel
theorem dX9_at_6 : decode cX9_at 6 = .ok (.iload_n 1, 1) := by decide +kernel
theorem dX9_at_7 : decode cX9_at 7 = .ok (.invokestatic 119, 3) := by decide +kernel
theorem dX9_at_10 : decode cX9_at 10 = .ok (.iconst 1, 1) := by decide +kernel
theorem dX9_at_11 : decode cX9_at 11 = .ok (.invokevirtual 123, 3) := by decide +kernel
theorem dX9_at_14 : decode cX9_at 14 = .ok (.ifCond .eq 7, 3) := by decide +kernel
theorem dX9_at_17 : decode cX9_at 17 = .ok (.iconst 0, 1) := by decide +kernel
theorem dX9_at_18 : decode cX9_at 18 = .ok (.goto 9, 3) := by decide +kernel
theorem dX9_at_21 : decode cX9_at 21 = .ok (.aload_n 0, 1) := by decide +kernel
theorem dX9_at_22 : decode cX9_at 22 = .ok (.getfield 13, 3) := by decide +kernel
theorem dX9_at_25 : decode cX9_at 25 = .ok (.iload_n 1, 1) := by decide +kernel
theorem dX9_at_26 : decode cX9_at 26 = .ok (.iaload, 1) := by decide +kernel
theorem dX9_at_27 : decode cX9_at 27 = .ok (.ireturn, 1) := by decide +kernel
def w_X9_at (Q : Int32 → gS → Prop) (σ : gS) (a1 : Int32) : Prop :=
    ∀ s2 : gS, s2 = gu σ 63 0 0 → w_X9_noSquare  (fun (r4 : Int32) (s3 : gS) => w_X9_throwsIf  (fun (r6 : Int32) (s5 : gS) => (r6 = 0 → vp_in a1 192 ∧ Q (s5 64 a1.toNatClampNeg) s5) ∧ (¬ r6 = 0 → Q 0 s5)) s3 r4 1) s2 a1
abbrev ws_X9_at : List Cond := Cond.code yX9_at cX9_at 2 (some .int) :: gG
abbrev rm_X9_at : Room := { frames := 2, cells := 0, slots := 0, locals := 42 }
theorem k_X9_at : gCV yX9_at RX9 cX9_at 2 (some .int) 1 := ⟨gw_5_122, gw_5_123, gw_1_11, gw_5_124, rfl, by decide +kernel⟩
set_option maxHeartbeats 4000000 in
set_option maxRecDepth 100000 in
theorem c_X9_at (l : Launch) (D : va_G) (cy : Nat → ClassId) (ad : Nat → Nat) (A : Nat → Prop) (Q : Int32 → gS → Prop) (σ : gS) (a1 : Int32) (h : w_X9_at Q σ a1) : Met l yX9_at ws_X9_at rm_X9_at (va_Pc [.ref (ad 10), .int a1] (gB D cy ad A σ)) (va_Qi Q (gB D cy ad A) A) 0 0 A := by
  refine Met.ofW (cc := cX9_at) (maxL := 2) (ret := (some .int)) (by decide) rfl ?_
  intro p e s m args below meth c s₁ B hml hv
  obtain ⟨rfl, hB⟩ := hv
  have hC : gC p c cX9_at s m ([.ref (ad 10), .int a1] : List Value).toArray RX9 D cy ad A := g_start B hB
  have hI := g_first hB
  have hx := hC.1
  have hb := hC.2.1
  have hr := B.returns
  have hlocks := B.notSynchronized
  clear B hB
  have hl := lv_entry ([.ref (ad 10), .int a1]) (n := 2) (Nat.le_of_ble_eq_true rfl)
  rw [lg_entry_eq]
  generalize (lg_sl ([.ref (ad 10), .int a1]) ++ List.replicate (2 - (lg_sl ([.ref (ad 10), .int a1])).length) Slot.unset).toArray = ls at hl ⊢
  have hl : lv_has ls 2 [(0, .ref (ad 10)), (1, .int a1)] := hl
  unfold w_X9_at at h
  refine lv_aload_n hx hb dX9_at_0 rfl (lv_at hl 0 rfl) ?_
  refine lv_iconst (v := 0) hx hb dX9_at_1 (by decide) ?_
  refine gp_X9_thrown hC hI gw_4_188 dX9_at_2 (fun s2 H locs es2 hI => ?_)
  have h := h s2 es2
  refine lv_aload_n hx hb dX9_at_5 rfl (lv_at hl 0 rfl) ?_
  refine lv_iload_n hx hb dX9_at_6 rfl (lv_at hl 1 rfl) ?_
  refine g_backi hI (g_runS (As := [.int a1]) (rest := [.ref (ad 10)]) hC hml hI (c_X9_noSquare l D cy ad A _  _ _ h) k_X9_noSquare gw_5_94 ⟨rfl, rfl⟩ ⟨Nat.le_of_ble_eq_true rfl, Nat.le_of_ble_eq_true rfl⟩ rfl hl.1 rfl (Nat.le_of_ble_eq_true rfl) dX9_at_7 ⟨Nat.le_of_ble_eq_true rfl, Nat.le_of_ble_eq_true rfl⟩) (fun r4 s3 H locs h hI => ?_)
  refine lv_iconst (v := 1) hx hb dX9_at_10 (by decide) ?_
  refine g_backi hI (g_runV (As := [.int r4, .int 1]) (rest := []) hC hml hI (c_X9_throwsIf l D cy ad A _  _ _ _ h) k_X9_throwsIf gw_5_100 ⟨rfl, rfl⟩ ⟨Nat.le_of_ble_eq_true rfl, Nat.le_of_ble_eq_true rfl⟩ (grv_10 hC hI) rfl hl.1 rfl (Nat.le_of_ble_eq_true rfl) dX9_at_11 ⟨Nat.le_of_ble_eq_true rfl, Nat.le_of_ble_eq_true rfl⟩) (fun r6 s5 H locs h hI => ?_)
  refine lv_if_eq (tgt := 21) hx hb dX9_at_14 (by decide) (fun c7 => ?_) (fun c7 => ?_)
  · have h := h.1 c7
    refine lv_aload_n hx hb dX9_at_21 rfl (lv_at hl 0 rfl) ?_
    refine gg_X9_on hC hI gw_4_189 dX9_at_22 ?_
    refine lv_iload_n hx hb dX9_at_25 rfl (lv_at hl 1 rfl) ?_
    obtain ⟨hi8, h⟩ := h
    refine ga_51 hC hI hi8 dX9_at_26 ?_
    exact g_iret hC hr hlocks hI h dX9_at_27
  · have h := h.2 c7
    refine lv_iconst (v := 0) hx hb dX9_at_17 (by decide) ?_
    refine lv_goto (tgt := 27) hx hb dX9_at_18 (by decide) ?_
    exact g_iret hC hr hlocks hI h dX9_at_27

theorem dX9_standing_0 : decode cX9_standing 0 = .ok (.iconst 0, 1) := by decide +kernel
theorem dX9_standing_1 : decode cX9_standing 1 = .ok (.istore_n 1, 1) := by decide +kernel
theorem dX9_standing_2 : decode cX9_standing 2 = .ok (.iconst 0, 1) := by decide +kernel
theorem dX9_standing_3 : decode cX9_standing 3 = .ok (.istore_n 2, 1) := by decide +kernel
theorem dX9_standing_4 : decode cX9_standing 4 = .ok (.iload_n 2, 1) := by decide +kernel
theorem dX9_standing_5 : decode cX9_standing 5 = .ok (.aload_n 0, 1) := by decide +kernel
theorem dX9_standing_6 : decode cX9_standing 6 = .ok (.getfield 130, 3) := by decide +kernel
theorem dX9_standing_9 : decode cX9_standing 9 = .ok (.if_icmp .ge 26, 3) := by decide +kernel
theorem dX9_standing_12 : decode cX9_standing 12 = .ok (.iload_n 1, 1) := by decide +kernel
theorem dX9_standing_13 : decode cX9_standing 13 = .ok (.aload_n 0, 1) := by decide +kernel
theorem dX9_standing_14 : decode cX9_standing 14 = .ok (.getfield 17, 3) := by decide +kernel
theorem dX9_standing_17 : decode cX9_standing 17 = .ok (.iload_n 2, 1) := by decide +kernel
theorem dX9_standing_18 : decode cX9_standing 18 = .ok (.baload, 1) := by decide +kernel
theorem dX9_standing_19 : decode cX9_standing 19 = .ok (.ifCond .eq 7, 3) := by decide +kernel
theorem dX9_standing_22 : decode cX9_standing 22 = .ok (.iconst 1, 1) := by decide +kernel
theorem dX9_standing_23 : decode cX9_standing 23 = .ok (.goto 4, 3) := by decide +kernel
theorem dX9_standing_26 : decode cX9_standing 26 = .ok (.iconst 0, 1) := by decide +kernel
theorem dX9_standing_27 : decode cX9_standing 27 = .ok (.iadd, 1) := by decide +kernel
theorem dX9_standing_28 : decode cX9_standing 28 = .ok (.istore_n 1, 1) := by decide +kernel
theorem dX9_standing_29 : decode cX9_standing 29 = .ok (.iinc 2 1, 3) := by decide +kernel
theorem dX9_standing_32 : decode cX9_standing 32 = .ok (.goto (-28), 3) := by decide +kernel
theorem dX9_standing_35 : decode cX9_standing 35 = .ok (.iload_n 1, 1) := by decide +kernel
theorem dX9_standing_36 : decode cX9_standing 36 = .ok (.ireturn, 1) := by decide +kernel
def w_X9_standing_27 (Q : Int32 → gS → Prop) (k4 : Int32 → Int32 → gS → Prop) (x2 : Int32) (v0 : Int32) (v1 : Int32) (σ : gS) : Prop :=
    ∀ y2 : Int32, y2 = (v1 + v0) → ∀ y3 : Int32, y3 = x2 + 1 → k4 y2 y3 σ
def w_X9_standing_4 (Q : Int32 → gS → Prop) : Nat → Int32 → Int32 → gS → Prop
  | 0, _, _, _ => False
  | n4 + 1, x1, x2, σ =>
    ((σ 66 0) ≤ x2 → Q x1 σ) ∧ (¬ (σ 66 0) ≤ x2 → vp_in x2 60 ∧ ((σ 65 x2.toNatClampNeg) = 0 → w_X9_standing_27 Q (w_X9_standing_4 Q n4) x2 0 x1 σ) ∧ (¬ (σ 65 x2.toNatClampNeg) = 0 → w_X9_standing_27 Q (w_X9_standing_4 Q n4) x2 1 x1 σ))
def w_X9_standing (Q : Int32 → gS → Prop) (σ : gS) : Prop :=
    ∃ n4, w_X9_standing_4 Q n4 0 0 σ
abbrev ws_X9_standing : List Cond := Cond.code yX9_standing cX9_standing 3 (some .int) :: gG
abbrev rm_X9_standing : Room := { frames := 0, cells := 0, slots := 0, locals := 0 }
theorem k_X9_standing : gCV yX9_standing RX9 cX9_standing 3 (some .int) 0 := ⟨gw_6_82, gwp_60, gw_1_11, gw_6_83, rfl, by decide +kernel⟩
set_option maxHeartbeats 4000000 in
set_option maxRecDepth 100000 in
theorem c_X9_standing (l : Launch) (D : va_G) (cy : Nat → ClassId) (ad : Nat → Nat) (A : Nat → Prop) (Q : Int32 → gS → Prop) (σ : gS) (h : w_X9_standing Q σ) : Met l yX9_standing ws_X9_standing rm_X9_standing (va_Pc [.ref (ad 10)] (gB D cy ad A σ)) (va_Qi Q (gB D cy ad A) A) 0 0 A := by
  refine Met.ofW (cc := cX9_standing) (maxL := 3) (ret := (some .int)) (by decide) rfl ?_
  intro p e s m args below meth c s₁ B hml hv
  obtain ⟨rfl, hB⟩ := hv
  have hC : gC p c cX9_standing s m ([.ref (ad 10)] : List Value).toArray RX9 D cy ad A := g_start B hB
  have hI := g_first hB
  have hx := hC.1
  have hb := hC.2.1
  have hr := B.returns
  have hlocks := B.notSynchronized
  clear B hB
  have J4 : ∀ (n4 : Nat) (x1 : Int32) (x2 : Int32) (σ : gS) (H : Heap) (locs : List Loc) (ls : Array Slot), w_X9_standing_4 Q n4 x1 x2 σ → gI D cy ad A s.heap σ H locs → lv_has ls 3 [(0, .ref (ad 10)), (1, .int x1), (2, .int x2)] → W p l e (headSpec ws_X9_standing rm_X9_standing).room s m ([.ref (ad 10)] : List Value).toArray below meth c H locs 0 0 (MQ below (va_Qi Q (gB D cy ad A) A) ([.ref (ad 10)] : List Value).toArray s 0 0 A) (F0 m 4 ls []) := by
    intro n4
    induction n4 with
    | zero => intro x1 x2 σ H locs ls h; exact absurd h (fun h => h)
    | succ n4 ih4 =>
      have J27 : ∀ (x2 : Int32) (v0 : Int32) (v1 : Int32) (σ : gS) (H : Heap) (locs : List Loc) (ls : Array Slot), w_X9_standing_27 Q (w_X9_standing_4 Q n4) x2 v0 v1 σ → gI D cy ad A s.heap σ H locs → lv_has ls 3 [(0, .ref (ad 10)), (2, .int x2)] → W p l e (headSpec ws_X9_standing rm_X9_standing).room s m ([.ref (ad 10)] : List Value).toArray below meth c H locs 0 0 (MQ below (va_Qi Q (gB D cy ad A) A) ([.ref (ad 10)] : List Value).toArray s 0 0 A) (F0 m 27 ls [.int v0, .int v1]) := by
        intro x2 v0 v1 σ H locs ls h hI hl
        unfold w_X9_standing_27 at h
        refine lv_iadd hx hb dX9_standing_27 ?_
        refine lv_topi (fun y2 ey2 => ?_)
        have h := h y2 ey2
        refine lv_istore_n (lv' := [(1, .int y2), (0, .ref (ad 10)), (2, .int x2)]) hx hb dX9_standing_28 rfl hl (by decide) rfl (fun ls hl => ?_)
        obtain ⟨y3, ey3⟩ : ∃ y : Int32, y = x2 + 1 := ⟨_, rfl⟩
        have h := h y3 ey3
        refine lv_iinc (v := y3) (lv' := [(2, .int y3), (1, .int y2), (0, .ref (ad 10))]) hx hb dX9_standing_29 hl (k := 2) rfl (by rw [ey3]; rfl) (by decide) rfl (fun ls hl => ?_)
        refine lv_goto (tgt := 4) hx hb dX9_standing_32 (by decide) ?_
        exact ih4 _ _ _ _ _ _ h hI (lv_sub hl [2, 1, 0] rfl)
      intro x1 x2 σ H locs ls h hI hl
      unfold w_X9_standing_4 at h
      refine lv_iload_n hx hb dX9_standing_4 rfl (lv_at hl 2 rfl) ?_
      refine lv_aload_n hx hb dX9_standing_5 rfl (lv_at hl 0 rfl) ?_
      refine gg_X9_tents hC hI gw_4_191 dX9_standing_6 ?_
      refine lv_icmp_ge (tgt := 35) hx hb dX9_standing_9 (by decide) (fun c4 => ?_) (fun c4 => ?_)
      · have h := h.1 c4
        refine lv_iload_n hx hb dX9_standing_35 rfl (lv_at hl 1 rfl) ?_
        exact g_iret hC hr hlocks hI h dX9_standing_36
      · have h := h.2 c4
        refine lv_iload_n hx hb dX9_standing_12 rfl (lv_at hl 1 rfl) ?_
        refine lv_aload_n hx hb dX9_standing_13 rfl (lv_at hl 0 rfl) ?_
        refine gg_X9_stands hC hI gw_4_190 dX9_standing_14 ?_
        refine lv_iload_n hx hb dX9_standing_17 rfl (lv_at hl 2 rfl) ?_
        obtain ⟨hi5, h⟩ := h
        refine ga_52 hC hI hi5 dX9_standing_18 ?_
        refine lv_if_eq (tgt := 26) hx hb dX9_standing_19 (by decide) (fun c6 => ?_) (fun c6 => ?_)
        · have h := h.1 c6
          refine lv_iconst (v := 0) hx hb dX9_standing_26 (by decide) ?_
          exact J27 _ _ _ _ _ _ _ h hI (lv_sub hl [0, 2] rfl)
        · have h := h.2 c6
          refine lv_iconst (v := 1) hx hb dX9_standing_22 (by decide) ?_
          refine lv_goto (tgt := 27) hx hb dX9_standing_23 (by decide) ?_
          exact J27 _ _ _ _ _ _ _ h hI (lv_sub hl [0, 2] rfl)
  have hl := lv_entry ([.ref (ad 10)]) (n := 3) (Nat.le_of_ble_eq_true rfl)
  rw [lg_entry_eq]
  generalize (lg_sl ([.ref (ad 10)]) ++ List.replicate (3 - (lg_sl ([.ref (ad 10)])).length) Slot.unset).toArray = ls at hl ⊢
  have hl : lv_has ls 3 [(0, .ref (ad 10))] := hl
  unfold w_X9_standing at h
  refine lv_iconst (v := 0) hx hb dX9_standing_0 (by decide) ?_
  refine lv_istore_n (lv' := [(1, .int 0), (0, .ref (ad 10))]) hx hb dX9_standing_1 rfl hl (by decide) rfl (fun ls hl => ?_)
  refine lv_iconst (v := 0) hx hb dX9_standing_2 (by decide) ?_
  refine lv_istore_n (lv' := [(2, .int 0), (1, .int 0), (0, .ref (ad 10))]) hx hb dX9_standing_3 rfl hl (by decide) rfl (fun ls hl => ?_)
  obtain ⟨n9, h⟩ := h
  exact J4 n9 _ _ _ _ _ _ h hI (lv_sub hl [2, 1, 0] rfl)

theorem dX9_noPlace_0 : decode cX9_noPlace 0 = .ok (.iload_n 1, 1) := by decide +kernel
theorem dX9_noPlace_1 : decode cX9_noPlace 1 = .ok (.iconst 0, 1) := by decide +kernel
theorem dX9_noPlace_2 : decode cX9_noPlace 2 = .ok (.aload_n 0, 1) := by decide +kernel
theorem dX9_noPlace_3 : decode cX9_noPlace 3 = .ok (.getfield 142, 3) := by decide +kernel
theorem dX9_noPlace_6 : decode cX9_noPlace 6 = .ok (.iconst 1, 1) := by decide +kernel
theorem dX9_noPlace_7 : decode cX9_noPlace 7 = .ok (.isub, 1) := by decide +kernel
theorem dX9_noPlace_8 : decode cX9_noPlace 8 = .ok (.invokestatic 115, 3) := by decide +kernel
theorem dX9_noPlace_11 : decode cX9_noPlace 11 = .ok (.ifCond .ne 7, 3) := by decide +kernel
theorem dX9_noPlace_14 : decode cX9_noPlace 14 = .ok (.iconst 1, 1) := by decide +kernel
theorem dX9_noPlace_15 : decode cX9_noPlace 15 = .ok (.goto 4, 3) := by decide +kernel
theorem dX9_noPlace_18 : decode cX9_noPlace 18 = .ok (.iconst 0, 1) := by decide +kernel
theorem dX9_noPlace_19 : decode cX9_noPlace 19 = .ok (.ireturn, 1) := by decide +kernel
def w_X9_noPlace (Q : Int32 → gS → Prop) (σ : gS) (a1 : Int32) : Prop :=
    w_X9_in  (fun (r2 : Int32) (s1 : gS) => (¬ r2 = 0 → Q 0 s1) ∧ (r2 = 0 → Q 1 s1)) σ a1 0 ((σ 71 0) - 1)
abbrev ws_X9_noPlace : List Cond := Cond.code yX9_noPlace cX9_noPlace 2 (some .boolean) :: gG
abbrev rm_X9_noPlace : Room := { frames := 1, cells := 0, slots := 0, locals := 22 }
theorem k_X9_noPlace : gCV yX9_noPlace RX9 cX9_noPlace 2 (some .boolean) 1 := ⟨gw_5_135, gwp_36, gw_1_11, gw_5_136, rfl, by decide +kernel⟩
set_option maxHeartbeats 4000000 in
set_option maxRecDepth 100000 in
theorem c_X9_noPlace (l : Launch) (D : va_G) (cy : Nat → ClassId) (ad : Nat → Nat) (A : Nat → Prop) (Q : Int32 → gS → Prop) (σ : gS) (a1 : Int32) (h : w_X9_noPlace Q σ a1) : Met l yX9_noPlace ws_X9_noPlace rm_X9_noPlace (va_Pc [.ref (ad 10), .int a1] (gB D cy ad A σ)) (va_Qi Q (gB D cy ad A) A) 0 0 A := by
  refine Met.ofW (cc := cX9_noPlace) (maxL := 2) (ret := (some .boolean)) (by decide) rfl ?_
  intro p e s m args below meth c s₁ B hml hv
  obtain ⟨rfl, hB⟩ := hv
  have hC : gC p c cX9_noPlace s m ([.ref (ad 10), .int a1] : List Value).toArray RX9 D cy ad A := g_start B hB
  have hI := g_first hB
  have hx := hC.1
  have hb := hC.2.1
  have hr := B.returns
  have hlocks := B.notSynchronized
  clear B hB
  have hl := lv_entry ([.ref (ad 10), .int a1]) (n := 2) (Nat.le_of_ble_eq_true rfl)
  rw [lg_entry_eq]
  generalize (lg_sl ([.ref (ad 10), .int a1]) ++ List.replicate (2 - (lg_sl ([.ref (ad 10), .int a1])).length) Slot.unset).toArray = ls at hl ⊢
  have hl : lv_has ls 2 [(0, .ref (ad 10)), (1, .int a1)] := hl
  unfold w_X9_noPlace at h
  refine lv_iload_n hx hb dX9_noPlace_0 rfl (lv_at hl 1 rfl) ?_
  refine lv_iconst (v := 0) hx hb dX9_noPlace_1 (by decide) ?_
  refine lv_aload_n hx hb dX9_noPlace_2 rfl (lv_at hl 0 rfl) ?_
  refine gg_X9_places hC hI gw_4_196 dX9_noPlace_3 ?_
  refine lv_iconst (v := 1) hx hb dX9_noPlace_6 (by decide) ?_
  refine lv_isub hx hb dX9_noPlace_7 ?_
  refine g_backi hI (g_runS (As := [.int a1, .int 0, .int ((σ 71 0) - 1)]) (rest := []) hC hml hI (c_X9_in l D cy ad A _  _ _ _ _ h) k_X9_in gw_5_97 ⟨rfl, rfl⟩ ⟨Nat.le_of_ble_eq_true rfl, Nat.le_of_ble_eq_true rfl⟩ rfl hl.1 rfl (Nat.le_of_ble_eq_true rfl) dX9_noPlace_8 ⟨Nat.le_of_ble_eq_true rfl, Nat.le_of_ble_eq_true rfl⟩) (fun r2 s1 H locs h hI => ?_)
  refine lv_if_ne (tgt := 18) hx hb dX9_noPlace_11 (by decide) (fun c3 => ?_) (fun c3 => ?_)
  · have h := h.1 c3
    refine lv_iconst (v := 0) hx hb dX9_noPlace_18 (by decide) ?_
    exact g_zret hC hr hlocks rfl hI h dX9_noPlace_19
  · have h := h.2 c3
    refine lv_iconst (v := 1) hx hb dX9_noPlace_14 (by decide) ?_
    refine lv_goto (tgt := 19) hx hb dX9_noPlace_15 (by decide) ?_
    exact g_zret hC hr hlocks rfl hI h dX9_noPlace_19

theorem dX9_place_0 : decode cX9_place 0 = .ok (.aload_n 0, 1) := by decide +kernel
theorem dX9_place_1 : decode cX9_place 1 = .ok (.iconst 0, 1) := by decide +kernel
theorem dX9_place_2 : decode cX9_place 2 = .ok (.putfield 3, 3) := by decide +kernel
theorem dX9_place_5 : decode cX9_place 5 = .ok (.aload_n 0, 1) := by decide +kernel
theorem dX9_place_6 : decode cX9_place 6 = .ok (.iload_n 1, 1) := by decide +kernel
theorem dX9_place_7 : decode cX9_place 7 = .ok (.iconst 0, 1) := by decide +kernel
theorem dX9_place_8 : decode cX9_place 8 = .ok (.sipush 20000, 3) := by decide +kernel
theorem dX9_place_11 : decode cX9_place 11 = .ok (.invokestatic 115, 3) := by decide +kernel
theorem dX9_place_14 : decode cX9_place 14 = .ok (.ifCond .eq 14, 3) := by decide +kernel
theorem dX9_place_17 : decode cX9_place 17 = .ok (.iload_n 2, 1) := by decide +kernel
theorem dX9_place_18 : decode cX9_place 18 = .ok (.iconst 0, 1) := by decide +kernel
theorem dX9_place_19 : decode cX9_place 19 = .ok (.sipush 2000, 3) := by decide +kernel
theorem dX9_place_22 : decode cX9_place 22 = .ok (.invokestatic 115, 3) := by decide +kernel
theorem dX9_place_25 : decode cX9_place 25 = .ok (.ifCond .ne 7, 3) := by decide +kernel
theorem dX9_place_28 : decode cX9_place 28 = .ok (.iconst 1, 1) := by decide +kernel
theorem dX9_place_29 : decode cX9_place 29 = .ok (.goto 4, 3) := by decide +kernel
theorem dX9_place_32 : decode cX9_place 32 = .ok (.iconst 0, 1) := by decide +kernel
theorem dX9_place_33 : decode cX9_place 33 = .ok (.iconst 1, 1) := by decide +kernel
theorem dX9_place_34 : decode cX9_place 34 = .ok (.invokevirtual 123, 3) := by decide +kernel
theorem dX9_place_37 : decode cX9_place 37 = .ok (.ifCond .ne 25, 3) := by decide +kernel
theorem dX9_place_40 : decode cX9_place 40 = .ok (.aload_n 0, 1) := by decide +kernel
theorem dX9_place_41 : decode cX9_place 41 = .ok (.aload_n 0, 1) := by decide +kernel
theorem dX9_place_42 : decode cX9_place 42 = .ok (.getfield 142, 3) := by decide +kernel
theorem dX9_place_45 : decode cX9_place 45 = .ok (.bipush 8, 2) := by decide +kernel
theorem dX9_place_47 : decode cX9_place 47 = .ok (.if_icmp .ne 7, 3) := by decide +kernel
theorem dX9_place_50 : decode cX9_place 50 = .ok (.iconst 1, 1) := by decide +kernel
theorem dX9_place_51 : decode cX9_place 51 = .ok (.goto 4, 3) := by decide +kernel
theorem dX9_place_54 : decode cX9_place 54 = .ok (.iconst 0, 1) := by decide +kernel
theorem dX9_place_55 : decode cX9_place 55 = .ok (.iconst 2, 1) := by decide +kernel
theorem dX9_place_56 : decode cX9_place 56 = .ok (.invokevirtual 123, 3) := by decide +kernel
theorem dX9_place_59 : decode cX9_place 59 = .ok (.ifCond .eq 5, 3) := by decide +kernel
theorem dX9_place_62 : decode cX9_place 62 = .ok (.iconst 0, 1) := by decide +kernel
theorem dX9_place_63 : decode cX9_place 63 = .ok (.ireturn, 1) := by decide +kernel
theorem dX9_place_64 : decode cX9_place 64 = .ok (.aload_n 0, 1) := by decide +kernel
theorem dX9_place_65 : decode cX9_place 65 = .ok (.getfield 21, 3) := by decide +kernel
theorem dX9_place_68 : decode cX9_place 68 = .ok (.aload_n 0, 1) := by decide +kernel
theorem dX9_place_69 : decode cX9_place 69 = .ok (.getfield 142, 3) := by decide +kernel
theorem dX9_place_72 : decode cX9_place 72 = .ok (.iload_n 1, 1) := by decide +kernel
theorem dX9_place_73 : decode cX9_place 73 = .ok (.iastore, 1) := by decide +kernel
theorem dX9_place_74 : decode cX9_place 74 = .ok (.aload_n 0, 1) := by decide +kernel
theorem dX9_place_75 : decode cX9_place 75 = .ok (.getfield 24, 3) := by decide +kernel
theorem dX9_place_78 : decode cX9_place 78 = .ok (.aload_n 0, 1) := by decide +kernel
theorem dX9_place_79 : decode cX9_place 79 = .ok (.getfield 142, 3) := by decide +kernel
theorem dX9_place_82 : decode cX9_place 82 = .ok (.iload_n 2, 1) := by decide +kernel
theorem dX9_place_83 : decode cX9_place 83 = .ok (.iastore, 1) := by decide +kernel
theorem dX9_place_84 : decode cX9_place 84 = .ok (.aload_n 0, 1) := by decide +kernel
theorem dX9_place_85 : decode cX9_place 85 = .ok (.dup, 1) := by decide +kernel
theorem dX9_place_86 : decode cX9_place 86 = .ok (.getfield 142, 3) := by decide +kernel
theorem dX9_place_89 : decode cX9_place 89 = .ok (.iconst 1, 1) := by decide +kernel
theorem dX9_place_90 : decode cX9_place 90 = .ok (.iadd, 1) := by decide +kernel
theorem dX9_place_91 : decode cX9_place 91 = .ok (.putfield 142, 3) := by decide +kernel
theorem dX9_place_94 : decode cX9_place 94 = .ok (.aload_n 0, 1) := by decide +kernel
theorem dX9_place_95 : decode cX9_place 95 = .ok (.getfield 142, 3) := by decide +kernel
theorem dX9_place_98 : decode cX9_place 98 = .ok (.iconst 1, 1) := by decide +kernel
theorem dX9_place_99 : decode cX9_place 99 = .ok (.isub, 1) := by decide +kernel
theorem dX9_place_100 : decode cX9_place 100 = .ok (.ireturn, 1) := by decide +kernel
def w_X9_place_55 (Q : Int32 → gS → Prop) (x1 : Int32) (x2 : Int32) (v0 : Int32) (σ : gS) : Prop :=
    w_X9_throwsIf  (fun (r2 : Int32) (s1 : gS) => (r2 = 0 → vp_in (s1 71 0) 8 ∧ ∀ s5 : gS, s5 = gu s1 68 (s1 71 0).toNatClampNeg x1 → vp_in (s5 71 0) 8 ∧ ∀ s7 : gS, s7 = gu s5 69 (s5 71 0).toNatClampNeg x2 → ∀ s8 : gS, s8 = gu s7 71 0 ((s7 71 0) + 1) → Q ((s8 71 0) - 1) s8) ∧ (¬ r2 = 0 → Q 0 s1)) σ v0 2
def w_X9_place_33 (Q : Int32 → gS → Prop) (x1 : Int32) (x2 : Int32) (v0 : Int32) (σ : gS) : Prop :=
    w_X9_throwsIf  (fun (r10 : Int32) (s9 : gS) => (¬ r10 = 0 → Q 0 s9) ∧ (r10 = 0 → (¬ (s9 71 0) = 8 → w_X9_place_55 Q x1 x2 0 s9) ∧ ((s9 71 0) = 8 → w_X9_place_55 Q x1 x2 1 s9))) σ v0 1
def w_X9_place (Q : Int32 → gS → Prop) (σ : gS) (a1 : Int32) (a2 : Int32) : Prop :=
    ∀ s13 : gS, s13 = gu σ 63 0 0 → w_X9_in  (fun (r15 : Int32) (s14 : gS) => (r15 = 0 → w_X9_place_33 Q a1 a2 1 s14) ∧ (¬ r15 = 0 → w_X9_in  (fun (r18 : Int32) (s17 : gS) => (¬ r18 = 0 → w_X9_place_33 Q a1 a2 0 s17) ∧ (r18 = 0 → w_X9_place_33 Q a1 a2 1 s17)) s14 a2 0 2000)) s13 a1 0 20000
abbrev ws_X9_place : List Cond := Cond.code yX9_place cX9_place 3 (some .int) :: gG
abbrev rm_X9_place : Room := { frames := 1, cells := 0, slots := 0, locals := 22 }
theorem k_X9_place : gCV yX9_place RX9 cX9_place 3 (some .int) 2 := ⟨gw_5_126, gw_5_127, gw_1_11, gw_5_128, rfl, by decide +kernel⟩
set_option maxHeartbeats 4000000 in
set_option maxRecDepth 100000 in
theorem c_X9_place (l : Launch) (D : va_G) (cy : Nat → ClassId) (ad : Nat → Nat) (A : Nat → Prop) (Q : Int32 → gS → Prop) (σ : gS) (a1 : Int32) (a2 : Int32) (h : w_X9_place Q σ a1 a2) : Met l yX9_place ws_X9_place rm_X9_place (va_Pc [.ref (ad 10), .int a1, .int a2] (gB D cy ad A σ)) (va_Qi Q (gB D cy ad A) A) 0 0 A := by
  refine Met.ofW (cc := cX9_place) (maxL := 3) (ret := (some .int)) (by decide) rfl ?_
  intro p e s m args below meth c s₁ B hml hv
  obtain ⟨rfl, hB⟩ := hv
  have hC : gC p c cX9_place s m ([.ref (ad 10), .int a1, .int a2] : List Value).toArray RX9 D cy ad A := g_start B hB
  have hI := g_first hB
  have hx := hC.1
  have hb := hC.2.1
  have hr := B.returns
  have hlocks := B.notSynchronized
  clear B hB
  have J55 : ∀ (x1 : Int32) (x2 : Int32) (v0 : Int32) (σ : gS) (H : Heap) (locs : List Loc) (ls : Array Slot), w_X9_place_55 Q x1 x2 v0 σ → gI D cy ad A s.heap σ H locs → lv_has ls 3 [(0, .ref (ad 10)), (1, .int x1), (2, .int x2)] → W p l e (headSpec ws_X9_place rm_X9_place).room s m ([.ref (ad 10), .int a1, .int a2] : List Value).toArray below meth c H locs 0 0 (MQ below (va_Qi Q (gB D cy ad A) A) ([.ref (ad 10), .int a1, .int a2] : List Value).toArray s 0 0 A) (F0 m 55 ls [.int v0, .ref (ad 10)]) := by
    intro x1 x2 v0 σ H locs ls h hI hl
    unfold w_X9_place_55 at h
    refine lv_iconst (v := 2) hx hb dX9_place_55 (by decide) ?_
    refine g_backi hI (g_runV (As := [.int v0, .int 2]) (rest := []) hC hml hI (c_X9_throwsIf l D cy ad A _  _ _ _ h) k_X9_throwsIf gw_5_100 ⟨rfl, rfl⟩ ⟨Nat.le_of_ble_eq_true rfl, Nat.le_of_ble_eq_true rfl⟩ (grv_10 hC hI) rfl hl.1 rfl (Nat.le_of_ble_eq_true rfl) dX9_place_56 ⟨Nat.le_of_ble_eq_true rfl, Nat.le_of_ble_eq_true rfl⟩) (fun r2 s1 H locs h hI => ?_)
    refine lv_if_eq (tgt := 64) hx hb dX9_place_59 (by decide) (fun c3 => ?_) (fun c3 => ?_)
    · have h := h.1 c3
      refine lv_aload_n hx hb dX9_place_64 rfl (lv_at hl 0 rfl) ?_
      refine gg_X9_crowd hC hI gw_4_193 dX9_place_65 ?_
      refine lv_aload_n hx hb dX9_place_68 rfl (lv_at hl 0 rfl) ?_
      refine gg_X9_places hC hI gw_4_196 dX9_place_69 ?_
      refine lv_iload_n hx hb dX9_place_72 rfl (lv_at hl 1 rfl) ?_
      obtain ⟨hi4, h⟩ := h
      refine gs_53 hC hI hi4 dX9_place_73 (fun s5 H locs es5 hI => ?_)
      have h := h s5 es5
      refine lv_aload_n hx hb dX9_place_74 rfl (lv_at hl 0 rfl) ?_
      refine gg_X9_rate hC hI gw_4_194 dX9_place_75 ?_
      refine lv_aload_n hx hb dX9_place_78 rfl (lv_at hl 0 rfl) ?_
      refine gg_X9_places hC hI gw_4_196 dX9_place_79 ?_
      refine lv_iload_n hx hb dX9_place_82 rfl (lv_at hl 2 rfl) ?_
      obtain ⟨hi6, h⟩ := h
      refine gs_54 hC hI hi6 dX9_place_83 (fun s7 H locs es7 hI => ?_)
      have h := h s7 es7
      refine lv_aload_n hx hb dX9_place_84 rfl (lv_at hl 0 rfl) ?_
      refine lv_dup hx hb dX9_place_85 rfl ?_
      refine gg_X9_places hC hI gw_4_196 dX9_place_86 ?_
      refine lv_iconst (v := 1) hx hb dX9_place_89 (by decide) ?_
      refine lv_iadd hx hb dX9_place_90 ?_
      refine gp_X9_places hC hI gw_4_196 dX9_place_91 (fun s8 H locs es8 hI => ?_)
      have h := h s8 es8
      refine lv_aload_n hx hb dX9_place_94 rfl (lv_at hl 0 rfl) ?_
      refine gg_X9_places hC hI gw_4_196 dX9_place_95 ?_
      refine lv_iconst (v := 1) hx hb dX9_place_98 (by decide) ?_
      refine lv_isub hx hb dX9_place_99 ?_
      exact g_iret hC hr hlocks hI h dX9_place_100
    · have h := h.2 c3
      refine lv_iconst (v := 0) hx hb dX9_place_62 (by decide) ?_
      exact g_iret hC hr hlocks hI h dX9_place_63
  have J33 : ∀ (x1 : Int32) (x2 : Int32) (v0 : Int32) (σ : gS) (H : Heap) (locs : List Loc) (ls : Array Slot), w_X9_place_33 Q x1 x2 v0 σ → gI D cy ad A s.heap σ H locs → lv_has ls 3 [(0, .ref (ad 10)), (1, .int x1), (2, .int x2)] → W p l e (headSpec ws_X9_place rm_X9_place).room s m ([.ref (ad 10), .int a1, .int a2] : List Value).toArray below meth c H locs 0 0 (MQ below (va_Qi Q (gB D cy ad A) A) ([.ref (ad 10), .int a1, .int a2] : List Value).toArray s 0 0 A) (F0 m 33 ls [.int v0, .ref (ad 10)]) := by
    intro x1 x2 v0 σ H locs ls h hI hl
    unfold w_X9_place_33 at h
    refine lv_iconst (v := 1) hx hb dX9_place_33 (by decide) ?_
    refine g_backi hI (g_runV (As := [.int v0, .int 1]) (rest := []) hC hml hI (c_X9_throwsIf l D cy ad A _  _ _ _ h) k_X9_throwsIf gw_5_100 ⟨rfl, rfl⟩ ⟨Nat.le_of_ble_eq_true rfl, Nat.le_of_ble_eq_true rfl⟩ (grv_10 hC hI) rfl hl.1 rfl (Nat.le_of_ble_eq_true rfl) dX9_place_34 ⟨Nat.le_of_ble_eq_true rfl, Nat.le_of_ble_eq_true rfl⟩) (fun r10 s9 H locs h hI => ?_)
    refine lv_if_ne (tgt := 62) hx hb dX9_place_37 (by decide) (fun c11 => ?_) (fun c11 => ?_)
    · have h := h.1 c11
      refine lv_iconst (v := 0) hx hb dX9_place_62 (by decide) ?_
      exact g_iret hC hr hlocks hI h dX9_place_63
    · have h := h.2 c11
      refine lv_aload_n hx hb dX9_place_40 rfl (lv_at hl 0 rfl) ?_
      refine lv_aload_n hx hb dX9_place_41 rfl (lv_at hl 0 rfl) ?_
      refine gg_X9_places hC hI gw_4_196 dX9_place_42 ?_
      refine lv_bipush (v := 8) hx hb dX9_place_45 (by decide) ?_
      refine lv_icmp_ne (tgt := 54) hx hb dX9_place_47 (by decide) (fun c12 => ?_) (fun c12 => ?_)
      · have h := h.1 c12
        refine lv_iconst (v := 0) hx hb dX9_place_54 (by decide) ?_
        exact J55 _ _ _ _ _ _ _ h hI (lv_sub hl [0, 1, 2] rfl)
      · have h := h.2 c12
        refine lv_iconst (v := 1) hx hb dX9_place_50 (by decide) ?_
        refine lv_goto (tgt := 55) hx hb dX9_place_51 (by decide) ?_
        exact J55 _ _ _ _ _ _ _ h hI (lv_sub hl [0, 1, 2] rfl)
  have hl := lv_entry ([.ref (ad 10), .int a1, .int a2]) (n := 3) (Nat.le_of_ble_eq_true rfl)
  rw [lg_entry_eq]
  generalize (lg_sl ([.ref (ad 10), .int a1, .int a2]) ++ List.replicate (3 - (lg_sl ([.ref (ad 10), .int a1, .int a2])).length) Slot.unset).toArray = ls at hl ⊢
  have hl : lv_has ls 3 [(0, .ref (ad 10)), (1, .int a1), (2, .int a2)] := hl
  unfold w_X9_place at h
  refine lv_aload_n hx hb dX9_place_0 rfl (lv_at hl 0 rfl) ?_
  refine lv_iconst (v := 0) hx hb dX9_place_1 (by decide) ?_
  refine gp_X9_thrown hC hI gw_4_188 dX9_place_2 (fun s13 H locs es13 hI => ?_)
  have h := h s13 es13
  refine lv_aload_n hx hb dX9_place_5 rfl (lv_at hl 0 rfl) ?_
  refine lv_iload_n hx hb dX9_place_6 rfl (lv_at hl 1 rfl) ?_
  refine lv_iconst (v := 0) hx hb dX9_place_7 (by decide) ?_
  refine lv_sipush (v := 20000) hx hb dX9_place_8 (by decide) ?_
  refine g_backi hI (g_runS (As := [.int a1, .int 0, .int 20000]) (rest := [.ref (ad 10)]) hC hml hI (c_X9_in l D cy ad A _  _ _ _ _ h) k_X9_in gw_5_97 ⟨rfl, rfl⟩ ⟨Nat.le_of_ble_eq_true rfl, Nat.le_of_ble_eq_true rfl⟩ rfl hl.1 rfl (Nat.le_of_ble_eq_true rfl) dX9_place_11 ⟨Nat.le_of_ble_eq_true rfl, Nat.le_of_ble_eq_true rfl⟩) (fun r15 s14 H locs h hI => ?_)
  refine lv_if_eq (tgt := 28) hx hb dX9_place_14 (by decide) (fun c16 => ?_) (fun c16 => ?_)
  · have h := h.1 c16
    refine lv_iconst (v := 1) hx hb dX9_place_28 (by decide) ?_
    refine lv_goto (tgt := 33) hx hb dX9_place_29 (by decide) ?_
    exact J33 _ _ _ _ _ _ _ h hI (lv_sub hl [0, 1, 2] rfl)
  · have h := h.2 c16
    refine lv_iload_n hx hb dX9_place_17 rfl (lv_at hl 2 rfl) ?_
    refine lv_iconst (v := 0) hx hb dX9_place_18 (by decide) ?_
    refine lv_sipush (v := 2000) hx hb dX9_place_19 (by decide) ?_
    refine g_backi hI (g_runS (As := [.int a2, .int 0, .int 2000]) (rest := [.ref (ad 10)]) hC hml hI (c_X9_in l D cy ad A _  _ _ _ _ h) k_X9_in gw_5_97 ⟨rfl, rfl⟩ ⟨Nat.le_of_ble_eq_true rfl, Nat.le_of_ble_eq_true rfl⟩ rfl hl.1 rfl (Nat.le_of_ble_eq_true rfl) dX9_place_22 ⟨Nat.le_of_ble_eq_true rfl, Nat.le_of_ble_eq_true rfl⟩) (fun r18 s17 H locs h hI => ?_)
    refine lv_if_ne (tgt := 32) hx hb dX9_place_25 (by decide) (fun c19 => ?_) (fun c19 => ?_)
    · have h := h.1 c19
      refine lv_iconst (v := 0) hx hb dX9_place_32 (by decide) ?_
      exact J33 _ _ _ _ _ _ _ h hI (lv_sub hl [0, 1, 2] rfl)
    · have h := h.2 c19
      refine lv_iconst (v := 1) hx hb dX9_place_28 (by decide) ?_
      refine lv_goto (tgt := 33) hx hb dX9_place_29 (by decide) ?_
      exact J33 _ _ _ _ _ _ _ h hI (lv_sub hl [0, 1, 2] rfl)

theorem dX9_crowd_0 : decode cX9_crowd 0 = .ok (.aload_n 0, 1) := by decide +kernel
theorem dX9_crowd_1 : decode cX9_crowd 1 = .ok (.iconst 0, 1) := by decide +kernel
theorem dX9_crowd_2 : decode cX9_crowd 2 = .ok (.putfield 3, 3) := by decide +kernel
theorem dX9_crowd_5 : decode cX9_crowd 5 = .ok (.aload_n 0, 1) := by decide +kernel
theorem dX9_crowd_6 : decode cX9_crowd 6 = .ok (.aload_n 0, 1) := by decide +kernel
theorem dX9_crowd_7 : decode cX9_crowd 7 = .ok (.iload_n 1, 1) := by decide +kernel
theorem dX9_crowd_8 : decode cX9_crowd 8 = .ok (.invokevirtual 145, 3) := by decide +kernel
theorem dX9_crowd_11 : decode cX9_crowd 11 = .ok (.iconst 1, 1) := by decide +kernel
theorem dX9_crowd_12 : decode cX9_crowd 12 = .ok (.invokevirtual 123, 3) := by decide +kernel
theorem dX9_crowd_15 : decode cX9_crowd 15 = .ok (.ifCond .ne 27, 3) := by decide +kernel
theorem dX9_crowd_18 : decode cX9_crowd 18 = .ok (.aload_n 0, 1) := by decide +kernel
theorem dX9_crowd_19 : decode cX9_crowd 19 = .ok (.iload_n 2, 1) := by decide +kernel
theorem dX9_crowd_20 : decode cX9_crowd 20 = .ok (.iconst 0, 1) := by decide +kernel
theorem dX9_crowd_21 : decode cX9_crowd 21 = .ok (.sipush 20000, 3) := by decide +kernel
theorem dX9_crowd_24 : decode cX9_crowd 24 = .ok (.invokestatic 115, 3) := by decide +kernel
theorem dX9_crowd_27 : decode cX9_crowd 27 = .ok (.ifCond .ne 7, 3) := by decide +kernel
theorem dX9_crowd_30 : decode cX9_crowd 30 = .ok (.iconst 1, 1) := by decide +kernel
theorem dX9_crowd_31 : decode cX9_crowd 31 = .ok (.goto 4, 3) := by decide +kernel
theorem dX9_crowd_34 : decode cX9_crowd 34 = .ok (.iconst 0, 1) := by decide +kernel
theorem dX9_crowd_35 : decode cX9_crowd 35 = .ok (.iconst 2, 1) := by decide +kernel
theorem dX9_crowd_36 : decode cX9_crowd 36 = .ok (.invokevirtual 123, 3) := by decide +kernel
theorem dX9_crowd_39 : decode cX9_crowd 39 = .ok (.ifCond .eq 4, 3) := by decide +kernel
theorem dX9_crowd_42 : decode cX9_crowd 42 = .ok (.return_, 1) := by decide +kernel
theorem dX9_crowd_43 : decode cX9_crowd 43 = .ok (.aload_n 0, 1) := by decide +kernel
theorem dX9_crowd_44 : decode cX9_crowd 44 = .ok (.getfield 21, 3) := by decide +kernel
theorem dX9_crowd_47 : decode cX9_crowd 47 = .ok (.iload_n 1, 1) := by decide +kernel
theorem dX9_crowd_48 : decode cX9_crowd 48 = .ok (.iload_n 2, 1) := by decide +kernel
theorem dX9_crowd_49 : decode cX9_crowd 49 = .ok (.iastore, 1) := by decide +kernel
theorem dX9_crowd_50 : decode cX9_crowd 50 = .ok (.return_, 1) := by decide +kernel
def w_X9_crowd_35 (Q : gS → Prop) (x1 : Int32) (x2 : Int32) (v0 : Int32) (σ : gS) : Prop :=
    w_X9_throwsIf  (fun (r2 : Int32) (s1 : gS) => (r2 = 0 → vp_in x1 8 ∧ ∀ s5 : gS, s5 = gu s1 68 x1.toNatClampNeg x2 → Q s5) ∧ (¬ r2 = 0 → Q s1)) σ v0 2
def w_X9_crowd (Q : gS → Prop) (σ : gS) (a1 : Int32) (a2 : Int32) : Prop :=
    ∀ s6 : gS, s6 = gu σ 63 0 0 → w_X9_noPlace  (fun (r8 : Int32) (s7 : gS) => w_X9_throwsIf  (fun (r10 : Int32) (s9 : gS) => (¬ r10 = 0 → Q s9) ∧ (r10 = 0 → w_X9_in  (fun (r13 : Int32) (s12 : gS) => (¬ r13 = 0 → w_X9_crowd_35 Q a1 a2 0 s12) ∧ (r13 = 0 → w_X9_crowd_35 Q a1 a2 1 s12)) s9 a2 0 20000)) s7 r8 1) s6 a1
abbrev ws_X9_crowd : List Cond := Cond.code yX9_crowd cX9_crowd 3 none :: gG
abbrev rm_X9_crowd : Room := { frames := 2, cells := 0, slots := 0, locals := 43 }
theorem k_X9_crowd : gCV yX9_crowd RX9 cX9_crowd 3 none 2 := ⟨gw_5_130, gw_5_131, gw_1_11, gw_5_132, rfl, by decide +kernel⟩
set_option maxHeartbeats 4000000 in
set_option maxRecDepth 100000 in
theorem c_X9_crowd (l : Launch) (D : va_G) (cy : Nat → ClassId) (ad : Nat → Nat) (A : Nat → Prop) (Q : gS → Prop) (σ : gS) (a1 : Int32) (a2 : Int32) (h : w_X9_crowd Q σ a1 a2) : Met l yX9_crowd ws_X9_crowd rm_X9_crowd (va_Pc [.ref (ad 10), .int a1, .int a2] (gB D cy ad A σ)) (va_Qv Q (gB D cy ad A) A) 0 0 A := by
  refine Met.ofW (cc := cX9_crowd) (maxL := 3) (ret := none) (by decide) rfl ?_
  intro p e s m args below meth c s₁ B hml hv
  obtain ⟨rfl, hB⟩ := hv
  have hC : gC p c cX9_crowd s m ([.ref (ad 10), .int a1, .int a2] : List Value).toArray RX9 D cy ad A := g_start B hB
  have hI := g_first hB
  have hx := hC.1
  have hb := hC.2.1
  have hr := B.returns
  have hlocks := B.notSynchronized
  clear B hB
  have J35 : ∀ (x1 : Int32) (x2 : Int32) (v0 : Int32) (σ : gS) (H : Heap) (locs : List Loc) (ls : Array Slot), w_X9_crowd_35 Q x1 x2 v0 σ → gI D cy ad A s.heap σ H locs → lv_has ls 3 [(0, .ref (ad 10)), (1, .int x1), (2, .int x2)] → W p l e (headSpec ws_X9_crowd rm_X9_crowd).room s m ([.ref (ad 10), .int a1, .int a2] : List Value).toArray below meth c H locs 0 0 (MQ below (va_Qv Q (gB D cy ad A) A) ([.ref (ad 10), .int a1, .int a2] : List Value).toArray s 0 0 A) (F0 m 35 ls [.int v0, .ref (ad 10)]) := by
    intro x1 x2 v0 σ H locs ls h hI hl
    unfold w_X9_crowd_35 at h
    refine lv_iconst (v := 2) hx hb dX9_crowd_35 (by decide) ?_
    refine g_backi hI (g_runV (As := [.int v0, .int 2]) (rest := []) hC hml hI (c_X9_throwsIf l D cy ad A _  _ _ _ h) k_X9_throwsIf gw_5_100 ⟨rfl, rfl⟩ ⟨Nat.le_of_ble_eq_true rfl, Nat.le_of_ble_eq_true rfl⟩ (grv_10 hC hI) rfl hl.1 rfl (Nat.le_of_ble_eq_true rfl) dX9_crowd_36 ⟨Nat.le_of_ble_eq_true rfl, Nat.le_of_ble_eq_true rfl⟩) (fun r2 s1 H locs h hI => ?_)
    refine lv_if_eq (tgt := 43) hx hb dX9_crowd_39 (by decide) (fun c3 => ?_) (fun c3 => ?_)
    · have h := h.1 c3
      refine lv_aload_n hx hb dX9_crowd_43 rfl (lv_at hl 0 rfl) ?_
      refine gg_X9_crowd hC hI gw_4_193 dX9_crowd_44 ?_
      refine lv_iload_n hx hb dX9_crowd_47 rfl (lv_at hl 1 rfl) ?_
      refine lv_iload_n hx hb dX9_crowd_48 rfl (lv_at hl 2 rfl) ?_
      obtain ⟨hi4, h⟩ := h
      refine gs_53 hC hI hi4 dX9_crowd_49 (fun s5 H locs es5 hI => ?_)
      have h := h s5 es5
      exact g_vret hC hr hlocks hI h dX9_crowd_50
    · have h := h.2 c3
      exact g_vret hC hr hlocks hI h dX9_crowd_42
  have hl := lv_entry ([.ref (ad 10), .int a1, .int a2]) (n := 3) (Nat.le_of_ble_eq_true rfl)
  rw [lg_entry_eq]
  generalize (lg_sl ([.ref (ad 10), .int a1, .int a2]) ++ List.replicate (3 - (lg_sl ([.ref (ad 10), .int a1, .int a2])).length) Slot.unset).toArray = ls at hl ⊢
  have hl : lv_has ls 3 [(0, .ref (ad 10)), (1, .int a1), (2, .int a2)] := hl
  unfold w_X9_crowd at h
  refine lv_aload_n hx hb dX9_crowd_0 rfl (lv_at hl 0 rfl) ?_
  refine lv_iconst (v := 0) hx hb dX9_crowd_1 (by decide) ?_
  refine gp_X9_thrown hC hI gw_4_188 dX9_crowd_2 (fun s6 H locs es6 hI => ?_)
  have h := h s6 es6
  refine lv_aload_n hx hb dX9_crowd_5 rfl (lv_at hl 0 rfl) ?_
  refine lv_aload_n hx hb dX9_crowd_6 rfl (lv_at hl 0 rfl) ?_
  refine lv_iload_n hx hb dX9_crowd_7 rfl (lv_at hl 1 rfl) ?_
  refine g_backi hI (g_runV (As := [.int a1]) (rest := [.ref (ad 10)]) hC hml hI (c_X9_noPlace l D cy ad A _  _ _ h) k_X9_noPlace gw_5_133 ⟨rfl, rfl⟩ ⟨Nat.le_of_ble_eq_true rfl, Nat.le_of_ble_eq_true rfl⟩ (grv_10 hC hI) rfl hl.1 rfl (Nat.le_of_ble_eq_true rfl) dX9_crowd_8 ⟨Nat.le_of_ble_eq_true rfl, Nat.le_of_ble_eq_true rfl⟩) (fun r8 s7 H locs h hI => ?_)
  refine lv_iconst (v := 1) hx hb dX9_crowd_11 (by decide) ?_
  refine g_backi hI (g_runV (As := [.int r8, .int 1]) (rest := []) hC hml hI (c_X9_throwsIf l D cy ad A _  _ _ _ h) k_X9_throwsIf gw_5_100 ⟨rfl, rfl⟩ ⟨Nat.le_of_ble_eq_true rfl, Nat.le_of_ble_eq_true rfl⟩ (grv_10 hC hI) rfl hl.1 rfl (Nat.le_of_ble_eq_true rfl) dX9_crowd_12 ⟨Nat.le_of_ble_eq_true rfl, Nat.le_of_ble_eq_true rfl⟩) (fun r10 s9 H locs h hI => ?_)
  refine lv_if_ne (tgt := 42) hx hb dX9_crowd_15 (by decide) (fun c11 => ?_) (fun c11 => ?_)
  · have h := h.1 c11
    exact g_vret hC hr hlocks hI h dX9_crowd_42
  · have h := h.2 c11
    refine lv_aload_n hx hb dX9_crowd_18 rfl (lv_at hl 0 rfl) ?_
    refine lv_iload_n hx hb dX9_crowd_19 rfl (lv_at hl 2 rfl) ?_
    refine lv_iconst (v := 0) hx hb dX9_crowd_20 (by decide) ?_
    refine lv_sipush (v := 20000) hx hb dX9_crowd_21 (by decide) ?_
    refine g_backi hI (g_runS (As := [.int a2, .int 0, .int 20000]) (rest := [.ref (ad 10)]) hC hml hI (c_X9_in l D cy ad A _  _ _ _ _ h) k_X9_in gw_5_97 ⟨rfl, rfl⟩ ⟨Nat.le_of_ble_eq_true rfl, Nat.le_of_ble_eq_true rfl⟩ rfl hl.1 rfl (Nat.le_of_ble_eq_true rfl) dX9_crowd_24 ⟨Nat.le_of_ble_eq_true rfl, Nat.le_of_ble_eq_true rfl⟩) (fun r13 s12 H locs h hI => ?_)
    refine lv_if_ne (tgt := 34) hx hb dX9_crowd_27 (by decide) (fun c14 => ?_) (fun c14 => ?_)
    · have h := h.1 c14
      refine lv_iconst (v := 0) hx hb dX9_crowd_34 (by decide) ?_
      exact J35 _ _ _ _ _ _ _ h hI (lv_sub hl [0, 1, 2] rfl)
    · have h := h.2 c14
      refine lv_iconst (v := 1) hx hb dX9_crowd_30 (by decide) ?_
      refine lv_goto (tgt := 35) hx hb dX9_crowd_31 (by decide) ?_
      exact J35 _ _ _ _ _ _ _ h hI (lv_sub hl [0, 1, 2] rfl)

theorem dX9_shut_0 : decode cX9_shut 0 = .ok (.aload_n 0, 1) := by decide +kernel
theorem dX9_shut_1 : decode cX9_shut 1 = .ok (.iconst 0, 1) := by decide +kernel
theorem dX9_shut_2 : decode cX9_shut 2 = .ok (.putfield 3, 3) := by decide +kernel
theorem dX9_shut_5 : decode cX9_shut 5 = .ok (.aload_n 0, 1) := by decide +kernel
theorem dX9_shut_6 : decode cX9_shut 6 = .ok (.aload_n 0, 1) := by decide +kernel
theorem dX9_shut_7 : decode cX9_shut 7 = .ok (.iload_n 1, 1) := by decide +kernel
theorem dX9_shut_8 : decode cX9_shut 8 = .ok (.invokevirtual 145, 3) := by decide +kernel
theorem dX9_shut_11 : decode cX9_shut 11 = .ok (.iconst 1, 1) := by decide +kernel
theorem dX9_shut_12 : decode cX9_shut 12 = .ok (.invokevirtual 123, 3) := by decide +kernel
theorem dX9_shut_15 : decode cX9_shut 15 = .ok (.ifCond .eq 5, 3) := by decide +kernel
theorem dX9_shut_18 : decode cX9_shut 18 = .ok (.iconst 0, 1) := by decide +kernel
theorem dX9_shut_19 : decode cX9_shut 19 = .ok (.ireturn, 1) := by decide +kernel
theorem dX9_shut_20 : decode cX9_shut 20 = .ok (.aload_n 0, 1) := by decide +kernel
theorem dX9_shut_21 : decode cX9_shut 21 = .ok (.getfield 27, 3) := by decide +kernel
theorem dX9_shut_24 : decode cX9_shut 24 = .ok (.iload_n 1, 1) := by decide +kernel
theorem dX9_shut_25 : decode cX9_shut 25 = .ok (.baload, 1) := by decide +kernel
theorem dX9_shut_26 : decode cX9_shut 26 = .ok (.istore_n 3, 1) := by decide +kernel
theorem dX9_shut_27 : decode cX9_shut 27 = .ok (.aload_n 0, 1) := by decide +kernel
theorem dX9_shut_28 : decode cX9_shut 28 = .ok (.getfield 27, 3) := by decide +kernel
theorem dX9_shut_31 : decode cX9_shut 31 = .ok (.iload_n 1, 1) := by decide +kernel
theorem dX9_shut_32 : decode cX9_shut 32 = .ok (.iload_n 2, 1) := by decide +kernel
theorem dX9_shut_33 : decode cX9_shut 33 = .ok (.bastore, 1) := by decide +kernel
theorem dX9_shut_34 : decode cX9_shut 34 = .ok (.iload_n 3, 1) := by decide +kernel
theorem dX9_shut_35 : decode cX9_shut 35 = .ok (.iload_n 2, 1) := by decide +kernel
theorem dX9_shut_36 : decode cX9_shut 36 = .ok (.if_icmp .eq 7, 3) := by decide +kernel
theorem dX9_shut_39 : decode cX9_shut 39 = .ok (.iconst 1, 1) := by decide +kernel
theorem dX9_shut_40 : decode cX9_shut 40 = .ok (.goto 4, 3) := by decide +kernel
theorem dX9_shut_43 : decode cX9_shut 43 = .ok (.iconst 0, 1) := by decide +kernel
theorem dX9_shut_44 : decode cX9_shut 44 = .ok (.ireturn, 1) := by decide +kernel
def w_X9_shut (Q : Int32 → gS → Prop) (σ : gS) (a1 : Int32) (a2 : Int32) : Prop :=
    ∀ s2 : gS, s2 = gu σ 63 0 0 → w_X9_noPlace  (fun (r4 : Int32) (s3 : gS) => w_X9_throwsIf  (fun (r6 : Int32) (s5 : gS) => (r6 = 0 → vp_in a1 8 ∧ ∀ y9 : Int32, y9 = (s5 70 a1.toNatClampNeg) → vp_in a1 8 ∧ ∀ s11 : gS, s11 = gu s5 70 a1.toNatClampNeg (vp_nar .boolean a2) → (y9 = a2 → Q 0 s11) ∧ (¬ y9 = a2 → Q 1 s11)) ∧ (¬ r6 = 0 → Q 0 s5)) s3 r4 1) s2 a1
abbrev ws_X9_shut : List Cond := Cond.code yX9_shut cX9_shut 4 (some .boolean) :: gG
abbrev rm_X9_shut : Room := { frames := 2, cells := 0, slots := 0, locals := 43 }
theorem k_X9_shut : gCV yX9_shut RX9 cX9_shut 4 (some .boolean) 2 := ⟨gw_5_138, gw_5_139, gw_1_11, gw_5_140, rfl, by decide +kernel⟩
set_option maxHeartbeats 4000000 in
set_option maxRecDepth 100000 in
theorem c_X9_shut (l : Launch) (D : va_G) (cy : Nat → ClassId) (ad : Nat → Nat) (A : Nat → Prop) (Q : Int32 → gS → Prop) (σ : gS) (a1 : Int32) (a2 : Int32) (h : w_X9_shut Q σ a1 a2) : Met l yX9_shut ws_X9_shut rm_X9_shut (va_Pc [.ref (ad 10), .int a1, .int a2] (gB D cy ad A σ)) (va_Qi Q (gB D cy ad A) A) 0 0 A := by
  refine Met.ofW (cc := cX9_shut) (maxL := 4) (ret := (some .boolean)) (by decide) rfl ?_
  intro p e s m args below meth c s₁ B hml hv
  obtain ⟨rfl, hB⟩ := hv
  have hC : gC p c cX9_shut s m ([.ref (ad 10), .int a1, .int a2] : List Value).toArray RX9 D cy ad A := g_start B hB
  have hI := g_first hB
  have hx := hC.1
  have hb := hC.2.1
  have hr := B.returns
  have hlocks := B.notSynchronized
  clear B hB
  have hl := lv_entry ([.ref (ad 10), .int a1, .int a2]) (n := 4) (Nat.le_of_ble_eq_true rfl)
  rw [lg_entry_eq]
  generalize (lg_sl ([.ref (ad 10), .int a1, .int a2]) ++ List.replicate (4 - (lg_sl ([.ref (ad 10), .int a1, .int a2])).length) Slot.unset).toArray = ls at hl ⊢
  have hl : lv_has ls 4 [(0, .ref (ad 10)), (1, .int a1), (2, .int a2)] := hl
  unfold w_X9_shut at h
  refine lv_aload_n hx hb dX9_shut_0 rfl (lv_at hl 0 rfl) ?_
  refine lv_iconst (v := 0) hx hb dX9_shut_1 (by decide) ?_
  refine gp_X9_thrown hC hI gw_4_188 dX9_shut_2 (fun s2 H locs es2 hI => ?_)
  have h := h s2 es2
  refine lv_aload_n hx hb dX9_shut_5 rfl (lv_at hl 0 rfl) ?_
  refine lv_aload_n hx hb dX9_shut_6 rfl (lv_at hl 0 rfl) ?_
  refine lv_iload_n hx hb dX9_shut_7 rfl (lv_at hl 1 rfl) ?_
  refine g_backi hI (g_runV (As := [.int a1]) (rest := [.ref (ad 10)]) hC hml hI (c_X9_noPlace l D cy ad A _  _ _ h) k_X9_noPlace gw_5_133 ⟨rfl, rfl⟩ ⟨Nat.le_of_ble_eq_true rfl, Nat.le_of_ble_eq_true rfl⟩ (grv_10 hC hI) rfl hl.1 rfl (Nat.le_of_ble_eq_true rfl) dX9_shut_8 ⟨Nat.le_of_ble_eq_true rfl, Nat.le_of_ble_eq_true rfl⟩) (fun r4 s3 H locs h hI => ?_)
  refine lv_iconst (v := 1) hx hb dX9_shut_11 (by decide) ?_
  refine g_backi hI (g_runV (As := [.int r4, .int 1]) (rest := []) hC hml hI (c_X9_throwsIf l D cy ad A _  _ _ _ h) k_X9_throwsIf gw_5_100 ⟨rfl, rfl⟩ ⟨Nat.le_of_ble_eq_true rfl, Nat.le_of_ble_eq_true rfl⟩ (grv_10 hC hI) rfl hl.1 rfl (Nat.le_of_ble_eq_true rfl) dX9_shut_12 ⟨Nat.le_of_ble_eq_true rfl, Nat.le_of_ble_eq_true rfl⟩) (fun r6 s5 H locs h hI => ?_)
  refine lv_if_eq (tgt := 20) hx hb dX9_shut_15 (by decide) (fun c7 => ?_) (fun c7 => ?_)
  · have h := h.1 c7
    refine lv_aload_n hx hb dX9_shut_20 rfl (lv_at hl 0 rfl) ?_
    refine gg_X9_isShut hC hI gw_4_195 dX9_shut_21 ?_
    refine lv_iload_n hx hb dX9_shut_24 rfl (lv_at hl 1 rfl) ?_
    obtain ⟨hi8, h⟩ := h
    refine ga_55 hC hI hi8 dX9_shut_25 ?_
    refine lv_topi (fun y9 ey9 => ?_)
    have h := h y9 ey9
    refine lv_istore_n (lv' := [(3, .int y9), (0, .ref (ad 10)), (1, .int a1), (2, .int a2)]) hx hb dX9_shut_26 rfl hl (by decide) rfl (fun ls hl => ?_)
    refine lv_aload_n hx hb dX9_shut_27 rfl (lv_at hl 1 rfl) ?_
    refine gg_X9_isShut hC hI gw_4_195 dX9_shut_28 ?_
    refine lv_iload_n hx hb dX9_shut_31 rfl (lv_at hl 2 rfl) ?_
    refine lv_iload_n hx hb dX9_shut_32 rfl (lv_at hl 3 rfl) ?_
    obtain ⟨hi10, h⟩ := h
    refine gs_55 hC hI hi10 dX9_shut_33 (fun s11 H locs es11 hI => ?_)
    have h := h s11 es11
    refine lv_iload_n hx hb dX9_shut_34 rfl (lv_at hl 0 rfl) ?_
    refine lv_iload_n hx hb dX9_shut_35 rfl (lv_at hl 3 rfl) ?_
    refine lv_icmp_eq (tgt := 43) hx hb dX9_shut_36 (by decide) (fun c12 => ?_) (fun c12 => ?_)
    · have h := h.1 c12
      refine lv_iconst (v := 0) hx hb dX9_shut_43 (by decide) ?_
      exact g_zret hC hr hlocks rfl hI h dX9_shut_44
    · have h := h.2 c12
      refine lv_iconst (v := 1) hx hb dX9_shut_39 (by decide) ?_
      refine lv_goto (tgt := 44) hx hb dX9_shut_40 (by decide) ?_
      exact g_zret hC hr hlocks rfl hI h dX9_shut_44
  · have h := h.2 c7
    refine lv_iconst (v := 0) hx hb dX9_shut_18 (by decide) ?_
    exact g_zret hC hr hlocks rfl hI h dX9_shut_19

theorem dX9_adds_0 : decode cX9_adds 0 = .ok (.aload_n 0, 1) := by decide +kernel
theorem dX9_adds_1 : decode cX9_adds 1 = .ok (.getfield 30, 3) := by decide +kernel
theorem dX9_adds_4 : decode cX9_adds 4 = .ok (.iload_n 1, 1) := by decide +kernel
theorem dX9_adds_5 : decode cX9_adds 5 = .ok (.iload_n 2, 1) := by decide +kernel
theorem dX9_adds_6 : decode cX9_adds 6 = .ok (.iastore, 1) := by decide +kernel
theorem dX9_adds_7 : decode cX9_adds 7 = .ok (.aload_n 0, 1) := by decide +kernel
theorem dX9_adds_8 : decode cX9_adds 8 = .ok (.getfield 33, 3) := by decide +kernel
theorem dX9_adds_11 : decode cX9_adds 11 = .ok (.iload_n 1, 1) := by decide +kernel
theorem dX9_adds_12 : decode cX9_adds 12 = .ok (.iload_n 3, 1) := by decide +kernel
theorem dX9_adds_13 : decode cX9_adds 13 = .ok (.iastore, 1) := by decide +kernel
theorem dX9_adds_14 : decode cX9_adds 14 = .ok (.aload_n 0, 1) := by decide +kernel
theorem dX9_adds_15 : decode cX9_adds 15 = .ok (.getfield 36, 3) := by decide +kernel
theorem dX9_adds_18 : decode cX9_adds 18 = .ok (.iload_n 1, 1) := by decide +kernel
theorem dX9_adds_19 : decode cX9_adds 19 = .ok (.iload 4, 2) := by decide +kernel
theorem dX9_adds_21 : decode cX9_adds 21 = .ok (.iastore, 1) := by decide +kernel
theorem dX9_adds_22 : decode cX9_adds 22 = .ok (.aload_n 0, 1) := by decide +kernel
theorem dX9_adds_23 : decode cX9_adds 23 = .ok (.getfield 39, 3) := by decide +kernel
theorem dX9_adds_26 : decode cX9_adds 26 = .ok (.iload_n 1, 1) := by decide +kernel
theorem dX9_adds_27 : decode cX9_adds 27 = .ok (.iload 5, 2) := by decide +kernel
theorem dX9_adds_29 : decode cX9_adds 29 = .ok (.iastore, 1) := by decide +kernel
theorem dX9_adds_30 : decode cX9_adds 30 = .ok (.return_, 1) := by decide +kernel
def w_X9_adds (Q : gS → Prop) (σ : gS) (a1 : Int32) (a2 : Int32) (a3 : Int32) (a4 : Int32) (a5 : Int32) : Prop :=
    vp_in a1 28 ∧ ∀ s2 : gS, s2 = gu σ 72 a1.toNatClampNeg a2 → vp_in a1 28 ∧ ∀ s4 : gS, s4 = gu s2 73 a1.toNatClampNeg a3 → vp_in a1 28 ∧ ∀ s6 : gS, s6 = gu s4 74 a1.toNatClampNeg a4 → vp_in a1 28 ∧ ∀ s8 : gS, s8 = gu s6 75 a1.toNatClampNeg a5 → Q s8
abbrev ws_X9_adds : List Cond := Cond.code yX9_adds cX9_adds 6 none :: gG
abbrev rm_X9_adds : Room := { frames := 0, cells := 0, slots := 0, locals := 0 }
theorem k_X9_adds : gCV yX9_adds RX9 cX9_adds 6 none 5 := ⟨gw_5_147, gwp_37, gw_1_11, gw_5_148, rfl, by decide +kernel⟩
set_option maxHeartbeats 4000000 in
set_option maxRecDepth 100000 in
theorem c_X9_adds (l : Launch) (D : va_G) (cy : Nat → ClassId) (ad : Nat → Nat) (A : Nat → Prop) (Q : gS → Prop) (σ : gS) (a1 : Int32) (a2 : Int32) (a3 : Int32) (a4 : Int32) (a5 : Int32) (h : w_X9_adds Q σ a1 a2 a3 a4 a5) : Met l yX9_adds ws_X9_adds rm_X9_adds (va_Pc [.ref (ad 10), .int a1, .int a2, .int a3, .int a4, .int a5] (gB D cy ad A σ)) (va_Qv Q (gB D cy ad A) A) 0 0 A := by
  refine Met.ofW (cc := cX9_adds) (maxL := 6) (ret := none) (by decide) rfl ?_
  intro p e s m args below meth c s₁ B hml hv
  obtain ⟨rfl, hB⟩ := hv
  have hC : gC p c cX9_adds s m ([.ref (ad 10), .int a1, .int a2, .int a3, .int a4, .int a5] : List Value).toArray RX9 D cy ad A := g_start B hB
  have hI := g_first hB
  have hx := hC.1
  have hb := hC.2.1
  have hr := B.returns
  have hlocks := B.notSynchronized
  clear B hB
  have hl := lv_entry ([.ref (ad 10), .int a1, .int a2, .int a3, .int a4, .int a5]) (n := 6) (Nat.le_of_ble_eq_true rfl)
  rw [lg_entry_eq]
  generalize (lg_sl ([.ref (ad 10), .int a1, .int a2, .int a3, .int a4, .int a5]) ++ List.replicate (6 - (lg_sl ([.ref (ad 10), .int a1, .int a2, .int a3, .int a4, .int a5])).length) Slot.unset).toArray = ls at hl ⊢
  have hl : lv_has ls 6 [(0, .ref (ad 10)), (1, .int a1), (2, .int a2), (3, .int a3), (4, .int a4), (5, .int a5)] := hl
  unfold w_X9_adds at h
  refine lv_aload_n hx hb dX9_adds_0 rfl (lv_at hl 0 rfl) ?_
  refine gg_X9_from hC hI gw_4_197 dX9_adds_1 ?_
  refine lv_iload_n hx hb dX9_adds_4 rfl (lv_at hl 1 rfl) ?_
  refine lv_iload_n hx hb dX9_adds_5 rfl (lv_at hl 2 rfl) ?_
  obtain ⟨hi1, h⟩ := h
  refine gs_56 hC hI hi1 dX9_adds_6 (fun s2 H locs es2 hI => ?_)
  have h := h s2 es2
  refine lv_aload_n hx hb dX9_adds_7 rfl (lv_at hl 0 rfl) ?_
  refine gg_X9_to hC hI gw_4_198 dX9_adds_8 ?_
  refine lv_iload_n hx hb dX9_adds_11 rfl (lv_at hl 1 rfl) ?_
  refine lv_iload_n hx hb dX9_adds_12 rfl (lv_at hl 3 rfl) ?_
  obtain ⟨hi3, h⟩ := h
  refine gs_57 hC hI hi3 dX9_adds_13 (fun s4 H locs es4 hI => ?_)
  have h := h s4 es4
  refine lv_aload_n hx hb dX9_adds_14 rfl (lv_at hl 0 rfl) ?_
  refine gg_X9_length hC hI gw_4_199 dX9_adds_15 ?_
  refine lv_iload_n hx hb dX9_adds_18 rfl (lv_at hl 1 rfl) ?_
  refine lv_iload hx hb dX9_adds_19 (lv_at hl 4 rfl) ?_
  obtain ⟨hi5, h⟩ := h
  refine gs_58 hC hI hi5 dX9_adds_21 (fun s6 H locs es6 hI => ?_)
  have h := h s6 es6
  refine lv_aload_n hx hb dX9_adds_22 rfl (lv_at hl 0 rfl) ?_
  refine gg_X9_wide hC hI gw_4_200 dX9_adds_23 ?_
  refine lv_iload_n hx hb dX9_adds_26 rfl (lv_at hl 1 rfl) ?_
  refine lv_iload hx hb dX9_adds_27 (lv_at hl 5 rfl) ?_
  obtain ⟨hi7, h⟩ := h
  refine gs_59 hC hI hi7 dX9_adds_29 (fun s8 H locs es8 hI => ?_)
  have h := h s8 es8
  exact g_vret hC hr hlocks hI h dX9_adds_30

theorem dX9_way_0 : decode cX9_way 0 = .ok (.aload_n 0, 1) := by decide +kernel
theorem dX9_way_1 : decode cX9_way 1 = .ok (.iconst 0, 1) := by decide +kernel
theorem dX9_way_2 : decode cX9_way 2 = .ok (.putfield 3, 3) := by decide +kernel
theorem dX9_way_5 : decode cX9_way 5 = .ok (.aload_n 0, 1) := by decide +kernel
theorem dX9_way_6 : decode cX9_way 6 = .ok (.aload_n 0, 1) := by decide +kernel
theorem dX9_way_7 : decode cX9_way 7 = .ok (.iload_n 1, 1) := by decide +kernel
theorem dX9_way_8 : decode cX9_way 8 = .ok (.invokevirtual 145, 3) := by decide +kernel
theorem dX9_way_11 : decode cX9_way 11 = .ok (.ifCond .ne 11, 3) := by decide +kernel
theorem dX9_way_14 : decode cX9_way 14 = .ok (.aload_n 0, 1) := by decide +kernel
theorem dX9_way_15 : decode cX9_way 15 = .ok (.iload_n 2, 1) := by decide +kernel
theorem dX9_way_16 : decode cX9_way 16 = .ok (.invokevirtual 145, 3) := by decide +kernel
theorem dX9_way_19 : decode cX9_way 19 = .ok (.ifCond .eq 7, 3) := by decide +kernel
theorem dX9_way_22 : decode cX9_way 22 = .ok (.iconst 1, 1) := by decide +kernel
theorem dX9_way_23 : decode cX9_way 23 = .ok (.goto 4, 3) := by decide +kernel
theorem dX9_way_26 : decode cX9_way 26 = .ok (.iconst 0, 1) := by decide +kernel
theorem dX9_way_27 : decode cX9_way 27 = .ok (.iconst 1, 1) := by decide +kernel
theorem dX9_way_28 : decode cX9_way 28 = .ok (.invokevirtual 123, 3) := by decide +kernel
theorem dX9_way_31 : decode cX9_way 31 = .ok (.ifCond .ne 65, 3) := by decide +kernel
theorem dX9_way_34 : decode cX9_way 34 = .ok (.aload_n 0, 1) := by decide +kernel
theorem dX9_way_35 : decode cX9_way 35 = .ok (.iload_n 3, 1) := by decide +kernel
theorem dX9_way_36 : decode cX9_way 36 = .ok (.iconst 1, 1) := by decide +kernel
theorem dX9_way_37 : decode cX9_way 37 = .ok (.bipush 8, 2) := by decide +kernel
theorem dX9_way_39 : decode cX9_way 39 = .ok (.invokestatic 115, 3) := by decide +kernel
theorem dX9_way_42 : decode cX9_way 42 = .ok (.ifCond .eq 20, 3) := by decide +kernel
theorem dX9_way_45 : decode cX9_way 45 = .ok (.iload 4, 2) := by decide +kernel
theorem dX9_way_47 : decode cX9_way 47 = .ok (.iconst 1, 1) := by decide +kernel
theorem dX9_way_48 : decode cX9_way 48 = .ok (.sipush 2000, 3) := by decide +kernel
theorem dX9_way_51 : decode cX9_way 51 = .ok (.invokestatic 115, 3) := by decide +kernel
theorem dX9_way_54 : decode cX9_way 54 = .ok (.ifCond .eq 8, 3) := by decide +kernel
theorem dX9_way_57 : decode cX9_way 57 = .ok (.iload_n 1, 1) := by decide +kernel
theorem dX9_way_58 : decode cX9_way 58 = .ok (.iload_n 2, 1) := by decide +kernel
theorem dX9_way_59 : decode cX9_way 59 = .ok (.if_icmp .ne 7, 3) := by decide +kernel
theorem dX9_way_62 : decode cX9_way 62 = .ok (.iconst 1, 1) := by decide +kernel
theorem dX9_way_63 : decode cX9_way 63 = .ok (.goto 4, 3) := by decide +kernel
theorem dX9_way_66 : decode cX9_way 66 = .ok (.iconst 0, 1) := by decide +kernel
theorem dX9_way_67 : decode cX9_way 67 = .ok (.iconst 2, 1) := by decide +kernel
theorem dX9_way_68 : decode cX9_way 68 = .ok (.invokevirtual 123, 3) := by decide +kernel
theorem dX9_way_71 : decode cX9_way 71 = .ok (.ifCond .ne 25, 3) := by decide +kernel
theorem dX9_way_74 : decode cX9_way 74 = .ok (.aload_n 0, 1) := by decide +kernel
theorem dX9_way_75 : decode cX9_way 75 = .ok (.aload_n 0, 1) := by decide +kernel
theorem dX9_way_76 : decode cX9_way 76 = .ok (.getfield 148, 3) := by decide +kernel
theorem dX9_way_79 : decode cX9_way 79 = .ok (.bipush 14, 2) := by decide +kernel
theorem dX9_way_81 : decode cX9_way 81 = .ok (.if_icmp .ne 7, 3) := by decide +kernel
theorem dX9_way_84 : decode cX9_way 84 = .ok (.iconst 1, 1) := by decide +kernel
theorem dX9_way_85 : decode cX9_way 85 = .ok (.goto 4, 3) := by decide +kernel
theorem dX9_way_88 : decode cX9_way 88 = .ok (.iconst 0, 1) := by decide +kernel
theorem dX9_way_89 : decode cX9_way 89 = .ok (.iconst 3, 1) := by decide +kernel
theorem dX9_way_90 : decode cX9_way 90 = .ok (.invokevirtual 123, 3) := by decide +kernel
theorem dX9_way_93 : decode cX9_way 93 = .ok (.ifCond .eq 5, 3) := by decide +kernel
theorem dX9_way_96 : decode cX9_way 96 = .ok (.iconst 0, 1) := by decide +kernel
theorem dX9_way_97 : decode cX9_way 97 = .ok (.ireturn, 1) := by decide +kernel
theorem dX9_way_98 : decode cX9_way 98 = .ok (.aload_n 0, 1) := by decide +kernel
theorem dX9_way_99 : decode cX9_way 99 = .ok (.iconst 2, 1) := by decide +kernel
theorem dX9_way_100 : decode cX9_way 100 = .ok (.aload_n 0, 1) := by decide +kernel
theorem dX9_way_101 : decode cX9_way 101 = .ok (.getfield 148, 3) := by decide +kernel
theorem dX9_way_104 : decode cX9_way 104 = .ok (.imul, 1) := by decide +kernel
theorem dX9_way_105 : decode cX9_way 105 = .ok (.iload_n 1, 1) := by decide +kernel
theorem dX9_way_106 : decode cX9_way 106 = .ok (.iload_n 2, 1) := by decide +kernel
theorem dX9_way_107 : decode cX9_way 107 = .ok (.iload_n 3, 1) := by decide +kernel
theorem dX9_way_108 : decode cX9_way 108 = .ok (.iload 4, 2) := by decide +kernel
theorem dX9_way_110 : decode cX9_way 110 = .ok (.invokevirtual 151, 3) := by decide +kernel
theorem dX9_way_113 : decode cX9_way 113 = .ok (.aload_n 0, 1) := by decide +kernel
theorem dX9_way_114 : decode cX9_way 114 = .ok (.iconst 2, 1) := by decide +kernel
theorem dX9_way_115 : decode cX9_way 115 = .ok (.aload_n 0, 1) := by decide +kernel
theorem dX9_way_116 : decode cX9_way 116 = .ok (.getfield 148, 3) := by decide +kernel
theorem dX9_way_119 : decode cX9_way 119 = .ok (.imul, 1) := by decide +kernel
theorem dX9_way_120 : decode cX9_way 120 = .ok (.iconst 1, 1) := by decide +kernel
theorem dX9_way_121 : decode cX9_way 121 = .ok (.iadd, 1) := by decide +kernel
theorem dX9_way_122 : decode cX9_way 122 = .ok (.iload_n 2, 1) := by decide +kernel
theorem dX9_way_123 : decode cX9_way 123 = .ok (.iload_n 1, 1) := by decide +kernel
theorem dX9_way_124 : decode cX9_way 124 = .ok (.iload_n 3, 1) := by decide +kernel
theorem dX9_way_125 : decode cX9_way 125 = .ok (.iload 4, 2) := by decide +kernel
theorem dX9_way_127 : decode cX9_way 127 = .ok (.invokevirtual 151, 3) := by decide +kernel
theorem dX9_way_130 : decode cX9_way 130 = .ok (.aload_n 0, 1) := by decide +kernel
theorem dX9_way_131 : decode cX9_way 131 = .ok (.dup, 1) := by decide +kernel
theorem dX9_way_132 : decode cX9_way 132 = .ok (.getfield 148, 3) := by decide +kernel
theorem dX9_way_135 : decode cX9_way 135 = .ok (.iconst 1, 1) := by decide +kernel
theorem dX9_way_136 : decode cX9_way 136 = .ok (.iadd, 1) := by decide +kernel
theorem dX9_way_137 : decode cX9_way 137 = .ok (.putfield 148, 3) := by decide +kernel
theorem dX9_way_140 : decode cX9_way 140 = .ok (.aload_n 0, 1) := by decide +kernel
theorem dX9_way_141 : decode cX9_way 141 = .ok (.getfield 148, 3) := by decide +kernel
theorem dX9_way_144 : decode cX9_way 144 = .ok (.iconst 1, 1) := by decide +kernel
theorem dX9_way_145 : decode cX9_way 145 = .ok (.isub, 1) := by decide +kernel
theorem dX9_way_146 : decode cX9_way 146 = .ok (.ireturn, 1) := by decide +kernel
def w_X9_way_89 (Q : Int32 → gS → Prop) (x1 : Int32) (x2 : Int32) (x3 : Int32) (x4 : Int32) (v0 : Int32) (σ : gS) : Prop :=
    w_X9_throwsIf  (fun (r2 : Int32) (s1 : gS) => (r2 = 0 → w_X9_adds  (fun (s4 : gS) => w_X9_adds  (fun (s6 : gS) => ∀ s8 : gS, s8 = gu s6 76 0 ((s6 76 0) + 1) → Q ((s8 76 0) - 1) s8) s4 ((2 * (s4 76 0)) + 1) x2 x1 x3 x4) s1 (2 * (s1 76 0)) x1 x2 x3 x4) ∧ (¬ r2 = 0 → Q 0 s1)) σ v0 3
def w_X9_way_67 (Q : Int32 → gS → Prop) (x1 : Int32) (x2 : Int32) (x3 : Int32) (x4 : Int32) (v0 : Int32) (σ : gS) : Prop :=
    w_X9_throwsIf  (fun (r10 : Int32) (s9 : gS) => (¬ r10 = 0 → Q 0 s9) ∧ (r10 = 0 → (¬ (s9 76 0) = 14 → w_X9_way_89 Q x1 x2 x3 x4 0 s9) ∧ ((s9 76 0) = 14 → w_X9_way_89 Q x1 x2 x3 x4 1 s9))) σ v0 2
def w_X9_way_27 (Q : Int32 → gS → Prop) (x1 : Int32) (x2 : Int32) (x3 : Int32) (x4 : Int32) (v0 : Int32) (σ : gS) : Prop :=
    w_X9_throwsIf  (fun (r14 : Int32) (s13 : gS) => (¬ r14 = 0 → Q 0 s13) ∧ (r14 = 0 → w_X9_in  (fun (r17 : Int32) (s16 : gS) => (r17 = 0 → w_X9_way_67 Q x1 x2 x3 x4 1 s16) ∧ (¬ r17 = 0 → w_X9_in  (fun (r20 : Int32) (s19 : gS) => (r20 = 0 → w_X9_way_67 Q x1 x2 x3 x4 1 s19) ∧ (¬ r20 = 0 → (¬ x1 = x2 → w_X9_way_67 Q x1 x2 x3 x4 0 s19) ∧ (x1 = x2 → w_X9_way_67 Q x1 x2 x3 x4 1 s19))) s16 x4 1 2000)) s13 x3 1 8)) σ v0 1
def w_X9_way (Q : Int32 → gS → Prop) (σ : gS) (a1 : Int32) (a2 : Int32) (a3 : Int32) (a4 : Int32) : Prop :=
    ∀ s23 : gS, s23 = gu σ 63 0 0 → w_X9_noPlace  (fun (r25 : Int32) (s24 : gS) => (¬ r25 = 0 → w_X9_way_27 Q a1 a2 a3 a4 1 s24) ∧ (r25 = 0 → w_X9_noPlace  (fun (r28 : Int32) (s27 : gS) => (r28 = 0 → w_X9_way_27 Q a1 a2 a3 a4 0 s27) ∧ (¬ r28 = 0 → w_X9_way_27 Q a1 a2 a3 a4 1 s27)) s24 a2)) s23 a1
abbrev ws_X9_way : List Cond := Cond.code yX9_way cX9_way 5 (some .int) :: gG
abbrev rm_X9_way : Room := { frames := 2, cells := 0, slots := 0, locals := 43 }
theorem k_X9_way : gCV yX9_way RX9 cX9_way 5 (some .int) 4 := ⟨gw_5_142, gw_5_143, gw_1_11, gw_5_144, rfl, by decide +kernel⟩
set_option maxHeartbeats 4000000 in
set_option maxRecDepth 100000 in
theorem c_X9_way (l : Launch) (D : va_G) (cy : Nat → ClassId) (ad : Nat → Nat) (A : Nat → Prop) (Q : Int32 → gS → Prop) (σ : gS) (a1 : Int32) (a2 : Int32) (a3 : Int32) (a4 : Int32) (h : w_X9_way Q σ a1 a2 a3 a4) : Met l yX9_way ws_X9_way rm_X9_way (va_Pc [.ref (ad 10), .int a1, .int a2, .int a3, .int a4] (gB D cy ad A σ)) (va_Qi Q (gB D cy ad A) A) 0 0 A := by
  refine Met.ofW (cc := cX9_way) (maxL := 5) (ret := (some .int)) (by decide) rfl ?_
  intro p e s m args below meth c s₁ B hml hv
  obtain ⟨rfl, hB⟩ := hv
  have hC : gC p c cX9_way s m ([.ref (ad 10), .int a1, .int a2, .int a3, .int a4] : List Value).toArray RX9 D cy ad A := g_start B hB
  have hI := g_first hB
  have hx := hC.1
  have hb := hC.2.1
  have hr := B.returns
  have hlocks := B.notSynchronized
  clear B hB
  have J89 : ∀ (x1 : Int32) (x2 : Int32) (x3 : Int32) (x4 : Int32) (v0 : Int32) (σ : gS) (H : Heap) (locs : List Loc) (ls : Array Slot), w_X9_way_89 Q x1 x2 x3 x4 v0 σ → gI D cy ad A s.heap σ H locs → lv_has ls 5 [(0, .ref (ad 10)), (1, .int x1), (2, .int x2), (3, .int x3), (4, .int x4)] → W p l e (headSpec ws_X9_way rm_X9_way).room s m ([.ref (ad 10), .int a1, .int a2, .int a3, .int a4] : List Value).toArray below meth c H locs 0 0 (MQ below (va_Qi Q (gB D cy ad A) A) ([.ref (ad 10), .int a1, .int a2, .int a3, .int a4] : List Value).toArray s 0 0 A) (F0 m 89 ls [.int v0, .ref (ad 10)]) := by
    intro x1 x2 x3 x4 v0 σ H locs ls h hI hl
    unfold w_X9_way_89 at h
    refine lv_iconst (v := 3) hx hb dX9_way_89 (by decide) ?_
    refine g_backi hI (g_runV (As := [.int v0, .int 3]) (rest := []) hC hml hI (c_X9_throwsIf l D cy ad A _  _ _ _ h) k_X9_throwsIf gw_5_100 ⟨rfl, rfl⟩ ⟨Nat.le_of_ble_eq_true rfl, Nat.le_of_ble_eq_true rfl⟩ (grv_10 hC hI) rfl hl.1 rfl (Nat.le_of_ble_eq_true rfl) dX9_way_90 ⟨Nat.le_of_ble_eq_true rfl, Nat.le_of_ble_eq_true rfl⟩) (fun r2 s1 H locs h hI => ?_)
    refine lv_if_eq (tgt := 98) hx hb dX9_way_93 (by decide) (fun c3 => ?_) (fun c3 => ?_)
    · have h := h.1 c3
      refine lv_aload_n hx hb dX9_way_98 rfl (lv_at hl 0 rfl) ?_
      refine lv_iconst (v := 2) hx hb dX9_way_99 (by decide) ?_
      refine lv_aload_n hx hb dX9_way_100 rfl (lv_at hl 0 rfl) ?_
      refine gg_X9_ways hC hI gw_4_201 dX9_way_101 ?_
      refine lv_imul hx hb dX9_way_104 ?_
      refine lv_iload_n hx hb dX9_way_105 rfl (lv_at hl 1 rfl) ?_
      refine lv_iload_n hx hb dX9_way_106 rfl (lv_at hl 2 rfl) ?_
      refine lv_iload_n hx hb dX9_way_107 rfl (lv_at hl 3 rfl) ?_
      refine lv_iload hx hb dX9_way_108 (lv_at hl 4 rfl) ?_
      refine g_backv hI (g_runV (As := [.int (2 * (s1 76 0)), .int x1, .int x2, .int x3, .int x4]) (rest := []) hC hml hI (c_X9_adds l D cy ad A _  _ _ _ _ _ _ h) k_X9_adds gw_5_145 ⟨rfl, rfl⟩ ⟨Nat.le_of_ble_eq_true rfl, Nat.le_of_ble_eq_true rfl⟩ (grv_10 hC hI) rfl hl.1 rfl (Nat.le_of_ble_eq_true rfl) dX9_way_110 ⟨Nat.le_of_ble_eq_true rfl, Nat.le_of_ble_eq_true rfl⟩) (fun s4 H locs h hI => ?_)
      refine lv_aload_n hx hb dX9_way_113 rfl (lv_at hl 0 rfl) ?_
      refine lv_iconst (v := 2) hx hb dX9_way_114 (by decide) ?_
      refine lv_aload_n hx hb dX9_way_115 rfl (lv_at hl 0 rfl) ?_
      refine gg_X9_ways hC hI gw_4_201 dX9_way_116 ?_
      refine lv_imul hx hb dX9_way_119 ?_
      refine lv_iconst (v := 1) hx hb dX9_way_120 (by decide) ?_
      refine lv_iadd hx hb dX9_way_121 ?_
      refine lv_iload_n hx hb dX9_way_122 rfl (lv_at hl 2 rfl) ?_
      refine lv_iload_n hx hb dX9_way_123 rfl (lv_at hl 1 rfl) ?_
      refine lv_iload_n hx hb dX9_way_124 rfl (lv_at hl 3 rfl) ?_
      refine lv_iload hx hb dX9_way_125 (lv_at hl 4 rfl) ?_
      refine g_backv hI (g_runV (As := [.int ((2 * (s4 76 0)) + 1), .int x2, .int x1, .int x3, .int x4]) (rest := []) hC hml hI (c_X9_adds l D cy ad A _  _ _ _ _ _ _ h) k_X9_adds gw_5_145 ⟨rfl, rfl⟩ ⟨Nat.le_of_ble_eq_true rfl, Nat.le_of_ble_eq_true rfl⟩ (grv_10 hC hI) rfl hl.1 rfl (Nat.le_of_ble_eq_true rfl) dX9_way_127 ⟨Nat.le_of_ble_eq_true rfl, Nat.le_of_ble_eq_true rfl⟩) (fun s6 H locs h hI => ?_)
      refine lv_aload_n hx hb dX9_way_130 rfl (lv_at hl 0 rfl) ?_
      refine lv_dup hx hb dX9_way_131 rfl ?_
      refine gg_X9_ways hC hI gw_4_201 dX9_way_132 ?_
      refine lv_iconst (v := 1) hx hb dX9_way_135 (by decide) ?_
      refine lv_iadd hx hb dX9_way_136 ?_
      refine gp_X9_ways hC hI gw_4_201 dX9_way_137 (fun s8 H locs es8 hI => ?_)
      have h := h s8 es8
      refine lv_aload_n hx hb dX9_way_140 rfl (lv_at hl 0 rfl) ?_
      refine gg_X9_ways hC hI gw_4_201 dX9_way_141 ?_
      refine lv_iconst (v := 1) hx hb dX9_way_144 (by decide) ?_
      refine lv_isub hx hb dX9_way_145 ?_
      exact g_iret hC hr hlocks hI h dX9_way_146
    · have h := h.2 c3
      refine lv_iconst (v := 0) hx hb dX9_way_96 (by decide) ?_
      exact g_iret hC hr hlocks hI h dX9_way_97
  have J67 : ∀ (x1 : Int32) (x2 : Int32) (x3 : Int32) (x4 : Int32) (v0 : Int32) (σ : gS) (H : Heap) (locs : List Loc) (ls : Array Slot), w_X9_way_67 Q x1 x2 x3 x4 v0 σ → gI D cy ad A s.heap σ H locs → lv_has ls 5 [(0, .ref (ad 10)), (1, .int x1), (2, .int x2), (3, .int x3), (4, .int x4)] → W p l e (headSpec ws_X9_way rm_X9_way).room s m ([.ref (ad 10), .int a1, .int a2, .int a3, .int a4] : List Value).toArray below meth c H locs 0 0 (MQ below (va_Qi Q (gB D cy ad A) A) ([.ref (ad 10), .int a1, .int a2, .int a3, .int a4] : List Value).toArray s 0 0 A) (F0 m 67 ls [.int v0, .ref (ad 10)]) := by
    intro x1 x2 x3 x4 v0 σ H locs ls h hI hl
    unfold w_X9_way_67 at h
    refine lv_iconst (v := 2) hx hb dX9_way_67 (by decide) ?_
    refine g_backi hI (g_runV (As := [.int v0, .int 2]) (rest := []) hC hml hI (c_X9_throwsIf l D cy ad A _  _ _ _ h) k_X9_throwsIf gw_5_100 ⟨rfl, rfl⟩ ⟨Nat.le_of_ble_eq_true rfl, Nat.le_of_ble_eq_true rfl⟩ (grv_10 hC hI) rfl hl.1 rfl (Nat.le_of_ble_eq_true rfl) dX9_way_68 ⟨Nat.le_of_ble_eq_true rfl, Nat.le_of_ble_eq_true rfl⟩) (fun r10 s9 H locs h hI => ?_)
    refine lv_if_ne (tgt := 96) hx hb dX9_way_71 (by decide) (fun c11 => ?_) (fun c11 => ?_)
    · have h := h.1 c11
      refine lv_iconst (v := 0) hx hb dX9_way_96 (by decide) ?_
      exact g_iret hC hr hlocks hI h dX9_way_97
    · have h := h.2 c11
      refine lv_aload_n hx hb dX9_way_74 rfl (lv_at hl 0 rfl) ?_
      refine lv_aload_n hx hb dX9_way_75 rfl (lv_at hl 0 rfl) ?_
      refine gg_X9_ways hC hI gw_4_201 dX9_way_76 ?_
      refine lv_bipush (v := 14) hx hb dX9_way_79 (by decide) ?_
      refine lv_icmp_ne (tgt := 88) hx hb dX9_way_81 (by decide) (fun c12 => ?_) (fun c12 => ?_)
      · have h := h.1 c12
        refine lv_iconst (v := 0) hx hb dX9_way_88 (by decide) ?_
        exact J89 _ _ _ _ _ _ _ _ _ h hI (lv_sub hl [0, 1, 2, 3, 4] rfl)
      · have h := h.2 c12
        refine lv_iconst (v := 1) hx hb dX9_way_84 (by decide) ?_
        refine lv_goto (tgt := 89) hx hb dX9_way_85 (by decide) ?_
        exact J89 _ _ _ _ _ _ _ _ _ h hI (lv_sub hl [0, 1, 2, 3, 4] rfl)
  have J27 : ∀ (x1 : Int32) (x2 : Int32) (x3 : Int32) (x4 : Int32) (v0 : Int32) (σ : gS) (H : Heap) (locs : List Loc) (ls : Array Slot), w_X9_way_27 Q x1 x2 x3 x4 v0 σ → gI D cy ad A s.heap σ H locs → lv_has ls 5 [(0, .ref (ad 10)), (1, .int x1), (2, .int x2), (3, .int x3), (4, .int x4)] → W p l e (headSpec ws_X9_way rm_X9_way).room s m ([.ref (ad 10), .int a1, .int a2, .int a3, .int a4] : List Value).toArray below meth c H locs 0 0 (MQ below (va_Qi Q (gB D cy ad A) A) ([.ref (ad 10), .int a1, .int a2, .int a3, .int a4] : List Value).toArray s 0 0 A) (F0 m 27 ls [.int v0, .ref (ad 10)]) := by
    intro x1 x2 x3 x4 v0 σ H locs ls h hI hl
    unfold w_X9_way_27 at h
    refine lv_iconst (v := 1) hx hb dX9_way_27 (by decide) ?_
    refine g_backi hI (g_runV (As := [.int v0, .int 1]) (rest := []) hC hml hI (c_X9_throwsIf l D cy ad A _  _ _ _ h) k_X9_throwsIf gw_5_100 ⟨rfl, rfl⟩ ⟨Nat.le_of_ble_eq_true rfl, Nat.le_of_ble_eq_true rfl⟩ (grv_10 hC hI) rfl hl.1 rfl (Nat.le_of_ble_eq_true rfl) dX9_way_28 ⟨Nat.le_of_ble_eq_true rfl, Nat.le_of_ble_eq_true rfl⟩) (fun r14 s13 H locs h hI => ?_)
    refine lv_if_ne (tgt := 96) hx hb dX9_way_31 (by decide) (fun c15 => ?_) (fun c15 => ?_)
    · have h := h.1 c15
      refine lv_iconst (v := 0) hx hb dX9_way_96 (by decide) ?_
      exact g_iret hC hr hlocks hI h dX9_way_97
    · have h := h.2 c15
      refine lv_aload_n hx hb dX9_way_34 rfl (lv_at hl 0 rfl) ?_
      refine lv_iload_n hx hb dX9_way_35 rfl (lv_at hl 3 rfl) ?_
      refine lv_iconst (v := 1) hx hb dX9_way_36 (by decide) ?_
      refine lv_bipush (v := 8) hx hb dX9_way_37 (by decide) ?_
      refine g_backi hI (g_runS (As := [.int x3, .int 1, .int 8]) (rest := [.ref (ad 10)]) hC hml hI (c_X9_in l D cy ad A _  _ _ _ _ h) k_X9_in gw_5_97 ⟨rfl, rfl⟩ ⟨Nat.le_of_ble_eq_true rfl, Nat.le_of_ble_eq_true rfl⟩ rfl hl.1 rfl (Nat.le_of_ble_eq_true rfl) dX9_way_39 ⟨Nat.le_of_ble_eq_true rfl, Nat.le_of_ble_eq_true rfl⟩) (fun r17 s16 H locs h hI => ?_)
      refine lv_if_eq (tgt := 62) hx hb dX9_way_42 (by decide) (fun c18 => ?_) (fun c18 => ?_)
      · have h := h.1 c18
        refine lv_iconst (v := 1) hx hb dX9_way_62 (by decide) ?_
        refine lv_goto (tgt := 67) hx hb dX9_way_63 (by decide) ?_
        exact J67 _ _ _ _ _ _ _ _ _ h hI (lv_sub hl [0, 1, 2, 3, 4] rfl)
      · have h := h.2 c18
        refine lv_iload hx hb dX9_way_45 (lv_at hl 4 rfl) ?_
        refine lv_iconst (v := 1) hx hb dX9_way_47 (by decide) ?_
        refine lv_sipush (v := 2000) hx hb dX9_way_48 (by decide) ?_
        refine g_backi hI (g_runS (As := [.int x4, .int 1, .int 2000]) (rest := [.ref (ad 10)]) hC hml hI (c_X9_in l D cy ad A _  _ _ _ _ h) k_X9_in gw_5_97 ⟨rfl, rfl⟩ ⟨Nat.le_of_ble_eq_true rfl, Nat.le_of_ble_eq_true rfl⟩ rfl hl.1 rfl (Nat.le_of_ble_eq_true rfl) dX9_way_51 ⟨Nat.le_of_ble_eq_true rfl, Nat.le_of_ble_eq_true rfl⟩) (fun r20 s19 H locs h hI => ?_)
        refine lv_if_eq (tgt := 62) hx hb dX9_way_54 (by decide) (fun c21 => ?_) (fun c21 => ?_)
        · have h := h.1 c21
          refine lv_iconst (v := 1) hx hb dX9_way_62 (by decide) ?_
          refine lv_goto (tgt := 67) hx hb dX9_way_63 (by decide) ?_
          exact J67 _ _ _ _ _ _ _ _ _ h hI (lv_sub hl [0, 1, 2, 3, 4] rfl)
        · have h := h.2 c21
          refine lv_iload_n hx hb dX9_way_57 rfl (lv_at hl 1 rfl) ?_
          refine lv_iload_n hx hb dX9_way_58 rfl (lv_at hl 2 rfl) ?_
          refine lv_icmp_ne (tgt := 66) hx hb dX9_way_59 (by decide) (fun c22 => ?_) (fun c22 => ?_)
          · have h := h.1 c22
            refine lv_iconst (v := 0) hx hb dX9_way_66 (by decide) ?_
            exact J67 _ _ _ _ _ _ _ _ _ h hI (lv_sub hl [0, 1, 2, 3, 4] rfl)
          · have h := h.2 c22
            refine lv_iconst (v := 1) hx hb dX9_way_62 (by decide) ?_
            refine lv_goto (tgt := 67) hx hb dX9_way_63 (by decide) ?_
            exact J67 _ _ _ _ _ _ _ _ _ h hI (lv_sub hl [0, 1, 2, 3, 4] rfl)
  have hl := lv_entry ([.ref (ad 10), .int a1, .int a2, .int a3, .int a4]) (n := 5) (Nat.le_of_ble_eq_true rfl)
  rw [lg_entry_eq]
  generalize (lg_sl ([.ref (ad 10), .int a1, .int a2, .int a3, .int a4]) ++ List.replicate (5 - (lg_sl ([.ref (ad 10), .int a1, .int a2, .int a3, .int a4])).length) Slot.unset).toArray = ls at hl ⊢
  have hl : lv_has ls 5 [(0, .ref (ad 10)), (1, .int a1), (2, .int a2), (3, .int a3), (4, .int a4)] := hl
  unfold w_X9_way at h
  refine lv_aload_n hx hb dX9_way_0 rfl (lv_at hl 0 rfl) ?_
  refine lv_iconst (v := 0) hx hb dX9_way_1 (by decide) ?_
  refine gp_X9_thrown hC hI gw_4_188 dX9_way_2 (fun s23 H locs es23 hI => ?_)
  have h := h s23 es23
  refine lv_aload_n hx hb dX9_way_5 rfl (lv_at hl 0 rfl) ?_
  refine lv_aload_n hx hb dX9_way_6 rfl (lv_at hl 0 rfl) ?_
  refine lv_iload_n hx hb dX9_way_7 rfl (lv_at hl 1 rfl) ?_
  refine g_backi hI (g_runV (As := [.int a1]) (rest := [.ref (ad 10)]) hC hml hI (c_X9_noPlace l D cy ad A _  _ _ h) k_X9_noPlace gw_5_133 ⟨rfl, rfl⟩ ⟨Nat.le_of_ble_eq_true rfl, Nat.le_of_ble_eq_true rfl⟩ (grv_10 hC hI) rfl hl.1 rfl (Nat.le_of_ble_eq_true rfl) dX9_way_8 ⟨Nat.le_of_ble_eq_true rfl, Nat.le_of_ble_eq_true rfl⟩) (fun r25 s24 H locs h hI => ?_)
  refine lv_if_ne (tgt := 22) hx hb dX9_way_11 (by decide) (fun c26 => ?_) (fun c26 => ?_)
  · have h := h.1 c26
    refine lv_iconst (v := 1) hx hb dX9_way_22 (by decide) ?_
    refine lv_goto (tgt := 27) hx hb dX9_way_23 (by decide) ?_
    exact J27 _ _ _ _ _ _ _ _ _ h hI (lv_sub hl [0, 1, 2, 3, 4] rfl)
  · have h := h.2 c26
    refine lv_aload_n hx hb dX9_way_14 rfl (lv_at hl 0 rfl) ?_
    refine lv_iload_n hx hb dX9_way_15 rfl (lv_at hl 2 rfl) ?_
    refine g_backi hI (g_runV (As := [.int a2]) (rest := [.ref (ad 10)]) hC hml hI (c_X9_noPlace l D cy ad A _  _ _ h) k_X9_noPlace gw_5_133 ⟨rfl, rfl⟩ ⟨Nat.le_of_ble_eq_true rfl, Nat.le_of_ble_eq_true rfl⟩ (grv_10 hC hI) rfl hl.1 rfl (Nat.le_of_ble_eq_true rfl) dX9_way_16 ⟨Nat.le_of_ble_eq_true rfl, Nat.le_of_ble_eq_true rfl⟩) (fun r28 s27 H locs h hI => ?_)
    refine lv_if_eq (tgt := 26) hx hb dX9_way_19 (by decide) (fun c29 => ?_) (fun c29 => ?_)
    · have h := h.1 c29
      refine lv_iconst (v := 0) hx hb dX9_way_26 (by decide) ?_
      exact J27 _ _ _ _ _ _ _ _ _ h hI (lv_sub hl [0, 1, 2, 3, 4] rfl)
    · have h := h.2 c29
      refine lv_iconst (v := 1) hx hb dX9_way_22 (by decide) ?_
      refine lv_goto (tgt := 27) hx hb dX9_way_23 (by decide) ?_
      exact J27 _ _ _ _ _ _ _ _ _ h hI (lv_sub hl [0, 1, 2, 3, 4] rfl)

theorem dX9_crowdOfAll_0 : decode cX9_crowdOfAll 0 = .ok (.iconst 0, 1) := by decide +kernel
theorem dX9_crowdOfAll_1 : decode cX9_crowdOfAll 1 = .ok (.istore_n 1, 1) := by decide +kernel
theorem dX9_crowdOfAll_2 : decode cX9_crowdOfAll 2 = .ok (.iconst 0, 1) := by decide +kernel
theorem dX9_crowdOfAll_3 : decode cX9_crowdOfAll 3 = .ok (.istore_n 2, 1) := by decide +kernel
theorem dX9_crowdOfAll_4 : decode cX9_crowdOfAll 4 = .ok (.iload_n 2, 1) := by decide +kernel
theorem dX9_crowdOfAll_5 : decode cX9_crowdOfAll 5 = .ok (.aload_n 0, 1) := by decide +kernel
theorem dX9_crowdOfAll_6 : decode cX9_crowdOfAll 6 = .ok (.getfield 142, 3) := by decide +kernel
theorem dX9_crowdOfAll_9 : decode cX9_crowdOfAll 9 = .ok (.if_icmp .ge 18, 3) := by decide +kernel
theorem dX9_crowdOfAll_12 : decode cX9_crowdOfAll 12 = .ok (.iload_n 1, 1) := by decide +kernel
theorem dX9_crowdOfAll_13 : decode cX9_crowdOfAll 13 = .ok (.aload_n 0, 1) := by decide +kernel
theorem dX9_crowdOfAll_14 : decode cX9_crowdOfAll 14 = .ok (.getfield 21, 3) := by decide +kernel
theorem dX9_crowdOfAll_17 : decode cX9_crowdOfAll 17 = .ok (.iload_n 2, 1) := by decide +kernel
theorem dX9_crowdOfAll_18 : decode cX9_crowdOfAll 18 = .ok (.iaload, 1) := by decide +kernel
theorem dX9_crowdOfAll_19 : decode cX9_crowdOfAll 19 = .ok (.iadd, 1) := by decide +kernel
theorem dX9_crowdOfAll_20 : decode cX9_crowdOfAll 20 = .ok (.istore_n 1, 1) := by decide +kernel
theorem dX9_crowdOfAll_21 : decode cX9_crowdOfAll 21 = .ok (.iinc 2 1, 3) := by decide +kernel
theorem dX9_crowdOfAll_24 : decode cX9_crowdOfAll 24 = .ok (.goto (-20), 3) := by decide +kernel
theorem dX9_crowdOfAll_27 : decode cX9_crowdOfAll 27 = .ok (.iload_n 1, 1) := by decide +kernel
theorem dX9_crowdOfAll_28 : decode cX9_crowdOfAll 28 = .ok (.ireturn, 1) := by decide +kernel
def w_X9_crowdOfAll_4 (Q : Int32 → gS → Prop) : Nat → Int32 → Int32 → gS → Prop
  | 0, _, _, _ => False
  | n4 + 1, x1, x2, σ =>
    ((σ 71 0) ≤ x2 → Q x1 σ) ∧ (¬ (σ 71 0) ≤ x2 → vp_in x2 8 ∧ ∀ y4 : Int32, y4 = (x1 + (σ 68 x2.toNatClampNeg)) → ∀ y5 : Int32, y5 = x2 + 1 → w_X9_crowdOfAll_4 Q n4 y4 y5 σ)
def w_X9_crowdOfAll (Q : Int32 → gS → Prop) (σ : gS) : Prop :=
    ∃ n4, w_X9_crowdOfAll_4 Q n4 0 0 σ
abbrev ws_X9_crowdOfAll : List Cond := Cond.code yX9_crowdOfAll cX9_crowdOfAll 3 (some .int) :: gG
abbrev rm_X9_crowdOfAll : Room := { frames := 0, cells := 0, slots := 0, locals := 0 }
theorem k_X9_crowdOfAll : gCV yX9_crowdOfAll RX9 cX9_crowdOfAll 3 (some .int) 0 := ⟨gw_6_78, gwp_59, gw_1_11, gw_6_79, rfl, by decide +kernel⟩
set_option maxHeartbeats 4000000 in
set_option maxRecDepth 100000 in
theorem c_X9_crowdOfAll (l : Launch) (D : va_G) (cy : Nat → ClassId) (ad : Nat → Nat) (A : Nat → Prop) (Q : Int32 → gS → Prop) (σ : gS) (h : w_X9_crowdOfAll Q σ) : Met l yX9_crowdOfAll ws_X9_crowdOfAll rm_X9_crowdOfAll (va_Pc [.ref (ad 10)] (gB D cy ad A σ)) (va_Qi Q (gB D cy ad A) A) 0 0 A := by
  refine Met.ofW (cc := cX9_crowdOfAll) (maxL := 3) (ret := (some .int)) (by decide) rfl ?_
  intro p e s m args below meth c s₁ B hml hv
  obtain ⟨rfl, hB⟩ := hv
  have hC : gC p c cX9_crowdOfAll s m ([.ref (ad 10)] : List Value).toArray RX9 D cy ad A := g_start B hB
  have hI := g_first hB
  have hx := hC.1
  have hb := hC.2.1
  have hr := B.returns
  have hlocks := B.notSynchronized
  clear B hB
  have J4 : ∀ (n4 : Nat) (x1 : Int32) (x2 : Int32) (σ : gS) (H : Heap) (locs : List Loc) (ls : Array Slot), w_X9_crowdOfAll_4 Q n4 x1 x2 σ → gI D cy ad A s.heap σ H locs → lv_has ls 3 [(0, .ref (ad 10)), (1, .int x1), (2, .int x2)] → W p l e (headSpec ws_X9_crowdOfAll rm_X9_crowdOfAll).room s m ([.ref (ad 10)] : List Value).toArray below meth c H locs 0 0 (MQ below (va_Qi Q (gB D cy ad A) A) ([.ref (ad 10)] : List Value).toArray s 0 0 A) (F0 m 4 ls []) := by
    intro n4
    induction n4 with
    | zero => intro x1 x2 σ H locs ls h; exact absurd h (fun h => h)
    | succ n4 ih4 =>
      intro x1 x2 σ H locs ls h hI hl
      unfold w_X9_crowdOfAll_4 at h
      refine lv_iload_n hx hb dX9_crowdOfAll_4 rfl (lv_at hl 2 rfl) ?_
      refine lv_aload_n hx hb dX9_crowdOfAll_5 rfl (lv_at hl 0 rfl) ?_
      refine gg_X9_places hC hI gw_4_196 dX9_crowdOfAll_6 ?_
      refine lv_icmp_ge (tgt := 27) hx hb dX9_crowdOfAll_9 (by decide) (fun c2 => ?_) (fun c2 => ?_)
      · have h := h.1 c2
        refine lv_iload_n hx hb dX9_crowdOfAll_27 rfl (lv_at hl 1 rfl) ?_
        exact g_iret hC hr hlocks hI h dX9_crowdOfAll_28
      · have h := h.2 c2
        refine lv_iload_n hx hb dX9_crowdOfAll_12 rfl (lv_at hl 1 rfl) ?_
        refine lv_aload_n hx hb dX9_crowdOfAll_13 rfl (lv_at hl 0 rfl) ?_
        refine gg_X9_crowd hC hI gw_4_193 dX9_crowdOfAll_14 ?_
        refine lv_iload_n hx hb dX9_crowdOfAll_17 rfl (lv_at hl 2 rfl) ?_
        obtain ⟨hi3, h⟩ := h
        refine ga_53 hC hI hi3 dX9_crowdOfAll_18 ?_
        refine lv_iadd hx hb dX9_crowdOfAll_19 ?_
        refine lv_topi (fun y4 ey4 => ?_)
        have h := h y4 ey4
        refine lv_istore_n (lv' := [(1, .int y4), (0, .ref (ad 10)), (2, .int x2)]) hx hb dX9_crowdOfAll_20 rfl hl (by decide) rfl (fun ls hl => ?_)
        obtain ⟨y5, ey5⟩ : ∃ y : Int32, y = x2 + 1 := ⟨_, rfl⟩
        have h := h y5 ey5
        refine lv_iinc (v := y5) (lv' := [(2, .int y5), (1, .int y4), (0, .ref (ad 10))]) hx hb dX9_crowdOfAll_21 hl (k := 2) rfl (by rw [ey5]; rfl) (by decide) rfl (fun ls hl => ?_)
        refine lv_goto (tgt := 4) hx hb dX9_crowdOfAll_24 (by decide) ?_
        exact ih4 _ _ _ _ _ _ h hI (lv_sub hl [2, 1, 0] rfl)
  have hl := lv_entry ([.ref (ad 10)]) (n := 3) (Nat.le_of_ble_eq_true rfl)
  rw [lg_entry_eq]
  generalize (lg_sl ([.ref (ad 10)]) ++ List.replicate (3 - (lg_sl ([.ref (ad 10)])).length) Slot.unset).toArray = ls at hl ⊢
  have hl : lv_has ls 3 [(0, .ref (ad 10))] := hl
  unfold w_X9_crowdOfAll at h
  refine lv_iconst (v := 0) hx hb dX9_crowdOfAll_0 (by decide) ?_
  refine lv_istore_n (lv' := [(1, .int 0), (0, .ref (ad 10))]) hx hb dX9_crowdOfAll_1 rfl hl (by decide) rfl (fun ls hl => ?_)
  refine lv_iconst (v := 0) hx hb dX9_crowdOfAll_2 (by decide) ?_
  refine lv_istore_n (lv' := [(2, .int 0), (1, .int 0), (0, .ref (ad 10))]) hx hb dX9_crowdOfAll_3 rfl hl (by decide) rfl (fun ls hl => ?_)
  obtain ⟨n9, h⟩ := h
  exact J4 n9 _ _ _ _ _ _ h hI (lv_sub hl [2, 1, 0] rfl)
