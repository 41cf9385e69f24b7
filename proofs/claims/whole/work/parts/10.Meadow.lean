/-! 10.Meadow: printed by wip/gen/walk.py -/
theorem dX3_setLane_0 : decode cX3_setLane 0 = .ok (.iload_n 2, 1) := by decide +kernel
theorem dX3_setLane_1 : decode cX3_setLane 1 = .ok (.ifCond .eq 7, 3) := by decide +kernel
theorem dX3_setLane_4 : decode cX3_setLane 4 = .ok (.iconst (-1), 1) := by decide +kernel
theorem dX3_setLane_5 : decode cX3_setLane 5 = .ok (.goto 5, 3) := by decide +kernel
theorem dX3_setLane_8 : decode cX3_setLane 8 = .ok (.bipush (-2), 2) := by decide +kernel
theorem dX3_setLane_10 : decode cX3_setLane 10 = .ok (.istore_n 3, 1) := by decide +kernel
theorem dX3_setLane_11 : decode cX3_setLane 11 = .ok (.aload_n 0, 1) := by decide +kernel
theorem dX3_setLane_12 : decode cX3_setLane 12 = .ok (.getfield 11, 3) := by decide +kernel
theorem dX3_setLane_15 : decode cX3_setLane 15 = .ok (.iload_n 1, 1) := by decide +kernel
theorem dX3_setLane_16 : decode cX3_setLane 16 = .ok (.iaload, 1) := by decide +kernel
theorem dX3_setLane_17 : decode cX3_setLane 17 = .ok (.iload_n 3, 1) := by decide +kernel
theorem dX3_setLane_18 : decode cX3_setLane 18 = .ok (.if_icmp .eq 5, 3) := by decide +kernel
theorem dX3_setLane_21 : decode cX3_setLane 21 = .ok (.iconst 0, 1) := by decide +kernel
theorem dX3_setLane_22 : decode cX3_setLane 22 = .ok (.ireturn, 1) := by decide +kernel
theorem dX3_setLane_23 : decode cX3_setLane 23 = .ok (.aload_n 0, 1) := by decide +kernel
theorem dX3_setLane_24 : decode cX3_setLane 24 = .ok (.getfield 11, 3) := by decide +kernel
theorem dX3_setLane_27 : decode cX3_setLane 27 = .ok (.iload_n 1, 1) := by decide +kernel
theorem dX3_setLane_28 : decode cX3_setLane 28 = .ok (.iload_n 2, 1) := by decide +kernel
theorem dX3_setLane_29 : decode cX3_setLane 29 = .ok (.ifCond .eq 8, 3) := by decide +kernel
theorem dX3_setLane_32 : decode cX3_setLane 32 = .ok (.bipush (-2), 2) := by decide +kernel
theorem dX3_setLane_34 : decode cX3_setLane 34 = .ok (.goto 4, 3) := by decide +kernel
theorem dX3_setLane_37 : decode cX3_setLane 37 = .ok (.iconst (-1), 1) := by decide +kernel
theorem dX3_setLane_38 : decode cX3_setLane 38 = .ok (.iastore, 1) := by decide +kernel
theorem dX3_setLane_39 : decode cX3_setLane 39 = .ok (.iconst 1, 1) := by decide +kernel
theorem dX3_setLane_40 : decode cX3_setLane 40 = .ok (.ireturn, 1) := by decide +kernel
def w_X3_setLane_10 (Q : Int32 → gS → Prop) (x1 : Int32) (x2 : Int32) (v0 : Int32) (σ : gS) : Prop :=
    vp_in x1 192 ∧ ((σ 19 x1.toNatClampNeg) = v0 → (x2 = 0 → vp_in x1 192 ∧ ∀ s6 : gS, s6 = gu σ 19 x1.toNatClampNeg (-1) → Q 1 s6) ∧ (¬ x2 = 0 → vp_in x1 192 ∧ ∀ s8 : gS, s8 = gu σ 19 x1.toNatClampNeg (-2) → Q 1 s8)) ∧ (¬ (σ 19 x1.toNatClampNeg) = v0 → Q 0 σ)
def w_X3_setLane (Q : Int32 → gS → Prop) (σ : gS) (a1 : Int32) (a2 : Int32) : Prop :=
    (a2 = 0 → w_X3_setLane_10 Q a1 a2 (-2) σ) ∧ (¬ a2 = 0 → w_X3_setLane_10 Q a1 a2 (-1) σ)
abbrev ws_X3_setLane : List Cond := Cond.code yX3_setLane cX3_setLane 4 (some .boolean) :: gG
abbrev rm_X3_setLane : Room := { frames := 0, cells := 0, slots := 0, locals := 0 }
theorem k_X3_setLane : gCV yX3_setLane RX3 cX3_setLane 4 (some .boolean) 2 := ⟨gw_3_100, gw_3_101, gw_1_4, gw_3_102, rfl, by decide +kernel⟩
set_option maxHeartbeats 4000000 in
set_option maxRecDepth 100000 in
theorem c_X3_setLane (l : Launch) (D : va_G) (cy : Nat → ClassId) (ad : Nat → Nat) (A : Nat → Prop) (Q : Int32 → gS → Prop) (σ : gS) (a1 : Int32) (a2 : Int32) (h : w_X3_setLane Q σ a1 a2) : Met l yX3_setLane ws_X3_setLane rm_X3_setLane (va_Pc [.ref (ad 3), .int a1, .int a2] (gB D cy ad A σ)) (va_Qi Q (gB D cy ad A) A) 0 0 A := by
  refine Met.ofW (cc := cX3_setLane) (maxL := 4) (ret := (some .boolean)) (by decide) rfl ?_
  intro p e s m args below meth c s₁ B hml hv
  obtain ⟨rfl, hB⟩ := hv
  have hC : gC p c cX3_setLane s m ([.ref (ad 3), .int a1, .int a2] : List Value).toArray RX3 D cy ad A := g_start B hB
  have hI := g_first hB
  have hx := hC.1
  have hb := hC.2.1
  have hr := B.returns
  have hlocks := B.notSynchronized
  clear B hB
  have J10 : ∀ (x1 : Int32) (x2 : Int32) (v0 : Int32) (σ : gS) (H : Heap) (locs : List Loc) (ls : Array Slot), w_X3_setLane_10 Q x1 x2 v0 σ → gI D cy ad A s.heap σ H locs → lv_has ls 4 [(0, .ref (ad 3)), (1, .int x1), (2, .int x2)] → W p l e (headSpec ws_X3_setLane rm_X3_setLane).room s m ([.ref (ad 3), .int a1, .int a2] : List Value).toArray below meth c H locs 0 0 (MQ below (va_Qi Q (gB D cy ad A) A) ([.ref (ad 3), .int a1, .int a2] : List Value).toArray s 0 0 A) (F0 m 10 ls [.int v0]) := by
    intro x1 x2 v0 σ H locs ls h hI hl
    unfold w_X3_setLane_10 at h
    refine lv_istore_n (lv' := [(3, .int v0), (0, .ref (ad 3)), (1, .int x1), (2, .int x2)]) hx hb dX3_setLane_10 rfl hl (by decide) rfl (fun ls hl => ?_)
    refine lv_aload_n hx hb dX3_setLane_11 rfl (lv_at hl 1 rfl) ?_
    refine gg_X3_squares hC hI gw_1_73 dX3_setLane_12 ?_
    refine lv_iload_n hx hb dX3_setLane_15 rfl (lv_at hl 2 rfl) ?_
    obtain ⟨hi2, h⟩ := h
    refine ga_21 hC hI hi2 dX3_setLane_16 ?_
    refine lv_iload_n hx hb dX3_setLane_17 rfl (lv_at hl 0 rfl) ?_
    refine lv_icmp_eq (tgt := 23) hx hb dX3_setLane_18 (by decide) (fun c3 => ?_) (fun c3 => ?_)
    · have h := h.1 c3
      refine lv_aload_n hx hb dX3_setLane_23 rfl (lv_at hl 1 rfl) ?_
      refine gg_X3_squares hC hI gw_1_73 dX3_setLane_24 ?_
      refine lv_iload_n hx hb dX3_setLane_27 rfl (lv_at hl 2 rfl) ?_
      refine lv_iload_n hx hb dX3_setLane_28 rfl (lv_at hl 3 rfl) ?_
      refine lv_if_eq (tgt := 37) hx hb dX3_setLane_29 (by decide) (fun c4 => ?_) (fun c4 => ?_)
      · have h := h.1 c4
        refine lv_iconst (v := (-1)) hx hb dX3_setLane_37 (by decide) ?_
        obtain ⟨hi5, h⟩ := h
        refine gs_21 hC hI hi5 dX3_setLane_38 (fun s6 H locs es6 hI => ?_)
        have h := h s6 es6
        refine lv_iconst (v := 1) hx hb dX3_setLane_39 (by decide) ?_
        exact g_zret hC hr hlocks rfl hI h dX3_setLane_40
      · have h := h.2 c4
        refine lv_bipush (v := (-2)) hx hb dX3_setLane_32 (by decide) ?_
        refine lv_goto (tgt := 38) hx hb dX3_setLane_34 (by decide) ?_
        obtain ⟨hi7, h⟩ := h
        refine gs_21 hC hI hi7 dX3_setLane_38 (fun s8 H locs es8 hI => ?_)
        have h := h s8 es8
        refine lv_iconst (v := 1) hx hb dX3_setLane_39 (by decide) ?_
        exact g_zret hC hr hlocks rfl hI h dX3_setLane_40
    · have h := h.2 c3
      refine lv_iconst (v := 0) hx hb dX3_setLane_21 (by decide) ?_
      exact g_zret hC hr hlocks rfl hI h dX3_setLane_22
  have hl := lv_entry ([.ref (ad 3), .int a1, .int a2]) (n := 4) (Nat.le_of_ble_eq_true rfl)
  rw [lg_entry_eq]
  generalize (lg_sl ([.ref (ad 3), .int a1, .int a2]) ++ List.replicate (4 - (lg_sl ([.ref (ad 3), .int a1, .int a2])).length) Slot.unset).toArray = ls at hl ⊢
  have hl : lv_has ls 4 [(0, .ref (ad 3)), (1, .int a1), (2, .int a2)] := hl
  unfold w_X3_setLane at h
  refine lv_iload_n hx hb dX3_setLane_0 rfl (lv_at hl 2 rfl) ?_
  refine lv_if_eq (tgt := 8) hx hb dX3_setLane_1 (by decide) (fun c9 => ?_) (fun c9 => ?_)
  · have h := h.1 c9
    refine lv_bipush (v := (-2)) hx hb dX3_setLane_8 (by decide) ?_
    exact J10 _ _ _ _ _ _ _ h hI (lv_sub hl [0, 1, 2] rfl)
  · have h := h.2 c9
    refine lv_iconst (v := (-1)) hx hb dX3_setLane_4 (by decide) ?_
    refine lv_goto (tgt := 10) hx hb dX3_setLane_5 (by decide) ?_
    exact J10 _ _ _ _ _ _ _ h hI (lv_sub hl [0, 1, 2] rfl)

theorem dX3_takeDown_0 : decode cX3_takeDown 0 = .ok (.iconst 0, 1) := by decide +kernel
theorem dX3_takeDown_1 : decode cX3_takeDown 1 = .ok (.istore_n 2, 1) := by decide +kernel
theorem dX3_takeDown_2 : decode cX3_takeDown 2 = .ok (.iconst 0, 1) := by decide +kernel
theorem dX3_takeDown_3 : decode cX3_takeDown 3 = .ok (.istore_n 3, 1) := by decide +kernel
theorem dX3_takeDown_4 : decode cX3_takeDown 4 = .ok (.iload_n 3, 1) := by decide +kernel
theorem dX3_takeDown_5 : decode cX3_takeDown 5 = .ok (.sipush 192, 3) := by decide +kernel
theorem dX3_takeDown_8 : decode cX3_takeDown 8 = .ok (.if_icmp .ge 28, 3) := by decide +kernel
theorem dX3_takeDown_11 : decode cX3_takeDown 11 = .ok (.aload_n 0, 1) := by decide +kernel
theorem dX3_takeDown_12 : decode cX3_takeDown 12 = .ok (.getfield 11, 3) := by decide +kernel
theorem dX3_takeDown_15 : decode cX3_takeDown 15 = .ok (.iload_n 3, 1) := by decide +kernel
theorem dX3_takeDown_16 : decode cX3_takeDown 16 = .ok (.iaload, 1) := by decide +kernel
theorem dX3_takeDown_17 : decode cX3_takeDown 17 = .ok (.iload_n 1, 1) := by decide +kernel
theorem dX3_takeDown_18 : decode cX3_takeDown 18 = .ok (.if_icmp .ne 12, 3) := by decide +kernel
theorem dX3_takeDown_21 : decode cX3_takeDown 21 = .ok (.aload_n 0, 1) := by decide +kernel
theorem dX3_takeDown_22 : decode cX3_takeDown 22 = .ok (.getfield 11, 3) := by decide +kernel
theorem dX3_takeDown_25 : decode cX3_takeDown 25 = .ok (.iload_n 3, 1) := by decide +kernel
theorem dX3_takeDown_26 : decode cX3_takeDown 26 = .ok (.iconst (-1), 1) := by decide +kernel
theorem dX3_takeDown_27 : decode cX3_takeDown 27 = .ok (.iastore, 1) := by decide +kernel
theorem dX3_takeDown_28 : decode cX3_takeDown 28 = .ok (.iconst 1, 1) := by decide +kernel
theorem dX3_takeDown_29 : decode cX3_takeDown 29 = .ok (.istore_n 2, 1) := by decide +kernel
theorem dX3_takeDown_30 : decode cX3_takeDown 30 = .ok (.iinc 3 1, 3) := by decide +kernel
theorem dX3_takeDown_33 : decode cX3_takeDown 33 = .ok (.goto (-29), 3) := by decide +kernel
theorem dX3_takeDown_36 : decode cX3_takeDown 36 = .ok (.iload_n 2, 1) := by decide +kernel
theorem dX3_takeDown_37 : decode cX3_takeDown 37 = .ok (.ifCond .eq 13, 3) := by decide +kernel
theorem dX3_takeDown_40 : decode cX3_takeDown 40 = .ok (.aload_n 0, 1) := by decide +kernel
theorem dX3_takeDown_41 : decode cX3_takeDown 41 = .ok (.dup, 1) := by decide +kernel
theorem dX3_takeDown_42 : decode cX3_takeDown 42 = .ok (.getfield 29, 3) := by decide +kernel
theorem dX3_takeDown_45 : decode cX3_takeDown 45 = .ok (.iconst 1, 1) := by decide +kernel
theorem dX3_takeDown_46 : decode cX3_takeDown 46 = .ok (.isub, 1) := by decide +kernel
theorem dX3_takeDown_47 : decode cX3_takeDown 47 = .ok (.putfield 29, 3) := by decide +kernel
theorem dX3_takeDown_50 : decode cX3_takeDown 50 = .ok (.iload_n 2, 1) := by decide +kernel
theorem dX3_takeDown_51 : decode cX3_takeDown 51 = .ok (.ireturn, 1) := by decide +kernel
def w_X3_takeDown_4 (Q : Int32 → gS → Prop) : Nat → Int32 → Int32 → Int32 → gS → Prop
  | 0, _, _, _, _ => False
  | n4 + 1, x1, x2, x3, σ =>
    (192 ≤ x3 → (x2 = 0 → gz x2 ∧ Q x2 σ) ∧ (¬ x2 = 0 → ∀ s4 : gS, s4 = gu σ 22 0 ((σ 22 0) - 1) → gz x2 ∧ Q x2 s4)) ∧ (¬ 192 ≤ x3 → vp_in x3 192 ∧ (¬ (σ 19 x3.toNatClampNeg) = x1 → ∀ y7 : Int32, y7 = x3 + 1 → w_X3_takeDown_4 Q n4 x1 x2 y7 σ) ∧ ((σ 19 x3.toNatClampNeg) = x1 → vp_in x3 192 ∧ ∀ s9 : gS, s9 = gu σ 19 x3.toNatClampNeg (-1) → ∀ y10 : Int32, y10 = x3 + 1 → w_X3_takeDown_4 Q n4 x1 1 y10 s9))
def w_X3_takeDown (Q : Int32 → gS → Prop) (σ : gS) (a1 : Int32) : Prop :=
    ∃ n4, w_X3_takeDown_4 Q n4 a1 0 0 σ
abbrev ws_X3_takeDown : List Cond := Cond.code yX3_takeDown cX3_takeDown 4 (some .boolean) :: gG
abbrev rm_X3_takeDown : Room := { frames := 0, cells := 0, slots := 0, locals := 0 }
theorem k_X3_takeDown : gCV yX3_takeDown RX3 cX3_takeDown 4 (some .boolean) 1 := ⟨gw_3_180, gw_3_181, gw_1_4, gw_3_182, rfl, by decide +kernel⟩
set_option maxHeartbeats 4000000 in
set_option maxRecDepth 100000 in
theorem c_X3_takeDown (l : Launch) (D : va_G) (cy : Nat → ClassId) (ad : Nat → Nat) (A : Nat → Prop) (Q : Int32 → gS → Prop) (σ : gS) (a1 : Int32) (h : w_X3_takeDown Q σ a1) : Met l yX3_takeDown ws_X3_takeDown rm_X3_takeDown (va_Pc [.ref (ad 3), .int a1] (gB D cy ad A σ)) (va_Qi Q (gB D cy ad A) A) 0 0 A := by
  refine Met.ofW (cc := cX3_takeDown) (maxL := 4) (ret := (some .boolean)) (by decide) rfl ?_
  intro p e s m args below meth c s₁ B hml hv
  obtain ⟨rfl, hB⟩ := hv
  have hC : gC p c cX3_takeDown s m ([.ref (ad 3), .int a1] : List Value).toArray RX3 D cy ad A := g_start B hB
  have hI := g_first hB
  have hx := hC.1
  have hb := hC.2.1
  have hr := B.returns
  have hlocks := B.notSynchronized
  clear B hB
  have J4 : ∀ (n4 : Nat) (x1 : Int32) (x2 : Int32) (x3 : Int32) (σ : gS) (H : Heap) (locs : List Loc) (ls : Array Slot), w_X3_takeDown_4 Q n4 x1 x2 x3 σ → gI D cy ad A s.heap σ H locs → lv_has ls 4 [(0, .ref (ad 3)), (1, .int x1), (2, .int x2), (3, .int x3)] → W p l e (headSpec ws_X3_takeDown rm_X3_takeDown).room s m ([.ref (ad 3), .int a1] : List Value).toArray below meth c H locs 0 0 (MQ below (va_Qi Q (gB D cy ad A) A) ([.ref (ad 3), .int a1] : List Value).toArray s 0 0 A) (F0 m 4 ls []) := by
    intro n4
    induction n4 with
    | zero => intro x1 x2 x3 σ H locs ls h; exact absurd h (fun h => h)
    | succ n4 ih4 =>
      intro x1 x2 x3 σ H locs ls h hI hl
      unfold w_X3_takeDown_4 at h
      refine lv_iload_n hx hb dX3_takeDown_4 rfl (lv_at hl 3 rfl) ?_
      refine lv_sipush (v := 192) hx hb dX3_takeDown_5 (by decide) ?_
      refine lv_icmp_ge (tgt := 36) hx hb dX3_takeDown_8 (by decide) (fun c2 => ?_) (fun c2 => ?_)
      · have h := h.1 c2
        refine lv_iload_n hx hb dX3_takeDown_36 rfl (lv_at hl 2 rfl) ?_
        refine lv_if_eq (tgt := 50) hx hb dX3_takeDown_37 (by decide) (fun c3 => ?_) (fun c3 => ?_)
        · have h := h.1 c3
          refine lv_iload_n hx hb dX3_takeDown_50 rfl (lv_at hl 2 rfl) ?_
          exact g_zret hC hr hlocks h.1 hI h.2 dX3_takeDown_51
        · have h := h.2 c3
          refine lv_aload_n hx hb dX3_takeDown_40 rfl (lv_at hl 0 rfl) ?_
          refine lv_dup hx hb dX3_takeDown_41 rfl ?_
          refine gg_X3_standing hC hI gw_1_79 dX3_takeDown_42 ?_
          refine lv_iconst (v := 1) hx hb dX3_takeDown_45 (by decide) ?_
          refine lv_isub hx hb dX3_takeDown_46 ?_
          refine gp_X3_standing hC hI gw_1_79 dX3_takeDown_47 (fun s4 H locs es4 hI => ?_)
          have h := h s4 es4
          refine lv_iload_n hx hb dX3_takeDown_50 rfl (lv_at hl 2 rfl) ?_
          exact g_zret hC hr hlocks h.1 hI h.2 dX3_takeDown_51
      · have h := h.2 c2
        refine lv_aload_n hx hb dX3_takeDown_11 rfl (lv_at hl 0 rfl) ?_
        refine gg_X3_squares hC hI gw_1_73 dX3_takeDown_12 ?_
        refine lv_iload_n hx hb dX3_takeDown_15 rfl (lv_at hl 3 rfl) ?_
        obtain ⟨hi5, h⟩ := h
        refine ga_21 hC hI hi5 dX3_takeDown_16 ?_
        refine lv_iload_n hx hb dX3_takeDown_17 rfl (lv_at hl 1 rfl) ?_
        refine lv_icmp_ne (tgt := 30) hx hb dX3_takeDown_18 (by decide) (fun c6 => ?_) (fun c6 => ?_)
        · have h := h.1 c6
          obtain ⟨y7, ey7⟩ : ∃ y : Int32, y = x3 + 1 := ⟨_, rfl⟩
          have h := h y7 ey7
          refine lv_iinc (v := y7) (lv' := [(3, .int y7), (0, .ref (ad 3)), (1, .int x1), (2, .int x2)]) hx hb dX3_takeDown_30 hl (k := 3) rfl (by rw [ey7]; rfl) (by decide) rfl (fun ls hl => ?_)
          refine lv_goto (tgt := 4) hx hb dX3_takeDown_33 (by decide) ?_
          exact ih4 _ _ _ _ _ _ _ h hI (lv_sub hl [1, 2, 3, 0] rfl)
        · have h := h.2 c6
          refine lv_aload_n hx hb dX3_takeDown_21 rfl (lv_at hl 0 rfl) ?_
          refine gg_X3_squares hC hI gw_1_73 dX3_takeDown_22 ?_
          refine lv_iload_n hx hb dX3_takeDown_25 rfl (lv_at hl 3 rfl) ?_
          refine lv_iconst (v := (-1)) hx hb dX3_takeDown_26 (by decide) ?_
          obtain ⟨hi8, h⟩ := h
          refine gs_21 hC hI hi8 dX3_takeDown_27 (fun s9 H locs es9 hI => ?_)
          have h := h s9 es9
          refine lv_iconst (v := 1) hx hb dX3_takeDown_28 (by decide) ?_
          refine lv_istore_n (lv' := [(2, .int 1), (0, .ref (ad 3)), (1, .int x1), (3, .int x3)]) hx hb dX3_takeDown_29 rfl hl (by decide) rfl (fun ls hl => ?_)
          obtain ⟨y10, ey10⟩ : ∃ y : Int32, y = x3 + 1 := ⟨_, rfl⟩
          have h := h y10 ey10
          refine lv_iinc (v := y10) (lv' := [(3, .int y10), (2, .int 1), (0, .ref (ad 3)), (1, .int x1)]) hx hb dX3_takeDown_30 hl (k := 3) rfl (by rw [ey10]; rfl) (by decide) rfl (fun ls hl => ?_)
          refine lv_goto (tgt := 4) hx hb dX3_takeDown_33 (by decide) ?_
          exact ih4 _ _ _ _ _ _ _ h hI (lv_sub hl [2, 3, 1, 0] rfl)
  have hl := lv_entry ([.ref (ad 3), .int a1]) (n := 4) (Nat.le_of_ble_eq_true rfl)
  rw [lg_entry_eq]
  generalize (lg_sl ([.ref (ad 3), .int a1]) ++ List.replicate (4 - (lg_sl ([.ref (ad 3), .int a1])).length) Slot.unset).toArray = ls at hl ⊢
  have hl : lv_has ls 4 [(0, .ref (ad 3)), (1, .int a1)] := hl
  unfold w_X3_takeDown at h
  refine lv_iconst (v := 0) hx hb dX3_takeDown_0 (by decide) ?_
  refine lv_istore_n (lv' := [(2, .int 0), (0, .ref (ad 3)), (1, .int a1)]) hx hb dX3_takeDown_1 rfl hl (by decide) rfl (fun ls hl => ?_)
  refine lv_iconst (v := 0) hx hb dX3_takeDown_2 (by decide) ?_
  refine lv_istore_n (lv' := [(3, .int 0), (2, .int 0), (0, .ref (ad 3)), (1, .int a1)]) hx hb dX3_takeDown_3 rfl hl (by decide) rfl (fun ls hl => ?_)
  obtain ⟨n9, h⟩ := h
  exact J4 n9 _ _ _ _ _ _ _ h hI (lv_sub hl [2, 3, 1, 0] rfl)

theorem dX3_squaresWithTent_0 : decode cX3_squaresWithTent 0 = .ok (.iconst 0, 1) := by decide +kernel
theorem dX3_squaresWithTent_1 : decode cX3_squaresWithTent 1 = .ok (.istore_n 1, 1) := by decide +kernel
theorem dX3_squaresWithTent_2 : decode cX3_squaresWithTent 2 = .ok (.iconst 0, 1) := by decide +kernel
theorem dX3_squaresWithTent_3 : decode cX3_squaresWithTent 3 = .ok (.istore_n 2, 1) := by decide +kernel
theorem dX3_squaresWithTent_4 : decode cX3_squaresWithTent 4 = .ok (.iload_n 2, 1) := by decide +kernel
theorem dX3_squaresWithTent_5 : decode cX3_squaresWithTent 5 = .ok (.sipush 192, 3) := by decide +kernel
theorem dX3_squaresWithTent_8 : decode cX3_squaresWithTent 8 = .ok (.if_icmp .ge 21, 3) := by decide +kernel
theorem dX3_squaresWithTent_11 : decode cX3_squaresWithTent 11 = .ok (.aload_n 0, 1) := by decide +kernel
theorem dX3_squaresWithTent_12 : decode cX3_squaresWithTent 12 = .ok (.getfield 11, 3) := by decide +kernel
theorem dX3_squaresWithTent_15 : decode cX3_squaresWithTent 15 = .ok (.iload_n 2, 1) := by decide +kernel
theorem dX3_squaresWithTent_16 : decode cX3_squaresWithTent 16 = .ok (.iaload, 1) := by decide +kernel
theorem dX3_squaresWithTent_17 : decode cX3_squaresWithTent 17 = .ok (.ifCond .lt 6, 3) := by decide +kernel
theorem dX3_squaresWithTent_20 : decode cX3_squaresWithTent 20 = .ok (.iinc 1 1, 3) := by decide +kernel
theorem dX3_squaresWithTent_23 : decode cX3_squaresWithTent 23 = .ok (.iinc 2 1, 3) := by decide +kernel
theorem dX3_squaresWithTent_26 : decode cX3_squaresWithTent 26 = .ok (.goto (-22), 3) := by decide +kernel
theorem dX3_squaresWithTent_29 : decode cX3_squaresWithTent 29 = .ok (.iload_n 1, 1) := by decide +kernel
theorem dX3_squaresWithTent_30 : decode cX3_squaresWithTent 30 = .ok (.ireturn, 1) := by decide +kernel
def w_X3_squaresWithTent_4 (Q : Int32 → gS → Prop) : Nat → Int32 → Int32 → gS → Prop
  | 0, _, _, _ => False
  | n4 + 1, x1, x2, σ =>
    (192 ≤ x2 → Q x1 σ) ∧ (¬ 192 ≤ x2 → vp_in x2 192 ∧ ((σ 19 x2.toNatClampNeg) < 0 → ∀ y5 : Int32, y5 = x2 + 1 → w_X3_squaresWithTent_4 Q n4 x1 y5 σ) ∧ (¬ (σ 19 x2.toNatClampNeg) < 0 → ∀ y6 : Int32, y6 = x1 + 1 → ∀ y7 : Int32, y7 = x2 + 1 → w_X3_squaresWithTent_4 Q n4 y6 y7 σ))
def w_X3_squaresWithTent (Q : Int32 → gS → Prop) (σ : gS) : Prop :=
    ∃ n4, w_X3_squaresWithTent_4 Q n4 0 0 σ
abbrev ws_X3_squaresWithTent : List Cond := Cond.code yX3_squaresWithTent cX3_squaresWithTent 3 (some .int) :: gG
abbrev rm_X3_squaresWithTent : Room := { frames := 0, cells := 0, slots := 0, locals := 0 }
theorem k_X3_squaresWithTent : gCV yX3_squaresWithTent RX3 cX3_squaresWithTent 3 (some .int) 0 := ⟨gw_3_18, gw_3_19, gw_1_4, gw_3_20, rfl, by decide +kernel⟩
set_option maxHeartbeats 4000000 in
set_option maxRecDepth 100000 in
theorem c_X3_squaresWithTent (l : Launch) (D : va_G) (cy : Nat → ClassId) (ad : Nat → Nat) (A : Nat → Prop) (Q : Int32 → gS → Prop) (σ : gS) (h : w_X3_squaresWithTent Q σ) : Met l yX3_squaresWithTent ws_X3_squaresWithTent rm_X3_squaresWithTent (va_Pc [.ref (ad 3)] (gB D cy ad A σ)) (va_Qi Q (gB D cy ad A) A) 0 0 A := by
  refine Met.ofW (cc := cX3_squaresWithTent) (maxL := 3) (ret := (some .int)) (by decide) rfl ?_
  intro p e s m args below meth c s₁ B hml hv
  obtain ⟨rfl, hB⟩ := hv
  have hC : gC p c cX3_squaresWithTent s m ([.ref (ad 3)] : List Value).toArray RX3 D cy ad A := g_start B hB
  have hI := g_first hB
  have hx := hC.1
  have hb := hC.2.1
  have hr := B.returns
  have hlocks := B.notSynchronized
  clear B hB
  have J4 : ∀ (n4 : Nat) (x1 : Int32) (x2 : Int32) (σ : gS) (H : Heap) (locs : List Loc) (ls : Array Slot), w_X3_squaresWithTent_4 Q n4 x1 x2 σ → gI D cy ad A s.heap σ H locs → lv_has ls 3 [(0, .ref (ad 3)), (1, .int x1), (2, .int x2)] → W p l e (headSpec ws_X3_squaresWithTent rm_X3_squaresWithTent).room s m ([.ref (ad 3)] : List Value).toArray below meth c H locs 0 0 (MQ below (va_Qi Q (gB D cy ad A) A) ([.ref (ad 3)] : List Value).toArray s 0 0 A) (F0 m 4 ls []) := by
    intro n4
    induction n4 with
    | zero => intro x1 x2 σ H locs ls h; exact absurd h (fun h => h)
    | succ n4 ih4 =>
      intro x1 x2 σ H locs ls h hI hl
      unfold w_X3_squaresWithTent_4 at h
      refine lv_iload_n hx hb dX3_squaresWithTent_4 rfl (lv_at hl 2 rfl) ?_
      refine lv_sipush (v := 192) hx hb dX3_squaresWithTent_5 (by decide) ?_
      refine lv_icmp_ge (tgt := 29) hx hb dX3_squaresWithTent_8 (by decide) (fun c2 => ?_) (fun c2 => ?_)
      · have h := h.1 c2
        refine lv_iload_n hx hb dX3_squaresWithTent_29 rfl (lv_at hl 1 rfl) ?_
        exact g_iret hC hr hlocks hI h dX3_squaresWithTent_30
      · have h := h.2 c2
        refine lv_aload_n hx hb dX3_squaresWithTent_11 rfl (lv_at hl 0 rfl) ?_
        refine gg_X3_squares hC hI gw_1_73 dX3_squaresWithTent_12 ?_
        refine lv_iload_n hx hb dX3_squaresWithTent_15 rfl (lv_at hl 2 rfl) ?_
        obtain ⟨hi3, h⟩ := h
        refine ga_21 hC hI hi3 dX3_squaresWithTent_16 ?_
        refine lv_if_lt (tgt := 23) hx hb dX3_squaresWithTent_17 (by decide) (fun c4 => ?_) (fun c4 => ?_)
        · have h := h.1 c4
          obtain ⟨y5, ey5⟩ : ∃ y : Int32, y = x2 + 1 := ⟨_, rfl⟩
          have h := h y5 ey5
          refine lv_iinc (v := y5) (lv' := [(2, .int y5), (0, .ref (ad 3)), (1, .int x1)]) hx hb dX3_squaresWithTent_23 hl (k := 2) rfl (by rw [ey5]; rfl) (by decide) rfl (fun ls hl => ?_)
          refine lv_goto (tgt := 4) hx hb dX3_squaresWithTent_26 (by decide) ?_
          exact ih4 _ _ _ _ _ _ h hI (lv_sub hl [1, 2, 0] rfl)
        · have h := h.2 c4
          obtain ⟨y6, ey6⟩ : ∃ y : Int32, y = x1 + 1 := ⟨_, rfl⟩
          have h := h y6 ey6
          refine lv_iinc (v := y6) (lv' := [(1, .int y6), (0, .ref (ad 3)), (2, .int x2)]) hx hb dX3_squaresWithTent_20 hl (k := 1) rfl (by rw [ey6]; rfl) (by decide) rfl (fun ls hl => ?_)
          obtain ⟨y7, ey7⟩ : ∃ y : Int32, y = x2 + 1 := ⟨_, rfl⟩
          have h := h y7 ey7
          refine lv_iinc (v := y7) (lv' := [(2, .int y7), (1, .int y6), (0, .ref (ad 3))]) hx hb dX3_squaresWithTent_23 hl (k := 2) rfl (by rw [ey7]; rfl) (by decide) rfl (fun ls hl => ?_)
          refine lv_goto (tgt := 4) hx hb dX3_squaresWithTent_26 (by decide) ?_
          exact ih4 _ _ _ _ _ _ h hI (lv_sub hl [2, 1, 0] rfl)
  have hl := lv_entry ([.ref (ad 3)]) (n := 3) (Nat.le_of_ble_eq_true rfl)
  rw [lg_entry_eq]
  generalize (lg_sl ([.ref (ad 3)]) ++ List.replicate (3 - (lg_sl ([.ref (ad 3)])).length) Slot.unset).toArray = ls at hl ⊢
  have hl : lv_has ls 3 [(0, .ref (ad 3))] := hl
  unfold w_X3_squaresWithTent at h
  refine lv_iconst (v := 0) hx hb dX3_squaresWithTent_0 (by decide) ?_
  refine lv_istore_n (lv' := [(1, .int 0), (0, .ref (ad 3))]) hx hb dX3_squaresWithTent_1 rfl hl (by decide) rfl (fun ls hl => ?_)
  refine lv_iconst (v := 0) hx hb dX3_squaresWithTent_2 (by decide) ?_
  refine lv_istore_n (lv' := [(2, .int 0), (1, .int 0), (0, .ref (ad 3))]) hx hb dX3_squaresWithTent_3 rfl hl (by decide) rfl (fun ls hl => ?_)
  obtain ⟨n9, h⟩ := h
  exact J4 n9 _ _ _ _ _ _ h hI (lv_sub hl [2, 1, 0] rfl)

theorem dX3_laneSquares_0 : decode cX3_laneSquares 0 = .ok (.iconst 0, 1) := by decide +kernel
theorem dX3_laneSquares_1 : decode cX3_laneSquares 1 = .ok (.istore_n 1, 1) := by decide +kernel
theorem dX3_laneSquares_2 : decode cX3_laneSquares 2 = .ok (.iconst 0, 1) := by decide +kernel
theorem dX3_laneSquares_3 : decode cX3_laneSquares 3 = .ok (.istore_n 2, 1) := by decide +kernel
theorem dX3_laneSquares_4 : decode cX3_laneSquares 4 = .ok (.iload_n 2, 1) := by decide +kernel
theorem dX3_laneSquares_5 : decode cX3_laneSquares 5 = .ok (.sipush 192, 3) := by decide +kernel
theorem dX3_laneSquares_8 : decode cX3_laneSquares 8 = .ok (.if_icmp .ge 23, 3) := by decide +kernel
theorem dX3_laneSquares_11 : decode cX3_laneSquares 11 = .ok (.aload_n 0, 1) := by decide +kernel
theorem dX3_laneSquares_12 : decode cX3_laneSquares 12 = .ok (.getfield 11, 3) := by decide +kernel
theorem dX3_laneSquares_15 : decode cX3_laneSquares 15 = .ok (.iload_n 2, 1) := by decide +kernel
theorem dX3_laneSquares_16 : decode cX3_laneSquares 16 = .ok (.iaload, 1) := by decide +kernel
theorem dX3_laneSquares_17 : decode cX3_laneSquares 17 = .ok (.bipush (-2), 2) := by decide +kernel
theorem dX3_laneSquares_19 : decode cX3_laneSquares 19 = .ok (.if_icmp .ne 6, 3) := by decide +kernel
theorem dX3_laneSquares_22 : decode cX3_laneSquares 22 = .ok (.iinc 1 1, 3) := by decide +kernel
theorem dX3_laneSquares_25 : decode cX3_laneSquares 25 = .ok (.iinc 2 1, 3) := by decide +kernel
theorem dX3_laneSquares_28 : decode cX3_laneSquares 28 = .ok (.goto (-24), 3) := by decide +kernel
theorem dX3_laneSquares_31 : decode cX3_laneSquares 31 = .ok (.iload_n 1, 1) := by decide +kernel
theorem dX3_laneSquares_32 : decode cX3_laneSquares 32 = .ok (.ireturn, 1) := by decide +kernel
def w_X3_laneSquares_4 (Q : Int32 → gS → Prop) : Nat → Int32 → Int32 → gS → Prop
  | 0, _, _, _ => False
  | n4 + 1, x1, x2, σ =>
    (192 ≤ x2 → Q x1 σ) ∧ (¬ 192 ≤ x2 → vp_in x2 192 ∧ (¬ (σ 19 x2.toNatClampNeg) = (-2) → ∀ y5 : Int32, y5 = x2 + 1 → w_X3_laneSquares_4 Q n4 x1 y5 σ) ∧ ((σ 19 x2.toNatClampNeg) = (-2) → ∀ y6 : Int32, y6 = x1 + 1 → ∀ y7 : Int32, y7 = x2 + 1 → w_X3_laneSquares_4 Q n4 y6 y7 σ))
def w_X3_laneSquares (Q : Int32 → gS → Prop) (σ : gS) : Prop :=
    ∃ n4, w_X3_laneSquares_4 Q n4 0 0 σ
abbrev ws_X3_laneSquares : List Cond := Cond.code yX3_laneSquares cX3_laneSquares 3 (some .int) :: gG
abbrev rm_X3_laneSquares : Room := { frames := 0, cells := 0, slots := 0, locals := 0 }
theorem k_X3_laneSquares : gCV yX3_laneSquares RX3 cX3_laneSquares 3 (some .int) 0 := ⟨gw_3_22, gw_3_23, gw_1_4, gw_3_24, rfl, by decide +kernel⟩
set_option maxHeartbeats 4000000 in
set_option maxRecDepth 100000 in
theorem c_X3_laneSquares (l : Launch) (D : va_G) (cy : Nat → ClassId) (ad : Nat → Nat) (A : Nat → Prop) (Q : Int32 → gS → Prop) (σ : gS) (h : w_X3_laneSquares Q σ) : Met l yX3_laneSquares ws_X3_laneSquares rm_X3_laneSquares (va_Pc [.ref (ad 3)] (gB D cy ad A σ)) (va_Qi Q (gB D cy ad A) A) 0 0 A := by
  refine Met.ofW (cc := cX3_laneSquares) (maxL := 3) (ret := (some .int)) (by decide) rfl ?_
  intro p e s m args below meth c s₁ B hml hv
  obtain ⟨rfl, hB⟩ := hv
  have hC : gC p c cX3_laneSquares s m ([.ref (ad 3)] : List Value).toArray RX3 D cy ad A := g_start B hB
  have hI := g_first hB
  have hx := hC.1
  have hb := hC.2.1
  have hr := B.returns
  have hlocks := B.notSynchronized
  clear B hB
  have J4 : ∀ (n4 : Nat) (x1 : Int32) (x2 : Int32) (σ : gS) (H : Heap) (locs : List Loc) (ls : Array Slot), w_X3_laneSquares_4 Q n4 x1 x2 σ → gI D cy ad A s.heap σ H locs → lv_has ls 3 [(0, .ref (ad 3)), (1, .int x1), (2, .int x2)] → W p l e (headSpec ws_X3_laneSquares rm_X3_laneSquares).room s m ([.ref (ad 3)] : List Value).toArray below meth c H locs 0 0 (MQ below (va_Qi Q (gB D cy ad A) A) ([.ref (ad 3)] : List Value).toArray s 0 0 A) (F0 m 4 ls []) := by
    intro n4
    induction n4 with
    | zero => intro x1 x2 σ H locs ls h; exact absurd h (fun h => h)
    | succ n4 ih4 =>
      intro x1 x2 σ H locs ls h hI hl
      unfold w_X3_laneSquares_4 at h
      refine lv_iload_n hx hb dX3_laneSquares_4 rfl (lv_at hl 2 rfl) ?_
      refine lv_sipush (v := 192) hx hb dX3_laneSquares_5 (by decide) ?_
      refine lv_icmp_ge (tgt := 31) hx hb dX3_laneSquares_8 (by decide) (fun c2 => ?_) (fun c2 => ?_)
      · have h := h.1 c2
        refine lv_iload_n hx hb dX3_laneSquares_31 rfl (lv_at hl 1 rfl) ?_
        exact g_iret hC hr hlocks hI h dX3_laneSquares_32
      · have h := h.2 c2
        refine lv_aload_n hx hb dX3_laneSquares_11 rfl (lv_at hl 0 rfl) ?_
        refine gg_X3_squares hC hI gw_1_73 dX3_laneSquares_12 ?_
        refine lv_iload_n hx hb dX3_laneSquares_15 rfl (lv_at hl 2 rfl) ?_
        obtain ⟨hi3, h⟩ := h
        refine ga_21 hC hI hi3 dX3_laneSquares_16 ?_
        refine lv_bipush (v := (-2)) hx hb dX3_laneSquares_17 (by decide) ?_
        refine lv_icmp_ne (tgt := 25) hx hb dX3_laneSquares_19 (by decide) (fun c4 => ?_) (fun c4 => ?_)
        · have h := h.1 c4
          obtain ⟨y5, ey5⟩ : ∃ y : Int32, y = x2 + 1 := ⟨_, rfl⟩
          have h := h y5 ey5
          refine lv_iinc (v := y5) (lv' := [(2, .int y5), (0, .ref (ad 3)), (1, .int x1)]) hx hb dX3_laneSquares_25 hl (k := 2) rfl (by rw [ey5]; rfl) (by decide) rfl (fun ls hl => ?_)
          refine lv_goto (tgt := 4) hx hb dX3_laneSquares_28 (by decide) ?_
          exact ih4 _ _ _ _ _ _ h hI (lv_sub hl [1, 2, 0] rfl)
        · have h := h.2 c4
          obtain ⟨y6, ey6⟩ : ∃ y : Int32, y = x1 + 1 := ⟨_, rfl⟩
          have h := h y6 ey6
          refine lv_iinc (v := y6) (lv' := [(1, .int y6), (0, .ref (ad 3)), (2, .int x2)]) hx hb dX3_laneSquares_22 hl (k := 1) rfl (by rw [ey6]; rfl) (by decide) rfl (fun ls hl => ?_)
          obtain ⟨y7, ey7⟩ : ∃ y : Int32, y = x2 + 1 := ⟨_, rfl⟩
          have h := h y7 ey7
          refine lv_iinc (v := y7) (lv' := [(2, .int y7), (1, .int y6), (0, .ref (ad 3))]) hx hb dX3_laneSquares_25 hl (k := 2) rfl (by rw [ey7]; rfl) (by decide) rfl (fun ls hl => ?_)
          refine lv_goto (tgt := 4) hx hb dX3_laneSquares_28 (by decide) ?_
          exact ih4 _ _ _ _ _ _ h hI (lv_sub hl [2, 1, 0] rfl)
  have hl := lv_entry ([.ref (ad 3)]) (n := 3) (Nat.le_of_ble_eq_true rfl)
  rw [lg_entry_eq]
  generalize (lg_sl ([.ref (ad 3)]) ++ List.replicate (3 - (lg_sl ([.ref (ad 3)])).length) Slot.unset).toArray = ls at hl ⊢
  have hl : lv_has ls 3 [(0, .ref (ad 3))] := hl
  unfold w_X3_laneSquares at h
  refine lv_iconst (v := 0) hx hb dX3_laneSquares_0 (by decide) ?_
  refine lv_istore_n (lv' := [(1, .int 0), (0, .ref (ad 3))]) hx hb dX3_laneSquares_1 rfl hl (by decide) rfl (fun ls hl => ?_)
  refine lv_iconst (v := 0) hx hb dX3_laneSquares_2 (by decide) ?_
  refine lv_istore_n (lv' := [(2, .int 0), (1, .int 0), (0, .ref (ad 3))]) hx hb dX3_laneSquares_3 rfl hl (by decide) rfl (fun ls hl => ?_)
  obtain ⟨n9, h⟩ := h
  exact J4 n9 _ _ _ _ _ _ h hI (lv_sub hl [2, 1, 0] rfl)

theorem dX3_stepsFromGate_0 : decode cX3_stepsFromGate 0 = .ok (.iload_n 1, 1) := by decide +kernel
theorem dX3_stepsFromGate_1 : decode cX3_stepsFromGate 1 = .ok (.aload_n 0, 1) := by decide +kernel
theorem dX3_stepsFromGate_2 : decode cX3_stepsFromGate 2 = .ok (.getfield 42, 3) := by decide +kernel
theorem dX3_stepsFromGate_5 : decode cX3_stepsFromGate 5 = .ok (.bipush 16, 2) := by decide +kernel
theorem dX3_stepsFromGate_7 : decode cX3_stepsFromGate 7 = .ok (.irem, 1) := by decide +kernel
theorem dX3_stepsFromGate_8 : decode cX3_stepsFromGate 8 = .ok (.isub, 1) := by decide +kernel
theorem dX3_stepsFromGate_9 : decode cX3_stepsFromGate 9 = .ok (.invokestatic 45, 3) := by decide +kernel
theorem dX3_stepsFromGate_12 : decode cX3_stepsFromGate 12 = .ok (.iload_n 2, 1) := by decide +kernel
theorem dX3_stepsFromGate_13 : decode cX3_stepsFromGate 13 = .ok (.aload_n 0, 1) := by decide +kernel
theorem dX3_stepsFromGate_14 : decode cX3_stepsFromGate 14 = .ok (.getfield 42, 3) := by decide +kernel
theorem dX3_stepsFromGate_17 : decode cX3_stepsFromGate 17 = .ok (.bipush 16, 2) := by decide +kernel
theorem dX3_stepsFromGate_19 : decode cX3_stepsFromGate 19 = .ok (.idiv, 1) := by decide +kernel
theorem dX3_stepsFromGate_20 : decode cX3_stepsFromGate 20 = .ok (.isub, 1) := by decide +kernel
theorem dX3_stepsFromGate_21 : decode cX3_stepsFromGate 21 = .ok (.invokestatic 45, 3) := by decide +kernel
theorem dX3_stepsFromGate_24 : decode cX3_stepsFromGate 24 = .ok (.iadd, 1) := by decide +kernel
theorem dX3_stepsFromGate_25 : decode cX3_stepsFromGate 25 = .ok (.ireturn, 1) := by decide +kernel
def w_X3_stepsFromGate (Q : Int32 → gS → Prop) (σ : gS) (a1 : Int32) (a2 : Int32) : Prop :=
    Q ((if 0 ≤ (a1 - ((σ 20 0) - (σ 20 0) / 16 * 16)) then (a1 - ((σ 20 0) - (σ 20 0) / 16 * 16)) else 0 - (a1 - ((σ 20 0) - (σ 20 0) / 16 * 16))) + (if 0 ≤ (a2 - ((σ 20 0) / 16)) then (a2 - ((σ 20 0) / 16)) else 0 - (a2 - ((σ 20 0) / 16)))) σ
abbrev ws_X3_stepsFromGate : List Cond := Cond.code yX3_stepsFromGate cX3_stepsFromGate 3 (some .int) :: gG
abbrev rm_X3_stepsFromGate : Room := { frames := 1, cells := 0, slots := 0, locals := 21 }
theorem k_X3_stepsFromGate : gCV yX3_stepsFromGate RX3 cX3_stepsFromGate 3 (some .int) 2 := ⟨gw_3_163, gwp_21, gw_1_4, gw_3_164, rfl, by decide +kernel⟩
set_option maxHeartbeats 4000000 in
set_option maxRecDepth 100000 in
theorem c_X3_stepsFromGate (l : Launch) (D : va_G) (cy : Nat → ClassId) (ad : Nat → Nat) (A : Nat → Prop) (Q : Int32 → gS → Prop) (σ : gS) (a1 : Int32) (a2 : Int32) (h : w_X3_stepsFromGate Q σ a1 a2) : Met l yX3_stepsFromGate ws_X3_stepsFromGate rm_X3_stepsFromGate (va_Pc [.ref (ad 3), .int a1, .int a2] (gB D cy ad A σ)) (va_Qi Q (gB D cy ad A) A) 0 0 A := by
  refine Met.ofW (cc := cX3_stepsFromGate) (maxL := 3) (ret := (some .int)) (by decide) rfl ?_
  intro p e s m args below meth c s₁ B hml hv
  obtain ⟨rfl, hB⟩ := hv
  have hC : gC p c cX3_stepsFromGate s m ([.ref (ad 3), .int a1, .int a2] : List Value).toArray RX3 D cy ad A := g_start B hB
  have hI := g_first hB
  have hx := hC.1
  have hb := hC.2.1
  have hr := B.returns
  have hlocks := B.notSynchronized
  clear B hB
  have hl := lv_entry ([.ref (ad 3), .int a1, .int a2]) (n := 3) (Nat.le_of_ble_eq_true rfl)
  rw [lg_entry_eq]
  generalize (lg_sl ([.ref (ad 3), .int a1, .int a2]) ++ List.replicate (3 - (lg_sl ([.ref (ad 3), .int a1, .int a2])).length) Slot.unset).toArray = ls at hl ⊢
  have hl : lv_has ls 3 [(0, .ref (ad 3)), (1, .int a1), (2, .int a2)] := hl
  unfold w_X3_stepsFromGate at h
  refine lv_iload_n hx hb dX3_stepsFromGate_0 rfl (lv_at hl 1 rfl) ?_
  refine lv_aload_n hx hb dX3_stepsFromGate_1 rfl (lv_at hl 0 rfl) ?_
  refine gg_X3_gateSquare hC hI gw_1_76 dX3_stepsFromGate_2 ?_
  refine lv_bipush (v := 16) hx hb dX3_stepsFromGate_5 (by decide) ?_
  refine lv_irem hx hb dX3_stepsFromGate_7 (by decide) ?_
  refine lv_isub hx hb dX3_stepsFromGate_8 ?_
  refine va_mabs hx hb (by rw [hml]; exact hl.1.symm) hC.2.2.2.1 (hC.2.2.1 _ gw_3_165) (hC.2.2.1 _ gw_3_166) (hC.2.2.1 _ gw_1_18) (hC.2.2.1 _ gw_3_167) (Nat.le_of_ble_eq_true rfl) (Nat.le_of_ble_eq_true rfl) (Nat.le_of_ble_eq_true rfl) (Nat.le_of_ble_eq_true rfl) dX3_stepsFromGate_9 ?_
  refine lv_iload_n hx hb dX3_stepsFromGate_12 rfl (lv_at hl 2 rfl) ?_
  refine lv_aload_n hx hb dX3_stepsFromGate_13 rfl (lv_at hl 0 rfl) ?_
  refine gg_X3_gateSquare hC hI gw_1_76 dX3_stepsFromGate_14 ?_
  refine lv_bipush (v := 16) hx hb dX3_stepsFromGate_17 (by decide) ?_
  refine lv_idiv hx hb dX3_stepsFromGate_19 (by decide) ?_
  refine lv_isub hx hb dX3_stepsFromGate_20 ?_
  refine va_mabs hx hb (by rw [hml]; exact hl.1.symm) hC.2.2.2.1 (hC.2.2.1 _ gw_3_165) (hC.2.2.1 _ gw_3_166) (hC.2.2.1 _ gw_1_18) (hC.2.2.1 _ gw_3_167) (Nat.le_of_ble_eq_true rfl) (Nat.le_of_ble_eq_true rfl) (Nat.le_of_ble_eq_true rfl) (Nat.le_of_ble_eq_true rfl) dX3_stepsFromGate_21 ?_
  refine lv_iadd hx hb dX3_stepsFromGate_24 ?_
  exact g_iret hC hr hlocks hI h dX3_stepsFromGate_25

theorem dX3_isFree_0 : decode cX3_isFree 0 = .ok (.iload_n 2, 1) := by decide +kernel
theorem dX3_isFree_1 : decode cX3_isFree 1 = .ok (.istore 5, 2) := by decide +kernel
theorem dX3_isFree_3 : decode cX3_isFree 3 = .ok (.iload 5, 2) := by decide +kernel
theorem dX3_isFree_5 : decode cX3_isFree 5 = .ok (.iload_n 2, 1) := by decide +kernel
theorem dX3_isFree_6 : decode cX3_isFree 6 = .ok (.iload 4, 2) := by decide +kernel
theorem dX3_isFree_8 : decode cX3_isFree 8 = .ok (.iadd, 1) := by decide +kernel
theorem dX3_isFree_9 : decode cX3_isFree 9 = .ok (.if_icmp .ge 59, 3) := by decide +kernel
theorem dX3_isFree_12 : decode cX3_isFree 12 = .ok (.iload 5, 2) := by decide +kernel
theorem dX3_isFree_14 : decode cX3_isFree 14 = .ok (.bipush 12, 2) := by decide +kernel
theorem dX3_isFree_16 : decode cX3_isFree 16 = .ok (.if_icmp .ge 52, 3) := by decide +kernel
theorem dX3_isFree_19 : decode cX3_isFree 19 = .ok (.iload_n 1, 1) := by decide +kernel
theorem dX3_isFree_20 : decode cX3_isFree 20 = .ok (.istore 6, 2) := by decide +kernel
theorem dX3_isFree_22 : decode cX3_isFree 22 = .ok (.iload 6, 2) := by decide +kernel
theorem dX3_isFree_24 : decode cX3_isFree 24 = .ok (.iload_n 1, 1) := by decide +kernel
theorem dX3_isFree_25 : decode cX3_isFree 25 = .ok (.iload_n 3, 1) := by decide +kernel
theorem dX3_isFree_26 : decode cX3_isFree 26 = .ok (.iadd, 1) := by decide +kernel
theorem dX3_isFree_27 : decode cX3_isFree 27 = .ok (.if_icmp .ge 35, 3) := by decide +kernel
theorem dX3_isFree_30 : decode cX3_isFree 30 = .ok (.iload 6, 2) := by decide +kernel
theorem dX3_isFree_32 : decode cX3_isFree 32 = .ok (.bipush 16, 2) := by decide +kernel
theorem dX3_isFree_34 : decode cX3_isFree 34 = .ok (.if_icmp .ge 28, 3) := by decide +kernel
theorem dX3_isFree_37 : decode cX3_isFree 37 = .ok (.aload_n 0, 1) := by decide +kernel
theorem dX3_isFree_38 : decode cX3_isFree 38 = .ok (.getfield 11, 3) := by decide +kernel
theorem dX3_isFree_41 : decode cX3_isFree 41 = .ok (.bipush 16, 2) := by decide +kernel
theorem dX3_isFree_43 : decode cX3_isFree 43 = .ok (.iload 5, 2) := by decide +kernel
theorem dX3_isFree_45 : decode cX3_isFree 45 = .ok (.imul, 1) := by decide +kernel
theorem dX3_isFree_46 : decode cX3_isFree 46 = .ok (.iload 6, 2) := by decide +kernel
theorem dX3_isFree_48 : decode cX3_isFree 48 = .ok (.iadd, 1) := by decide +kernel
theorem dX3_isFree_49 : decode cX3_isFree 49 = .ok (.iaload, 1) := by decide +kernel
theorem dX3_isFree_50 : decode cX3_isFree 50 = .ok (.iconst (-1), 1) := by decide +kernel
theorem dX3_isFree_51 : decode cX3_isFree 51 = .ok (.if_icmp .eq 5, 3) := by decide +kernel
theorem dX3_isFree_54 : decode cX3_isFree 54 = .ok (.iconst 0, 1) := by decide +kernel
theorem dX3_isFree_55 : decode cX3_isFree 55 = .ok (.ireturn, 1) := by decide +kernel
theorem dX3_isFree_56 : decode cX3_isFree 56 = .ok (.iinc 6 1, 3) := by decide +kernel
theorem dX3_isFree_59 : decode cX3_isFree 59 = .ok (.goto (-37), 3) := by decide +kernel
theorem dX3_isFree_62 : decode cX3_isFree 62 = .ok (.iinc 5 1, 3) := by decide +kernel
theorem dX3_isFree_65 : decode cX3_isFree 65 = .ok (.goto (-62), 3) := by decide +kernel
theorem dX3_isFree_68 : decode cX3_isFree 68 = .ok (.iconst 1, 1) := by decide +kernel
theorem dX3_isFree_69 : decode cX3_isFree 69 = .ok (.ireturn, 1) := by decide +kernel
def w_X3_isFree_22 (Q : Int32 → gS → Prop) (k3 : Int32 → Int32 → Int32 → Int32 → Int32 → gS → Prop) : Nat → Int32 → Int32 → Int32 → Int32 → Int32 → Int32 → gS → Prop
  | 0, _, _, _, _, _, _, _ => False
  | n22 + 1, x1, x2, x3, x4, x5, x6, σ =>
    ((x1 + x3) ≤ x6 → ∀ y3 : Int32, y3 = x5 + 1 → k3 x1 x2 x3 x4 y3 σ) ∧ (¬ (x1 + x3) ≤ x6 → (16 ≤ x6 → ∀ y5 : Int32, y5 = x5 + 1 → k3 x1 x2 x3 x4 y5 σ) ∧ (¬ 16 ≤ x6 → vp_in ((16 * x5) + x6) 192 ∧ ((σ 19 ((16 * x5) + x6).toNatClampNeg) = (-1) → ∀ y8 : Int32, y8 = x6 + 1 → w_X3_isFree_22 Q k3 n22 x1 x2 x3 x4 x5 y8 σ) ∧ (¬ (σ 19 ((16 * x5) + x6).toNatClampNeg) = (-1) → Q 0 σ)))
def w_X3_isFree_3 (Q : Int32 → gS → Prop) : Nat → Int32 → Int32 → Int32 → Int32 → Int32 → gS → Prop
  | 0, _, _, _, _, _, _ => False
  | n3 + 1, x1, x2, x3, x4, x5, σ =>
    ((x2 + x4) ≤ x5 → Q 1 σ) ∧ (¬ (x2 + x4) ≤ x5 → (12 ≤ x5 → Q 1 σ) ∧ (¬ 12 ≤ x5 → ∃ n22, w_X3_isFree_22 Q (w_X3_isFree_3 Q n3) n22 x1 x2 x3 x4 x5 x1 σ))
def w_X3_isFree (Q : Int32 → gS → Prop) (σ : gS) (a1 : Int32) (a2 : Int32) (a3 : Int32) (a4 : Int32) : Prop :=
    ∃ n3, w_X3_isFree_3 Q n3 a1 a2 a3 a4 a2 σ
abbrev ws_X3_isFree : List Cond := Cond.code yX3_isFree cX3_isFree 7 (some .boolean) :: gG
abbrev rm_X3_isFree : Room := { frames := 0, cells := 0, slots := 0, locals := 0 }
theorem k_X3_isFree : gCV yX3_isFree RX3 cX3_isFree 7 (some .boolean) 4 := ⟨gw_3_170, gwp_22, gw_1_4, gw_3_171, rfl, by decide +kernel⟩
set_option maxHeartbeats 4000000 in
set_option maxRecDepth 100000 in
theorem c_X3_isFree (l : Launch) (D : va_G) (cy : Nat → ClassId) (ad : Nat → Nat) (A : Nat → Prop) (Q : Int32 → gS → Prop) (σ : gS) (a1 : Int32) (a2 : Int32) (a3 : Int32) (a4 : Int32) (h : w_X3_isFree Q σ a1 a2 a3 a4) : Met l yX3_isFree ws_X3_isFree rm_X3_isFree (va_Pc [.ref (ad 3), .int a1, .int a2, .int a3, .int a4] (gB D cy ad A σ)) (va_Qi Q (gB D cy ad A) A) 0 0 A := by
  refine Met.ofW (cc := cX3_isFree) (maxL := 7) (ret := (some .boolean)) (by decide) rfl ?_
  intro p e s m args below meth c s₁ B hml hv
  obtain ⟨rfl, hB⟩ := hv
  have hC : gC p c cX3_isFree s m ([.ref (ad 3), .int a1, .int a2, .int a3, .int a4] : List Value).toArray RX3 D cy ad A := g_start B hB
  have hI := g_first hB
  have hx := hC.1
  have hb := hC.2.1
  have hr := B.returns
  have hlocks := B.notSynchronized
  clear B hB
  have J3 : ∀ (n3 : Nat) (x1 : Int32) (x2 : Int32) (x3 : Int32) (x4 : Int32) (x5 : Int32) (σ : gS) (H : Heap) (locs : List Loc) (ls : Array Slot), w_X3_isFree_3 Q n3 x1 x2 x3 x4 x5 σ → gI D cy ad A s.heap σ H locs → lv_has ls 7 [(0, .ref (ad 3)), (1, .int x1), (2, .int x2), (3, .int x3), (4, .int x4), (5, .int x5)] → W p l e (headSpec ws_X3_isFree rm_X3_isFree).room s m ([.ref (ad 3), .int a1, .int a2, .int a3, .int a4] : List Value).toArray below meth c H locs 0 0 (MQ below (va_Qi Q (gB D cy ad A) A) ([.ref (ad 3), .int a1, .int a2, .int a3, .int a4] : List Value).toArray s 0 0 A) (F0 m 3 ls []) := by
    intro n3
    induction n3 with
    | zero => intro x1 x2 x3 x4 x5 σ H locs ls h; exact absurd h (fun h => h)
    | succ n3 ih3 =>
      have J22 : ∀ (n22 : Nat) (x1 : Int32) (x2 : Int32) (x3 : Int32) (x4 : Int32) (x5 : Int32) (x6 : Int32) (σ : gS) (H : Heap) (locs : List Loc) (ls : Array Slot), w_X3_isFree_22 Q (w_X3_isFree_3 Q n3) n22 x1 x2 x3 x4 x5 x6 σ → gI D cy ad A s.heap σ H locs → lv_has ls 7 [(0, .ref (ad 3)), (1, .int x1), (2, .int x2), (3, .int x3), (4, .int x4), (5, .int x5), (6, .int x6)] → W p l e (headSpec ws_X3_isFree rm_X3_isFree).room s m ([.ref (ad 3), .int a1, .int a2, .int a3, .int a4] : List Value).toArray below meth c H locs 0 0 (MQ below (va_Qi Q (gB D cy ad A) A) ([.ref (ad 3), .int a1, .int a2, .int a3, .int a4] : List Value).toArray s 0 0 A) (F0 m 22 ls []) := by
        intro n22
        induction n22 with
        | zero => intro x1 x2 x3 x4 x5 x6 σ H locs ls h; exact absurd h (fun h => h)
        | succ n22 ih22 =>
          intro x1 x2 x3 x4 x5 x6 σ H locs ls h hI hl
          unfold w_X3_isFree_22 at h
          refine lv_iload hx hb dX3_isFree_22 (lv_at hl 6 rfl) ?_
          refine lv_iload_n hx hb dX3_isFree_24 rfl (lv_at hl 1 rfl) ?_
          refine lv_iload_n hx hb dX3_isFree_25 rfl (lv_at hl 3 rfl) ?_
          refine lv_iadd hx hb dX3_isFree_26 ?_
          refine lv_icmp_ge (tgt := 62) hx hb dX3_isFree_27 (by decide) (fun c2 => ?_) (fun c2 => ?_)
          · have h := h.1 c2
            obtain ⟨y3, ey3⟩ : ∃ y : Int32, y = x5 + 1 := ⟨_, rfl⟩
            have h := h y3 ey3
            refine lv_iinc (v := y3) (lv' := [(5, .int y3), (0, .ref (ad 3)), (1, .int x1), (2, .int x2), (3, .int x3), (4, .int x4), (6, .int x6)]) hx hb dX3_isFree_62 hl (k := 5) rfl (by rw [ey3]; rfl) (by decide) rfl (fun ls hl => ?_)
            refine lv_goto (tgt := 3) hx hb dX3_isFree_65 (by decide) ?_
            exact ih3 _ _ _ _ _ _ _ _ _ h hI (lv_sub hl [1, 2, 3, 4, 5, 0] rfl)
          · have h := h.2 c2
            refine lv_iload hx hb dX3_isFree_30 (lv_at hl 6 rfl) ?_
            refine lv_bipush (v := 16) hx hb dX3_isFree_32 (by decide) ?_
            refine lv_icmp_ge (tgt := 62) hx hb dX3_isFree_34 (by decide) (fun c4 => ?_) (fun c4 => ?_)
            · have h := h.1 c4
              obtain ⟨y5, ey5⟩ : ∃ y : Int32, y = x5 + 1 := ⟨_, rfl⟩
              have h := h y5 ey5
              refine lv_iinc (v := y5) (lv' := [(5, .int y5), (0, .ref (ad 3)), (1, .int x1), (2, .int x2), (3, .int x3), (4, .int x4), (6, .int x6)]) hx hb dX3_isFree_62 hl (k := 5) rfl (by rw [ey5]; rfl) (by decide) rfl (fun ls hl => ?_)
              refine lv_goto (tgt := 3) hx hb dX3_isFree_65 (by decide) ?_
              exact ih3 _ _ _ _ _ _ _ _ _ h hI (lv_sub hl [1, 2, 3, 4, 5, 0] rfl)
            · have h := h.2 c4
              refine lv_aload_n hx hb dX3_isFree_37 rfl (lv_at hl 0 rfl) ?_
              refine gg_X3_squares hC hI gw_1_73 dX3_isFree_38 ?_
              refine lv_bipush (v := 16) hx hb dX3_isFree_41 (by decide) ?_
              refine lv_iload hx hb dX3_isFree_43 (lv_at hl 5 rfl) ?_
              refine lv_imul hx hb dX3_isFree_45 ?_
              refine lv_iload hx hb dX3_isFree_46 (lv_at hl 6 rfl) ?_
              refine lv_iadd hx hb dX3_isFree_48 ?_
              obtain ⟨hi6, h⟩ := h
              refine ga_21 hC hI hi6 dX3_isFree_49 ?_
              refine lv_iconst (v := (-1)) hx hb dX3_isFree_50 (by decide) ?_
              refine lv_icmp_eq (tgt := 56) hx hb dX3_isFree_51 (by decide) (fun c7 => ?_) (fun c7 => ?_)
              · have h := h.1 c7
                obtain ⟨y8, ey8⟩ : ∃ y : Int32, y = x6 + 1 := ⟨_, rfl⟩
                have h := h y8 ey8
                refine lv_iinc (v := y8) (lv' := [(6, .int y8), (0, .ref (ad 3)), (1, .int x1), (2, .int x2), (3, .int x3), (4, .int x4), (5, .int x5)]) hx hb dX3_isFree_56 hl (k := 6) rfl (by rw [ey8]; rfl) (by decide) rfl (fun ls hl => ?_)
                refine lv_goto (tgt := 22) hx hb dX3_isFree_59 (by decide) ?_
                exact ih22 _ _ _ _ _ _ _ _ _ _ h hI (lv_sub hl [1, 2, 3, 4, 5, 6, 0] rfl)
              · have h := h.2 c7
                refine lv_iconst (v := 0) hx hb dX3_isFree_54 (by decide) ?_
                exact g_zret hC hr hlocks rfl hI h dX3_isFree_55
      intro x1 x2 x3 x4 x5 σ H locs ls h hI hl
      unfold w_X3_isFree_3 at h
      refine lv_iload hx hb dX3_isFree_3 (lv_at hl 5 rfl) ?_
      refine lv_iload_n hx hb dX3_isFree_5 rfl (lv_at hl 2 rfl) ?_
      refine lv_iload hx hb dX3_isFree_6 (lv_at hl 4 rfl) ?_
      refine lv_iadd hx hb dX3_isFree_8 ?_
      refine lv_icmp_ge (tgt := 68) hx hb dX3_isFree_9 (by decide) (fun c9 => ?_) (fun c9 => ?_)
      · have h := h.1 c9
        refine lv_iconst (v := 1) hx hb dX3_isFree_68 (by decide) ?_
        exact g_zret hC hr hlocks rfl hI h dX3_isFree_69
      · have h := h.2 c9
        refine lv_iload hx hb dX3_isFree_12 (lv_at hl 5 rfl) ?_
        refine lv_bipush (v := 12) hx hb dX3_isFree_14 (by decide) ?_
        refine lv_icmp_ge (tgt := 68) hx hb dX3_isFree_16 (by decide) (fun c10 => ?_) (fun c10 => ?_)
        · have h := h.1 c10
          refine lv_iconst (v := 1) hx hb dX3_isFree_68 (by decide) ?_
          exact g_zret hC hr hlocks rfl hI h dX3_isFree_69
        · have h := h.2 c10
          refine lv_iload_n hx hb dX3_isFree_19 rfl (lv_at hl 1 rfl) ?_
          refine lv_istore (lv' := [(6, .int x1), (0, .ref (ad 3)), (1, .int x1), (2, .int x2), (3, .int x3), (4, .int x4), (5, .int x5)]) hx hb dX3_isFree_20 hl (by decide) rfl (fun ls hl => ?_)
          obtain ⟨n9, h⟩ := h
          exact J22 n9 _ _ _ _ _ _ _ _ _ _ h hI (lv_sub hl [1, 2, 3, 4, 5, 6, 0] rfl)
  have hl := lv_entry ([.ref (ad 3), .int a1, .int a2, .int a3, .int a4]) (n := 7) (Nat.le_of_ble_eq_true rfl)
  rw [lg_entry_eq]
  generalize (lg_sl ([.ref (ad 3), .int a1, .int a2, .int a3, .int a4]) ++ List.replicate (7 - (lg_sl ([.ref (ad 3), .int a1, .int a2, .int a3, .int a4])).length) Slot.unset).toArray = ls at hl ⊢
  have hl : lv_has ls 7 [(0, .ref (ad 3)), (1, .int a1), (2, .int a2), (3, .int a3), (4, .int a4)] := hl
  unfold w_X3_isFree at h
  refine lv_iload_n hx hb dX3_isFree_0 rfl (lv_at hl 2 rfl) ?_
  refine lv_istore (lv' := [(5, .int a2), (0, .ref (ad 3)), (1, .int a1), (2, .int a2), (3, .int a3), (4, .int a4)]) hx hb dX3_isFree_1 hl (by decide) rfl (fun ls hl => ?_)
  obtain ⟨n9, h⟩ := h
  exact J3 n9 _ _ _ _ _ _ _ _ _ h hI (lv_sub hl [1, 2, 3, 4, 5, 0] rfl)

theorem dX3_nearestCorner_0 : decode cX3_nearestCorner 0 = .ok (.iconst (-1), 1) := by decide +kernel
theorem dX3_nearestCorner_1 : decode cX3_nearestCorner 1 = .ok (.istore_n 3, 1) := by decide +kernel
theorem dX3_nearestCorner_2 : decode cX3_nearestCorner 2 = .ok (.ldc 34, 2) := by decide +kernel
theorem dX3_nearestCorner_4 : decode cX3_nearestCorner 4 = .ok (.istore 4, 2) := by decide +kernel
theorem dX3_nearestCorner_6 : decode cX3_nearestCorner 6 = .ok (.iconst 0, 1) := by decide +kernel
theorem dX3_nearestCorner_7 : decode cX3_nearestCorner 7 = .ok (.istore 5, 2) := by decide +kernel
theorem dX3_nearestCorner_9 : decode cX3_nearestCorner 9 = .ok (.iload 5, 2) := by decide +kernel
theorem dX3_nearestCorner_11 : decode cX3_nearestCorner 11 = .ok (.iload_n 2, 1) := by decide +kernel
theorem dX3_nearestCorner_12 : decode cX3_nearestCorner 12 = .ok (.iadd, 1) := by decide +kernel
theorem dX3_nearestCorner_13 : decode cX3_nearestCorner 13 = .ok (.bipush 12, 2) := by decide +kernel
theorem dX3_nearestCorner_15 : decode cX3_nearestCorner 15 = .ok (.if_icmp .gt 70, 3) := by decide +kernel
theorem dX3_nearestCorner_18 : decode cX3_nearestCorner 18 = .ok (.iconst 0, 1) := by decide +kernel
theorem dX3_nearestCorner_19 : decode cX3_nearestCorner 19 = .ok (.istore 6, 2) := by decide +kernel
theorem dX3_nearestCorner_21 : decode cX3_nearestCorner 21 = .ok (.iload 6, 2) := by decide +kernel
theorem dX3_nearestCorner_23 : decode cX3_nearestCorner 23 = .ok (.iload_n 1, 1) := by decide +kernel
theorem dX3_nearestCorner_24 : decode cX3_nearestCorner 24 = .ok (.iadd, 1) := by decide +kernel
theorem dX3_nearestCorner_25 : decode cX3_nearestCorner 25 = .ok (.bipush 16, 2) := by decide +kernel
theorem dX3_nearestCorner_27 : decode cX3_nearestCorner 27 = .ok (.if_icmp .gt 52, 3) := by decide +kernel
theorem dX3_nearestCorner_30 : decode cX3_nearestCorner 30 = .ok (.aload_n 0, 1) := by decide +kernel
theorem dX3_nearestCorner_31 : decode cX3_nearestCorner 31 = .ok (.iload 6, 2) := by decide +kernel
theorem dX3_nearestCorner_33 : decode cX3_nearestCorner 33 = .ok (.iload 5, 2) := by decide +kernel
theorem dX3_nearestCorner_35 : decode cX3_nearestCorner 35 = .ok (.invokevirtual 35, 3) := by decide +kernel
theorem dX3_nearestCorner_38 : decode cX3_nearestCorner 38 = .ok (.istore 7, 2) := by decide +kernel
theorem dX3_nearestCorner_40 : decode cX3_nearestCorner 40 = .ok (.iload 7, 2) := by decide +kernel
theorem dX3_nearestCorner_42 : decode cX3_nearestCorner 42 = .ok (.iload 4, 2) := by decide +kernel
theorem dX3_nearestCorner_44 : decode cX3_nearestCorner 44 = .ok (.if_icmp .ge 29, 3) := by decide +kernel
theorem dX3_nearestCorner_47 : decode cX3_nearestCorner 47 = .ok (.aload_n 0, 1) := by decide +kernel
theorem dX3_nearestCorner_48 : decode cX3_nearestCorner 48 = .ok (.iload 6, 2) := by decide +kernel
theorem dX3_nearestCorner_50 : decode cX3_nearestCorner 50 = .ok (.iload 5, 2) := by decide +kernel
theorem dX3_nearestCorner_52 : decode cX3_nearestCorner 52 = .ok (.iload_n 1, 1) := by decide +kernel
theorem dX3_nearestCorner_53 : decode cX3_nearestCorner 53 = .ok (.iload_n 2, 1) := by decide +kernel
theorem dX3_nearestCorner_54 : decode cX3_nearestCorner 54 = .ok (.invokevirtual 38, 3) := by decide +kernel
theorem dX3_nearestCorner_57 : decode cX3_nearestCorner 57 = .ok (.ifCond .eq 16, 3) := by decide +kernel
theorem dX3_nearestCorner_60 : decode cX3_nearestCorner 60 = .ok (.bipush 16, 2) := by decide +kernel
theorem dX3_nearestCorner_62 : decode cX3_nearestCorner 62 = .ok (.iload 5, 2) := by decide +kernel
theorem dX3_nearestCorner_64 : decode cX3_nearestCorner 64 = .ok (.imul, 1) := by decide +kernel
theorem dX3_nearestCorner_65 : decode cX3_nearestCorner 65 = .ok (.iload 6, 2) := by decide +kernel
theorem dX3_nearestCorner_67 : decode cX3_nearestCorner 67 = .ok (.iadd, 1) := by decide +kernel
theorem dX3_nearestCorner_68 : decode cX3_nearestCorner 68 = .ok (.istore_n 3, 1) := by decide +kernel
theorem dX3_nearestCorner_69 : decode cX3_nearestCorner 69 = .ok (.iload 7, 2) := by decide +kernel
theorem dX3_nearestCorner_71 : decode cX3_nearestCorner 71 = .ok (.istore 4, 2) := by decide +kernel
theorem dX3_nearestCorner_73 : decode cX3_nearestCorner 73 = .ok (.iinc 6 1, 3) := by decide +kernel
theorem dX3_nearestCorner_76 : decode cX3_nearestCorner 76 = .ok (.goto (-55), 3) := by decide +kernel
theorem dX3_nearestCorner_79 : decode cX3_nearestCorner 79 = .ok (.iinc 5 1, 3) := by decide +kernel
theorem dX3_nearestCorner_82 : decode cX3_nearestCorner 82 = .ok (.goto (-73), 3) := by decide +kernel
theorem dX3_nearestCorner_85 : decode cX3_nearestCorner 85 = .ok (.iload_n 3, 1) := by decide +kernel
theorem dX3_nearestCorner_86 : decode cX3_nearestCorner 86 = .ok (.ireturn, 1) := by decide +kernel
def w_X3_nearestCorner_21 (Q : Int32 → gS → Prop) (k9 : Int32 → Int32 → Int32 → Int32 → Int32 → gS → Prop) : Nat → Int32 → Int32 → Int32 → Int32 → Int32 → Int32 → gS → Prop
  | 0, _, _, _, _, _, _, _ => False
  | n21 + 1, x1, x2, x3, x4, x5, x6, σ =>
    (16 < (x6 + x1) → ∀ y2 : Int32, y2 = x5 + 1 → k9 x1 x2 x3 x4 y2 σ) ∧ (¬ 16 < (x6 + x1) → w_X3_stepsFromGate  (fun (r4 : Int32) (s3 : gS) => (x4 ≤ r4 → ∀ y6 : Int32, y6 = x6 + 1 → w_X3_nearestCorner_21 Q k9 n21 x1 x2 x3 x4 x5 y6 s3) ∧ (¬ x4 ≤ r4 → w_X3_isFree  (fun (r8 : Int32) (s7 : gS) => (r8 = 0 → ∀ y10 : Int32, y10 = x6 + 1 → w_X3_nearestCorner_21 Q k9 n21 x1 x2 x3 x4 x5 y10 s7) ∧ (¬ r8 = 0 → ∀ y11 : Int32, y11 = ((16 * x5) + x6) → ∀ y12 : Int32, y12 = x6 + 1 → w_X3_nearestCorner_21 Q k9 n21 x1 x2 y11 r4 x5 y12 s7)) s3 x6 x5 x1 x2)) σ x6 x5)
def w_X3_nearestCorner_9 (Q : Int32 → gS → Prop) : Nat → Int32 → Int32 → Int32 → Int32 → Int32 → gS → Prop
  | 0, _, _, _, _, _, _ => False
  | n9 + 1, x1, x2, x3, x4, x5, σ =>
    (12 < (x5 + x2) → Q x3 σ) ∧ (¬ 12 < (x5 + x2) → ∃ n21, w_X3_nearestCorner_21 Q (w_X3_nearestCorner_9 Q n9) n21 x1 x2 x3 x4 x5 0 σ)
def w_X3_nearestCorner (Q : Int32 → gS → Prop) (σ : gS) (a1 : Int32) (a2 : Int32) : Prop :=
    ∃ n9, w_X3_nearestCorner_9 Q n9 a1 a2 (-1) 2147483647 0 σ
abbrev ws_X3_nearestCorner : List Cond := Cond.code yX3_nearestCorner cX3_nearestCorner 8 (some .int) :: gG
abbrev rm_X3_nearestCorner : Room := { frames := 2, cells := 0, slots := 0, locals := 43 }
theorem k_X3_nearestCorner : gCV yX3_nearestCorner RX3 cX3_nearestCorner 8 (some .int) 2 := ⟨gw_3_158, gwp_20, gw_1_4, gw_3_159, rfl, by decide +kernel⟩
set_option maxHeartbeats 4000000 in
set_option maxRecDepth 100000 in
theorem c_X3_nearestCorner (l : Launch) (D : va_G) (cy : Nat → ClassId) (ad : Nat → Nat) (A : Nat → Prop) (Q : Int32 → gS → Prop) (σ : gS) (a1 : Int32) (a2 : Int32) (h : w_X3_nearestCorner Q σ a1 a2) : Met l yX3_nearestCorner ws_X3_nearestCorner rm_X3_nearestCorner (va_Pc [.ref (ad 3), .int a1, .int a2] (gB D cy ad A σ)) (va_Qi Q (gB D cy ad A) A) 0 0 A := by
  refine Met.ofW (cc := cX3_nearestCorner) (maxL := 8) (ret := (some .int)) (by decide) rfl ?_
  intro p e s m args below meth c s₁ B hml hv
  obtain ⟨rfl, hB⟩ := hv
  have hC : gC p c cX3_nearestCorner s m ([.ref (ad 3), .int a1, .int a2] : List Value).toArray RX3 D cy ad A := g_start B hB
  have hI := g_first hB
  have hx := hC.1
  have hb := hC.2.1
  have hr := B.returns
  have hlocks := B.notSynchronized
  clear B hB
  have J9 : ∀ (n9 : Nat) (x1 : Int32) (x2 : Int32) (x3 : Int32) (x4 : Int32) (x5 : Int32) (σ : gS) (H : Heap) (locs : List Loc) (ls : Array Slot), w_X3_nearestCorner_9 Q n9 x1 x2 x3 x4 x5 σ → gI D cy ad A s.heap σ H locs → lv_has ls 8 [(0, .ref (ad 3)), (1, .int x1), (2, .int x2), (3, .int x3), (4, .int x4), (5, .int x5)] → W p l e (headSpec ws_X3_nearestCorner rm_X3_nearestCorner).room s m ([.ref (ad 3), .int a1, .int a2] : List Value).toArray below meth c H locs 0 0 (MQ below (va_Qi Q (gB D cy ad A) A) ([.ref (ad 3), .int a1, .int a2] : List Value).toArray s 0 0 A) (F0 m 9 ls []) := by
    intro n9
    induction n9 with
    | zero => intro x1 x2 x3 x4 x5 σ H locs ls h; exact absurd h (fun h => h)
    | succ n9 ih9 =>
      have J21 : ∀ (n21 : Nat) (x1 : Int32) (x2 : Int32) (x3 : Int32) (x4 : Int32) (x5 : Int32) (x6 : Int32) (σ : gS) (H : Heap) (locs : List Loc) (ls : Array Slot), w_X3_nearestCorner_21 Q (w_X3_nearestCorner_9 Q n9) n21 x1 x2 x3 x4 x5 x6 σ → gI D cy ad A s.heap σ H locs → lv_has ls 8 [(0, .ref (ad 3)), (1, .int x1), (2, .int x2), (3, .int x3), (4, .int x4), (5, .int x5), (6, .int x6)] → W p l e (headSpec ws_X3_nearestCorner rm_X3_nearestCorner).room s m ([.ref (ad 3), .int a1, .int a2] : List Value).toArray below meth c H locs 0 0 (MQ below (va_Qi Q (gB D cy ad A) A) ([.ref (ad 3), .int a1, .int a2] : List Value).toArray s 0 0 A) (F0 m 21 ls []) := by
        intro n21
        induction n21 with
        | zero => intro x1 x2 x3 x4 x5 x6 σ H locs ls h; exact absurd h (fun h => h)
        | succ n21 ih21 =>
          intro x1 x2 x3 x4 x5 x6 σ H locs ls h hI hl
          unfold w_X3_nearestCorner_21 at h
          refine lv_iload hx hb dX3_nearestCorner_21 (lv_at hl 6 rfl) ?_
          refine lv_iload_n hx hb dX3_nearestCorner_23 rfl (lv_at hl 1 rfl) ?_
          refine lv_iadd hx hb dX3_nearestCorner_24 ?_
          refine lv_bipush (v := 16) hx hb dX3_nearestCorner_25 (by decide) ?_
          refine lv_icmp_gt (tgt := 79) hx hb dX3_nearestCorner_27 (by decide) (fun c1 => ?_) (fun c1 => ?_)
          · have h := h.1 c1
            obtain ⟨y2, ey2⟩ : ∃ y : Int32, y = x5 + 1 := ⟨_, rfl⟩
            have h := h y2 ey2
            refine lv_iinc (v := y2) (lv' := [(5, .int y2), (0, .ref (ad 3)), (1, .int x1), (2, .int x2), (3, .int x3), (4, .int x4), (6, .int x6)]) hx hb dX3_nearestCorner_79 hl (k := 5) rfl (by rw [ey2]; rfl) (by decide) rfl (fun ls hl => ?_)
            refine lv_goto (tgt := 9) hx hb dX3_nearestCorner_82 (by decide) ?_
            exact ih9 _ _ _ _ _ _ _ _ _ h hI (lv_sub hl [1, 2, 3, 4, 5, 0] rfl)
          · have h := h.2 c1
            refine lv_aload_n hx hb dX3_nearestCorner_30 rfl (lv_at hl 0 rfl) ?_
            refine lv_iload hx hb dX3_nearestCorner_31 (lv_at hl 6 rfl) ?_
            refine lv_iload hx hb dX3_nearestCorner_33 (lv_at hl 5 rfl) ?_
            refine g_backi hI (g_runV (As := [.int x6, .int x5]) (rest := []) hC hml hI (c_X3_stepsFromGate l D cy ad A _  _ _ _ h) k_X3_stepsFromGate gw_3_161 ⟨rfl, rfl⟩ ⟨Nat.le_of_ble_eq_true rfl, Nat.le_of_ble_eq_true rfl⟩ (grv_3 hC hI) rfl hl.1 rfl (Nat.le_of_ble_eq_true rfl) dX3_nearestCorner_35 ⟨Nat.le_of_ble_eq_true rfl, Nat.le_of_ble_eq_true rfl⟩) (fun r4 s3 H locs h hI => ?_)
            refine lv_istore (lv' := [(7, .int r4), (0, .ref (ad 3)), (1, .int x1), (2, .int x2), (3, .int x3), (4, .int x4), (5, .int x5), (6, .int x6)]) hx hb dX3_nearestCorner_38 hl (by decide) rfl (fun ls hl => ?_)
            refine lv_iload hx hb dX3_nearestCorner_40 (lv_at hl 0 rfl) ?_
            refine lv_iload hx hb dX3_nearestCorner_42 (lv_at hl 5 rfl) ?_
            refine lv_icmp_ge (tgt := 73) hx hb dX3_nearestCorner_44 (by decide) (fun c5 => ?_) (fun c5 => ?_)
            · have h := h.1 c5
              obtain ⟨y6, ey6⟩ : ∃ y : Int32, y = x6 + 1 := ⟨_, rfl⟩
              have h := h y6 ey6
              refine lv_iinc (v := y6) (lv' := [(6, .int y6), (7, .int r4), (0, .ref (ad 3)), (1, .int x1), (2, .int x2), (3, .int x3), (4, .int x4), (5, .int x5)]) hx hb dX3_nearestCorner_73 hl (k := 7) rfl (by rw [ey6]; rfl) (by decide) rfl (fun ls hl => ?_)
              refine lv_goto (tgt := 21) hx hb dX3_nearestCorner_76 (by decide) ?_
              exact ih21 _ _ _ _ _ _ _ _ _ _ h hI (lv_sub hl [2, 3, 4, 5, 6, 7, 0] rfl)
            · have h := h.2 c5
              refine lv_aload_n hx hb dX3_nearestCorner_47 rfl (lv_at hl 1 rfl) ?_
              refine lv_iload hx hb dX3_nearestCorner_48 (lv_at hl 7 rfl) ?_
              refine lv_iload hx hb dX3_nearestCorner_50 (lv_at hl 6 rfl) ?_
              refine lv_iload_n hx hb dX3_nearestCorner_52 rfl (lv_at hl 2 rfl) ?_
              refine lv_iload_n hx hb dX3_nearestCorner_53 rfl (lv_at hl 3 rfl) ?_
              refine g_backi hI (g_runV (As := [.int x6, .int x5, .int x1, .int x2]) (rest := []) hC hml hI (c_X3_isFree l D cy ad A _  _ _ _ _ _ h) k_X3_isFree gw_3_168 ⟨rfl, rfl⟩ ⟨Nat.le_of_ble_eq_true rfl, Nat.le_of_ble_eq_true rfl⟩ (grv_3 hC hI) rfl hl.1 rfl (Nat.le_of_ble_eq_true rfl) dX3_nearestCorner_54 ⟨Nat.le_of_ble_eq_true rfl, Nat.le_of_ble_eq_true rfl⟩) (fun r8 s7 H locs h hI => ?_)
              refine lv_if_eq (tgt := 73) hx hb dX3_nearestCorner_57 (by decide) (fun c9 => ?_) (fun c9 => ?_)
              · have h := h.1 c9
                obtain ⟨y10, ey10⟩ : ∃ y : Int32, y = x6 + 1 := ⟨_, rfl⟩
                have h := h y10 ey10
                refine lv_iinc (v := y10) (lv' := [(6, .int y10), (7, .int r4), (0, .ref (ad 3)), (1, .int x1), (2, .int x2), (3, .int x3), (4, .int x4), (5, .int x5)]) hx hb dX3_nearestCorner_73 hl (k := 7) rfl (by rw [ey10]; rfl) (by decide) rfl (fun ls hl => ?_)
                refine lv_goto (tgt := 21) hx hb dX3_nearestCorner_76 (by decide) ?_
                exact ih21 _ _ _ _ _ _ _ _ _ _ h hI (lv_sub hl [2, 3, 4, 5, 6, 7, 0] rfl)
              · have h := h.2 c9
                refine lv_bipush (v := 16) hx hb dX3_nearestCorner_60 (by decide) ?_
                refine lv_iload hx hb dX3_nearestCorner_62 (lv_at hl 6 rfl) ?_
                refine lv_imul hx hb dX3_nearestCorner_64 ?_
                refine lv_iload hx hb dX3_nearestCorner_65 (lv_at hl 7 rfl) ?_
                refine lv_iadd hx hb dX3_nearestCorner_67 ?_
                refine lv_topi (fun y11 ey11 => ?_)
                have h := h y11 ey11
                refine lv_istore_n (lv' := [(3, .int y11), (7, .int r4), (0, .ref (ad 3)), (1, .int x1), (2, .int x2), (4, .int x4), (5, .int x5), (6, .int x6)]) hx hb dX3_nearestCorner_68 rfl hl (by decide) rfl (fun ls hl => ?_)
                refine lv_iload hx hb dX3_nearestCorner_69 (lv_at hl 1 rfl) ?_
                refine lv_istore (lv' := [(4, .int r4), (3, .int y11), (7, .int r4), (0, .ref (ad 3)), (1, .int x1), (2, .int x2), (5, .int x5), (6, .int x6)]) hx hb dX3_nearestCorner_71 hl (by decide) rfl (fun ls hl => ?_)
                obtain ⟨y12, ey12⟩ : ∃ y : Int32, y = x6 + 1 := ⟨_, rfl⟩
                have h := h y12 ey12
                refine lv_iinc (v := y12) (lv' := [(6, .int y12), (4, .int r4), (3, .int y11), (7, .int r4), (0, .ref (ad 3)), (1, .int x1), (2, .int x2), (5, .int x5)]) hx hb dX3_nearestCorner_73 hl (k := 7) rfl (by rw [ey12]; rfl) (by decide) rfl (fun ls hl => ?_)
                refine lv_goto (tgt := 21) hx hb dX3_nearestCorner_76 (by decide) ?_
                exact ih21 _ _ _ _ _ _ _ _ _ _ h hI (lv_sub hl [4, 5, 6, 2, 1, 7, 0] rfl)
      intro x1 x2 x3 x4 x5 σ H locs ls h hI hl
      unfold w_X3_nearestCorner_9 at h
      refine lv_iload hx hb dX3_nearestCorner_9 (lv_at hl 5 rfl) ?_
      refine lv_iload_n hx hb dX3_nearestCorner_11 rfl (lv_at hl 2 rfl) ?_
      refine lv_iadd hx hb dX3_nearestCorner_12 ?_
      refine lv_bipush (v := 12) hx hb dX3_nearestCorner_13 (by decide) ?_
      refine lv_icmp_gt (tgt := 85) hx hb dX3_nearestCorner_15 (by decide) (fun c13 => ?_) (fun c13 => ?_)
      · have h := h.1 c13
        refine lv_iload_n hx hb dX3_nearestCorner_85 rfl (lv_at hl 3 rfl) ?_
        exact g_iret hC hr hlocks hI h dX3_nearestCorner_86
      · have h := h.2 c13
        refine lv_iconst (v := 0) hx hb dX3_nearestCorner_18 (by decide) ?_
        refine lv_istore (lv' := [(6, .int 0), (0, .ref (ad 3)), (1, .int x1), (2, .int x2), (3, .int x3), (4, .int x4), (5, .int x5)]) hx hb dX3_nearestCorner_19 hl (by decide) rfl (fun ls hl => ?_)
        obtain ⟨n9, h⟩ := h
        exact J21 n9 _ _ _ _ _ _ _ _ _ _ h hI (lv_sub hl [1, 2, 3, 4, 5, 6, 0] rfl)
  have hl := lv_entry ([.ref (ad 3), .int a1, .int a2]) (n := 8) (Nat.le_of_ble_eq_true rfl)
  rw [lg_entry_eq]
  generalize (lg_sl ([.ref (ad 3), .int a1, .int a2]) ++ List.replicate (8 - (lg_sl ([.ref (ad 3), .int a1, .int a2])).length) Slot.unset).toArray = ls at hl ⊢
  have hl : lv_has ls 8 [(0, .ref (ad 3)), (1, .int a1), (2, .int a2)] := hl
  unfold w_X3_nearestCorner at h
  refine lv_iconst (v := (-1)) hx hb dX3_nearestCorner_0 (by decide) ?_
  refine lv_istore_n (lv' := [(3, .int (-1)), (0, .ref (ad 3)), (1, .int a1), (2, .int a2)]) hx hb dX3_nearestCorner_1 rfl hl (by decide) rfl (fun ls hl => ?_)
  refine lv_ldc (v := 2147483647) hx hb hC.2.2.2.1 (hC.2.2.1 _ gw_3_160) dX3_nearestCorner_2 ?_
  refine lv_istore (lv' := [(4, .int 2147483647), (3, .int (-1)), (0, .ref (ad 3)), (1, .int a1), (2, .int a2)]) hx hb dX3_nearestCorner_4 hl (by decide) rfl (fun ls hl => ?_)
  refine lv_iconst (v := 0) hx hb dX3_nearestCorner_6 (by decide) ?_
  refine lv_istore (lv' := [(5, .int 0), (4, .int 2147483647), (3, .int (-1)), (0, .ref (ad 3)), (1, .int a1), (2, .int a2)]) hx hb dX3_nearestCorner_7 hl (by decide) rfl (fun ls hl => ?_)
  obtain ⟨n9, h⟩ := h
  exact J9 n9 _ _ _ _ _ _ _ _ _ h hI (lv_sub hl [3, 4, 5, 2, 1, 0] rfl)

theorem dX3_putTent_0 : decode cX3_putTent 0 = .ok (.aload_n 0, 1) := by decide +kernel
theorem dX3_putTent_1 : decode cX3_putTent 1 = .ok (.iload_n 1, 1) := by decide +kernel
theorem dX3_putTent_2 : decode cX3_putTent 2 = .ok (.iload_n 2, 1) := by decide +kernel
theorem dX3_putTent_3 : decode cX3_putTent 3 = .ok (.invokevirtual 21, 3) := by decide +kernel
theorem dX3_putTent_6 : decode cX3_putTent 6 = .ok (.istore_n 3, 1) := by decide +kernel
theorem dX3_putTent_7 : decode cX3_putTent 7 = .ok (.iload_n 3, 1) := by decide +kernel
theorem dX3_putTent_8 : decode cX3_putTent 8 = .ok (.iconst (-1), 1) := by decide +kernel
theorem dX3_putTent_9 : decode cX3_putTent 9 = .ok (.if_icmp .eq 12, 3) := by decide +kernel
theorem dX3_putTent_12 : decode cX3_putTent 12 = .ok (.aload_n 0, 1) := by decide +kernel
theorem dX3_putTent_13 : decode cX3_putTent 13 = .ok (.getfield 25, 3) := by decide +kernel
theorem dX3_putTent_16 : decode cX3_putTent 16 = .ok (.bipush 60, 2) := by decide +kernel
theorem dX3_putTent_18 : decode cX3_putTent 18 = .ok (.if_icmp .lt 5, 3) := by decide +kernel
theorem dX3_putTent_21 : decode cX3_putTent 21 = .ok (.iconst (-1), 1) := by decide +kernel
theorem dX3_putTent_22 : decode cX3_putTent 22 = .ok (.ireturn, 1) := by decide +kernel
theorem dX3_putTent_23 : decode cX3_putTent 23 = .ok (.aload_n 0, 1) := by decide +kernel
theorem dX3_putTent_24 : decode cX3_putTent 24 = .ok (.getfield 25, 3) := by decide +kernel
theorem dX3_putTent_27 : decode cX3_putTent 27 = .ok (.istore 4, 2) := by decide +kernel
theorem dX3_putTent_29 : decode cX3_putTent 29 = .ok (.iload_n 3, 1) := by decide +kernel
theorem dX3_putTent_30 : decode cX3_putTent 30 = .ok (.bipush 16, 2) := by decide +kernel
theorem dX3_putTent_32 : decode cX3_putTent 32 = .ok (.irem, 1) := by decide +kernel
theorem dX3_putTent_33 : decode cX3_putTent 33 = .ok (.istore 5, 2) := by decide +kernel
theorem dX3_putTent_35 : decode cX3_putTent 35 = .ok (.iload_n 3, 1) := by decide +kernel
theorem dX3_putTent_36 : decode cX3_putTent 36 = .ok (.bipush 16, 2) := by decide +kernel
theorem dX3_putTent_38 : decode cX3_putTent 38 = .ok (.idiv, 1) := by decide +kernel
theorem dX3_putTent_39 : decode cX3_putTent 39 = .ok (.istore 6, 2) := by decide +kernel
theorem dX3_putTent_41 : decode cX3_putTent 41 = .ok (.iload 6, 2) := by decide +kernel
theorem dX3_putTent_43 : decode cX3_putTent 43 = .ok (.istore 7, 2) := by decide +kernel
theorem dX3_putTent_45 : decode cX3_putTent 45 = .ok (.iload 7, 2) := by decide +kernel
theorem dX3_putTent_47 : decode cX3_putTent 47 = .ok (.iload 6, 2) := by decide +kernel
theorem dX3_putTent_49 : decode cX3_putTent 49 = .ok (.iload_n 2, 1) := by decide +kernel
theorem dX3_putTent_50 : decode cX3_putTent 50 = .ok (.iadd, 1) := by decide +kernel
theorem dX3_putTent_51 : decode cX3_putTent 51 = .ok (.if_icmp .ge 57, 3) := by decide +kernel
theorem dX3_putTent_54 : decode cX3_putTent 54 = .ok (.iload 7, 2) := by decide +kernel
theorem dX3_putTent_56 : decode cX3_putTent 56 = .ok (.bipush 12, 2) := by decide +kernel
theorem dX3_putTent_58 : decode cX3_putTent 58 = .ok (.if_icmp .ge 50, 3) := by decide +kernel
theorem dX3_putTent_61 : decode cX3_putTent 61 = .ok (.iload 5, 2) := by decide +kernel
theorem dX3_putTent_63 : decode cX3_putTent 63 = .ok (.istore 8, 2) := by decide +kernel
theorem dX3_putTent_65 : decode cX3_putTent 65 = .ok (.iload 8, 2) := by decide +kernel
theorem dX3_putTent_67 : decode cX3_putTent 67 = .ok (.iload 5, 2) := by decide +kernel
theorem dX3_putTent_69 : decode cX3_putTent 69 = .ok (.iload_n 1, 1) := by decide +kernel
theorem dX3_putTent_70 : decode cX3_putTent 70 = .ok (.iadd, 1) := by decide +kernel
theorem dX3_putTent_71 : decode cX3_putTent 71 = .ok (.if_icmp .ge 31, 3) := by decide +kernel
theorem dX3_putTent_74 : decode cX3_putTent 74 = .ok (.iload 8, 2) := by decide +kernel
theorem dX3_putTent_76 : decode cX3_putTent 76 = .ok (.bipush 16, 2) := by decide +kernel
theorem dX3_putTent_78 : decode cX3_putTent 78 = .ok (.if_icmp .ge 24, 3) := by decide +kernel
theorem dX3_putTent_81 : decode cX3_putTent 81 = .ok (.aload_n 0, 1) := by decide +kernel
theorem dX3_putTent_82 : decode cX3_putTent 82 = .ok (.getfield 11, 3) := by decide +kernel
theorem dX3_putTent_85 : decode cX3_putTent 85 = .ok (.bipush 16, 2) := by decide +kernel
theorem dX3_putTent_87 : decode cX3_putTent 87 = .ok (.iload 7, 2) := by decide +kernel
theorem dX3_putTent_89 : decode cX3_putTent 89 = .ok (.imul, 1) := by decide +kernel
theorem dX3_putTent_90 : decode cX3_putTent 90 = .ok (.iload 8, 2) := by decide +kernel
theorem dX3_putTent_92 : decode cX3_putTent 92 = .ok (.iadd, 1) := by decide +kernel
theorem dX3_putTent_93 : decode cX3_putTent 93 = .ok (.iload 4, 2) := by decide +kernel
theorem dX3_putTent_95 : decode cX3_putTent 95 = .ok (.iastore, 1) := by decide +kernel
theorem dX3_putTent_96 : decode cX3_putTent 96 = .ok (.iinc 8 1, 3) := by decide +kernel
theorem dX3_putTent_99 : decode cX3_putTent 99 = .ok (.goto (-34), 3) := by decide +kernel
theorem dX3_putTent_102 : decode cX3_putTent 102 = .ok (.iinc 7 1, 3) := by decide +kernel
theorem dX3_putTent_105 : decode cX3_putTent 105 = .ok (.goto (-60), 3) := by decide +kernel
theorem dX3_putTent_108 : decode cX3_putTent 108 = .ok (.aload_n 0, 1) := by decide +kernel
theorem dX3_putTent_109 : decode cX3_putTent 109 = .ok (.dup, 1) := by decide +kernel
theorem dX3_putTent_110 : decode cX3_putTent 110 = .ok (.getfield 25, 3) := by decide +kernel
theorem dX3_putTent_113 : decode cX3_putTent 113 = .ok (.iconst 1, 1) := by decide +kernel
theorem dX3_putTent_114 : decode cX3_putTent 114 = .ok (.iadd, 1) := by decide +kernel
theorem dX3_putTent_115 : decode cX3_putTent 115 = .ok (.putfield 25, 3) := by decide +kernel
theorem dX3_putTent_118 : decode cX3_putTent 118 = .ok (.aload_n 0, 1) := by decide +kernel
theorem dX3_putTent_119 : decode cX3_putTent 119 = .ok (.dup, 1) := by decide +kernel
theorem dX3_putTent_120 : decode cX3_putTent 120 = .ok (.getfield 29, 3) := by decide +kernel
theorem dX3_putTent_123 : decode cX3_putTent 123 = .ok (.iconst 1, 1) := by decide +kernel
theorem dX3_putTent_124 : decode cX3_putTent 124 = .ok (.iadd, 1) := by decide +kernel
theorem dX3_putTent_125 : decode cX3_putTent 125 = .ok (.putfield 29, 3) := by decide +kernel
theorem dX3_putTent_128 : decode cX3_putTent 128 = .ok (.iload 4, 2) := by decide +kernel
theorem dX3_putTent_130 : decode cX3_putTent 130 = .ok (.ireturn, 1) := by decide +kernel
def w_X3_putTent_108 (Q : Int32 → gS → Prop) (x4 : Int32) (σ : gS) : Prop :=
    ∀ s1 : gS, s1 = gu σ 21 0 ((σ 21 0) + 1) → ∀ s2 : gS, s2 = gu s1 22 0 ((s1 22 0) + 1) → Q x4 s2
def w_X3_putTent_65 (Q : Int32 → gS → Prop) (k45 : Int32 → Int32 → Int32 → Int32 → Int32 → Int32 → gS → Prop) : Nat → Int32 → Int32 → Int32 → Int32 → Int32 → Int32 → Int32 → gS → Prop
  | 0, _, _, _, _, _, _, _, _ => False
  | n65 + 1, x1, x2, x4, x5, x6, x7, x8, σ =>
    ((x5 + x1) ≤ x8 → ∀ y4 : Int32, y4 = x7 + 1 → k45 x1 x2 x4 x5 x6 y4 σ) ∧ (¬ (x5 + x1) ≤ x8 → (16 ≤ x8 → ∀ y6 : Int32, y6 = x7 + 1 → k45 x1 x2 x4 x5 x6 y6 σ) ∧ (¬ 16 ≤ x8 → vp_in ((16 * x7) + x8) 192 ∧ ∀ s8 : gS, s8 = gu σ 19 ((16 * x7) + x8).toNatClampNeg x4 → ∀ y9 : Int32, y9 = x8 + 1 → w_X3_putTent_65 Q k45 n65 x1 x2 x4 x5 x6 x7 y9 s8))
def w_X3_putTent_45 (Q : Int32 → gS → Prop) : Nat → Int32 → Int32 → Int32 → Int32 → Int32 → Int32 → gS → Prop
  | 0, _, _, _, _, _, _, _ => False
  | n45 + 1, x1, x2, x4, x5, x6, x7, σ =>
    ((x6 + x2) ≤ x7 → w_X3_putTent_108 Q x4 σ) ∧ (¬ (x6 + x2) ≤ x7 → (12 ≤ x7 → w_X3_putTent_108 Q x4 σ) ∧ (¬ 12 ≤ x7 → ∃ n65, w_X3_putTent_65 Q (w_X3_putTent_45 Q n45) n65 x1 x2 x4 x5 x6 x7 x5 σ))
def w_X3_putTent (Q : Int32 → gS → Prop) (σ : gS) (a1 : Int32) (a2 : Int32) : Prop :=
    w_X3_nearestCorner  (fun (r13 : Int32) (s12 : gS) => (r13 = (-1) → Q (-1) s12) ∧ (¬ r13 = (-1) → ((s12 21 0) < 60 → ∀ y16 : Int32, y16 = (s12 21 0) → ∀ y17 : Int32, y17 = (r13 - r13 / 16 * 16) → ∀ y18 : Int32, y18 = (r13 / 16) → ∃ n45, w_X3_putTent_45 Q n45 a1 a2 y16 y17 y18 y18 s12) ∧ (¬ (s12 21 0) < 60 → Q (-1) s12))) σ a1 a2
abbrev ws_X3_putTent : List Cond := Cond.code yX3_putTent cX3_putTent 9 (some .int) :: gG
abbrev rm_X3_putTent : Room := { frames := 3, cells := 0, slots := 0, locals := 70 }
theorem k_X3_putTent : gCV yX3_putTent RX3 cX3_putTent 9 (some .int) 2 := ⟨gw_3_153, gw_3_154, gw_1_4, gw_3_155, rfl, by decide +kernel⟩
set_option maxHeartbeats 4000000 in
set_option maxRecDepth 100000 in
theorem c_X3_putTent (l : Launch) (D : va_G) (cy : Nat → ClassId) (ad : Nat → Nat) (A : Nat → Prop) (Q : Int32 → gS → Prop) (σ : gS) (a1 : Int32) (a2 : Int32) (h : w_X3_putTent Q σ a1 a2) : Met l yX3_putTent ws_X3_putTent rm_X3_putTent (va_Pc [.ref (ad 3), .int a1, .int a2] (gB D cy ad A σ)) (va_Qi Q (gB D cy ad A) A) 0 0 A := by
  refine Met.ofW (cc := cX3_putTent) (maxL := 9) (ret := (some .int)) (by decide) rfl ?_
  intro p e s m args below meth c s₁ B hml hv
  obtain ⟨rfl, hB⟩ := hv
  have hC : gC p c cX3_putTent s m ([.ref (ad 3), .int a1, .int a2] : List Value).toArray RX3 D cy ad A := g_start B hB
  have hI := g_first hB
  have hx := hC.1
  have hb := hC.2.1
  have hr := B.returns
  have hlocks := B.notSynchronized
  clear B hB
  have J108 : ∀ (x4 : Int32) (σ : gS) (H : Heap) (locs : List Loc) (ls : Array Slot), w_X3_putTent_108 Q x4 σ → gI D cy ad A s.heap σ H locs → lv_has ls 9 [(0, .ref (ad 3)), (4, .int x4)] → W p l e (headSpec ws_X3_putTent rm_X3_putTent).room s m ([.ref (ad 3), .int a1, .int a2] : List Value).toArray below meth c H locs 0 0 (MQ below (va_Qi Q (gB D cy ad A) A) ([.ref (ad 3), .int a1, .int a2] : List Value).toArray s 0 0 A) (F0 m 108 ls []) := by
    intro x4 σ H locs ls h hI hl
    unfold w_X3_putTent_108 at h
    refine lv_aload_n hx hb dX3_putTent_108 rfl (lv_at hl 0 rfl) ?_
    refine lv_dup hx hb dX3_putTent_109 rfl ?_
    refine gg_X3_tents hC hI gw_1_77 dX3_putTent_110 ?_
    refine lv_iconst (v := 1) hx hb dX3_putTent_113 (by decide) ?_
    refine lv_iadd hx hb dX3_putTent_114 ?_
    refine gp_X3_tents hC hI gw_1_77 dX3_putTent_115 (fun s1 H locs es1 hI => ?_)
    have h := h s1 es1
    refine lv_aload_n hx hb dX3_putTent_118 rfl (lv_at hl 0 rfl) ?_
    refine lv_dup hx hb dX3_putTent_119 rfl ?_
    refine gg_X3_standing hC hI gw_1_79 dX3_putTent_120 ?_
    refine lv_iconst (v := 1) hx hb dX3_putTent_123 (by decide) ?_
    refine lv_iadd hx hb dX3_putTent_124 ?_
    refine gp_X3_standing hC hI gw_1_79 dX3_putTent_125 (fun s2 H locs es2 hI => ?_)
    have h := h s2 es2
    refine lv_iload hx hb dX3_putTent_128 (lv_at hl 1 rfl) ?_
    exact g_iret hC hr hlocks hI h dX3_putTent_130
  have J45 : ∀ (n45 : Nat) (x1 : Int32) (x2 : Int32) (x4 : Int32) (x5 : Int32) (x6 : Int32) (x7 : Int32) (σ : gS) (H : Heap) (locs : List Loc) (ls : Array Slot), w_X3_putTent_45 Q n45 x1 x2 x4 x5 x6 x7 σ → gI D cy ad A s.heap σ H locs → lv_has ls 9 [(0, .ref (ad 3)), (1, .int x1), (2, .int x2), (4, .int x4), (5, .int x5), (6, .int x6), (7, .int x7)] → W p l e (headSpec ws_X3_putTent rm_X3_putTent).room s m ([.ref (ad 3), .int a1, .int a2] : List Value).toArray below meth c H locs 0 0 (MQ below (va_Qi Q (gB D cy ad A) A) ([.ref (ad 3), .int a1, .int a2] : List Value).toArray s 0 0 A) (F0 m 45 ls []) := by
    intro n45
    induction n45 with
    | zero => intro x1 x2 x4 x5 x6 x7 σ H locs ls h; exact absurd h (fun h => h)
    | succ n45 ih45 =>
      have J65 : ∀ (n65 : Nat) (x1 : Int32) (x2 : Int32) (x4 : Int32) (x5 : Int32) (x6 : Int32) (x7 : Int32) (x8 : Int32) (σ : gS) (H : Heap) (locs : List Loc) (ls : Array Slot), w_X3_putTent_65 Q (w_X3_putTent_45 Q n45) n65 x1 x2 x4 x5 x6 x7 x8 σ → gI D cy ad A s.heap σ H locs → lv_has ls 9 [(0, .ref (ad 3)), (1, .int x1), (2, .int x2), (4, .int x4), (5, .int x5), (6, .int x6), (7, .int x7), (8, .int x8)] → W p l e (headSpec ws_X3_putTent rm_X3_putTent).room s m ([.ref (ad 3), .int a1, .int a2] : List Value).toArray below meth c H locs 0 0 (MQ below (va_Qi Q (gB D cy ad A) A) ([.ref (ad 3), .int a1, .int a2] : List Value).toArray s 0 0 A) (F0 m 65 ls []) := by
        intro n65
        induction n65 with
        | zero => intro x1 x2 x4 x5 x6 x7 x8 σ H locs ls h; exact absurd h (fun h => h)
        | succ n65 ih65 =>
          intro x1 x2 x4 x5 x6 x7 x8 σ H locs ls h hI hl
          unfold w_X3_putTent_65 at h
          refine lv_iload hx hb dX3_putTent_65 (lv_at hl 7 rfl) ?_
          refine lv_iload hx hb dX3_putTent_67 (lv_at hl 4 rfl) ?_
          refine lv_iload_n hx hb dX3_putTent_69 rfl (lv_at hl 1 rfl) ?_
          refine lv_iadd hx hb dX3_putTent_70 ?_
          refine lv_icmp_ge (tgt := 102) hx hb dX3_putTent_71 (by decide) (fun c3 => ?_) (fun c3 => ?_)
          · have h := h.1 c3
            obtain ⟨y4, ey4⟩ : ∃ y : Int32, y = x7 + 1 := ⟨_, rfl⟩
            have h := h y4 ey4
            refine lv_iinc (v := y4) (lv' := [(7, .int y4), (0, .ref (ad 3)), (1, .int x1), (2, .int x2), (4, .int x4), (5, .int x5), (6, .int x6), (8, .int x8)]) hx hb dX3_putTent_102 hl (k := 6) rfl (by rw [ey4]; rfl) (by decide) rfl (fun ls hl => ?_)
            refine lv_goto (tgt := 45) hx hb dX3_putTent_105 (by decide) ?_
            exact ih45 _ _ _ _ _ _ _ _ _ _ h hI (lv_sub hl [1, 2, 3, 4, 5, 6, 0] rfl)
          · have h := h.2 c3
            refine lv_iload hx hb dX3_putTent_74 (lv_at hl 7 rfl) ?_
            refine lv_bipush (v := 16) hx hb dX3_putTent_76 (by decide) ?_
            refine lv_icmp_ge (tgt := 102) hx hb dX3_putTent_78 (by decide) (fun c5 => ?_) (fun c5 => ?_)
            · have h := h.1 c5
              obtain ⟨y6, ey6⟩ : ∃ y : Int32, y = x7 + 1 := ⟨_, rfl⟩
              have h := h y6 ey6
              refine lv_iinc (v := y6) (lv' := [(7, .int y6), (0, .ref (ad 3)), (1, .int x1), (2, .int x2), (4, .int x4), (5, .int x5), (6, .int x6), (8, .int x8)]) hx hb dX3_putTent_102 hl (k := 6) rfl (by rw [ey6]; rfl) (by decide) rfl (fun ls hl => ?_)
              refine lv_goto (tgt := 45) hx hb dX3_putTent_105 (by decide) ?_
              exact ih45 _ _ _ _ _ _ _ _ _ _ h hI (lv_sub hl [1, 2, 3, 4, 5, 6, 0] rfl)
            · have h := h.2 c5
              refine lv_aload_n hx hb dX3_putTent_81 rfl (lv_at hl 0 rfl) ?_
              refine gg_X3_squares hC hI gw_1_73 dX3_putTent_82 ?_
              refine lv_bipush (v := 16) hx hb dX3_putTent_85 (by decide) ?_
              refine lv_iload hx hb dX3_putTent_87 (lv_at hl 6 rfl) ?_
              refine lv_imul hx hb dX3_putTent_89 ?_
              refine lv_iload hx hb dX3_putTent_90 (lv_at hl 7 rfl) ?_
              refine lv_iadd hx hb dX3_putTent_92 ?_
              refine lv_iload hx hb dX3_putTent_93 (lv_at hl 3 rfl) ?_
              obtain ⟨hi7, h⟩ := h
              refine gs_21 hC hI hi7 dX3_putTent_95 (fun s8 H locs es8 hI => ?_)
              have h := h s8 es8
              obtain ⟨y9, ey9⟩ : ∃ y : Int32, y = x8 + 1 := ⟨_, rfl⟩
              have h := h y9 ey9
              refine lv_iinc (v := y9) (lv' := [(8, .int y9), (0, .ref (ad 3)), (1, .int x1), (2, .int x2), (4, .int x4), (5, .int x5), (6, .int x6), (7, .int x7)]) hx hb dX3_putTent_96 hl (k := 7) rfl (by rw [ey9]; rfl) (by decide) rfl (fun ls hl => ?_)
              refine lv_goto (tgt := 65) hx hb dX3_putTent_99 (by decide) ?_
              exact ih65 _ _ _ _ _ _ _ _ _ _ _ h hI (lv_sub hl [1, 2, 3, 4, 5, 6, 7, 0] rfl)
      intro x1 x2 x4 x5 x6 x7 σ H locs ls h hI hl
      unfold w_X3_putTent_45 at h
      refine lv_iload hx hb dX3_putTent_45 (lv_at hl 6 rfl) ?_
      refine lv_iload hx hb dX3_putTent_47 (lv_at hl 5 rfl) ?_
      refine lv_iload_n hx hb dX3_putTent_49 rfl (lv_at hl 2 rfl) ?_
      refine lv_iadd hx hb dX3_putTent_50 ?_
      refine lv_icmp_ge (tgt := 108) hx hb dX3_putTent_51 (by decide) (fun c10 => ?_) (fun c10 => ?_)
      · have h := h.1 c10
        exact J108 _ _ _ _ _ h hI (lv_sub hl [0, 3] rfl)
      · have h := h.2 c10
        refine lv_iload hx hb dX3_putTent_54 (lv_at hl 6 rfl) ?_
        refine lv_bipush (v := 12) hx hb dX3_putTent_56 (by decide) ?_
        refine lv_icmp_ge (tgt := 108) hx hb dX3_putTent_58 (by decide) (fun c11 => ?_) (fun c11 => ?_)
        · have h := h.1 c11
          exact J108 _ _ _ _ _ h hI (lv_sub hl [0, 3] rfl)
        · have h := h.2 c11
          refine lv_iload hx hb dX3_putTent_61 (lv_at hl 4 rfl) ?_
          refine lv_istore (lv' := [(8, .int x5), (0, .ref (ad 3)), (1, .int x1), (2, .int x2), (4, .int x4), (5, .int x5), (6, .int x6), (7, .int x7)]) hx hb dX3_putTent_63 hl (by decide) rfl (fun ls hl => ?_)
          obtain ⟨n9, h⟩ := h
          exact J65 n9 _ _ _ _ _ _ _ _ _ _ _ h hI (lv_sub hl [1, 2, 3, 4, 5, 6, 7, 0] rfl)
  have hl := lv_entry ([.ref (ad 3), .int a1, .int a2]) (n := 9) (Nat.le_of_ble_eq_true rfl)
  rw [lg_entry_eq]
  generalize (lg_sl ([.ref (ad 3), .int a1, .int a2]) ++ List.replicate (9 - (lg_sl ([.ref (ad 3), .int a1, .int a2])).length) Slot.unset).toArray = ls at hl ⊢
  have hl : lv_has ls 9 [(0, .ref (ad 3)), (1, .int a1), (2, .int a2)] := hl
  unfold w_X3_putTent at h
  refine lv_aload_n hx hb dX3_putTent_0 rfl (lv_at hl 0 rfl) ?_
  refine lv_iload_n hx hb dX3_putTent_1 rfl (lv_at hl 1 rfl) ?_
  refine lv_iload_n hx hb dX3_putTent_2 rfl (lv_at hl 2 rfl) ?_
  refine g_backi hI (g_runV (As := [.int a1, .int a2]) (rest := []) hC hml hI (c_X3_nearestCorner l D cy ad A _  _ _ _ h) k_X3_nearestCorner gw_3_156 ⟨rfl, rfl⟩ ⟨Nat.le_of_ble_eq_true rfl, Nat.le_of_ble_eq_true rfl⟩ (grv_3 hC hI) rfl hl.1 rfl (Nat.le_of_ble_eq_true rfl) dX3_putTent_3 ⟨Nat.le_of_ble_eq_true rfl, Nat.le_of_ble_eq_true rfl⟩) (fun r13 s12 H locs h hI => ?_)
  refine lv_istore_n (lv' := [(3, .int r13), (0, .ref (ad 3)), (1, .int a1), (2, .int a2)]) hx hb dX3_putTent_6 rfl hl (by decide) rfl (fun ls hl => ?_)
  refine lv_iload_n hx hb dX3_putTent_7 rfl (lv_at hl 0 rfl) ?_
  refine lv_iconst (v := (-1)) hx hb dX3_putTent_8 (by decide) ?_
  refine lv_icmp_eq (tgt := 21) hx hb dX3_putTent_9 (by decide) (fun c14 => ?_) (fun c14 => ?_)
  · have h := h.1 c14
    refine lv_iconst (v := (-1)) hx hb dX3_putTent_21 (by decide) ?_
    exact g_iret hC hr hlocks hI h dX3_putTent_22
  · have h := h.2 c14
    refine lv_aload_n hx hb dX3_putTent_12 rfl (lv_at hl 1 rfl) ?_
    refine gg_X3_tents hC hI gw_1_77 dX3_putTent_13 ?_
    refine lv_bipush (v := 60) hx hb dX3_putTent_16 (by decide) ?_
    refine lv_icmp_lt (tgt := 23) hx hb dX3_putTent_18 (by decide) (fun c15 => ?_) (fun c15 => ?_)
    · have h := h.1 c15
      refine lv_aload_n hx hb dX3_putTent_23 rfl (lv_at hl 1 rfl) ?_
      refine gg_X3_tents hC hI gw_1_77 dX3_putTent_24 ?_
      refine lv_topi (fun y16 ey16 => ?_)
      have h := h y16 ey16
      refine lv_istore (lv' := [(4, .int y16), (3, .int r13), (0, .ref (ad 3)), (1, .int a1), (2, .int a2)]) hx hb dX3_putTent_27 hl (by decide) rfl (fun ls hl => ?_)
      refine lv_iload_n hx hb dX3_putTent_29 rfl (lv_at hl 1 rfl) ?_
      refine lv_bipush (v := 16) hx hb dX3_putTent_30 (by decide) ?_
      refine lv_irem hx hb dX3_putTent_32 (by decide) ?_
      refine lv_topi (fun y17 ey17 => ?_)
      have h := h y17 ey17
      refine lv_istore (lv' := [(5, .int y17), (4, .int y16), (3, .int r13), (0, .ref (ad 3)), (1, .int a1), (2, .int a2)]) hx hb dX3_putTent_33 hl (by decide) rfl (fun ls hl => ?_)
      refine lv_iload_n hx hb dX3_putTent_35 rfl (lv_at hl 2 rfl) ?_
      refine lv_bipush (v := 16) hx hb dX3_putTent_36 (by decide) ?_
      refine lv_idiv hx hb dX3_putTent_38 (by decide) ?_
      refine lv_topi (fun y18 ey18 => ?_)
      have h := h y18 ey18
      refine lv_istore (lv' := [(6, .int y18), (5, .int y17), (4, .int y16), (3, .int r13), (0, .ref (ad 3)), (1, .int a1), (2, .int a2)]) hx hb dX3_putTent_39 hl (by decide) rfl (fun ls hl => ?_)
      refine lv_iload hx hb dX3_putTent_41 (lv_at hl 0 rfl) ?_
      refine lv_istore (lv' := [(7, .int y18), (6, .int y18), (5, .int y17), (4, .int y16), (3, .int r13), (0, .ref (ad 3)), (1, .int a1), (2, .int a2)]) hx hb dX3_putTent_43 hl (by decide) rfl (fun ls hl => ?_)
      obtain ⟨n9, h⟩ := h
      exact J45 n9 _ _ _ _ _ _ _ _ _ _ h hI (lv_sub hl [5, 6, 7, 3, 2, 1, 0] rfl)
    · have h := h.2 c15
      refine lv_iconst (v := (-1)) hx hb dX3_putTent_21 (by decide) ?_
      exact g_iret hC hr hlocks hI h dX3_putTent_22
