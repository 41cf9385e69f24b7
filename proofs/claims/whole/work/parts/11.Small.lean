/-! 11.Small: printed by wip/gen/walk.py -/
theorem dX6_hasRoom_0 : decode cX6_hasRoom 0 = .ok (.aload_n 0, 1) := by decide +kernel
theorem dX6_hasRoom_1 : decode cX6_hasRoom 1 = .ok (.getfield 15, 3) := by decide +kernel
theorem dX6_hasRoom_4 : decode cX6_hasRoom 4 = .ok (.bipush 20, 2) := by decide +kernel
theorem dX6_hasRoom_6 : decode cX6_hasRoom 6 = .ok (.iadd, 1) := by decide +kernel
theorem dX6_hasRoom_7 : decode cX6_hasRoom 7 = .ok (.sipush 400, 3) := by decide +kernel
theorem dX6_hasRoom_10 : decode cX6_hasRoom 10 = .ok (.if_icmp .gt 7, 3) := by decide +kernel
theorem dX6_hasRoom_13 : decode cX6_hasRoom 13 = .ok (.iconst 1, 1) := by decide +kernel
theorem dX6_hasRoom_14 : decode cX6_hasRoom 14 = .ok (.goto 4, 3) := by decide +kernel
theorem dX6_hasRoom_17 : decode cX6_hasRoom 17 = .ok (.iconst 0, 1) := by decide +kernel
theorem dX6_hasRoom_18 : decode cX6_hasRoom 18 = .ok (.ireturn, 1) := by decide +kernel
def w_X6_hasRoom (Q : Int32 → gS → Prop) (σ : gS) : Prop :=
    (400 < ((σ 16 0) + 20) → Q 0 σ) ∧ (¬ 400 < ((σ 16 0) + 20) → Q 1 σ)
abbrev ws_X6_hasRoom : List Cond := Cond.code yX6_hasRoom cX6_hasRoom 1 (some .boolean) :: gG
abbrev rm_X6_hasRoom : Room := { frames := 0, cells := 0, slots := 0, locals := 0 }
theorem k_X6_hasRoom : gCV yX6_hasRoom RX6 cX6_hasRoom 1 (some .boolean) 0 := ⟨gw_2_84, gw_2_85, gw_1_2, gw_2_86, rfl, by decide +kernel⟩
set_option maxHeartbeats 4000000 in
set_option maxRecDepth 100000 in
theorem c_X6_hasRoom (l : Launch) (D : va_G) (cy : Nat → ClassId) (ad : Nat → Nat) (A : Nat → Prop) (Q : Int32 → gS → Prop) (σ : gS) (h : w_X6_hasRoom Q σ) : Met l yX6_hasRoom ws_X6_hasRoom rm_X6_hasRoom (va_Pc [.ref (ad 1)] (gB D cy ad A σ)) (va_Qi Q (gB D cy ad A) A) 0 0 A := by
  refine Met.ofW (cc := cX6_hasRoom) (maxL := 1) (ret := (some .boolean)) (by decide) rfl ?_
  intro p e s m args below meth c s₁ B hml hv
  obtain ⟨rfl, hB⟩ := hv
  have hC : gC p c cX6_hasRoom s m ([.ref (ad 1)] : List Value).toArray RX6 D cy ad A := g_start B hB
  have hI := g_first hB
  have hx := hC.1
  have hb := hC.2.1
  have hr := B.returns
  have hlocks := B.notSynchronized
  clear B hB
  have hl := lv_entry ([.ref (ad 1)]) (n := 1) (Nat.le_of_ble_eq_true rfl)
  rw [lg_entry_eq]
  generalize (lg_sl ([.ref (ad 1)]) ++ List.replicate (1 - (lg_sl ([.ref (ad 1)])).length) Slot.unset).toArray = ls at hl ⊢
  have hl : lv_has ls 1 [(0, .ref (ad 1))] := hl
  unfold w_X6_hasRoom at h
  refine lv_aload_n hx hb dX6_hasRoom_0 rfl (lv_at hl 0 rfl) ?_
  refine gg_X6_size hC hI gw_1_39 dX6_hasRoom_1 ?_
  refine lv_bipush (v := 20) hx hb dX6_hasRoom_4 (by decide) ?_
  refine lv_iadd hx hb dX6_hasRoom_6 ?_
  refine lv_sipush (v := 400) hx hb dX6_hasRoom_7 (by decide) ?_
  refine lv_icmp_gt (tgt := 17) hx hb dX6_hasRoom_10 (by decide) (fun c1 => ?_) (fun c1 => ?_)
  · have h := h.1 c1
    refine lv_iconst (v := 0) hx hb dX6_hasRoom_17 (by decide) ?_
    exact g_zret hC hr hlocks rfl hI h dX6_hasRoom_18
  · have h := h.2 c1
    refine lv_iconst (v := 1) hx hb dX6_hasRoom_13 (by decide) ?_
    refine lv_goto (tgt := 18) hx hb dX6_hasRoom_14 (by decide) ?_
    exact g_zret hC hr hlocks rfl hI h dX6_hasRoom_18

theorem dX6_append_0 : decode cX6_append 0 = .ok (.bipush 24, 2) := by decide +kernel
theorem dX6_append_2 : decode cX6_append 2 = .ok (.istore_n 2, 1) := by decide +kernel
theorem dX6_append_3 : decode cX6_append 3 = .ok (.iload_n 2, 1) := by decide +kernel
theorem dX6_append_4 : decode cX6_append 4 = .ok (.ifCond .lt 45, 3) := by decide +kernel
theorem dX6_append_7 : decode cX6_append 7 = .ok (.aload_n 0, 1) := by decide +kernel
theorem dX6_append_8 : decode cX6_append 8 = .ok (.getfield 15, 3) := by decide +kernel
theorem dX6_append_11 : decode cX6_append 11 = .ok (.sipush 400, 3) := by decide +kernel
theorem dX6_append_14 : decode cX6_append 14 = .ok (.if_icmp .ge 35, 3) := by decide +kernel
theorem dX6_append_17 : decode cX6_append 17 = .ok (.aload_n 0, 1) := by decide +kernel
theorem dX6_append_18 : decode cX6_append 18 = .ok (.getfield 11, 3) := by decide +kernel
theorem dX6_append_21 : decode cX6_append 21 = .ok (.aload_n 0, 1) := by decide +kernel
theorem dX6_append_22 : decode cX6_append 22 = .ok (.getfield 15, 3) := by decide +kernel
theorem dX6_append_25 : decode cX6_append 25 = .ok (.iload_n 1, 1) := by decide +kernel
theorem dX6_append_26 : decode cX6_append 26 = .ok (.iload_n 2, 1) := by decide +kernel
theorem dX6_append_27 : decode cX6_append 27 = .ok (.iushr, 1) := by decide +kernel
theorem dX6_append_28 : decode cX6_append 28 = .ok (.sipush 255, 3) := by decide +kernel
theorem dX6_append_31 : decode cX6_append 31 = .ok (.iand, 1) := by decide +kernel
theorem dX6_append_32 : decode cX6_append 32 = .ok (.iastore, 1) := by decide +kernel
theorem dX6_append_33 : decode cX6_append 33 = .ok (.aload_n 0, 1) := by decide +kernel
theorem dX6_append_34 : decode cX6_append 34 = .ok (.dup, 1) := by decide +kernel
theorem dX6_append_35 : decode cX6_append 35 = .ok (.getfield 15, 3) := by decide +kernel
theorem dX6_append_38 : decode cX6_append 38 = .ok (.iconst 1, 1) := by decide +kernel
theorem dX6_append_39 : decode cX6_append 39 = .ok (.iadd, 1) := by decide +kernel
theorem dX6_append_40 : decode cX6_append 40 = .ok (.putfield 15, 3) := by decide +kernel
theorem dX6_append_43 : decode cX6_append 43 = .ok (.iinc 2 (-8), 3) := by decide +kernel
theorem dX6_append_46 : decode cX6_append 46 = .ok (.goto (-43), 3) := by decide +kernel
theorem dX6_append_49 : decode cX6_append 49 = .ok (.return_, 1) := by decide +kernel
def w_X6_append_3 (Q : gS → Prop) : Nat → Int32 → Int32 → gS → Prop
  | 0, _, _, _ => False
  | n3 + 1, x1, x2, σ =>
    (x2 < 0 → Q σ) ∧ (¬ x2 < 0 → (400 ≤ (σ 16 0) → Q σ) ∧ (¬ 400 ≤ (σ 16 0) → vp_in (σ 16 0) 400 ∧ ∀ s4 : gS, s4 = gu σ 15 (σ 16 0).toNatClampNeg (((x1.toUInt32 >>> (x2.toUInt32 &&& Int32.toUInt32 31)).toInt32) &&& 255) → ∀ s5 : gS, s5 = gu s4 16 0 ((s4 16 0) + 1) → ∀ y6 : Int32, y6 = x2 + (-8) → w_X6_append_3 Q n3 x1 y6 s5))
def w_X6_append (Q : gS → Prop) (σ : gS) (a1 : Int32) : Prop :=
    ∃ n3, w_X6_append_3 Q n3 a1 24 σ
abbrev ws_X6_append : List Cond := Cond.code yX6_append cX6_append 3 none :: gG
abbrev rm_X6_append : Room := { frames := 0, cells := 0, slots := 0, locals := 0 }
theorem k_X6_append : gCV yX6_append RX6 cX6_append 3 none 1 := ⟨gw_2_88, gw_2_89, gw_1_2, gw_2_90, rfl, by decide +kernel⟩
set_option maxHeartbeats 4000000 in
set_option maxRecDepth 100000 in
theorem c_X6_append (l : Launch) (D : va_G) (cy : Nat → ClassId) (ad : Nat → Nat) (A : Nat → Prop) (Q : gS → Prop) (σ : gS) (a1 : Int32) (h : w_X6_append Q σ a1) : Met l yX6_append ws_X6_append rm_X6_append (va_Pc [.ref (ad 1), .int a1] (gB D cy ad A σ)) (va_Qv Q (gB D cy ad A) A) 0 0 A := by
  refine Met.ofW (cc := cX6_append) (maxL := 3) (ret := none) (by decide) rfl ?_
  intro p e s m args below meth c s₁ B hml hv
  obtain ⟨rfl, hB⟩ := hv
  have hC : gC p c cX6_append s m ([.ref (ad 1), .int a1] : List Value).toArray RX6 D cy ad A := g_start B hB
  have hI := g_first hB
  have hx := hC.1
  have hb := hC.2.1
  have hr := B.returns
  have hlocks := B.notSynchronized
  clear B hB
  have J3 : ∀ (n3 : Nat) (x1 : Int32) (x2 : Int32) (σ : gS) (H : Heap) (locs : List Loc) (ls : Array Slot), w_X6_append_3 Q n3 x1 x2 σ → gI D cy ad A s.heap σ H locs → lv_has ls 3 [(0, .ref (ad 1)), (1, .int x1), (2, .int x2)] → W p l e (headSpec ws_X6_append rm_X6_append).room s m ([.ref (ad 1), .int a1] : List Value).toArray below meth c H locs 0 0 (MQ below (va_Qv Q (gB D cy ad A) A) ([.ref (ad 1), .int a1] : List Value).toArray s 0 0 A) (F0 m 3 ls []) := by
    intro n3
    induction n3 with
    | zero => intro x1 x2 σ H locs ls h; exact absurd h (fun h => h)
    | succ n3 ih3 =>
      intro x1 x2 σ H locs ls h hI hl
      unfold w_X6_append_3 at h
      refine lv_iload_n hx hb dX6_append_3 rfl (lv_at hl 2 rfl) ?_
      refine lv_if_lt (tgt := 49) hx hb dX6_append_4 (by decide) (fun c1 => ?_) (fun c1 => ?_)
      · have h := h.1 c1
        exact g_vret hC hr hlocks hI h dX6_append_49
      · have h := h.2 c1
        refine lv_aload_n hx hb dX6_append_7 rfl (lv_at hl 0 rfl) ?_
        refine gg_X6_size hC hI gw_1_39 dX6_append_8 ?_
        refine lv_sipush (v := 400) hx hb dX6_append_11 (by decide) ?_
        refine lv_icmp_ge (tgt := 49) hx hb dX6_append_14 (by decide) (fun c2 => ?_) (fun c2 => ?_)
        · have h := h.1 c2
          exact g_vret hC hr hlocks hI h dX6_append_49
        · have h := h.2 c2
          refine lv_aload_n hx hb dX6_append_17 rfl (lv_at hl 0 rfl) ?_
          refine gg_X6_bytes hC hI gw_1_38 dX6_append_18 ?_
          refine lv_aload_n hx hb dX6_append_21 rfl (lv_at hl 0 rfl) ?_
          refine gg_X6_size hC hI gw_1_39 dX6_append_22 ?_
          refine lv_iload_n hx hb dX6_append_25 rfl (lv_at hl 1 rfl) ?_
          refine lv_iload_n hx hb dX6_append_26 rfl (lv_at hl 2 rfl) ?_
          refine lv_iushr hx hb dX6_append_27 rfl ?_
          refine lv_sipush (v := 255) hx hb dX6_append_28 (by decide) ?_
          refine lv_iand hx hb dX6_append_31 ?_
          obtain ⟨hi3, h⟩ := h
          refine gs_20 hC hI hi3 dX6_append_32 (fun s4 H locs es4 hI => ?_)
          have h := h s4 es4
          refine lv_aload_n hx hb dX6_append_33 rfl (lv_at hl 0 rfl) ?_
          refine lv_dup hx hb dX6_append_34 rfl ?_
          refine gg_X6_size hC hI gw_1_39 dX6_append_35 ?_
          refine lv_iconst (v := 1) hx hb dX6_append_38 (by decide) ?_
          refine lv_iadd hx hb dX6_append_39 ?_
          refine gp_X6_size hC hI gw_1_39 dX6_append_40 (fun s5 H locs es5 hI => ?_)
          have h := h s5 es5
          obtain ⟨y6, ey6⟩ : ∃ y : Int32, y = x2 + (-8) := ⟨_, rfl⟩
          have h := h y6 ey6
          refine lv_iinc (v := y6) (lv' := [(2, .int y6), (0, .ref (ad 1)), (1, .int x1)]) hx hb dX6_append_43 hl (k := 2) rfl (by rw [ey6]; rfl) (by decide) rfl (fun ls hl => ?_)
          refine lv_goto (tgt := 3) hx hb dX6_append_46 (by decide) ?_
          exact ih3 _ _ _ _ _ _ h hI (lv_sub hl [1, 2, 0] rfl)
  have hl := lv_entry ([.ref (ad 1), .int a1]) (n := 3) (Nat.le_of_ble_eq_true rfl)
  rw [lg_entry_eq]
  generalize (lg_sl ([.ref (ad 1), .int a1]) ++ List.replicate (3 - (lg_sl ([.ref (ad 1), .int a1])).length) Slot.unset).toArray = ls at hl ⊢
  have hl : lv_has ls 3 [(0, .ref (ad 1)), (1, .int a1)] := hl
  unfold w_X6_append at h
  refine lv_bipush (v := 24) hx hb dX6_append_0 (by decide) ?_
  refine lv_istore_n (lv' := [(2, .int 24), (0, .ref (ad 1)), (1, .int a1)]) hx hb dX6_append_2 rfl hl (by decide) rfl (fun ls hl => ?_)
  obtain ⟨n9, h⟩ := h
  exact J3 n9 _ _ _ _ _ _ h hI (lv_sub hl [1, 2, 0] rfl)

theorem dX6_byteAt_0 : decode cX6_byteAt 0 = .ok (.iload_n 1, 1) := by decide +kernel
theorem dX6_byteAt_1 : decode cX6_byteAt 1 = .ok (.ifCond .lt 20, 3) := by decide +kernel
theorem dX6_byteAt_4 : decode cX6_byteAt 4 = .ok (.iload_n 1, 1) := by decide +kernel
theorem dX6_byteAt_5 : decode cX6_byteAt 5 = .ok (.aload_n 0, 1) := by decide +kernel
theorem dX6_byteAt_6 : decode cX6_byteAt 6 = .ok (.getfield 15, 3) := by decide +kernel
theorem dX6_byteAt_9 : decode cX6_byteAt 9 = .ok (.if_icmp .ge 12, 3) := by decide +kernel
theorem dX6_byteAt_12 : decode cX6_byteAt 12 = .ok (.aload_n 0, 1) := by decide +kernel
theorem dX6_byteAt_13 : decode cX6_byteAt 13 = .ok (.getfield 11, 3) := by decide +kernel
theorem dX6_byteAt_16 : decode cX6_byteAt 16 = .ok (.iload_n 1, 1) := by decide +kernel
theorem dX6_byteAt_17 : decode cX6_byteAt 17 = .ok (.iaload, 1) := by decide +kernel
theorem dX6_byteAt_18 : decode cX6_byteAt 18 = .ok (.goto 4, 3) := by decide +kernel
theorem dX6_byteAt_21 : decode cX6_byteAt 21 = .ok (.iconst (-1), 1) := by decide +kernel
theorem dX6_byteAt_22 : decode cX6_byteAt 22 = .ok (.ireturn, 1) := by decide +kernel
def w_X6_byteAt_21 (Q : Int32 → gS → Prop) (σ : gS) : Prop :=
    Q (-1) σ
def w_X6_byteAt (Q : Int32 → gS → Prop) (σ : gS) (a1 : Int32) : Prop :=
    (a1 < 0 → w_X6_byteAt_21 Q σ) ∧ (¬ a1 < 0 → ((σ 16 0) ≤ a1 → w_X6_byteAt_21 Q σ) ∧ (¬ (σ 16 0) ≤ a1 → vp_in a1 400 ∧ Q (σ 15 a1.toNatClampNeg) σ))
abbrev ws_X6_byteAt : List Cond := Cond.code yX6_byteAt cX6_byteAt 2 (some .int) :: gG
abbrev rm_X6_byteAt : Room := { frames := 0, cells := 0, slots := 0, locals := 0 }
theorem k_X6_byteAt : gCV yX6_byteAt RX6 cX6_byteAt 2 (some .int) 1 := ⟨gw_4_85, gw_4_86, gw_1_2, gw_4_87, rfl, by decide +kernel⟩
set_option maxHeartbeats 4000000 in
set_option maxRecDepth 100000 in
theorem c_X6_byteAt (l : Launch) (D : va_G) (cy : Nat → ClassId) (ad : Nat → Nat) (A : Nat → Prop) (Q : Int32 → gS → Prop) (σ : gS) (a1 : Int32) (h : w_X6_byteAt Q σ a1) : Met l yX6_byteAt ws_X6_byteAt rm_X6_byteAt (va_Pc [.ref (ad 1), .int a1] (gB D cy ad A σ)) (va_Qi Q (gB D cy ad A) A) 0 0 A := by
  refine Met.ofW (cc := cX6_byteAt) (maxL := 2) (ret := (some .int)) (by decide) rfl ?_
  intro p e s m args below meth c s₁ B hml hv
  obtain ⟨rfl, hB⟩ := hv
  have hC : gC p c cX6_byteAt s m ([.ref (ad 1), .int a1] : List Value).toArray RX6 D cy ad A := g_start B hB
  have hI := g_first hB
  have hx := hC.1
  have hb := hC.2.1
  have hr := B.returns
  have hlocks := B.notSynchronized
  clear B hB
  have J21 : ∀ (σ : gS) (H : Heap) (locs : List Loc) (ls : Array Slot), w_X6_byteAt_21 Q σ → gI D cy ad A s.heap σ H locs → lv_has ls 2 [] → W p l e (headSpec ws_X6_byteAt rm_X6_byteAt).room s m ([.ref (ad 1), .int a1] : List Value).toArray below meth c H locs 0 0 (MQ below (va_Qi Q (gB D cy ad A) A) ([.ref (ad 1), .int a1] : List Value).toArray s 0 0 A) (F0 m 21 ls []) := by
    intro σ H locs ls h hI hl
    unfold w_X6_byteAt_21 at h
    refine lv_iconst (v := (-1)) hx hb dX6_byteAt_21 (by decide) ?_
    exact g_iret hC hr hlocks hI h dX6_byteAt_22
  have hl := lv_entry ([.ref (ad 1), .int a1]) (n := 2) (Nat.le_of_ble_eq_true rfl)
  rw [lg_entry_eq]
  generalize (lg_sl ([.ref (ad 1), .int a1]) ++ List.replicate (2 - (lg_sl ([.ref (ad 1), .int a1])).length) Slot.unset).toArray = ls at hl ⊢
  have hl : lv_has ls 2 [(0, .ref (ad 1)), (1, .int a1)] := hl
  unfold w_X6_byteAt at h
  refine lv_iload_n hx hb dX6_byteAt_0 rfl (lv_at hl 1 rfl) ?_
  refine lv_if_lt (tgt := 21) hx hb dX6_byteAt_1 (by decide) (fun c2 => ?_) (fun c2 => ?_)
  · have h := h.1 c2
    exact J21 _ _ _ _ h hI (lv_sub hl [] rfl)
  · have h := h.2 c2
    refine lv_iload_n hx hb dX6_byteAt_4 rfl (lv_at hl 1 rfl) ?_
    refine lv_aload_n hx hb dX6_byteAt_5 rfl (lv_at hl 0 rfl) ?_
    refine gg_X6_size hC hI gw_1_39 dX6_byteAt_6 ?_
    refine lv_icmp_ge (tgt := 21) hx hb dX6_byteAt_9 (by decide) (fun c3 => ?_) (fun c3 => ?_)
    · have h := h.1 c3
      exact J21 _ _ _ _ h hI (lv_sub hl [] rfl)
    · have h := h.2 c3
      refine lv_aload_n hx hb dX6_byteAt_12 rfl (lv_at hl 0 rfl) ?_
      refine gg_X6_bytes hC hI gw_1_38 dX6_byteAt_13 ?_
      refine lv_iload_n hx hb dX6_byteAt_16 rfl (lv_at hl 1 rfl) ?_
      obtain ⟨hi4, h⟩ := h
      refine ga_20 hC hI hi4 dX6_byteAt_17 ?_
      refine lv_goto (tgt := 22) hx hb dX6_byteAt_18 (by decide) ?_
      exact g_iret hC hr hlocks hI h dX6_byteAt_22

theorem dX7_add_0 : decode cX7_add 0 = .ok (.aload_n 0, 1) := by decide +kernel
theorem dX7_add_1 : decode cX7_add 1 = .ok (.getfield 22, 3) := by decide +kernel
theorem dX7_add_4 : decode cX7_add 4 = .ok (.bipush 12, 2) := by decide +kernel
theorem dX7_add_6 : decode cX7_add 6 = .ok (.if_icmp .lt 4, 3) := by decide +kernel
theorem dX7_add_9 : decode cX7_add 9 = .ok (.return_, 1) := by decide +kernel
theorem dX7_add_10 : decode cX7_add 10 = .ok (.aload_n 0, 1) := by decide +kernel
theorem dX7_add_11 : decode cX7_add 11 = .ok (.getfield 9, 3) := by decide +kernel
theorem dX7_add_14 : decode cX7_add 14 = .ok (.aload_n 0, 1) := by decide +kernel
theorem dX7_add_15 : decode cX7_add 15 = .ok (.getfield 22, 3) := by decide +kernel
theorem dX7_add_18 : decode cX7_add 18 = .ok (.iload_n 1, 1) := by decide +kernel
theorem dX7_add_19 : decode cX7_add 19 = .ok (.iastore, 1) := by decide +kernel
theorem dX7_add_20 : decode cX7_add 20 = .ok (.aload_n 0, 1) := by decide +kernel
theorem dX7_add_21 : decode cX7_add 21 = .ok (.getfield 13, 3) := by decide +kernel
theorem dX7_add_24 : decode cX7_add 24 = .ok (.aload_n 0, 1) := by decide +kernel
theorem dX7_add_25 : decode cX7_add 25 = .ok (.getfield 22, 3) := by decide +kernel
theorem dX7_add_28 : decode cX7_add 28 = .ok (.iload_n 2, 1) := by decide +kernel
theorem dX7_add_29 : decode cX7_add 29 = .ok (.iastore, 1) := by decide +kernel
theorem dX7_add_30 : decode cX7_add 30 = .ok (.aload_n 0, 1) := by decide +kernel
theorem dX7_add_31 : decode cX7_add 31 = .ok (.getfield 16, 3) := by decide +kernel
theorem dX7_add_34 : decode cX7_add 34 = .ok (.aload_n 0, 1) := by decide +kernel
theorem dX7_add_35 : decode cX7_add 35 = .ok (.getfield 22, 3) := by decide +kernel
theorem dX7_add_38 : decode cX7_add 38 = .ok (.iload_n 3, 1) := by decide +kernel
theorem dX7_add_39 : decode cX7_add 39 = .ok (.iastore, 1) := by decide +kernel
theorem dX7_add_40 : decode cX7_add 40 = .ok (.aload_n 0, 1) := by decide +kernel
theorem dX7_add_41 : decode cX7_add 41 = .ok (.getfield 19, 3) := by decide +kernel
theorem dX7_add_44 : decode cX7_add 44 = .ok (.aload_n 0, 1) := by decide +kernel
theorem dX7_add_45 : decode cX7_add 45 = .ok (.getfield 22, 3) := by decide +kernel
theorem dX7_add_48 : decode cX7_add 48 = .ok (.iload 4, 2) := by decide +kernel
theorem dX7_add_50 : decode cX7_add 50 = .ok (.iastore, 1) := by decide +kernel
theorem dX7_add_51 : decode cX7_add 51 = .ok (.aload_n 0, 1) := by decide +kernel
theorem dX7_add_52 : decode cX7_add 52 = .ok (.dup, 1) := by decide +kernel
theorem dX7_add_53 : decode cX7_add 53 = .ok (.getfield 22, 3) := by decide +kernel
theorem dX7_add_56 : decode cX7_add 56 = .ok (.iconst 1, 1) := by decide +kernel
theorem dX7_add_57 : decode cX7_add 57 = .ok (.iadd, 1) := by decide +kernel
theorem dX7_add_58 : decode cX7_add 58 = .ok (.putfield 22, 3) := by decide +kernel
theorem dX7_add_61 : decode cX7_add 61 = .ok (.return_, 1) := by decide +kernel
def w_X7_add (Q : gS → Prop) (j : Nat) (σ : gS) (a1 : Int32) (a2 : Int32) (a3 : Int32) (a4 : Int32) : Prop :=
    ((σ (gtk j + 4) 0) < 12 → vp_in (σ (gtk j + 4) 0) 12 ∧ ∀ s3 : gS, s3 = gu σ (gtk j + 0) (σ (gtk j + 4) 0).toNatClampNeg a1 → vp_in (s3 (gtk j + 4) 0) 12 ∧ ∀ s5 : gS, s5 = gu s3 (gtk j + 1) (s3 (gtk j + 4) 0).toNatClampNeg a2 → vp_in (s5 (gtk j + 4) 0) 12 ∧ ∀ s7 : gS, s7 = gu s5 (gtk j + 2) (s5 (gtk j + 4) 0).toNatClampNeg a3 → vp_in (s7 (gtk j + 4) 0) 12 ∧ ∀ s9 : gS, s9 = gu s7 (gtk j + 3) (s7 (gtk j + 4) 0).toNatClampNeg a4 → ∀ s10 : gS, s10 = gu s9 (gtk j + 4) 0 ((s9 (gtk j + 4) 0) + 1) → Q s10) ∧ (¬ (σ (gtk j + 4) 0) < 12 → Q σ)
abbrev ws_X7_add : List Cond := Cond.code yX7_add cX7_add 5 none :: gG
abbrev rm_X7_add : Room := { frames := 0, cells := 0, slots := 0, locals := 0 }
theorem k_X7_add : gCV yX7_add RX7 cX7_add 5 none 4 := ⟨gw_4_174, gw_4_175, gw_1_10, gw_4_176, rfl, by decide +kernel⟩
set_option maxHeartbeats 4000000 in
set_option maxRecDepth 100000 in
theorem c_X7_add (l : Launch) (D : va_G) (cy : Nat → ClassId) (ad : Nat → Nat) (A : Nat → Prop) (Q : gS → Prop) (j : Nat) (hj : j = 8 ∨ j = 9) (σ : gS) (a1 : Int32) (a2 : Int32) (a3 : Int32) (a4 : Int32) (h : w_X7_add Q j σ a1 a2 a3 a4) : Met l yX7_add ws_X7_add rm_X7_add (va_Pc [.ref (ad j), .int a1, .int a2, .int a3, .int a4] (gB D cy ad A σ)) (va_Qv Q (gB D cy ad A) A) 0 0 A := by
  refine Met.ofW (cc := cX7_add) (maxL := 5) (ret := none) (by decide) rfl ?_
  intro p e s m args below meth c s₁ B hml hv
  obtain ⟨rfl, hB⟩ := hv
  have hC : gC p c cX7_add s m ([.ref (ad j), .int a1, .int a2, .int a3, .int a4] : List Value).toArray RX7 D cy ad A := g_start B hB
  have hI := g_first hB
  have hx := hC.1
  have hb := hC.2.1
  have hr := B.returns
  have hlocks := B.notSynchronized
  clear B hB
  have hl := lv_entry ([.ref (ad j), .int a1, .int a2, .int a3, .int a4]) (n := 5) (Nat.le_of_ble_eq_true rfl)
  rw [lg_entry_eq]
  generalize (lg_sl ([.ref (ad j), .int a1, .int a2, .int a3, .int a4]) ++ List.replicate (5 - (lg_sl ([.ref (ad j), .int a1, .int a2, .int a3, .int a4])).length) Slot.unset).toArray = ls at hl ⊢
  have hl : lv_has ls 5 [(0, .ref (ad j)), (1, .int a1), (2, .int a2), (3, .int a3), (4, .int a4)] := hl
  unfold w_X7_add at h
  refine lv_aload_n hx hb dX7_add_0 rfl (lv_at hl 0 rfl) ?_
  refine gg_X7_size hC hI hj gw_2_31 dX7_add_1 ?_
  refine lv_bipush (v := 12) hx hb dX7_add_4 (by decide) ?_
  refine lv_icmp_lt (tgt := 10) hx hb dX7_add_6 (by decide) (fun c1 => ?_) (fun c1 => ?_)
  · have h := h.1 c1
    refine lv_aload_n hx hb dX7_add_10 rfl (lv_at hl 0 rfl) ?_
    refine gg_X7_kinds hC hI hj gw_2_23 dX7_add_11 ?_
    refine lv_aload_n hx hb dX7_add_14 rfl (lv_at hl 0 rfl) ?_
    refine gg_X7_size hC hI hj gw_2_31 dX7_add_15 ?_
    refine lv_iload_n hx hb dX7_add_18 rfl (lv_at hl 1 rfl) ?_
    obtain ⟨hi2, h⟩ := h
    refine gst_0 hC hI hj hi2 dX7_add_19 (fun s3 H locs es3 hI => ?_)
    have h := h s3 es3
    refine lv_aload_n hx hb dX7_add_20 rfl (lv_at hl 0 rfl) ?_
    refine gg_X7_mosts hC hI hj gw_2_25 dX7_add_21 ?_
    refine lv_aload_n hx hb dX7_add_24 rfl (lv_at hl 0 rfl) ?_
    refine gg_X7_size hC hI hj gw_2_31 dX7_add_25 ?_
    refine lv_iload_n hx hb dX7_add_28 rfl (lv_at hl 2 rfl) ?_
    obtain ⟨hi4, h⟩ := h
    refine gst_1 hC hI hj hi4 dX7_add_29 (fun s5 H locs es5 hI => ?_)
    have h := h s5 es5
    refine lv_aload_n hx hb dX7_add_30 rfl (lv_at hl 0 rfl) ?_
    refine gg_X7_firstHours hC hI hj gw_2_27 dX7_add_31 ?_
    refine lv_aload_n hx hb dX7_add_34 rfl (lv_at hl 0 rfl) ?_
    refine gg_X7_size hC hI hj gw_2_31 dX7_add_35 ?_
    refine lv_iload_n hx hb dX7_add_38 rfl (lv_at hl 3 rfl) ?_
    obtain ⟨hi6, h⟩ := h
    refine gst_2 hC hI hj hi6 dX7_add_39 (fun s7 H locs es7 hI => ?_)
    have h := h s7 es7
    refine lv_aload_n hx hb dX7_add_40 rfl (lv_at hl 0 rfl) ?_
    refine gg_X7_lastHours hC hI hj gw_2_29 dX7_add_41 ?_
    refine lv_aload_n hx hb dX7_add_44 rfl (lv_at hl 0 rfl) ?_
    refine gg_X7_size hC hI hj gw_2_31 dX7_add_45 ?_
    refine lv_iload hx hb dX7_add_48 (lv_at hl 4 rfl) ?_
    obtain ⟨hi8, h⟩ := h
    refine gst_3 hC hI hj hi8 dX7_add_50 (fun s9 H locs es9 hI => ?_)
    have h := h s9 es9
    refine lv_aload_n hx hb dX7_add_51 rfl (lv_at hl 0 rfl) ?_
    refine lv_dup hx hb dX7_add_52 rfl ?_
    refine gg_X7_size hC hI hj gw_2_31 dX7_add_53 ?_
    refine lv_iconst (v := 1) hx hb dX7_add_56 (by decide) ?_
    refine lv_iadd hx hb dX7_add_57 ?_
    refine gp_X7_size hC hI hj gw_2_31 dX7_add_58 (fun s10 H locs es10 hI => ?_)
    have h := h s10 es10
    exact g_vret hC hr hlocks hI h dX7_add_61
  · have h := h.2 c1
    exact g_vret hC hr hlocks hI h dX7_add_9

theorem dX2_noteChange_0 : decode cX2_noteChange 0 = .ok (.aload_n 0, 1) := by decide +kernel
theorem dX2_noteChange_1 : decode cX2_noteChange 1 = .ok (.bipush (-2), 2) := by decide +kernel
theorem dX2_noteChange_3 : decode cX2_noteChange 3 = .ok (.putfield 37, 3) := by decide +kernel
theorem dX2_noteChange_6 : decode cX2_noteChange 6 = .ok (.aload_n 0, 1) := by decide +kernel
theorem dX2_noteChange_7 : decode cX2_noteChange 7 = .ok (.bipush (-2), 2) := by decide +kernel
theorem dX2_noteChange_9 : decode cX2_noteChange 9 = .ok (.putfield 41, 3) := by decide +kernel
theorem dX2_noteChange_12 : decode cX2_noteChange 12 = .ok (.return_, 1) := by decide +kernel
def w_X2_noteChange (Q : gS → Prop) (σ : gS) : Prop :=
    ∀ s1 : gS, s1 = gu σ 33 0 (-2) → ∀ s2 : gS, s2 = gu s1 34 0 (-2) → Q s2
abbrev ws_X2_noteChange : List Cond := Cond.code yX2_noteChange cX2_noteChange 1 none :: gG
abbrev rm_X2_noteChange : Room := { frames := 0, cells := 0, slots := 0, locals := 0 }
theorem k_X2_noteChange : gCV yX2_noteChange RX2 cX2_noteChange 1 none 0 := ⟨gw_3_203, gwp_23, gw_1_6, gw_3_204, rfl, by decide +kernel⟩
set_option maxHeartbeats 4000000 in
set_option maxRecDepth 100000 in
theorem c_X2_noteChange (l : Launch) (D : va_G) (cy : Nat → ClassId) (ad : Nat → Nat) (A : Nat → Prop) (Q : gS → Prop) (σ : gS) (h : w_X2_noteChange Q σ) : Met l yX2_noteChange ws_X2_noteChange rm_X2_noteChange (va_Pc [.ref (ad 4)] (gB D cy ad A σ)) (va_Qv Q (gB D cy ad A) A) 0 0 A := by
  refine Met.ofW (cc := cX2_noteChange) (maxL := 1) (ret := none) (by decide) rfl ?_
  intro p e s m args below meth c s₁ B hml hv
  obtain ⟨rfl, hB⟩ := hv
  have hC : gC p c cX2_noteChange s m ([.ref (ad 4)] : List Value).toArray RX2 D cy ad A := g_start B hB
  have hI := g_first hB
  have hx := hC.1
  have hb := hC.2.1
  have hr := B.returns
  have hlocks := B.notSynchronized
  clear B hB
  have hl := lv_entry ([.ref (ad 4)]) (n := 1) (Nat.le_of_ble_eq_true rfl)
  rw [lg_entry_eq]
  generalize (lg_sl ([.ref (ad 4)]) ++ List.replicate (1 - (lg_sl ([.ref (ad 4)])).length) Slot.unset).toArray = ls at hl ⊢
  have hl : lv_has ls 1 [(0, .ref (ad 4))] := hl
  unfold w_X2_noteChange at h
  refine lv_aload_n hx hb dX2_noteChange_0 rfl (lv_at hl 0 rfl) ?_
  refine lv_bipush (v := (-2)) hx hb dX2_noteChange_1 (by decide) ?_
  refine gp_X2_knownEmpty hC hI gw_1_162 dX2_noteChange_3 (fun s1 H locs es1 hI => ?_)
  have h := h s1 es1
  refine lv_aload_n hx hb dX2_noteChange_6 rfl (lv_at hl 0 rfl) ?_
  refine lv_bipush (v := (-2)) hx hb dX2_noteChange_7 (by decide) ?_
  refine gp_X2_knownWorst hC hI gw_1_163 dX2_noteChange_9 (fun s2 H locs es2 hI => ?_)
  have h := h s2 es2
  exact g_vret hC hr hlocks hI h dX2_noteChange_12

theorem dX2_addPlace_0 : decode cX2_addPlace 0 = .ok (.aload_n 0, 1) := by decide +kernel
theorem dX2_addPlace_1 : decode cX2_addPlace 1 = .ok (.getfield 51, 3) := by decide +kernel
theorem dX2_addPlace_4 : decode cX2_addPlace 4 = .ok (.bipush 8, 2) := by decide +kernel
theorem dX2_addPlace_6 : decode cX2_addPlace 6 = .ok (.if_icmp .lt 5, 3) := by decide +kernel
theorem dX2_addPlace_9 : decode cX2_addPlace 9 = .ok (.iconst (-1), 1) := by decide +kernel
theorem dX2_addPlace_10 : decode cX2_addPlace 10 = .ok (.ireturn, 1) := by decide +kernel
theorem dX2_addPlace_11 : decode cX2_addPlace 11 = .ok (.aload_n 0, 1) := by decide +kernel
theorem dX2_addPlace_12 : decode cX2_addPlace 12 = .ok (.getfield 11, 3) := by decide +kernel
theorem dX2_addPlace_15 : decode cX2_addPlace 15 = .ok (.aload_n 0, 1) := by decide +kernel
theorem dX2_addPlace_16 : decode cX2_addPlace 16 = .ok (.getfield 51, 3) := by decide +kernel
theorem dX2_addPlace_19 : decode cX2_addPlace 19 = .ok (.iload_n 1, 1) := by decide +kernel
theorem dX2_addPlace_20 : decode cX2_addPlace 20 = .ok (.iastore, 1) := by decide +kernel
theorem dX2_addPlace_21 : decode cX2_addPlace 21 = .ok (.aload_n 0, 1) := by decide +kernel
theorem dX2_addPlace_22 : decode cX2_addPlace 22 = .ok (.getfield 15, 3) := by decide +kernel
theorem dX2_addPlace_25 : decode cX2_addPlace 25 = .ok (.aload_n 0, 1) := by decide +kernel
theorem dX2_addPlace_26 : decode cX2_addPlace 26 = .ok (.getfield 51, 3) := by decide +kernel
theorem dX2_addPlace_29 : decode cX2_addPlace 29 = .ok (.iload_n 2, 1) := by decide +kernel
theorem dX2_addPlace_30 : decode cX2_addPlace 30 = .ok (.iastore, 1) := by decide +kernel
theorem dX2_addPlace_31 : decode cX2_addPlace 31 = .ok (.aload_n 0, 1) := by decide +kernel
theorem dX2_addPlace_32 : decode cX2_addPlace 32 = .ok (.dup, 1) := by decide +kernel
theorem dX2_addPlace_33 : decode cX2_addPlace 33 = .ok (.getfield 51, 3) := by decide +kernel
theorem dX2_addPlace_36 : decode cX2_addPlace 36 = .ok (.iconst 1, 1) := by decide +kernel
theorem dX2_addPlace_37 : decode cX2_addPlace 37 = .ok (.iadd, 1) := by decide +kernel
theorem dX2_addPlace_38 : decode cX2_addPlace 38 = .ok (.putfield 51, 3) := by decide +kernel
theorem dX2_addPlace_41 : decode cX2_addPlace 41 = .ok (.aload_n 0, 1) := by decide +kernel
theorem dX2_addPlace_42 : decode cX2_addPlace 42 = .ok (.invokevirtual 54, 3) := by decide +kernel
theorem dX2_addPlace_45 : decode cX2_addPlace 45 = .ok (.aload_n 0, 1) := by decide +kernel
theorem dX2_addPlace_46 : decode cX2_addPlace 46 = .ok (.getfield 51, 3) := by decide +kernel
theorem dX2_addPlace_49 : decode cX2_addPlace 49 = .ok (.iconst 1, 1) := by decide +kernel
theorem dX2_addPlace_50 : decode cX2_addPlace 50 = .ok (.isub, 1) := by decide +kernel
theorem dX2_addPlace_51 : decode cX2_addPlace 51 = .ok (.ireturn, 1) := by decide +kernel
def w_X2_addPlace (Q : Int32 → gS → Prop) (σ : gS) (a1 : Int32) (a2 : Int32) : Prop :=
    ((σ 26 0) < 8 → vp_in (σ 26 0) 8 ∧ ∀ s3 : gS, s3 = gu σ 23 (σ 26 0).toNatClampNeg a1 → vp_in (s3 26 0) 8 ∧ ∀ s5 : gS, s5 = gu s3 24 (s3 26 0).toNatClampNeg a2 → ∀ s6 : gS, s6 = gu s5 26 0 ((s5 26 0) + 1) → w_X2_noteChange  (fun (s7 : gS) => Q ((s7 26 0) - 1) s7) s6) ∧ (¬ (σ 26 0) < 8 → Q (-1) σ)
abbrev ws_X2_addPlace : List Cond := Cond.code yX2_addPlace cX2_addPlace 3 (some .int) :: gG
abbrev rm_X2_addPlace : Room := { frames := 1, cells := 0, slots := 0, locals := 20 }
theorem k_X2_addPlace : gCV yX2_addPlace RX2 cX2_addPlace 3 (some .int) 2 := ⟨gw_3_198, gw_3_199, gw_1_6, gw_3_200, rfl, by decide +kernel⟩
set_option maxHeartbeats 4000000 in
set_option maxRecDepth 100000 in
theorem c_X2_addPlace (l : Launch) (D : va_G) (cy : Nat → ClassId) (ad : Nat → Nat) (A : Nat → Prop) (Q : Int32 → gS → Prop) (σ : gS) (a1 : Int32) (a2 : Int32) (h : w_X2_addPlace Q σ a1 a2) : Met l yX2_addPlace ws_X2_addPlace rm_X2_addPlace (va_Pc [.ref (ad 4), .int a1, .int a2] (gB D cy ad A σ)) (va_Qi Q (gB D cy ad A) A) 0 0 A := by
  refine Met.ofW (cc := cX2_addPlace) (maxL := 3) (ret := (some .int)) (by decide) rfl ?_
  intro p e s m args below meth c s₁ B hml hv
  obtain ⟨rfl, hB⟩ := hv
  have hC : gC p c cX2_addPlace s m ([.ref (ad 4), .int a1, .int a2] : List Value).toArray RX2 D cy ad A := g_start B hB
  have hI := g_first hB
  have hx := hC.1
  have hb := hC.2.1
  have hr := B.returns
  have hlocks := B.notSynchronized
  clear B hB
  have hl := lv_entry ([.ref (ad 4), .int a1, .int a2]) (n := 3) (Nat.le_of_ble_eq_true rfl)
  rw [lg_entry_eq]
  generalize (lg_sl ([.ref (ad 4), .int a1, .int a2]) ++ List.replicate (3 - (lg_sl ([.ref (ad 4), .int a1, .int a2])).length) Slot.unset).toArray = ls at hl ⊢
  have hl : lv_has ls 3 [(0, .ref (ad 4)), (1, .int a1), (2, .int a2)] := hl
  unfold w_X2_addPlace at h
  refine lv_aload_n hx hb dX2_addPlace_0 rfl (lv_at hl 0 rfl) ?_
  refine gg_X2_places hC hI gw_1_145 dX2_addPlace_1 ?_
  refine lv_bipush (v := 8) hx hb dX2_addPlace_4 (by decide) ?_
  refine lv_icmp_lt (tgt := 11) hx hb dX2_addPlace_6 (by decide) (fun c1 => ?_) (fun c1 => ?_)
  · have h := h.1 c1
    refine lv_aload_n hx hb dX2_addPlace_11 rfl (lv_at hl 0 rfl) ?_
    refine gg_X2_crowds hC hI gw_1_140 dX2_addPlace_12 ?_
    refine lv_aload_n hx hb dX2_addPlace_15 rfl (lv_at hl 0 rfl) ?_
    refine gg_X2_places hC hI gw_1_145 dX2_addPlace_16 ?_
    refine lv_iload_n hx hb dX2_addPlace_19 rfl (lv_at hl 1 rfl) ?_
    obtain ⟨hi2, h⟩ := h
    refine gs_22 hC hI hi2 dX2_addPlace_20 (fun s3 H locs es3 hI => ?_)
    have h := h s3 es3
    refine lv_aload_n hx hb dX2_addPlace_21 rfl (lv_at hl 0 rfl) ?_
    refine gg_X2_rates hC hI gw_1_142 dX2_addPlace_22 ?_
    refine lv_aload_n hx hb dX2_addPlace_25 rfl (lv_at hl 0 rfl) ?_
    refine gg_X2_places hC hI gw_1_145 dX2_addPlace_26 ?_
    refine lv_iload_n hx hb dX2_addPlace_29 rfl (lv_at hl 2 rfl) ?_
    obtain ⟨hi4, h⟩ := h
    refine gs_23 hC hI hi4 dX2_addPlace_30 (fun s5 H locs es5 hI => ?_)
    have h := h s5 es5
    refine lv_aload_n hx hb dX2_addPlace_31 rfl (lv_at hl 0 rfl) ?_
    refine lv_dup hx hb dX2_addPlace_32 rfl ?_
    refine gg_X2_places hC hI gw_1_145 dX2_addPlace_33 ?_
    refine lv_iconst (v := 1) hx hb dX2_addPlace_36 (by decide) ?_
    refine lv_iadd hx hb dX2_addPlace_37 ?_
    refine gp_X2_places hC hI gw_1_145 dX2_addPlace_38 (fun s6 H locs es6 hI => ?_)
    have h := h s6 es6
    refine lv_aload_n hx hb dX2_addPlace_41 rfl (lv_at hl 0 rfl) ?_
    refine g_backv hI (g_runV (As := []) (rest := []) hC hml hI (c_X2_noteChange l D cy ad A _  _ h) k_X2_noteChange gw_3_201 ⟨rfl, rfl⟩ ⟨Nat.le_of_ble_eq_true rfl, Nat.le_of_ble_eq_true rfl⟩ (grv_4 hC hI) rfl hl.1 rfl (Nat.le_of_ble_eq_true rfl) dX2_addPlace_42 ⟨Nat.le_of_ble_eq_true rfl, Nat.le_of_ble_eq_true rfl⟩) (fun s7 H locs h hI => ?_)
    refine lv_aload_n hx hb dX2_addPlace_45 rfl (lv_at hl 0 rfl) ?_
    refine gg_X2_places hC hI gw_1_145 dX2_addPlace_46 ?_
    refine lv_iconst (v := 1) hx hb dX2_addPlace_49 (by decide) ?_
    refine lv_isub hx hb dX2_addPlace_50 ?_
    exact g_iret hC hr hlocks hI h dX2_addPlace_51
  · have h := h.2 c1
    refine lv_iconst (v := (-1)) hx hb dX2_addPlace_9 (by decide) ?_
    exact g_iret hC hr hlocks hI h dX2_addPlace_10

theorem dX2_setCrowd_0 : decode cX2_setCrowd 0 = .ok (.aload_n 0, 1) := by decide +kernel
theorem dX2_setCrowd_1 : decode cX2_setCrowd 1 = .ok (.getfield 11, 3) := by decide +kernel
theorem dX2_setCrowd_4 : decode cX2_setCrowd 4 = .ok (.iload_n 1, 1) := by decide +kernel
theorem dX2_setCrowd_5 : decode cX2_setCrowd 5 = .ok (.iload_n 2, 1) := by decide +kernel
theorem dX2_setCrowd_6 : decode cX2_setCrowd 6 = .ok (.iastore, 1) := by decide +kernel
theorem dX2_setCrowd_7 : decode cX2_setCrowd 7 = .ok (.aload_n 0, 1) := by decide +kernel
theorem dX2_setCrowd_8 : decode cX2_setCrowd 8 = .ok (.invokevirtual 54, 3) := by decide +kernel
theorem dX2_setCrowd_11 : decode cX2_setCrowd 11 = .ok (.return_, 1) := by decide +kernel
def w_X2_setCrowd (Q : gS → Prop) (σ : gS) (a1 : Int32) (a2 : Int32) : Prop :=
    vp_in a1 8 ∧ ∀ s2 : gS, s2 = gu σ 23 a1.toNatClampNeg a2 → w_X2_noteChange  (fun (s3 : gS) => Q s3) s2
abbrev ws_X2_setCrowd : List Cond := Cond.code yX2_setCrowd cX2_setCrowd 3 none :: gG
abbrev rm_X2_setCrowd : Room := { frames := 1, cells := 0, slots := 0, locals := 20 }
theorem k_X2_setCrowd : gCV yX2_setCrowd RX2 cX2_setCrowd 3 none 2 := ⟨gw_3_213, gw_3_214, gw_1_6, gw_3_215, rfl, by decide +kernel⟩
set_option maxHeartbeats 4000000 in
set_option maxRecDepth 100000 in
theorem c_X2_setCrowd (l : Launch) (D : va_G) (cy : Nat → ClassId) (ad : Nat → Nat) (A : Nat → Prop) (Q : gS → Prop) (σ : gS) (a1 : Int32) (a2 : Int32) (h : w_X2_setCrowd Q σ a1 a2) : Met l yX2_setCrowd ws_X2_setCrowd rm_X2_setCrowd (va_Pc [.ref (ad 4), .int a1, .int a2] (gB D cy ad A σ)) (va_Qv Q (gB D cy ad A) A) 0 0 A := by
  refine Met.ofW (cc := cX2_setCrowd) (maxL := 3) (ret := none) (by decide) rfl ?_
  intro p e s m args below meth c s₁ B hml hv
  obtain ⟨rfl, hB⟩ := hv
  have hC : gC p c cX2_setCrowd s m ([.ref (ad 4), .int a1, .int a2] : List Value).toArray RX2 D cy ad A := g_start B hB
  have hI := g_first hB
  have hx := hC.1
  have hb := hC.2.1
  have hr := B.returns
  have hlocks := B.notSynchronized
  clear B hB
  have hl := lv_entry ([.ref (ad 4), .int a1, .int a2]) (n := 3) (Nat.le_of_ble_eq_true rfl)
  rw [lg_entry_eq]
  generalize (lg_sl ([.ref (ad 4), .int a1, .int a2]) ++ List.replicate (3 - (lg_sl ([.ref (ad 4), .int a1, .int a2])).length) Slot.unset).toArray = ls at hl ⊢
  have hl : lv_has ls 3 [(0, .ref (ad 4)), (1, .int a1), (2, .int a2)] := hl
  unfold w_X2_setCrowd at h
  refine lv_aload_n hx hb dX2_setCrowd_0 rfl (lv_at hl 0 rfl) ?_
  refine gg_X2_crowds hC hI gw_1_140 dX2_setCrowd_1 ?_
  refine lv_iload_n hx hb dX2_setCrowd_4 rfl (lv_at hl 1 rfl) ?_
  refine lv_iload_n hx hb dX2_setCrowd_5 rfl (lv_at hl 2 rfl) ?_
  obtain ⟨hi1, h⟩ := h
  refine gs_22 hC hI hi1 dX2_setCrowd_6 (fun s2 H locs es2 hI => ?_)
  have h := h s2 es2
  refine lv_aload_n hx hb dX2_setCrowd_7 rfl (lv_at hl 0 rfl) ?_
  refine g_backv hI (g_runV (As := []) (rest := []) hC hml hI (c_X2_noteChange l D cy ad A _  _ h) k_X2_noteChange gw_3_201 ⟨rfl, rfl⟩ ⟨Nat.le_of_ble_eq_true rfl, Nat.le_of_ble_eq_true rfl⟩ (grv_4 hC hI) rfl hl.1 rfl (Nat.le_of_ble_eq_true rfl) dX2_setCrowd_8 ⟨Nat.le_of_ble_eq_true rfl, Nat.le_of_ble_eq_true rfl⟩) (fun s3 H locs h hI => ?_)
  exact g_vret hC hr hlocks hI h dX2_setCrowd_11

theorem dX2_setClosed_0 : decode cX2_setClosed 0 = .ok (.aload_n 0, 1) := by decide +kernel
theorem dX2_setClosed_1 : decode cX2_setClosed 1 = .ok (.getfield 18, 3) := by decide +kernel
theorem dX2_setClosed_4 : decode cX2_setClosed 4 = .ok (.iload_n 1, 1) := by decide +kernel
theorem dX2_setClosed_5 : decode cX2_setClosed 5 = .ok (.baload, 1) := by decide +kernel
theorem dX2_setClosed_6 : decode cX2_setClosed 6 = .ok (.iload_n 2, 1) := by decide +kernel
theorem dX2_setClosed_7 : decode cX2_setClosed 7 = .ok (.if_icmp .ne 5, 3) := by decide +kernel
theorem dX2_setClosed_10 : decode cX2_setClosed 10 = .ok (.iconst 0, 1) := by decide +kernel
theorem dX2_setClosed_11 : decode cX2_setClosed 11 = .ok (.ireturn, 1) := by decide +kernel
theorem dX2_setClosed_12 : decode cX2_setClosed 12 = .ok (.aload_n 0, 1) := by decide +kernel
theorem dX2_setClosed_13 : decode cX2_setClosed 13 = .ok (.getfield 18, 3) := by decide +kernel
theorem dX2_setClosed_16 : decode cX2_setClosed 16 = .ok (.iload_n 1, 1) := by decide +kernel
theorem dX2_setClosed_17 : decode cX2_setClosed 17 = .ok (.iload_n 2, 1) := by decide +kernel
theorem dX2_setClosed_18 : decode cX2_setClosed 18 = .ok (.bastore, 1) := by decide +kernel
theorem dX2_setClosed_19 : decode cX2_setClosed 19 = .ok (.aload_n 0, 1) := by decide +kernel
theorem dX2_setClosed_20 : decode cX2_setClosed 20 = .ok (.invokevirtual 54, 3) := by decide +kernel
theorem dX2_setClosed_23 : decode cX2_setClosed 23 = .ok (.iconst 1, 1) := by decide +kernel
theorem dX2_setClosed_24 : decode cX2_setClosed 24 = .ok (.ireturn, 1) := by decide +kernel
def w_X2_setClosed (Q : Int32 → gS → Prop) (σ : gS) (a1 : Int32) (a2 : Int32) : Prop :=
    vp_in a1 8 ∧ (¬ (σ 25 a1.toNatClampNeg) = a2 → vp_in a1 8 ∧ ∀ s5 : gS, s5 = gu σ 25 a1.toNatClampNeg (vp_nar .boolean a2) → w_X2_noteChange  (fun (s6 : gS) => Q 1 s6) s5) ∧ ((σ 25 a1.toNatClampNeg) = a2 → Q 0 σ)
abbrev ws_X2_setClosed : List Cond := Cond.code yX2_setClosed cX2_setClosed 3 (some .boolean) :: gG
abbrev rm_X2_setClosed : Room := { frames := 1, cells := 0, slots := 0, locals := 20 }
theorem k_X2_setClosed : gCV yX2_setClosed RX2 cX2_setClosed 3 (some .boolean) 2 := ⟨gw_3_224, gw_3_225, gw_1_6, gw_3_226, rfl, by decide +kernel⟩
set_option maxHeartbeats 4000000 in
set_option maxRecDepth 100000 in
theorem c_X2_setClosed (l : Launch) (D : va_G) (cy : Nat → ClassId) (ad : Nat → Nat) (A : Nat → Prop) (Q : Int32 → gS → Prop) (σ : gS) (a1 : Int32) (a2 : Int32) (h : w_X2_setClosed Q σ a1 a2) : Met l yX2_setClosed ws_X2_setClosed rm_X2_setClosed (va_Pc [.ref (ad 4), .int a1, .int a2] (gB D cy ad A σ)) (va_Qi Q (gB D cy ad A) A) 0 0 A := by
  refine Met.ofW (cc := cX2_setClosed) (maxL := 3) (ret := (some .boolean)) (by decide) rfl ?_
  intro p e s m args below meth c s₁ B hml hv
  obtain ⟨rfl, hB⟩ := hv
  have hC : gC p c cX2_setClosed s m ([.ref (ad 4), .int a1, .int a2] : List Value).toArray RX2 D cy ad A := g_start B hB
  have hI := g_first hB
  have hx := hC.1
  have hb := hC.2.1
  have hr := B.returns
  have hlocks := B.notSynchronized
  clear B hB
  have hl := lv_entry ([.ref (ad 4), .int a1, .int a2]) (n := 3) (Nat.le_of_ble_eq_true rfl)
  rw [lg_entry_eq]
  generalize (lg_sl ([.ref (ad 4), .int a1, .int a2]) ++ List.replicate (3 - (lg_sl ([.ref (ad 4), .int a1, .int a2])).length) Slot.unset).toArray = ls at hl ⊢
  have hl : lv_has ls 3 [(0, .ref (ad 4)), (1, .int a1), (2, .int a2)] := hl
  unfold w_X2_setClosed at h
  refine lv_aload_n hx hb dX2_setClosed_0 rfl (lv_at hl 0 rfl) ?_
  refine gg_X2_closed hC hI gw_1_144 dX2_setClosed_1 ?_
  refine lv_iload_n hx hb dX2_setClosed_4 rfl (lv_at hl 1 rfl) ?_
  obtain ⟨hi2, h⟩ := h
  refine ga_24 hC hI hi2 dX2_setClosed_5 ?_
  refine lv_iload_n hx hb dX2_setClosed_6 rfl (lv_at hl 2 rfl) ?_
  refine lv_icmp_ne (tgt := 12) hx hb dX2_setClosed_7 (by decide) (fun c3 => ?_) (fun c3 => ?_)
  · have h := h.1 c3
    refine lv_aload_n hx hb dX2_setClosed_12 rfl (lv_at hl 0 rfl) ?_
    refine gg_X2_closed hC hI gw_1_144 dX2_setClosed_13 ?_
    refine lv_iload_n hx hb dX2_setClosed_16 rfl (lv_at hl 1 rfl) ?_
    refine lv_iload_n hx hb dX2_setClosed_17 rfl (lv_at hl 2 rfl) ?_
    obtain ⟨hi4, h⟩ := h
    refine gs_24 hC hI hi4 dX2_setClosed_18 (fun s5 H locs es5 hI => ?_)
    have h := h s5 es5
    refine lv_aload_n hx hb dX2_setClosed_19 rfl (lv_at hl 0 rfl) ?_
    refine g_backv hI (g_runV (As := []) (rest := []) hC hml hI (c_X2_noteChange l D cy ad A _  _ h) k_X2_noteChange gw_3_201 ⟨rfl, rfl⟩ ⟨Nat.le_of_ble_eq_true rfl, Nat.le_of_ble_eq_true rfl⟩ (grv_4 hC hI) rfl hl.1 rfl (Nat.le_of_ble_eq_true rfl) dX2_setClosed_20 ⟨Nat.le_of_ble_eq_true rfl, Nat.le_of_ble_eq_true rfl⟩) (fun s6 H locs h hI => ?_)
    refine lv_iconst (v := 1) hx hb dX2_setClosed_23 (by decide) ?_
    exact g_zret hC hr hlocks rfl hI h dX2_setClosed_24
  · have h := h.2 c3
    refine lv_iconst (v := 0) hx hb dX2_setClosed_10 (by decide) ?_
    exact g_zret hC hr hlocks rfl hI h dX2_setClosed_11

theorem dX2_addArc_0 : decode cX2_addArc 0 = .ok (.aload_n 0, 1) := by decide +kernel
theorem dX2_addArc_1 : decode cX2_addArc 1 = .ok (.getfield 22, 3) := by decide +kernel
theorem dX2_addArc_4 : decode cX2_addArc 4 = .ok (.iload_n 1, 1) := by decide +kernel
theorem dX2_addArc_5 : decode cX2_addArc 5 = .ok (.iload_n 3, 1) := by decide +kernel
theorem dX2_addArc_6 : decode cX2_addArc 6 = .ok (.iastore, 1) := by decide +kernel
theorem dX2_addArc_7 : decode cX2_addArc 7 = .ok (.aload_n 0, 1) := by decide +kernel
theorem dX2_addArc_8 : decode cX2_addArc 8 = .ok (.getfield 25, 3) := by decide +kernel
theorem dX2_addArc_11 : decode cX2_addArc 11 = .ok (.iload_n 1, 1) := by decide +kernel
theorem dX2_addArc_12 : decode cX2_addArc 12 = .ok (.iload 4, 2) := by decide +kernel
theorem dX2_addArc_14 : decode cX2_addArc 14 = .ok (.iastore, 1) := by decide +kernel
theorem dX2_addArc_15 : decode cX2_addArc 15 = .ok (.aload_n 0, 1) := by decide +kernel
theorem dX2_addArc_16 : decode cX2_addArc 16 = .ok (.getfield 28, 3) := by decide +kernel
theorem dX2_addArc_19 : decode cX2_addArc 19 = .ok (.iload_n 1, 1) := by decide +kernel
theorem dX2_addArc_20 : decode cX2_addArc 20 = .ok (.iload 5, 2) := by decide +kernel
theorem dX2_addArc_22 : decode cX2_addArc 22 = .ok (.iastore, 1) := by decide +kernel
theorem dX2_addArc_23 : decode cX2_addArc 23 = .ok (.aload_n 0, 1) := by decide +kernel
theorem dX2_addArc_24 : decode cX2_addArc 24 = .ok (.getfield 34, 3) := by decide +kernel
theorem dX2_addArc_27 : decode cX2_addArc 27 = .ok (.iload_n 2, 1) := by decide +kernel
theorem dX2_addArc_28 : decode cX2_addArc 28 = .ok (.iaload, 1) := by decide +kernel
theorem dX2_addArc_29 : decode cX2_addArc 29 = .ok (.istore 6, 2) := by decide +kernel
theorem dX2_addArc_31 : decode cX2_addArc 31 = .ok (.iload 6, 2) := by decide +kernel
theorem dX2_addArc_33 : decode cX2_addArc 33 = .ok (.bipush 14, 2) := by decide +kernel
theorem dX2_addArc_35 : decode cX2_addArc 35 = .ok (.if_icmp .ge 26, 3) := by decide +kernel
theorem dX2_addArc_38 : decode cX2_addArc 38 = .ok (.aload_n 0, 1) := by decide +kernel
theorem dX2_addArc_39 : decode cX2_addArc 39 = .ok (.getfield 31, 3) := by decide +kernel
theorem dX2_addArc_42 : decode cX2_addArc 42 = .ok (.bipush 14, 2) := by decide +kernel
theorem dX2_addArc_44 : decode cX2_addArc 44 = .ok (.iload_n 2, 1) := by decide +kernel
theorem dX2_addArc_45 : decode cX2_addArc 45 = .ok (.imul, 1) := by decide +kernel
theorem dX2_addArc_46 : decode cX2_addArc 46 = .ok (.iload 6, 2) := by decide +kernel
theorem dX2_addArc_48 : decode cX2_addArc 48 = .ok (.iadd, 1) := by decide +kernel
theorem dX2_addArc_49 : decode cX2_addArc 49 = .ok (.iload_n 1, 1) := by decide +kernel
theorem dX2_addArc_50 : decode cX2_addArc 50 = .ok (.iastore, 1) := by decide +kernel
theorem dX2_addArc_51 : decode cX2_addArc 51 = .ok (.aload_n 0, 1) := by decide +kernel
theorem dX2_addArc_52 : decode cX2_addArc 52 = .ok (.getfield 34, 3) := by decide +kernel
theorem dX2_addArc_55 : decode cX2_addArc 55 = .ok (.iload_n 2, 1) := by decide +kernel
theorem dX2_addArc_56 : decode cX2_addArc 56 = .ok (.iload 6, 2) := by decide +kernel
theorem dX2_addArc_58 : decode cX2_addArc 58 = .ok (.iconst 1, 1) := by decide +kernel
theorem dX2_addArc_59 : decode cX2_addArc 59 = .ok (.iadd, 1) := by decide +kernel
theorem dX2_addArc_60 : decode cX2_addArc 60 = .ok (.iastore, 1) := by decide +kernel
theorem dX2_addArc_61 : decode cX2_addArc 61 = .ok (.return_, 1) := by decide +kernel
def w_X2_addArc (Q : gS → Prop) (σ : gS) (a1 : Int32) (a2 : Int32) (a3 : Int32) (a4 : Int32) (a5 : Int32) : Prop :=
    vp_in a1 28 ∧ ∀ s3 : gS, s3 = gu σ 27 a1.toNatClampNeg a3 → vp_in a1 28 ∧ ∀ s5 : gS, s5 = gu s3 28 a1.toNatClampNeg a4 → vp_in a1 28 ∧ ∀ s7 : gS, s7 = gu s5 29 a1.toNatClampNeg a5 → vp_in a2 8 ∧ ∀ y9 : Int32, y9 = (s7 32 a2.toNatClampNeg) → (14 ≤ y9 → Q s7) ∧ (¬ 14 ≤ y9 → vp_in ((14 * a2) + y9) 112 ∧ ∀ s12 : gS, s12 = gu s7 31 ((14 * a2) + y9).toNatClampNeg a1 → vp_in a2 8 ∧ ∀ s14 : gS, s14 = gu s12 32 a2.toNatClampNeg (y9 + 1) → Q s14)
abbrev ws_X2_addArc : List Cond := Cond.code yX2_addArc cX2_addArc 7 none :: gG
abbrev rm_X2_addArc : Room := { frames := 0, cells := 0, slots := 0, locals := 0 }
theorem k_X2_addArc : gCV yX2_addArc RX2 cX2_addArc 7 none 5 := ⟨gw_4_0, gwp_24, gw_1_6, gw_4_1, rfl, by decide +kernel⟩
set_option maxHeartbeats 4000000 in
set_option maxRecDepth 100000 in
theorem c_X2_addArc (l : Launch) (D : va_G) (cy : Nat → ClassId) (ad : Nat → Nat) (A : Nat → Prop) (Q : gS → Prop) (σ : gS) (a1 : Int32) (a2 : Int32) (a3 : Int32) (a4 : Int32) (a5 : Int32) (h : w_X2_addArc Q σ a1 a2 a3 a4 a5) : Met l yX2_addArc ws_X2_addArc rm_X2_addArc (va_Pc [.ref (ad 4), .int a1, .int a2, .int a3, .int a4, .int a5] (gB D cy ad A σ)) (va_Qv Q (gB D cy ad A) A) 0 0 A := by
  refine Met.ofW (cc := cX2_addArc) (maxL := 7) (ret := none) (by decide) rfl ?_
  intro p e s m args below meth c s₁ B hml hv
  obtain ⟨rfl, hB⟩ := hv
  have hC : gC p c cX2_addArc s m ([.ref (ad 4), .int a1, .int a2, .int a3, .int a4, .int a5] : List Value).toArray RX2 D cy ad A := g_start B hB
  have hI := g_first hB
  have hx := hC.1
  have hb := hC.2.1
  have hr := B.returns
  have hlocks := B.notSynchronized
  clear B hB
  have hl := lv_entry ([.ref (ad 4), .int a1, .int a2, .int a3, .int a4, .int a5]) (n := 7) (Nat.le_of_ble_eq_true rfl)
  rw [lg_entry_eq]
  generalize (lg_sl ([.ref (ad 4), .int a1, .int a2, .int a3, .int a4, .int a5]) ++ List.replicate (7 - (lg_sl ([.ref (ad 4), .int a1, .int a2, .int a3, .int a4, .int a5])).length) Slot.unset).toArray = ls at hl ⊢
  have hl : lv_has ls 7 [(0, .ref (ad 4)), (1, .int a1), (2, .int a2), (3, .int a3), (4, .int a4), (5, .int a5)] := hl
  unfold w_X2_addArc at h
  refine lv_aload_n hx hb dX2_addArc_0 rfl (lv_at hl 0 rfl) ?_
  refine gg_X2_heads hC hI gw_1_148 dX2_addArc_1 ?_
  refine lv_iload_n hx hb dX2_addArc_4 rfl (lv_at hl 1 rfl) ?_
  refine lv_iload_n hx hb dX2_addArc_5 rfl (lv_at hl 3 rfl) ?_
  obtain ⟨hi2, h⟩ := h
  refine gs_25 hC hI hi2 dX2_addArc_6 (fun s3 H locs es3 hI => ?_)
  have h := h s3 es3
  refine lv_aload_n hx hb dX2_addArc_7 rfl (lv_at hl 0 rfl) ?_
  refine gg_X2_lengths hC hI gw_1_150 dX2_addArc_8 ?_
  refine lv_iload_n hx hb dX2_addArc_11 rfl (lv_at hl 1 rfl) ?_
  refine lv_iload hx hb dX2_addArc_12 (lv_at hl 4 rfl) ?_
  obtain ⟨hi4, h⟩ := h
  refine gs_26 hC hI hi4 dX2_addArc_14 (fun s5 H locs es5 hI => ?_)
  have h := h s5 es5
  refine lv_aload_n hx hb dX2_addArc_15 rfl (lv_at hl 0 rfl) ?_
  refine gg_X2_wides hC hI gw_1_152 dX2_addArc_16 ?_
  refine lv_iload_n hx hb dX2_addArc_19 rfl (lv_at hl 1 rfl) ?_
  refine lv_iload hx hb dX2_addArc_20 (lv_at hl 5 rfl) ?_
  obtain ⟨hi6, h⟩ := h
  refine gs_27 hC hI hi6 dX2_addArc_22 (fun s7 H locs es7 hI => ?_)
  have h := h s7 es7
  refine lv_aload_n hx hb dX2_addArc_23 rfl (lv_at hl 0 rfl) ?_
  refine gg_X2_arcCounts hC hI gw_1_159 dX2_addArc_24 ?_
  refine lv_iload_n hx hb dX2_addArc_27 rfl (lv_at hl 2 rfl) ?_
  obtain ⟨hi8, h⟩ := h
  refine ga_29 hC hI hi8 dX2_addArc_28 ?_
  refine lv_topi (fun y9 ey9 => ?_)
  have h := h y9 ey9
  refine lv_istore (lv' := [(6, .int y9), (0, .ref (ad 4)), (1, .int a1), (2, .int a2), (3, .int a3), (4, .int a4), (5, .int a5)]) hx hb dX2_addArc_29 hl (by decide) rfl (fun ls hl => ?_)
  refine lv_iload hx hb dX2_addArc_31 (lv_at hl 0 rfl) ?_
  refine lv_bipush (v := 14) hx hb dX2_addArc_33 (by decide) ?_
  refine lv_icmp_ge (tgt := 61) hx hb dX2_addArc_35 (by decide) (fun c10 => ?_) (fun c10 => ?_)
  · have h := h.1 c10
    exact g_vret hC hr hlocks hI h dX2_addArc_61
  · have h := h.2 c10
    refine lv_aload_n hx hb dX2_addArc_38 rfl (lv_at hl 1 rfl) ?_
    refine gg_X2_arcsFrom hC hI gw_1_157 dX2_addArc_39 ?_
    refine lv_bipush (v := 14) hx hb dX2_addArc_42 (by decide) ?_
    refine lv_iload_n hx hb dX2_addArc_44 rfl (lv_at hl 3 rfl) ?_
    refine lv_imul hx hb dX2_addArc_45 ?_
    refine lv_iload hx hb dX2_addArc_46 (lv_at hl 0 rfl) ?_
    refine lv_iadd hx hb dX2_addArc_48 ?_
    refine lv_iload_n hx hb dX2_addArc_49 rfl (lv_at hl 2 rfl) ?_
    obtain ⟨hi11, h⟩ := h
    refine gs_28 hC hI hi11 dX2_addArc_50 (fun s12 H locs es12 hI => ?_)
    have h := h s12 es12
    refine lv_aload_n hx hb dX2_addArc_51 rfl (lv_at hl 1 rfl) ?_
    refine gg_X2_arcCounts hC hI gw_1_159 dX2_addArc_52 ?_
    refine lv_iload_n hx hb dX2_addArc_55 rfl (lv_at hl 3 rfl) ?_
    refine lv_iload hx hb dX2_addArc_56 (lv_at hl 0 rfl) ?_
    refine lv_iconst (v := 1) hx hb dX2_addArc_58 (by decide) ?_
    refine lv_iadd hx hb dX2_addArc_59 ?_
    obtain ⟨hi13, h⟩ := h
    refine gs_29 hC hI hi13 dX2_addArc_60 (fun s14 H locs es14 hI => ?_)
    have h := h s14 es14
    exact g_vret hC hr hlocks hI h dX2_addArc_61

theorem dX2_addWay_0 : decode cX2_addWay 0 = .ok (.aload_n 0, 1) := by decide +kernel
theorem dX2_addWay_1 : decode cX2_addWay 1 = .ok (.getfield 57, 3) := by decide +kernel
theorem dX2_addWay_4 : decode cX2_addWay 4 = .ok (.bipush 14, 2) := by decide +kernel
theorem dX2_addWay_6 : decode cX2_addWay 6 = .ok (.if_icmp .lt 5, 3) := by decide +kernel
theorem dX2_addWay_9 : decode cX2_addWay 9 = .ok (.iconst (-1), 1) := by decide +kernel
theorem dX2_addWay_10 : decode cX2_addWay 10 = .ok (.ireturn, 1) := by decide +kernel
theorem dX2_addWay_11 : decode cX2_addWay 11 = .ok (.aload_n 0, 1) := by decide +kernel
theorem dX2_addWay_12 : decode cX2_addWay 12 = .ok (.iconst 2, 1) := by decide +kernel
theorem dX2_addWay_13 : decode cX2_addWay 13 = .ok (.aload_n 0, 1) := by decide +kernel
theorem dX2_addWay_14 : decode cX2_addWay 14 = .ok (.getfield 57, 3) := by decide +kernel
theorem dX2_addWay_17 : decode cX2_addWay 17 = .ok (.imul, 1) := by decide +kernel
theorem dX2_addWay_18 : decode cX2_addWay 18 = .ok (.iload_n 1, 1) := by decide +kernel
theorem dX2_addWay_19 : decode cX2_addWay 19 = .ok (.iload_n 2, 1) := by decide +kernel
theorem dX2_addWay_20 : decode cX2_addWay 20 = .ok (.iload_n 3, 1) := by decide +kernel
theorem dX2_addWay_21 : decode cX2_addWay 21 = .ok (.iload 4, 2) := by decide +kernel
theorem dX2_addWay_23 : decode cX2_addWay 23 = .ok (.invokevirtual 60, 3) := by decide +kernel
theorem dX2_addWay_26 : decode cX2_addWay 26 = .ok (.aload_n 0, 1) := by decide +kernel
theorem dX2_addWay_27 : decode cX2_addWay 27 = .ok (.iconst 2, 1) := by decide +kernel
theorem dX2_addWay_28 : decode cX2_addWay 28 = .ok (.aload_n 0, 1) := by decide +kernel
theorem dX2_addWay_29 : decode cX2_addWay 29 = .ok (.getfield 57, 3) := by decide +kernel
theorem dX2_addWay_32 : decode cX2_addWay 32 = .ok (.imul, 1) := by decide +kernel
theorem dX2_addWay_33 : decode cX2_addWay 33 = .ok (.iconst 1, 1) := by decide +kernel
theorem dX2_addWay_34 : decode cX2_addWay 34 = .ok (.iadd, 1) := by decide +kernel
theorem dX2_addWay_35 : decode cX2_addWay 35 = .ok (.iload_n 2, 1) := by decide +kernel
theorem dX2_addWay_36 : decode cX2_addWay 36 = .ok (.iload_n 1, 1) := by decide +kernel
theorem dX2_addWay_37 : decode cX2_addWay 37 = .ok (.iload_n 3, 1) := by decide +kernel
theorem dX2_addWay_38 : decode cX2_addWay 38 = .ok (.iload 4, 2) := by decide +kernel
theorem dX2_addWay_40 : decode cX2_addWay 40 = .ok (.invokevirtual 60, 3) := by decide +kernel
theorem dX2_addWay_43 : decode cX2_addWay 43 = .ok (.aload_n 0, 1) := by decide +kernel
theorem dX2_addWay_44 : decode cX2_addWay 44 = .ok (.dup, 1) := by decide +kernel
theorem dX2_addWay_45 : decode cX2_addWay 45 = .ok (.getfield 57, 3) := by decide +kernel
theorem dX2_addWay_48 : decode cX2_addWay 48 = .ok (.iconst 1, 1) := by decide +kernel
theorem dX2_addWay_49 : decode cX2_addWay 49 = .ok (.iadd, 1) := by decide +kernel
theorem dX2_addWay_50 : decode cX2_addWay 50 = .ok (.putfield 57, 3) := by decide +kernel
theorem dX2_addWay_53 : decode cX2_addWay 53 = .ok (.aload_n 0, 1) := by decide +kernel
theorem dX2_addWay_54 : decode cX2_addWay 54 = .ok (.invokevirtual 54, 3) := by decide +kernel
theorem dX2_addWay_57 : decode cX2_addWay 57 = .ok (.aload_n 0, 1) := by decide +kernel
theorem dX2_addWay_58 : decode cX2_addWay 58 = .ok (.getfield 57, 3) := by decide +kernel
theorem dX2_addWay_61 : decode cX2_addWay 61 = .ok (.iconst 1, 1) := by decide +kernel
theorem dX2_addWay_62 : decode cX2_addWay 62 = .ok (.isub, 1) := by decide +kernel
theorem dX2_addWay_63 : decode cX2_addWay 63 = .ok (.ireturn, 1) := by decide +kernel
def w_X2_addWay (Q : Int32 → gS → Prop) (σ : gS) (a1 : Int32) (a2 : Int32) (a3 : Int32) (a4 : Int32) : Prop :=
    ((σ 30 0) < 14 → w_X2_addArc  (fun (s2 : gS) => w_X2_addArc  (fun (s4 : gS) => ∀ s6 : gS, s6 = gu s4 30 0 ((s4 30 0) + 1) → w_X2_noteChange  (fun (s7 : gS) => Q ((s7 30 0) - 1) s7) s6) s2 ((2 * (s2 30 0)) + 1) a2 a1 a3 a4) σ (2 * (σ 30 0)) a1 a2 a3 a4) ∧ (¬ (σ 30 0) < 14 → Q (-1) σ)
abbrev ws_X2_addWay : List Cond := Cond.code yX2_addWay cX2_addWay 5 (some .int) :: gG
abbrev rm_X2_addWay : Room := { frames := 1, cells := 0, slots := 0, locals := 26 }
theorem k_X2_addWay : gCV yX2_addWay RX2 cX2_addWay 5 (some .int) 4 := ⟨gw_3_235, gw_3_236, gw_1_6, gw_3_237, rfl, by decide +kernel⟩
set_option maxHeartbeats 4000000 in
set_option maxRecDepth 100000 in
theorem c_X2_addWay (l : Launch) (D : va_G) (cy : Nat → ClassId) (ad : Nat → Nat) (A : Nat → Prop) (Q : Int32 → gS → Prop) (σ : gS) (a1 : Int32) (a2 : Int32) (a3 : Int32) (a4 : Int32) (h : w_X2_addWay Q σ a1 a2 a3 a4) : Met l yX2_addWay ws_X2_addWay rm_X2_addWay (va_Pc [.ref (ad 4), .int a1, .int a2, .int a3, .int a4] (gB D cy ad A σ)) (va_Qi Q (gB D cy ad A) A) 0 0 A := by
  refine Met.ofW (cc := cX2_addWay) (maxL := 5) (ret := (some .int)) (by decide) rfl ?_
  intro p e s m args below meth c s₁ B hml hv
  obtain ⟨rfl, hB⟩ := hv
  have hC : gC p c cX2_addWay s m ([.ref (ad 4), .int a1, .int a2, .int a3, .int a4] : List Value).toArray RX2 D cy ad A := g_start B hB
  have hI := g_first hB
  have hx := hC.1
  have hb := hC.2.1
  have hr := B.returns
  have hlocks := B.notSynchronized
  clear B hB
  have hl := lv_entry ([.ref (ad 4), .int a1, .int a2, .int a3, .int a4]) (n := 5) (Nat.le_of_ble_eq_true rfl)
  rw [lg_entry_eq]
  generalize (lg_sl ([.ref (ad 4), .int a1, .int a2, .int a3, .int a4]) ++ List.replicate (5 - (lg_sl ([.ref (ad 4), .int a1, .int a2, .int a3, .int a4])).length) Slot.unset).toArray = ls at hl ⊢
  have hl : lv_has ls 5 [(0, .ref (ad 4)), (1, .int a1), (2, .int a2), (3, .int a3), (4, .int a4)] := hl
  unfold w_X2_addWay at h
  refine lv_aload_n hx hb dX2_addWay_0 rfl (lv_at hl 0 rfl) ?_
  refine gg_X2_ways hC hI gw_1_155 dX2_addWay_1 ?_
  refine lv_bipush (v := 14) hx hb dX2_addWay_4 (by decide) ?_
  refine lv_icmp_lt (tgt := 11) hx hb dX2_addWay_6 (by decide) (fun c1 => ?_) (fun c1 => ?_)
  · have h := h.1 c1
    refine lv_aload_n hx hb dX2_addWay_11 rfl (lv_at hl 0 rfl) ?_
    refine lv_iconst (v := 2) hx hb dX2_addWay_12 (by decide) ?_
    refine lv_aload_n hx hb dX2_addWay_13 rfl (lv_at hl 0 rfl) ?_
    refine gg_X2_ways hC hI gw_1_155 dX2_addWay_14 ?_
    refine lv_imul hx hb dX2_addWay_17 ?_
    refine lv_iload_n hx hb dX2_addWay_18 rfl (lv_at hl 1 rfl) ?_
    refine lv_iload_n hx hb dX2_addWay_19 rfl (lv_at hl 2 rfl) ?_
    refine lv_iload_n hx hb dX2_addWay_20 rfl (lv_at hl 3 rfl) ?_
    refine lv_iload hx hb dX2_addWay_21 (lv_at hl 4 rfl) ?_
    refine g_backv hI (g_runV (As := [.int (2 * (σ 30 0)), .int a1, .int a2, .int a3, .int a4]) (rest := []) hC hml hI (c_X2_addArc l D cy ad A _  _ _ _ _ _ _ h) k_X2_addArc gw_3_238 ⟨rfl, rfl⟩ ⟨Nat.le_of_ble_eq_true rfl, Nat.le_of_ble_eq_true rfl⟩ (grv_4 hC hI) rfl hl.1 rfl (Nat.le_of_ble_eq_true rfl) dX2_addWay_23 ⟨Nat.le_of_ble_eq_true rfl, Nat.le_of_ble_eq_true rfl⟩) (fun s2 H locs h hI => ?_)
    refine lv_aload_n hx hb dX2_addWay_26 rfl (lv_at hl 0 rfl) ?_
    refine lv_iconst (v := 2) hx hb dX2_addWay_27 (by decide) ?_
    refine lv_aload_n hx hb dX2_addWay_28 rfl (lv_at hl 0 rfl) ?_
    refine gg_X2_ways hC hI gw_1_155 dX2_addWay_29 ?_
    refine lv_imul hx hb dX2_addWay_32 ?_
    refine lv_iconst (v := 1) hx hb dX2_addWay_33 (by decide) ?_
    refine lv_iadd hx hb dX2_addWay_34 ?_
    refine lv_iload_n hx hb dX2_addWay_35 rfl (lv_at hl 2 rfl) ?_
    refine lv_iload_n hx hb dX2_addWay_36 rfl (lv_at hl 1 rfl) ?_
    refine lv_iload_n hx hb dX2_addWay_37 rfl (lv_at hl 3 rfl) ?_
    refine lv_iload hx hb dX2_addWay_38 (lv_at hl 4 rfl) ?_
    refine g_backv hI (g_runV (As := [.int ((2 * (s2 30 0)) + 1), .int a2, .int a1, .int a3, .int a4]) (rest := []) hC hml hI (c_X2_addArc l D cy ad A _  _ _ _ _ _ _ h) k_X2_addArc gw_3_238 ⟨rfl, rfl⟩ ⟨Nat.le_of_ble_eq_true rfl, Nat.le_of_ble_eq_true rfl⟩ (grv_4 hC hI) rfl hl.1 rfl (Nat.le_of_ble_eq_true rfl) dX2_addWay_40 ⟨Nat.le_of_ble_eq_true rfl, Nat.le_of_ble_eq_true rfl⟩) (fun s4 H locs h hI => ?_)
    refine lv_aload_n hx hb dX2_addWay_43 rfl (lv_at hl 0 rfl) ?_
    refine lv_dup hx hb dX2_addWay_44 rfl ?_
    refine gg_X2_ways hC hI gw_1_155 dX2_addWay_45 ?_
    refine lv_iconst (v := 1) hx hb dX2_addWay_48 (by decide) ?_
    refine lv_iadd hx hb dX2_addWay_49 ?_
    refine gp_X2_ways hC hI gw_1_155 dX2_addWay_50 (fun s6 H locs es6 hI => ?_)
    have h := h s6 es6
    refine lv_aload_n hx hb dX2_addWay_53 rfl (lv_at hl 0 rfl) ?_
    refine g_backv hI (g_runV (As := []) (rest := []) hC hml hI (c_X2_noteChange l D cy ad A _  _ h) k_X2_noteChange gw_3_201 ⟨rfl, rfl⟩ ⟨Nat.le_of_ble_eq_true rfl, Nat.le_of_ble_eq_true rfl⟩ (grv_4 hC hI) rfl hl.1 rfl (Nat.le_of_ble_eq_true rfl) dX2_addWay_54 ⟨Nat.le_of_ble_eq_true rfl, Nat.le_of_ble_eq_true rfl⟩) (fun s7 H locs h hI => ?_)
    refine lv_aload_n hx hb dX2_addWay_57 rfl (lv_at hl 0 rfl) ?_
    refine gg_X2_ways hC hI gw_1_155 dX2_addWay_58 ?_
    refine lv_iconst (v := 1) hx hb dX2_addWay_61 (by decide) ?_
    refine lv_isub hx hb dX2_addWay_62 ?_
    exact g_iret hC hr hlocks hI h dX2_addWay_63
  · have h := h.2 c1
    refine lv_iconst (v := (-1)) hx hb dX2_addWay_9 (by decide) ?_
    exact g_iret hC hr hlocks hI h dX2_addWay_10

theorem dX2_allCrowd_0 : decode cX2_allCrowd 0 = .ok (.iconst 0, 1) := by decide +kernel
theorem dX2_allCrowd_1 : decode cX2_allCrowd 1 = .ok (.istore_n 1, 1) := by decide +kernel
theorem dX2_allCrowd_2 : decode cX2_allCrowd 2 = .ok (.iconst 0, 1) := by decide +kernel
theorem dX2_allCrowd_3 : decode cX2_allCrowd 3 = .ok (.istore_n 2, 1) := by decide +kernel
theorem dX2_allCrowd_4 : decode cX2_allCrowd 4 = .ok (.iload_n 2, 1) := by decide +kernel
theorem dX2_allCrowd_5 : decode cX2_allCrowd 5 = .ok (.aload_n 0, 1) := by decide +kernel
theorem dX2_allCrowd_6 : decode cX2_allCrowd 6 = .ok (.getfield 51, 3) := by decide +kernel
theorem dX2_allCrowd_9 : decode cX2_allCrowd 9 = .ok (.if_icmp .ge 18, 3) := by decide +kernel
theorem dX2_allCrowd_12 : decode cX2_allCrowd 12 = .ok (.iload_n 1, 1) := by decide +kernel
theorem dX2_allCrowd_13 : decode cX2_allCrowd 13 = .ok (.aload_n 0, 1) := by decide +kernel
theorem dX2_allCrowd_14 : decode cX2_allCrowd 14 = .ok (.getfield 11, 3) := by decide +kernel
theorem dX2_allCrowd_17 : decode cX2_allCrowd 17 = .ok (.iload_n 2, 1) := by decide +kernel
theorem dX2_allCrowd_18 : decode cX2_allCrowd 18 = .ok (.iaload, 1) := by decide +kernel
theorem dX2_allCrowd_19 : decode cX2_allCrowd 19 = .ok (.iadd, 1) := by decide +kernel
theorem dX2_allCrowd_20 : decode cX2_allCrowd 20 = .ok (.istore_n 1, 1) := by decide +kernel
theorem dX2_allCrowd_21 : decode cX2_allCrowd 21 = .ok (.iinc 2 1, 3) := by decide +kernel
theorem dX2_allCrowd_24 : decode cX2_allCrowd 24 = .ok (.goto (-20), 3) := by decide +kernel
theorem dX2_allCrowd_27 : decode cX2_allCrowd 27 = .ok (.iload_n 1, 1) := by decide +kernel
theorem dX2_allCrowd_28 : decode cX2_allCrowd 28 = .ok (.ireturn, 1) := by decide +kernel
def w_X2_allCrowd_4 (Q : Int32 → gS → Prop) : Nat → Int32 → Int32 → gS → Prop
  | 0, _, _, _ => False
  | n4 + 1, x1, x2, σ =>
    ((σ 26 0) ≤ x2 → Q x1 σ) ∧ (¬ (σ 26 0) ≤ x2 → vp_in x2 8 ∧ ∀ y4 : Int32, y4 = (x1 + (σ 23 x2.toNatClampNeg)) → ∀ y5 : Int32, y5 = x2 + 1 → w_X2_allCrowd_4 Q n4 y4 y5 σ)
def w_X2_allCrowd (Q : Int32 → gS → Prop) (σ : gS) : Prop :=
    ∃ n4, w_X2_allCrowd_4 Q n4 0 0 σ
abbrev ws_X2_allCrowd : List Cond := Cond.code yX2_allCrowd cX2_allCrowd 3 (some .int) :: gG
abbrev rm_X2_allCrowd : Room := { frames := 0, cells := 0, slots := 0, locals := 0 }
theorem k_X2_allCrowd : gCV yX2_allCrowd RX2 cX2_allCrowd 3 (some .int) 0 := ⟨gw_3_3, gw_3_4, gw_1_6, gw_3_5, rfl, by decide +kernel⟩
set_option maxHeartbeats 4000000 in
set_option maxRecDepth 100000 in
theorem c_X2_allCrowd (l : Launch) (D : va_G) (cy : Nat → ClassId) (ad : Nat → Nat) (A : Nat → Prop) (Q : Int32 → gS → Prop) (σ : gS) (h : w_X2_allCrowd Q σ) : Met l yX2_allCrowd ws_X2_allCrowd rm_X2_allCrowd (va_Pc [.ref (ad 4)] (gB D cy ad A σ)) (va_Qi Q (gB D cy ad A) A) 0 0 A := by
  refine Met.ofW (cc := cX2_allCrowd) (maxL := 3) (ret := (some .int)) (by decide) rfl ?_
  intro p e s m args below meth c s₁ B hml hv
  obtain ⟨rfl, hB⟩ := hv
  have hC : gC p c cX2_allCrowd s m ([.ref (ad 4)] : List Value).toArray RX2 D cy ad A := g_start B hB
  have hI := g_first hB
  have hx := hC.1
  have hb := hC.2.1
  have hr := B.returns
  have hlocks := B.notSynchronized
  clear B hB
  have J4 : ∀ (n4 : Nat) (x1 : Int32) (x2 : Int32) (σ : gS) (H : Heap) (locs : List Loc) (ls : Array Slot), w_X2_allCrowd_4 Q n4 x1 x2 σ → gI D cy ad A s.heap σ H locs → lv_has ls 3 [(0, .ref (ad 4)), (1, .int x1), (2, .int x2)] → W p l e (headSpec ws_X2_allCrowd rm_X2_allCrowd).room s m ([.ref (ad 4)] : List Value).toArray below meth c H locs 0 0 (MQ below (va_Qi Q (gB D cy ad A) A) ([.ref (ad 4)] : List Value).toArray s 0 0 A) (F0 m 4 ls []) := by
    intro n4
    induction n4 with
    | zero => intro x1 x2 σ H locs ls h; exact absurd h (fun h => h)
    | succ n4 ih4 =>
      intro x1 x2 σ H locs ls h hI hl
      unfold w_X2_allCrowd_4 at h
      refine lv_iload_n hx hb dX2_allCrowd_4 rfl (lv_at hl 2 rfl) ?_
      refine lv_aload_n hx hb dX2_allCrowd_5 rfl (lv_at hl 0 rfl) ?_
      refine gg_X2_places hC hI gw_1_145 dX2_allCrowd_6 ?_
      refine lv_icmp_ge (tgt := 27) hx hb dX2_allCrowd_9 (by decide) (fun c2 => ?_) (fun c2 => ?_)
      · have h := h.1 c2
        refine lv_iload_n hx hb dX2_allCrowd_27 rfl (lv_at hl 1 rfl) ?_
        exact g_iret hC hr hlocks hI h dX2_allCrowd_28
      · have h := h.2 c2
        refine lv_iload_n hx hb dX2_allCrowd_12 rfl (lv_at hl 1 rfl) ?_
        refine lv_aload_n hx hb dX2_allCrowd_13 rfl (lv_at hl 0 rfl) ?_
        refine gg_X2_crowds hC hI gw_1_140 dX2_allCrowd_14 ?_
        refine lv_iload_n hx hb dX2_allCrowd_17 rfl (lv_at hl 2 rfl) ?_
        obtain ⟨hi3, h⟩ := h
        refine ga_22 hC hI hi3 dX2_allCrowd_18 ?_
        refine lv_iadd hx hb dX2_allCrowd_19 ?_
        refine lv_topi (fun y4 ey4 => ?_)
        have h := h y4 ey4
        refine lv_istore_n (lv' := [(1, .int y4), (0, .ref (ad 4)), (2, .int x2)]) hx hb dX2_allCrowd_20 rfl hl (by decide) rfl (fun ls hl => ?_)
        obtain ⟨y5, ey5⟩ : ∃ y : Int32, y = x2 + 1 := ⟨_, rfl⟩
        have h := h y5 ey5
        refine lv_iinc (v := y5) (lv' := [(2, .int y5), (1, .int y4), (0, .ref (ad 4))]) hx hb dX2_allCrowd_21 hl (k := 2) rfl (by rw [ey5]; rfl) (by decide) rfl (fun ls hl => ?_)
        refine lv_goto (tgt := 4) hx hb dX2_allCrowd_24 (by decide) ?_
        exact ih4 _ _ _ _ _ _ h hI (lv_sub hl [2, 1, 0] rfl)
  have hl := lv_entry ([.ref (ad 4)]) (n := 3) (Nat.le_of_ble_eq_true rfl)
  rw [lg_entry_eq]
  generalize (lg_sl ([.ref (ad 4)]) ++ List.replicate (3 - (lg_sl ([.ref (ad 4)])).length) Slot.unset).toArray = ls at hl ⊢
  have hl : lv_has ls 3 [(0, .ref (ad 4))] := hl
  unfold w_X2_allCrowd at h
  refine lv_iconst (v := 0) hx hb dX2_allCrowd_0 (by decide) ?_
  refine lv_istore_n (lv' := [(1, .int 0), (0, .ref (ad 4))]) hx hb dX2_allCrowd_1 rfl hl (by decide) rfl (fun ls hl => ?_)
  refine lv_iconst (v := 0) hx hb dX2_allCrowd_2 (by decide) ?_
  refine lv_istore_n (lv' := [(2, .int 0), (1, .int 0), (0, .ref (ad 4))]) hx hb dX2_allCrowd_3 rfl hl (by decide) rfl (fun ls hl => ?_)
  obtain ⟨n9, h⟩ := h
  exact J4 n9 _ _ _ _ _ _ h hI (lv_sub hl [2, 1, 0] rfl)

theorem dX2_isOpen_0 : decode cX2_isOpen 0 = .ok (.aload_n 0, 1) := by decide +kernel
theorem dX2_isOpen_1 : decode cX2_isOpen 1 = .ok (.getfield 15, 3) := by decide +kernel
theorem dX2_isOpen_4 : decode cX2_isOpen 4 = .ok (.iload_n 1, 1) := by decide +kernel
theorem dX2_isOpen_5 : decode cX2_isOpen 5 = .ok (.iaload, 1) := by decide +kernel
theorem dX2_isOpen_6 : decode cX2_isOpen 6 = .ok (.ifCond .le 16, 3) := by decide +kernel
theorem dX2_isOpen_9 : decode cX2_isOpen 9 = .ok (.aload_n 0, 1) := by decide +kernel
theorem dX2_isOpen_10 : decode cX2_isOpen 10 = .ok (.getfield 18, 3) := by decide +kernel
theorem dX2_isOpen_13 : decode cX2_isOpen 13 = .ok (.iload_n 1, 1) := by decide +kernel
theorem dX2_isOpen_14 : decode cX2_isOpen 14 = .ok (.baload, 1) := by decide +kernel
theorem dX2_isOpen_15 : decode cX2_isOpen 15 = .ok (.ifCond .ne 7, 3) := by decide +kernel
theorem dX2_isOpen_18 : decode cX2_isOpen 18 = .ok (.iconst 1, 1) := by decide +kernel
theorem dX2_isOpen_19 : decode cX2_isOpen 19 = .ok (.goto 4, 3) := by decide +kernel
theorem dX2_isOpen_22 : decode cX2_isOpen 22 = .ok (.iconst 0, 1) := by decide +kernel
theorem dX2_isOpen_23 : decode cX2_isOpen 23 = .ok (.ireturn, 1) := by decide +kernel
def w_X2_isOpen_22 (Q : Int32 → gS → Prop) (σ : gS) : Prop :=
    Q 0 σ
def w_X2_isOpen (Q : Int32 → gS → Prop) (σ : gS) (a1 : Int32) : Prop :=
    vp_in a1 8 ∧ ((σ 24 a1.toNatClampNeg) ≤ 0 → w_X2_isOpen_22 Q σ) ∧ (¬ (σ 24 a1.toNatClampNeg) ≤ 0 → vp_in a1 8 ∧ (¬ (σ 25 a1.toNatClampNeg) = 0 → w_X2_isOpen_22 Q σ) ∧ ((σ 25 a1.toNatClampNeg) = 0 → Q 1 σ))
abbrev ws_X2_isOpen : List Cond := Cond.code yX2_isOpen cX2_isOpen 2 (some .boolean) :: gG
abbrev rm_X2_isOpen : Room := { frames := 0, cells := 0, slots := 0, locals := 0 }
theorem k_X2_isOpen : gCV yX2_isOpen RX2 cX2_isOpen 2 (some .boolean) 1 := ⟨gw_2_117, gw_2_118, gw_1_6, gw_2_119, rfl, by decide +kernel⟩
set_option maxHeartbeats 4000000 in
set_option maxRecDepth 100000 in
theorem c_X2_isOpen (l : Launch) (D : va_G) (cy : Nat → ClassId) (ad : Nat → Nat) (A : Nat → Prop) (Q : Int32 → gS → Prop) (σ : gS) (a1 : Int32) (h : w_X2_isOpen Q σ a1) : Met l yX2_isOpen ws_X2_isOpen rm_X2_isOpen (va_Pc [.ref (ad 4), .int a1] (gB D cy ad A σ)) (va_Qi Q (gB D cy ad A) A) 0 0 A := by
  refine Met.ofW (cc := cX2_isOpen) (maxL := 2) (ret := (some .boolean)) (by decide) rfl ?_
  intro p e s m args below meth c s₁ B hml hv
  obtain ⟨rfl, hB⟩ := hv
  have hC : gC p c cX2_isOpen s m ([.ref (ad 4), .int a1] : List Value).toArray RX2 D cy ad A := g_start B hB
  have hI := g_first hB
  have hx := hC.1
  have hb := hC.2.1
  have hr := B.returns
  have hlocks := B.notSynchronized
  clear B hB
  have J22 : ∀ (σ : gS) (H : Heap) (locs : List Loc) (ls : Array Slot), w_X2_isOpen_22 Q σ → gI D cy ad A s.heap σ H locs → lv_has ls 2 [] → W p l e (headSpec ws_X2_isOpen rm_X2_isOpen).room s m ([.ref (ad 4), .int a1] : List Value).toArray below meth c H locs 0 0 (MQ below (va_Qi Q (gB D cy ad A) A) ([.ref (ad 4), .int a1] : List Value).toArray s 0 0 A) (F0 m 22 ls []) := by
    intro σ H locs ls h hI hl
    unfold w_X2_isOpen_22 at h
    refine lv_iconst (v := 0) hx hb dX2_isOpen_22 (by decide) ?_
    exact g_zret hC hr hlocks rfl hI h dX2_isOpen_23
  have hl := lv_entry ([.ref (ad 4), .int a1]) (n := 2) (Nat.le_of_ble_eq_true rfl)
  rw [lg_entry_eq]
  generalize (lg_sl ([.ref (ad 4), .int a1]) ++ List.replicate (2 - (lg_sl ([.ref (ad 4), .int a1])).length) Slot.unset).toArray = ls at hl ⊢
  have hl : lv_has ls 2 [(0, .ref (ad 4)), (1, .int a1)] := hl
  unfold w_X2_isOpen at h
  refine lv_aload_n hx hb dX2_isOpen_0 rfl (lv_at hl 0 rfl) ?_
  refine gg_X2_rates hC hI gw_1_142 dX2_isOpen_1 ?_
  refine lv_iload_n hx hb dX2_isOpen_4 rfl (lv_at hl 1 rfl) ?_
  obtain ⟨hi3, h⟩ := h
  refine ga_23 hC hI hi3 dX2_isOpen_5 ?_
  refine lv_if_le (tgt := 22) hx hb dX2_isOpen_6 (by decide) (fun c4 => ?_) (fun c4 => ?_)
  · have h := h.1 c4
    exact J22 _ _ _ _ h hI (lv_sub hl [] rfl)
  · have h := h.2 c4
    refine lv_aload_n hx hb dX2_isOpen_9 rfl (lv_at hl 0 rfl) ?_
    refine gg_X2_closed hC hI gw_1_144 dX2_isOpen_10 ?_
    refine lv_iload_n hx hb dX2_isOpen_13 rfl (lv_at hl 1 rfl) ?_
    obtain ⟨hi5, h⟩ := h
    refine ga_24 hC hI hi5 dX2_isOpen_14 ?_
    refine lv_if_ne (tgt := 22) hx hb dX2_isOpen_15 (by decide) (fun c6 => ?_) (fun c6 => ?_)
    · have h := h.1 c6
      exact J22 _ _ _ _ h hI (lv_sub hl [] rfl)
    · have h := h.2 c6
      refine lv_iconst (v := 1) hx hb dX2_isOpen_18 (by decide) ?_
      refine lv_goto (tgt := 23) hx hb dX2_isOpen_19 (by decide) ?_
      exact g_zret hC hr hlocks rfl hI h dX2_isOpen_23

theorem dJ7_fill_53178_0 : decode cJ7_fill_53178 0 = .ok (.iconst 0, 1) := by decide +kernel
theorem dJ7_fill_53178_1 : decode cJ7_fill_53178 1 = .ok (.istore_n 2, 1) := by decide +kernel
theorem dJ7_fill_53178_2 : decode cJ7_fill_53178 2 = .ok (.aload_n 0, 1) := by decide +kernel
theorem dJ7_fill_53178_3 : decode cJ7_fill_53178 3 = .ok (.arraylength, 1) := by decide +kernel
theorem dJ7_fill_53178_4 : decode cJ7_fill_53178 4 = .ok (.istore_n 3, 1) := by decide +kernel
theorem dJ7_fill_53178_5 : decode cJ7_fill_53178 5 = .ok (.iload_n 2, 1) := by decide +kernel
theorem dJ7_fill_53178_6 : decode cJ7_fill_53178 6 = .ok (.iload_n 3, 1) := by decide +kernel
theorem dJ7_fill_53178_7 : decode cJ7_fill_53178 7 = .ok (.if_icmp .ge 13, 3) := by decide +kernel
theorem dJ7_fill_53178_10 : decode cJ7_fill_53178 10 = .ok (.aload_n 0, 1) := by decide +kernel
theorem dJ7_fill_53178_11 : decode cJ7_fill_53178 11 = .ok (.iload_n 2, 1) := by decide +kernel
theorem dJ7_fill_53178_12 : decode cJ7_fill_53178 12 = .ok (.iload_n 1, 1) := by decide +kernel
theorem dJ7_fill_53178_13 : decode cJ7_fill_53178 13 = .ok (.iastore, 1) := by decide +kernel
theorem dJ7_fill_53178_14 : decode cJ7_fill_53178 14 = .ok (.iinc 2 1, 3) := by decide +kernel
theorem dJ7_fill_53178_17 : decode cJ7_fill_53178 17 = .ok (.goto (-12), 3) := by decide +kernel
theorem dJ7_fill_53178_20 : decode cJ7_fill_53178 20 = .ok (.return_, 1) := by decide +kernel
def w_J7_fill_53178_5 (Q : gS → Prop) (ka na : Nat) : Nat → Int32 → Int32 → Int32 → gS → Prop
  | 0, _, _, _, _ => False
  | n5 + 1, x1, x2, x3, σ =>
    (x3 ≤ x2 → Q σ) ∧ (¬ x3 ≤ x2 → vp_in x2 na ∧ ∀ s3 : gS, s3 = gu σ ka x2.toNatClampNeg x1 → ∀ y4 : Int32, y4 = x2 + 1 → w_J7_fill_53178_5 Q ka na n5 x1 y4 x3 s3)
def w_J7_fill_53178 (Q : gS → Prop) (ka na : Nat) (σ : gS) (a1 : Int32) : Prop :=
    ∀ y5 : Int32, y5 = (nI na) → ∃ n5, w_J7_fill_53178_5 Q ka na n5 a1 0 y5 σ
abbrev ws_J7_fill_53178 : List Cond := Cond.code yJ7_fill_53178 cJ7_fill_53178 4 none :: gG
abbrev rm_J7_fill_53178 : Room := { frames := 0, cells := 0, slots := 0, locals := 0 }
theorem k_J7_fill_53178 : gCS yJ7_fill_53178 cJ7_fill_53178 4 none 2 := ⟨gw_1_71, gw_1_5, gw_1_72, by decide +kernel⟩
set_option maxHeartbeats 4000000 in
set_option maxRecDepth 100000 in
theorem c_J7_fill_53178 (l : Launch) (D : va_G) (cy : Nat → ClassId) (ad : Nat → Nat) (A : Nat → Prop) (Q : gS → Prop) (ca ka na : Nat) (ha : gArr cy ad ca ka na) (σ : gS) (a1 : Int32) (h : w_J7_fill_53178 Q ka na σ a1) : Met l yJ7_fill_53178 ws_J7_fill_53178 rm_J7_fill_53178 (va_Pc [.ref (ad ca), .int a1] (gB D cy ad A σ)) (va_Qv Q (gB D cy ad A) A) 0 0 A := by
  refine Met.ofW (cc := cJ7_fill_53178) (maxL := 4) (ret := none) (by decide) rfl ?_
  intro p e s m args below meth c s₁ B hml hv
  obtain ⟨rfl, hB⟩ := hv
  have hC : gC p c cJ7_fill_53178 s m ([.ref (ad ca), .int a1] : List Value).toArray RJ7 D cy ad A := g_start B hB
  have hI := g_first hB
  have hx := hC.1
  have hb := hC.2.1
  have hr := B.returns
  have hlocks := B.notSynchronized
  clear B hB
  have J5 : ∀ (n5 : Nat) (x1 : Int32) (x2 : Int32) (x3 : Int32) (σ : gS) (H : Heap) (locs : List Loc) (ls : Array Slot), w_J7_fill_53178_5 Q ka na n5 x1 x2 x3 σ → gI D cy ad A s.heap σ H locs → lv_has ls 4 [(0, .ref (ad ca)), (1, .int x1), (2, .int x2), (3, .int x3)] → W p l e (headSpec ws_J7_fill_53178 rm_J7_fill_53178).room s m ([.ref (ad ca), .int a1] : List Value).toArray below meth c H locs 0 0 (MQ below (va_Qv Q (gB D cy ad A) A) ([.ref (ad ca), .int a1] : List Value).toArray s 0 0 A) (F0 m 5 ls []) := by
    intro n5
    induction n5 with
    | zero => intro x1 x2 x3 σ H locs ls h; exact absurd h (fun h => h)
    | succ n5 ih5 =>
      intro x1 x2 x3 σ H locs ls h hI hl
      unfold w_J7_fill_53178_5 at h
      refine lv_iload_n hx hb dJ7_fill_53178_5 rfl (lv_at hl 2 rfl) ?_
      refine lv_iload_n hx hb dJ7_fill_53178_6 rfl (lv_at hl 3 rfl) ?_
      refine lv_icmp_ge (tgt := 20) hx hb dJ7_fill_53178_7 (by decide) (fun c1 => ?_) (fun c1 => ?_)
      · have h := h.1 c1
        exact g_vret hC hr hlocks hI h dJ7_fill_53178_20
      · have h := h.2 c1
        refine lv_aload_n hx hb dJ7_fill_53178_10 rfl (lv_at hl 0 rfl) ?_
        refine lv_iload_n hx hb dJ7_fill_53178_11 rfl (lv_at hl 2 rfl) ?_
        refine lv_iload_n hx hb dJ7_fill_53178_12 rfl (lv_at hl 1 rfl) ?_
        obtain ⟨hi2, h⟩ := h
        refine gsx ha hC hI hi2 dJ7_fill_53178_13 (fun s3 H locs es3 hI => ?_)
        have h := h s3 es3
        obtain ⟨y4, ey4⟩ : ∃ y : Int32, y = x2 + 1 := ⟨_, rfl⟩
        have h := h y4 ey4
        refine lv_iinc (v := y4) (lv' := [(2, .int y4), (0, .ref (ad ca)), (1, .int x1), (3, .int x3)]) hx hb dJ7_fill_53178_14 hl (k := 2) rfl (by rw [ey4]; rfl) (by decide) rfl (fun ls hl => ?_)
        refine lv_goto (tgt := 5) hx hb dJ7_fill_53178_17 (by decide) ?_
        exact ih5 _ _ _ _ _ _ _ h hI (lv_sub hl [1, 2, 0, 3] rfl)
  have hl := lv_entry ([.ref (ad ca), .int a1]) (n := 4) (Nat.le_of_ble_eq_true rfl)
  rw [lg_entry_eq]
  generalize (lg_sl ([.ref (ad ca), .int a1]) ++ List.replicate (4 - (lg_sl ([.ref (ad ca), .int a1])).length) Slot.unset).toArray = ls at hl ⊢
  have hl : lv_has ls 4 [(0, .ref (ad ca)), (1, .int a1)] := hl
  unfold w_J7_fill_53178 at h
  refine lv_iconst (v := 0) hx hb dJ7_fill_53178_0 (by decide) ?_
  refine lv_istore_n (lv' := [(2, .int 0), (0, .ref (ad ca)), (1, .int a1)]) hx hb dJ7_fill_53178_1 rfl hl (by decide) rfl (fun ls hl => ?_)
  refine lv_aload_n hx hb dJ7_fill_53178_2 rfl (lv_at hl 1 rfl) ?_
  refine glx ha hC hI dJ7_fill_53178_3 ?_
  refine lv_topi (fun y5 ey5 => ?_)
  have h := h y5 ey5
  refine lv_istore_n (lv' := [(3, .int y5), (2, .int 0), (0, .ref (ad ca)), (1, .int a1)]) hx hb dJ7_fill_53178_4 rfl hl (by decide) rfl (fun ls hl => ?_)
  obtain ⟨n9, h⟩ := h
  exact J5 n9 _ _ _ _ _ _ _ h hI (lv_sub hl [2, 3, 1, 0] rfl)
