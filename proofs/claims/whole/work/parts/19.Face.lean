/-! 19.Face: printed by wip/gen/walk.py -/
theorem dX8_requireIndex_0 : decode cX8_requireIndex 0 = .ok (.iload_n 0, 1) := by decide +kernel
theorem dX8_requireIndex_1 : decode cX8_requireIndex 1 = .ok (.ifCond .lt 8, 3) := by decide +kernel
theorem dX8_requireIndex_4 : decode cX8_requireIndex 4 = .ok (.iload_n 0, 1) := by decide +kernel
theorem dX8_requireIndex_5 : decode cX8_requireIndex 5 = .ok (.iload_n 1, 1) := by decide +kernel
theorem dX8_requireIndex_6 : decode cX8_requireIndex 6 = .ok (.if_icmp .lt 11, 3) := by decide +kernel
theorem dX8_requireIndex_9 : decode cX8_requireIndex 9 = .ok (.new 229, 3) := by decide +kernel
theorem dX8_requireIndex_12 : decode cX8_requireIndex 12 = .ok (.dup, 1) := by decide +kernel
theorem dX8_requireIndex_13 : decode cX8_requireIndex 13 = .ok (.invokespecial 231, 3) := by decide +kernel
theorem dX8_requireIndex_16 : decode cX8_requireIndex 16 = .ok (.athrow, 1) := by decide +kernel
theorem dX8_requireIndex_17 : decode cX8_requireIndex 17 = .ok (.return_, 1) := by decide +kernel
def w_X8_requireIndex_9 (Q : gS → Prop) (X : Nat → gS → Prop) (σ : gS) : Prop :=
    X 0 σ
def w_X8_requireIndex (Q : gS → Prop) (X : Nat → gS → Prop) (σ : gS) (a0 : Int32) (a1 : Int32) : Prop :=
    (a0 < 0 → w_X8_requireIndex_9 Q X σ) ∧ (¬ a0 < 0 → (a0 < a1 → Q σ) ∧ (¬ a0 < a1 → w_X8_requireIndex_9 Q X σ))
abbrev ws_X8_requireIndex : List Cond := Cond.code yX8_requireIndex cX8_requireIndex 2 none :: gG
abbrev rm_X8_requireIndex : Room := { frames := 6, cells := 1, slots := 6, locals := 90 }
theorem k_X8_requireIndex : gCS yX8_requireIndex cX8_requireIndex 2 none 2 := ⟨gw_3_34, gw_1_1, gw_3_35, by decide +kernel⟩
set_option maxHeartbeats 4000000 in
set_option maxRecDepth 100000 in
theorem c_X8_requireIndex (l : Launch) (hst : l.stackTraces = false) (D : va_G) (cy : Nat → ClassId) (ad : Nat → Nat) (A : Nat → Prop) (Q : gS → Prop) (X : Nat → gS → Prop) (σ : gS) (a0 : Int32) (a1 : Int32) (h : w_X8_requireIndex Q X σ a0 a1) : vx_Met l yX8_requireIndex ws_X8_requireIndex rm_X8_requireIndex (va_Pc [.int a0, .int a1] (gB D cy ad A σ)) (va_Qv Q (gB D cy ad A) A) (gXX D cy ad A X) 1 6 A := by
  refine vx_ofW (cc := cX8_requireIndex) (maxL := 2) (ret := none) (by decide) rfl ?_
  intro p e s m args below meth c s₁ B hml htb hv
  obtain ⟨rfl, hB⟩ := hv
  have hC : gC p c cX8_requireIndex s m ([.int a0, .int a1] : List Value).toArray RX8 D cy ad A := g_start B hB
  have hI := g_first hB
  have hx := hC.1
  have hb := hC.2.1
  have hr := B.returns
  have hlocks := B.notSynchronized
  clear B hB
  have J9 : ∀ (σ : gS) (H : Heap) (locs : List Loc) (ls : Array Slot), w_X8_requireIndex_9 Q X σ → gI D cy ad A s.heap σ H locs → lv_has ls 2 [] → W p l e (headSpec ws_X8_requireIndex rm_X8_requireIndex).room s m ([.int a0, .int a1] : List Value).toArray below meth c H locs 0 0 (vx_MQ below (va_Qv Q (gB D cy ad A) A) (gXX D cy ad A X) ([.int a0, .int a1] : List Value).toArray s 1 6 A) (F0 m 9 ls []) := by
    intro σ H locs ls h hI hl
    unfold w_X8_requireIndex_9 at h
    exact gth_0 hst hC hI hml hl.1 htb hlocks h dX8_requireIndex_9 dX8_requireIndex_12 dX8_requireIndex_13 dX8_requireIndex_16 (Nat.le_of_ble_eq_true rfl) (Nat.le_of_ble_eq_true rfl) (Nat.le_of_ble_eq_true rfl) (Nat.le_of_ble_eq_true rfl) (Nat.le_of_ble_eq_true rfl) (Nat.le_of_ble_eq_true rfl)
  have hl := lv_entry ([.int a0, .int a1]) (n := 2) (Nat.le_of_ble_eq_true rfl)
  rw [lg_entry_eq]
  generalize (lg_sl ([.int a0, .int a1]) ++ List.replicate (2 - (lg_sl ([.int a0, .int a1])).length) Slot.unset).toArray = ls at hl ⊢
  have hl : lv_has ls 2 [(0, .int a0), (1, .int a1)] := hl
  unfold w_X8_requireIndex at h
  refine lv_iload_n hx hb dX8_requireIndex_0 rfl (lv_at hl 0 rfl) ?_
  refine lv_if_lt (tgt := 9) hx hb dX8_requireIndex_1 (by decide) (fun c1 => ?_) (fun c1 => ?_)
  · have h := h.1 c1
    exact J9 _ _ _ _ h hI (lv_sub hl [] rfl)
  · have h := h.2 c1
    refine lv_iload_n hx hb dX8_requireIndex_4 rfl (lv_at hl 0 rfl) ?_
    refine lv_iload_n hx hb dX8_requireIndex_5 rfl (lv_at hl 1 rfl) ?_
    refine lv_icmp_lt (tgt := 17) hx hb dX8_requireIndex_6 (by decide) (fun c2 => ?_) (fun c2 => ?_)
    · have h := h.1 c2
      exact gy_vret hC hr hlocks hI h (Nat.le_of_ble_eq_true rfl) (Nat.le_of_ble_eq_true rfl) dX8_requireIndex_17
    · have h := h.2 c2
      exact J9 _ _ _ _ h hI (lv_sub hl [] rfl)

theorem dX8_requireNumber_0 : decode cX8_requireNumber 0 = .ok (.iload_n 0, 1) := by decide +kernel
theorem dX8_requireNumber_1 : decode cX8_requireNumber 1 = .ok (.iload_n 1, 1) := by decide +kernel
theorem dX8_requireNumber_2 : decode cX8_requireNumber 2 = .ok (.if_icmp .lt 8, 3) := by decide +kernel
theorem dX8_requireNumber_5 : decode cX8_requireNumber 5 = .ok (.iload_n 0, 1) := by decide +kernel
theorem dX8_requireNumber_6 : decode cX8_requireNumber 6 = .ok (.iload_n 2, 1) := by decide +kernel
theorem dX8_requireNumber_7 : decode cX8_requireNumber 7 = .ok (.if_icmp .le 11, 3) := by decide +kernel
theorem dX8_requireNumber_10 : decode cX8_requireNumber 10 = .ok (.new 126, 3) := by decide +kernel
theorem dX8_requireNumber_13 : decode cX8_requireNumber 13 = .ok (.dup, 1) := by decide +kernel
theorem dX8_requireNumber_14 : decode cX8_requireNumber 14 = .ok (.invokespecial 128, 3) := by decide +kernel
theorem dX8_requireNumber_17 : decode cX8_requireNumber 17 = .ok (.athrow, 1) := by decide +kernel
theorem dX8_requireNumber_18 : decode cX8_requireNumber 18 = .ok (.return_, 1) := by decide +kernel
def w_X8_requireNumber_10 (Q : gS → Prop) (X : Nat → gS → Prop) (σ : gS) : Prop :=
    X 1 σ
def w_X8_requireNumber (Q : gS → Prop) (X : Nat → gS → Prop) (σ : gS) (a0 : Int32) (a1 : Int32) (a2 : Int32) : Prop :=
    (a0 < a1 → w_X8_requireNumber_10 Q X σ) ∧ (¬ a0 < a1 → (a0 ≤ a2 → Q σ) ∧ (¬ a0 ≤ a2 → w_X8_requireNumber_10 Q X σ))
abbrev ws_X8_requireNumber : List Cond := Cond.code yX8_requireNumber cX8_requireNumber 3 none :: gG
abbrev rm_X8_requireNumber : Room := { frames := 6, cells := 1, slots := 6, locals := 90 }
theorem k_X8_requireNumber : gCS yX8_requireNumber cX8_requireNumber 3 none 3 := ⟨gw_3_120, gw_1_1, gw_3_121, by decide +kernel⟩
set_option maxHeartbeats 4000000 in
set_option maxRecDepth 100000 in
theorem c_X8_requireNumber (l : Launch) (hst : l.stackTraces = false) (D : va_G) (cy : Nat → ClassId) (ad : Nat → Nat) (A : Nat → Prop) (Q : gS → Prop) (X : Nat → gS → Prop) (σ : gS) (a0 : Int32) (a1 : Int32) (a2 : Int32) (h : w_X8_requireNumber Q X σ a0 a1 a2) : vx_Met l yX8_requireNumber ws_X8_requireNumber rm_X8_requireNumber (va_Pc [.int a0, .int a1, .int a2] (gB D cy ad A σ)) (va_Qv Q (gB D cy ad A) A) (gXX D cy ad A X) 1 6 A := by
  refine vx_ofW (cc := cX8_requireNumber) (maxL := 3) (ret := none) (by decide) rfl ?_
  intro p e s m args below meth c s₁ B hml htb hv
  obtain ⟨rfl, hB⟩ := hv
  have hC : gC p c cX8_requireNumber s m ([.int a0, .int a1, .int a2] : List Value).toArray RX8 D cy ad A := g_start B hB
  have hI := g_first hB
  have hx := hC.1
  have hb := hC.2.1
  have hr := B.returns
  have hlocks := B.notSynchronized
  clear B hB
  have J10 : ∀ (σ : gS) (H : Heap) (locs : List Loc) (ls : Array Slot), w_X8_requireNumber_10 Q X σ → gI D cy ad A s.heap σ H locs → lv_has ls 3 [] → W p l e (headSpec ws_X8_requireNumber rm_X8_requireNumber).room s m ([.int a0, .int a1, .int a2] : List Value).toArray below meth c H locs 0 0 (vx_MQ below (va_Qv Q (gB D cy ad A) A) (gXX D cy ad A X) ([.int a0, .int a1, .int a2] : List Value).toArray s 1 6 A) (F0 m 10 ls []) := by
    intro σ H locs ls h hI hl
    unfold w_X8_requireNumber_10 at h
    exact gth_1 hst hC hI hml hl.1 htb hlocks h dX8_requireNumber_10 dX8_requireNumber_13 dX8_requireNumber_14 dX8_requireNumber_17 (Nat.le_of_ble_eq_true rfl) (Nat.le_of_ble_eq_true rfl) (Nat.le_of_ble_eq_true rfl) (Nat.le_of_ble_eq_true rfl) (Nat.le_of_ble_eq_true rfl) (Nat.le_of_ble_eq_true rfl)
  have hl := lv_entry ([.int a0, .int a1, .int a2]) (n := 3) (Nat.le_of_ble_eq_true rfl)
  rw [lg_entry_eq]
  generalize (lg_sl ([.int a0, .int a1, .int a2]) ++ List.replicate (3 - (lg_sl ([.int a0, .int a1, .int a2])).length) Slot.unset).toArray = ls at hl ⊢
  have hl : lv_has ls 3 [(0, .int a0), (1, .int a1), (2, .int a2)] := hl
  unfold w_X8_requireNumber at h
  refine lv_iload_n hx hb dX8_requireNumber_0 rfl (lv_at hl 0 rfl) ?_
  refine lv_iload_n hx hb dX8_requireNumber_1 rfl (lv_at hl 1 rfl) ?_
  refine lv_icmp_lt (tgt := 10) hx hb dX8_requireNumber_2 (by decide) (fun c1 => ?_) (fun c1 => ?_)
  · have h := h.1 c1
    exact J10 _ _ _ _ h hI (lv_sub hl [] rfl)
  · have h := h.2 c1
    refine lv_iload_n hx hb dX8_requireNumber_5 rfl (lv_at hl 0 rfl) ?_
    refine lv_iload_n hx hb dX8_requireNumber_6 rfl (lv_at hl 2 rfl) ?_
    refine lv_icmp_le (tgt := 18) hx hb dX8_requireNumber_7 (by decide) (fun c2 => ?_) (fun c2 => ?_)
    · have h := h.1 c2
      exact gy_vret hC hr hlocks hI h (Nat.le_of_ble_eq_true rfl) (Nat.le_of_ble_eq_true rfl) dX8_requireNumber_18
    · have h := h.2 c2
      exact J10 _ _ _ _ h hI (lv_sub hl [] rfl)

theorem dX8_feed_0 : decode cX8_feed 0 = .ok (.aload_n 0, 1) := by decide +kernel
theorem dX8_feed_1 : decode cX8_feed 1 = .ok (.getfield 10, 3) := by decide +kernel
theorem dX8_feed_4 : decode cX8_feed 4 = .ok (.invokevirtual 71, 3) := by decide +kernel
theorem dX8_feed_7 : decode cX8_feed 7 = .ok (.ifCond .ne 5, 3) := by decide +kernel
theorem dX8_feed_10 : decode cX8_feed 10 = .ok (.iconst (-1), 1) := by decide +kernel
theorem dX8_feed_11 : decode cX8_feed 11 = .ok (.ireturn, 1) := by decide +kernel
theorem dX8_feed_12 : decode cX8_feed 12 = .ok (.aload_n 0, 1) := by decide +kernel
theorem dX8_feed_13 : decode cX8_feed 13 = .ok (.getfield 10, 3) := by decide +kernel
theorem dX8_feed_16 : decode cX8_feed 16 = .ok (.iload_n 1, 1) := by decide +kernel
theorem dX8_feed_17 : decode cX8_feed 17 = .ok (.invokevirtual 75, 3) := by decide +kernel
theorem dX8_feed_20 : decode cX8_feed 20 = .ok (.aload_n 0, 1) := by decide +kernel
theorem dX8_feed_21 : decode cX8_feed 21 = .ok (.getfield 10, 3) := by decide +kernel
theorem dX8_feed_24 : decode cX8_feed 24 = .ok (.iload_n 2, 1) := by decide +kernel
theorem dX8_feed_25 : decode cX8_feed 25 = .ok (.invokevirtual 75, 3) := by decide +kernel
theorem dX8_feed_28 : decode cX8_feed 28 = .ok (.aload_n 0, 1) := by decide +kernel
theorem dX8_feed_29 : decode cX8_feed 29 = .ok (.getfield 10, 3) := by decide +kernel
theorem dX8_feed_32 : decode cX8_feed 32 = .ok (.iload_n 3, 1) := by decide +kernel
theorem dX8_feed_33 : decode cX8_feed 33 = .ok (.invokevirtual 75, 3) := by decide +kernel
theorem dX8_feed_36 : decode cX8_feed 36 = .ok (.aload_n 0, 1) := by decide +kernel
theorem dX8_feed_37 : decode cX8_feed 37 = .ok (.getfield 10, 3) := by decide +kernel
theorem dX8_feed_40 : decode cX8_feed 40 = .ok (.iload 4, 2) := by decide +kernel
theorem dX8_feed_42 : decode cX8_feed 42 = .ok (.invokevirtual 75, 3) := by decide +kernel
theorem dX8_feed_45 : decode cX8_feed 45 = .ok (.aload_n 0, 1) := by decide +kernel
theorem dX8_feed_46 : decode cX8_feed 46 = .ok (.getfield 10, 3) := by decide +kernel
theorem dX8_feed_49 : decode cX8_feed 49 = .ok (.iload 5, 2) := by decide +kernel
theorem dX8_feed_51 : decode cX8_feed 51 = .ok (.invokevirtual 75, 3) := by decide +kernel
theorem dX8_feed_54 : decode cX8_feed 54 = .ok (.aload_n 0, 1) := by decide +kernel
theorem dX8_feed_55 : decode cX8_feed 55 = .ok (.getfield 10, 3) := by decide +kernel
theorem dX8_feed_58 : decode cX8_feed 58 = .ok (.getfield 79, 3) := by decide +kernel
theorem dX8_feed_61 : decode cX8_feed 61 = .ok (.ireturn, 1) := by decide +kernel
def w_X8_feed (Q : Int32 → gS → Prop) (σ : gS) (a1 : Int32) (a2 : Int32) (a3 : Int32) (a4 : Int32) (a5 : Int32) : Prop :=
    w_X6_hasRoom  (fun (r2 : Int32) (s1 : gS) => (¬ r2 = 0 → w_X6_append  (fun (s4 : gS) => w_X6_append  (fun (s6 : gS) => w_X6_append  (fun (s8 : gS) => w_X6_append  (fun (s10 : gS) => w_X6_append  (fun (s12 : gS) => Q (s12 16 0) s12) s10 a5) s8 a4) s6 a3) s4 a2) s1 a1) ∧ (r2 = 0 → Q (-1) s1)) σ
abbrev ws_X8_feed : List Cond := Cond.code yX8_feed cX8_feed 6 (some .int) :: gG
abbrev rm_X8_feed : Room := { frames := 1, cells := 0, slots := 0, locals := 22 }
theorem k_X8_feed : gCV yX8_feed RX8 cX8_feed 6 (some .int) 5 := ⟨gw_2_80, gw_2_81, gw_1_1, gw_2_82, rfl, by decide +kernel⟩
set_option maxHeartbeats 4000000 in
set_option maxRecDepth 100000 in
theorem c_X8_feed (l : Launch) (D : va_G) (cy : Nat → ClassId) (ad : Nat → Nat) (A : Nat → Prop) (Q : Int32 → gS → Prop) (σ : gS) (a1 : Int32) (a2 : Int32) (a3 : Int32) (a4 : Int32) (a5 : Int32) (h : w_X8_feed Q σ a1 a2 a3 a4 a5) : Met l yX8_feed ws_X8_feed rm_X8_feed (va_Pc [.ref (ad 0), .int a1, .int a2, .int a3, .int a4, .int a5] (gB D cy ad A σ)) (va_Qi Q (gB D cy ad A) A) 0 0 A := by
  refine Met.ofW (cc := cX8_feed) (maxL := 6) (ret := (some .int)) (by decide) rfl ?_
  intro p e s m args below meth c s₁ B hml hv
  obtain ⟨rfl, hB⟩ := hv
  have hC : gC p c cX8_feed s m ([.ref (ad 0), .int a1, .int a2, .int a3, .int a4, .int a5] : List Value).toArray RX8 D cy ad A := g_start B hB
  have hI := g_first hB
  have hx := hC.1
  have hb := hC.2.1
  have hr := B.returns
  have hlocks := B.notSynchronized
  clear B hB
  have hl := lv_entry ([.ref (ad 0), .int a1, .int a2, .int a3, .int a4, .int a5]) (n := 6) (Nat.le_of_ble_eq_true rfl)
  rw [lg_entry_eq]
  generalize (lg_sl ([.ref (ad 0), .int a1, .int a2, .int a3, .int a4, .int a5]) ++ List.replicate (6 - (lg_sl ([.ref (ad 0), .int a1, .int a2, .int a3, .int a4, .int a5])).length) Slot.unset).toArray = ls at hl ⊢
  have hl : lv_has ls 6 [(0, .ref (ad 0)), (1, .int a1), (2, .int a2), (3, .int a3), (4, .int a4), (5, .int a5)] := hl
  unfold w_X8_feed at h
  refine lv_aload_n hx hb dX8_feed_0 rfl (lv_at hl 0 rfl) ?_
  refine gg_X8_tape hC hI gw_2_45 dX8_feed_1 ?_
  refine g_backi hI (g_runV (As := []) (rest := []) hC hml hI (c_X6_hasRoom l D cy ad A _  _ h) k_X6_hasRoom gw_2_83 ⟨rfl, rfl⟩ ⟨Nat.le_of_ble_eq_true rfl, Nat.le_of_ble_eq_true rfl⟩ (grv_1 hC hI) rfl hl.1 rfl (Nat.le_of_ble_eq_true rfl) dX8_feed_4 ⟨Nat.le_of_ble_eq_true rfl, Nat.le_of_ble_eq_true rfl⟩) (fun r2 s1 H locs h hI => ?_)
  refine lv_if_ne (tgt := 12) hx hb dX8_feed_7 (by decide) (fun c3 => ?_) (fun c3 => ?_)
  · have h := h.1 c3
    refine lv_aload_n hx hb dX8_feed_12 rfl (lv_at hl 0 rfl) ?_
    refine gg_X8_tape hC hI gw_2_45 dX8_feed_13 ?_
    refine lv_iload_n hx hb dX8_feed_16 rfl (lv_at hl 1 rfl) ?_
    refine g_backv hI (g_runV (As := [.int a1]) (rest := []) hC hml hI (c_X6_append l D cy ad A _  _ _ h) k_X6_append gw_2_87 ⟨rfl, rfl⟩ ⟨Nat.le_of_ble_eq_true rfl, Nat.le_of_ble_eq_true rfl⟩ (grv_1 hC hI) rfl hl.1 rfl (Nat.le_of_ble_eq_true rfl) dX8_feed_17 ⟨Nat.le_of_ble_eq_true rfl, Nat.le_of_ble_eq_true rfl⟩) (fun s4 H locs h hI => ?_)
    refine lv_aload_n hx hb dX8_feed_20 rfl (lv_at hl 0 rfl) ?_
    refine gg_X8_tape hC hI gw_2_45 dX8_feed_21 ?_
    refine lv_iload_n hx hb dX8_feed_24 rfl (lv_at hl 2 rfl) ?_
    refine g_backv hI (g_runV (As := [.int a2]) (rest := []) hC hml hI (c_X6_append l D cy ad A _  _ _ h) k_X6_append gw_2_87 ⟨rfl, rfl⟩ ⟨Nat.le_of_ble_eq_true rfl, Nat.le_of_ble_eq_true rfl⟩ (grv_1 hC hI) rfl hl.1 rfl (Nat.le_of_ble_eq_true rfl) dX8_feed_25 ⟨Nat.le_of_ble_eq_true rfl, Nat.le_of_ble_eq_true rfl⟩) (fun s6 H locs h hI => ?_)
    refine lv_aload_n hx hb dX8_feed_28 rfl (lv_at hl 0 rfl) ?_
    refine gg_X8_tape hC hI gw_2_45 dX8_feed_29 ?_
    refine lv_iload_n hx hb dX8_feed_32 rfl (lv_at hl 3 rfl) ?_
    refine g_backv hI (g_runV (As := [.int a3]) (rest := []) hC hml hI (c_X6_append l D cy ad A _  _ _ h) k_X6_append gw_2_87 ⟨rfl, rfl⟩ ⟨Nat.le_of_ble_eq_true rfl, Nat.le_of_ble_eq_true rfl⟩ (grv_1 hC hI) rfl hl.1 rfl (Nat.le_of_ble_eq_true rfl) dX8_feed_33 ⟨Nat.le_of_ble_eq_true rfl, Nat.le_of_ble_eq_true rfl⟩) (fun s8 H locs h hI => ?_)
    refine lv_aload_n hx hb dX8_feed_36 rfl (lv_at hl 0 rfl) ?_
    refine gg_X8_tape hC hI gw_2_45 dX8_feed_37 ?_
    refine lv_iload hx hb dX8_feed_40 (lv_at hl 4 rfl) ?_
    refine g_backv hI (g_runV (As := [.int a4]) (rest := []) hC hml hI (c_X6_append l D cy ad A _  _ _ h) k_X6_append gw_2_87 ⟨rfl, rfl⟩ ⟨Nat.le_of_ble_eq_true rfl, Nat.le_of_ble_eq_true rfl⟩ (grv_1 hC hI) rfl hl.1 rfl (Nat.le_of_ble_eq_true rfl) dX8_feed_42 ⟨Nat.le_of_ble_eq_true rfl, Nat.le_of_ble_eq_true rfl⟩) (fun s10 H locs h hI => ?_)
    refine lv_aload_n hx hb dX8_feed_45 rfl (lv_at hl 0 rfl) ?_
    refine gg_X8_tape hC hI gw_2_45 dX8_feed_46 ?_
    refine lv_iload hx hb dX8_feed_49 (lv_at hl 5 rfl) ?_
    refine g_backv hI (g_runV (As := [.int a5]) (rest := []) hC hml hI (c_X6_append l D cy ad A _  _ _ h) k_X6_append gw_2_87 ⟨rfl, rfl⟩ ⟨Nat.le_of_ble_eq_true rfl, Nat.le_of_ble_eq_true rfl⟩ (grv_1 hC hI) rfl hl.1 rfl (Nat.le_of_ble_eq_true rfl) dX8_feed_51 ⟨Nat.le_of_ble_eq_true rfl, Nat.le_of_ble_eq_true rfl⟩) (fun s12 H locs h hI => ?_)
    refine lv_aload_n hx hb dX8_feed_54 rfl (lv_at hl 0 rfl) ?_
    refine gg_X8_tape hC hI gw_2_45 dX8_feed_55 ?_
    refine gg_X6_size hC hI gw_1_41 dX8_feed_58 ?_
    exact g_iret hC hr hlocks hI h dX8_feed_61
  · have h := h.2 c3
    refine lv_iconst (v := (-1)) hx hb dX8_feed_10 (by decide) ?_
    exact g_iret hC hr hlocks hI h dX8_feed_11

theorem dX8_end_0 : decode cX8_end 0 = .ok (.iload_n 1, 1) := by decide +kernel
theorem dX8_end_1 : decode cX8_end 1 = .ok (.ifCond .lt 14, 3) := by decide +kernel
theorem dX8_end_4 : decode cX8_end 4 = .ok (.iload_n 1, 1) := by decide +kernel
theorem dX8_end_5 : decode cX8_end 5 = .ok (.aload_n 0, 1) := by decide +kernel
theorem dX8_end_6 : decode cX8_end 6 = .ok (.getfield 10, 3) := by decide +kernel
theorem dX8_end_9 : decode cX8_end 9 = .ok (.getfield 79, 3) := by decide +kernel
theorem dX8_end_12 : decode cX8_end 12 = .ok (.if_icmp .le 5, 3) := by decide +kernel
theorem dX8_end_15 : decode cX8_end 15 = .ok (.iconst 0, 1) := by decide +kernel
theorem dX8_end_16 : decode cX8_end 16 = .ok (.ireturn, 1) := by decide +kernel
theorem dX8_end_17 : decode cX8_end 17 = .ok (.aload_n 0, 1) := by decide +kernel
theorem dX8_end_18 : decode cX8_end 18 = .ok (.getfield 10, 3) := by decide +kernel
theorem dX8_end_21 : decode cX8_end 21 = .ok (.iload_n 1, 1) := by decide +kernel
theorem dX8_end_22 : decode cX8_end 22 = .ok (.putfield 79, 3) := by decide +kernel
theorem dX8_end_25 : decode cX8_end 25 = .ok (.iconst 1, 1) := by decide +kernel
theorem dX8_end_26 : decode cX8_end 26 = .ok (.ireturn, 1) := by decide +kernel
def w_X8_end (Q : Int32 → gS → Prop) (σ : gS) (a1 : Int32) : Prop :=
    (a1 < 0 → Q 0 σ) ∧ (¬ a1 < 0 → (a1 ≤ (σ 16 0) → ∀ s3 : gS, s3 = gu σ 16 0 a1 → Q 1 s3) ∧ (¬ a1 ≤ (σ 16 0) → Q 0 σ))
abbrev ws_X8_end : List Cond := Cond.code yX8_end cX8_end 2 (some .boolean) :: gG
abbrev rm_X8_end : Room := { frames := 0, cells := 0, slots := 0, locals := 0 }
theorem k_X8_end : gCV yX8_end RX8 cX8_end 2 (some .boolean) 1 := ⟨gw_2_92, gw_2_93, gw_1_1, gw_2_94, rfl, by decide +kernel⟩
set_option maxHeartbeats 4000000 in
set_option maxRecDepth 100000 in
theorem c_X8_end (l : Launch) (D : va_G) (cy : Nat → ClassId) (ad : Nat → Nat) (A : Nat → Prop) (Q : Int32 → gS → Prop) (σ : gS) (a1 : Int32) (h : w_X8_end Q σ a1) : Met l yX8_end ws_X8_end rm_X8_end (va_Pc [.ref (ad 0), .int a1] (gB D cy ad A σ)) (va_Qi Q (gB D cy ad A) A) 0 0 A := by
  refine Met.ofW (cc := cX8_end) (maxL := 2) (ret := (some .boolean)) (by decide) rfl ?_
  intro p e s m args below meth c s₁ B hml hv
  obtain ⟨rfl, hB⟩ := hv
  have hC : gC p c cX8_end s m ([.ref (ad 0), .int a1] : List Value).toArray RX8 D cy ad A := g_start B hB
  have hI := g_first hB
  have hx := hC.1
  have hb := hC.2.1
  have hr := B.returns
  have hlocks := B.notSynchronized
  clear B hB
  have hl := lv_entry ([.ref (ad 0), .int a1]) (n := 2) (Nat.le_of_ble_eq_true rfl)
  rw [lg_entry_eq]
  generalize (lg_sl ([.ref (ad 0), .int a1]) ++ List.replicate (2 - (lg_sl ([.ref (ad 0), .int a1])).length) Slot.unset).toArray = ls at hl ⊢
  have hl : lv_has ls 2 [(0, .ref (ad 0)), (1, .int a1)] := hl
  unfold w_X8_end at h
  refine lv_iload_n hx hb dX8_end_0 rfl (lv_at hl 1 rfl) ?_
  refine lv_if_lt (tgt := 15) hx hb dX8_end_1 (by decide) (fun c1 => ?_) (fun c1 => ?_)
  · have h := h.1 c1
    refine lv_iconst (v := 0) hx hb dX8_end_15 (by decide) ?_
    exact g_zret hC hr hlocks rfl hI h dX8_end_16
  · have h := h.2 c1
    refine lv_iload_n hx hb dX8_end_4 rfl (lv_at hl 1 rfl) ?_
    refine lv_aload_n hx hb dX8_end_5 rfl (lv_at hl 0 rfl) ?_
    refine gg_X8_tape hC hI gw_2_45 dX8_end_6 ?_
    refine gg_X6_size hC hI gw_1_41 dX8_end_9 ?_
    refine lv_icmp_le (tgt := 17) hx hb dX8_end_12 (by decide) (fun c2 => ?_) (fun c2 => ?_)
    · have h := h.1 c2
      refine lv_aload_n hx hb dX8_end_17 rfl (lv_at hl 0 rfl) ?_
      refine gg_X8_tape hC hI gw_2_45 dX8_end_18 ?_
      refine lv_iload_n hx hb dX8_end_21 rfl (lv_at hl 1 rfl) ?_
      refine gp_X6_size hC hI gw_1_41 dX8_end_22 (fun s3 H locs es3 hI => ?_)
      have h := h s3 es3
      refine lv_iconst (v := 1) hx hb dX8_end_25 (by decide) ?_
      exact g_zret hC hr hlocks rfl hI h dX8_end_26
    · have h := h.2 c2
      refine lv_iconst (v := 0) hx hb dX8_end_15 (by decide) ?_
      exact g_zret hC hr hlocks rfl hI h dX8_end_16

theorem dX8_lane_0 : decode cX8_lane 0 = .ok (.iload_n 1, 1) := by decide +kernel
theorem dX8_lane_1 : decode cX8_lane 1 = .ok (.sipush 192, 3) := by decide +kernel
theorem dX8_lane_4 : decode cX8_lane 4 = .ok (.invokestatic 82, 3) := by decide +kernel
theorem dX8_lane_7 : decode cX8_lane 7 = .ok (.aload_n 0, 1) := by decide +kernel
theorem dX8_lane_8 : decode cX8_lane 8 = .ok (.getfield 28, 3) := by decide +kernel
theorem dX8_lane_11 : decode cX8_lane 11 = .ok (.iload_n 1, 1) := by decide +kernel
theorem dX8_lane_12 : decode cX8_lane 12 = .ok (.iload_n 2, 1) := by decide +kernel
theorem dX8_lane_13 : decode cX8_lane 13 = .ok (.invokevirtual 86, 3) := by decide +kernel
theorem dX8_lane_16 : decode cX8_lane 16 = .ok (.ireturn, 1) := by decide +kernel
def w_X8_lane (Q : Int32 → gS → Prop) (X : Nat → gS → Prop) (σ : gS) (a1 : Int32) (a2 : Int32) : Prop :=
    w_X8_requireIndex  (fun (s1 : gS) => w_X3_setLane  (fun (r4 : Int32) (s3 : gS) => gz r4 ∧ Q r4 s3) s1 a1 a2) X σ a1 192
abbrev ws_X8_lane : List Cond := Cond.code yX8_lane cX8_lane 3 (some .boolean) :: gG
abbrev rm_X8_lane : Room := { frames := 7, cells := 1, slots := 6, locals := 111 }
theorem k_X8_lane : gCV yX8_lane RX8 cX8_lane 3 (some .boolean) 2 := ⟨gw_3_30, gw_3_31, gw_1_1, gw_3_32, rfl, by decide +kernel⟩
set_option maxHeartbeats 4000000 in
set_option maxRecDepth 100000 in
theorem c_X8_lane (l : Launch) (hst : l.stackTraces = false) (D : va_G) (cy : Nat → ClassId) (ad : Nat → Nat) (A : Nat → Prop) (Q : Int32 → gS → Prop) (X : Nat → gS → Prop) (σ : gS) (a1 : Int32) (a2 : Int32) (h : w_X8_lane Q X σ a1 a2) : vx_Met l yX8_lane ws_X8_lane rm_X8_lane (va_Pc [.ref (ad 0), .int a1, .int a2] (gB D cy ad A σ)) (va_Qi Q (gB D cy ad A) A) (gXX D cy ad A X) 1 6 A := by
  refine vx_ofW (cc := cX8_lane) (maxL := 3) (ret := (some .boolean)) (by decide) rfl ?_
  intro p e s m args below meth c s₁ B hml htb hv
  obtain ⟨rfl, hB⟩ := hv
  have hC : gC p c cX8_lane s m ([.ref (ad 0), .int a1, .int a2] : List Value).toArray RX8 D cy ad A := g_start B hB
  have hI := g_first hB
  have hx := hC.1
  have hb := hC.2.1
  have hr := B.returns
  have hlocks := B.notSynchronized
  clear B hB
  have hl := lv_entry ([.ref (ad 0), .int a1, .int a2]) (n := 3) (Nat.le_of_ble_eq_true rfl)
  rw [lg_entry_eq]
  generalize (lg_sl ([.ref (ad 0), .int a1, .int a2]) ++ List.replicate (3 - (lg_sl ([.ref (ad 0), .int a1, .int a2])).length) Slot.unset).toArray = ls at hl ⊢
  have hl : lv_has ls 3 [(0, .ref (ad 0)), (1, .int a1), (2, .int a2)] := hl
  unfold w_X8_lane at h
  refine lv_iload_n hx hb dX8_lane_0 rfl (lv_at hl 1 rfl) ?_
  refine lv_sipush (v := 192) hx hb dX8_lane_1 (by decide) ?_
  refine gy_backv hI (gy_runS (As := [.int a1, .int 192]) (rest := []) hC hml hI (c_X8_requireIndex l hst D cy ad A _ _  _ _ _ h) k_X8_requireIndex gw_3_33 ⟨rfl, rfl⟩ ⟨Nat.le_of_ble_eq_true rfl, Nat.le_of_ble_eq_true rfl⟩ rfl hl.1 rfl (Nat.le_of_ble_eq_true rfl) dX8_lane_4 ⟨Nat.le_of_ble_eq_true rfl, Nat.le_of_ble_eq_true rfl⟩) (fun _ _ _ _ _ _ hk9 hx9 hI9 h19 h29 h39 => gy_on htb hlocks hk9 hx9 hI9 h19 h29 h39 (Nat.le_of_ble_eq_true rfl) (Nat.le_of_ble_eq_true rfl)) (fun s1 H locs h hI => ?_)
  refine lv_aload_n hx hb dX8_lane_7 rfl (lv_at hl 0 rfl) ?_
  refine gg_X8_meadow hC hI gw_2_47 dX8_lane_8 ?_
  refine lv_iload_n hx hb dX8_lane_11 rfl (lv_at hl 1 rfl) ?_
  refine lv_iload_n hx hb dX8_lane_12 rfl (lv_at hl 2 rfl) ?_
  refine g_backi hI (g_runV (As := [.int a1, .int a2]) (rest := []) hC hml hI (c_X3_setLane l D cy ad A _  _ _ _ h) k_X3_setLane gw_3_99 ⟨rfl, rfl⟩ ⟨Nat.le_of_ble_eq_true rfl, Nat.le_of_ble_eq_true rfl⟩ (grv_3 hC hI) rfl hl.1 rfl (Nat.le_of_ble_eq_true rfl) dX8_lane_13 ⟨Nat.le_of_ble_eq_true rfl, Nat.le_of_ble_eq_true rfl⟩) (fun r4 s3 H locs h hI => ?_)
  exact gy_zret hC hr hlocks h.1 hI h.2 (Nat.le_of_ble_eq_true rfl) (Nat.le_of_ble_eq_true rfl) dX8_lane_16

theorem dX8_gate_0 : decode cX8_gate 0 = .ok (.iload_n 1, 1) := by decide +kernel
theorem dX8_gate_1 : decode cX8_gate 1 = .ok (.sipush 192, 3) := by decide +kernel
theorem dX8_gate_4 : decode cX8_gate 4 = .ok (.invokestatic 82, 3) := by decide +kernel
theorem dX8_gate_7 : decode cX8_gate 7 = .ok (.aload_n 0, 1) := by decide +kernel
theorem dX8_gate_8 : decode cX8_gate 8 = .ok (.getfield 28, 3) := by decide +kernel
theorem dX8_gate_11 : decode cX8_gate 11 = .ok (.iload_n 1, 1) := by decide +kernel
theorem dX8_gate_12 : decode cX8_gate 12 = .ok (.putfield 90, 3) := by decide +kernel
theorem dX8_gate_15 : decode cX8_gate 15 = .ok (.return_, 1) := by decide +kernel
def w_X8_gate (Q : gS → Prop) (X : Nat → gS → Prop) (σ : gS) (a1 : Int32) : Prop :=
    w_X8_requireIndex  (fun (s1 : gS) => ∀ s3 : gS, s3 = gu s1 20 0 a1 → Q s3) X σ a1 192
abbrev ws_X8_gate : List Cond := Cond.code yX8_gate cX8_gate 2 none :: gG
abbrev rm_X8_gate : Room := { frames := 7, cells := 1, slots := 6, locals := 111 }
theorem k_X8_gate : gCV yX8_gate RX8 cX8_gate 2 none 1 := ⟨gw_3_107, gw_3_108, gw_1_1, gw_3_109, rfl, by decide +kernel⟩
set_option maxHeartbeats 4000000 in
set_option maxRecDepth 100000 in
theorem c_X8_gate (l : Launch) (hst : l.stackTraces = false) (D : va_G) (cy : Nat → ClassId) (ad : Nat → Nat) (A : Nat → Prop) (Q : gS → Prop) (X : Nat → gS → Prop) (σ : gS) (a1 : Int32) (h : w_X8_gate Q X σ a1) : vx_Met l yX8_gate ws_X8_gate rm_X8_gate (va_Pc [.ref (ad 0), .int a1] (gB D cy ad A σ)) (va_Qv Q (gB D cy ad A) A) (gXX D cy ad A X) 1 6 A := by
  refine vx_ofW (cc := cX8_gate) (maxL := 2) (ret := none) (by decide) rfl ?_
  intro p e s m args below meth c s₁ B hml htb hv
  obtain ⟨rfl, hB⟩ := hv
  have hC : gC p c cX8_gate s m ([.ref (ad 0), .int a1] : List Value).toArray RX8 D cy ad A := g_start B hB
  have hI := g_first hB
  have hx := hC.1
  have hb := hC.2.1
  have hr := B.returns
  have hlocks := B.notSynchronized
  clear B hB
  have hl := lv_entry ([.ref (ad 0), .int a1]) (n := 2) (Nat.le_of_ble_eq_true rfl)
  rw [lg_entry_eq]
  generalize (lg_sl ([.ref (ad 0), .int a1]) ++ List.replicate (2 - (lg_sl ([.ref (ad 0), .int a1])).length) Slot.unset).toArray = ls at hl ⊢
  have hl : lv_has ls 2 [(0, .ref (ad 0)), (1, .int a1)] := hl
  unfold w_X8_gate at h
  refine lv_iload_n hx hb dX8_gate_0 rfl (lv_at hl 1 rfl) ?_
  refine lv_sipush (v := 192) hx hb dX8_gate_1 (by decide) ?_
  refine gy_backv hI (gy_runS (As := [.int a1, .int 192]) (rest := []) hC hml hI (c_X8_requireIndex l hst D cy ad A _ _  _ _ _ h) k_X8_requireIndex gw_3_33 ⟨rfl, rfl⟩ ⟨Nat.le_of_ble_eq_true rfl, Nat.le_of_ble_eq_true rfl⟩ rfl hl.1 rfl (Nat.le_of_ble_eq_true rfl) dX8_gate_4 ⟨Nat.le_of_ble_eq_true rfl, Nat.le_of_ble_eq_true rfl⟩) (fun _ _ _ _ _ _ hk9 hx9 hI9 h19 h29 h39 => gy_on htb hlocks hk9 hx9 hI9 h19 h29 h39 (Nat.le_of_ble_eq_true rfl) (Nat.le_of_ble_eq_true rfl)) (fun s1 H locs h hI => ?_)
  refine lv_aload_n hx hb dX8_gate_7 rfl (lv_at hl 0 rfl) ?_
  refine gg_X8_meadow hC hI gw_2_47 dX8_gate_8 ?_
  refine lv_iload_n hx hb dX8_gate_11 rfl (lv_at hl 1 rfl) ?_
  refine gp_X3_gateSquare hC hI gw_1_75 dX8_gate_12 (fun s3 H locs es3 hI => ?_)
  have h := h s3 es3
  exact gy_vret hC hr hlocks hI h (Nat.le_of_ble_eq_true rfl) (Nat.le_of_ble_eq_true rfl) dX8_gate_15

theorem dX8_tent_0 : decode cX8_tent 0 = .ok (.iload_n 1, 1) := by decide +kernel
theorem dX8_tent_1 : decode cX8_tent 1 = .ok (.iconst 1, 1) := by decide +kernel
theorem dX8_tent_2 : decode cX8_tent 2 = .ok (.iconst 5, 1) := by decide +kernel
theorem dX8_tent_3 : decode cX8_tent 3 = .ok (.invokestatic 93, 3) := by decide +kernel
theorem dX8_tent_6 : decode cX8_tent 6 = .ok (.iload_n 2, 1) := by decide +kernel
theorem dX8_tent_7 : decode cX8_tent 7 = .ok (.iconst 1, 1) := by decide +kernel
theorem dX8_tent_8 : decode cX8_tent 8 = .ok (.iconst 5, 1) := by decide +kernel
theorem dX8_tent_9 : decode cX8_tent 9 = .ok (.invokestatic 93, 3) := by decide +kernel
theorem dX8_tent_12 : decode cX8_tent 12 = .ok (.aload_n 0, 1) := by decide +kernel
theorem dX8_tent_13 : decode cX8_tent 13 = .ok (.getfield 28, 3) := by decide +kernel
theorem dX8_tent_16 : decode cX8_tent 16 = .ok (.getfield 97, 3) := by decide +kernel
theorem dX8_tent_19 : decode cX8_tent 19 = .ok (.bipush 60, 2) := by decide +kernel
theorem dX8_tent_21 : decode cX8_tent 21 = .ok (.if_icmp .lt 11, 3) := by decide +kernel
theorem dX8_tent_24 : decode cX8_tent 24 = .ok (.new 100, 3) := by decide +kernel
theorem dX8_tent_27 : decode cX8_tent 27 = .ok (.dup, 1) := by decide +kernel
theorem dX8_tent_28 : decode cX8_tent 28 = .ok (.invokespecial 102, 3) := by decide +kernel
theorem dX8_tent_31 : decode cX8_tent 31 = .ok (.athrow, 1) := by decide +kernel
theorem dX8_tent_32 : decode cX8_tent 32 = .ok (.aload_n 0, 1) := by decide +kernel
theorem dX8_tent_33 : decode cX8_tent 33 = .ok (.getfield 28, 3) := by decide +kernel
theorem dX8_tent_36 : decode cX8_tent 36 = .ok (.iload_n 1, 1) := by decide +kernel
theorem dX8_tent_37 : decode cX8_tent 37 = .ok (.iload_n 2, 1) := by decide +kernel
theorem dX8_tent_38 : decode cX8_tent 38 = .ok (.invokevirtual 103, 3) := by decide +kernel
theorem dX8_tent_41 : decode cX8_tent 41 = .ok (.ireturn, 1) := by decide +kernel
def w_X8_tent (Q : Int32 → gS → Prop) (X : Nat → gS → Prop) (σ : gS) (a1 : Int32) (a2 : Int32) : Prop :=
    w_X8_requireNumber  (fun (s1 : gS) => w_X8_requireNumber  (fun (s3 : gS) => ((s3 21 0) < 60 → w_X3_putTent  (fun (r7 : Int32) (s6 : gS) => Q r7 s6) s3 a1 a2) ∧ (¬ (s3 21 0) < 60 → X 2 s3)) X s1 a2 1 5) X σ a1 1 5
abbrev ws_X8_tent : List Cond := Cond.code yX8_tent cX8_tent 3 (some .int) :: gG
abbrev rm_X8_tent : Room := { frames := 7, cells := 3, slots := 18, locals := 112 }
theorem k_X8_tent : gCV yX8_tent RX8 cX8_tent 3 (some .int) 2 := ⟨gw_3_116, gw_3_117, gw_1_1, gw_3_118, rfl, by decide +kernel⟩
set_option maxHeartbeats 4000000 in
set_option maxRecDepth 100000 in
theorem c_X8_tent (l : Launch) (hst : l.stackTraces = false) (D : va_G) (cy : Nat → ClassId) (ad : Nat → Nat) (A : Nat → Prop) (Q : Int32 → gS → Prop) (X : Nat → gS → Prop) (σ : gS) (a1 : Int32) (a2 : Int32) (h : w_X8_tent Q X σ a1 a2) : vx_Met l yX8_tent ws_X8_tent rm_X8_tent (va_Pc [.ref (ad 0), .int a1, .int a2] (gB D cy ad A σ)) (va_Qi Q (gB D cy ad A) A) (gXX D cy ad A X) 3 18 A := by
  refine vx_ofW (cc := cX8_tent) (maxL := 3) (ret := (some .int)) (by decide) rfl ?_
  intro p e s m args below meth c s₁ B hml htb hv
  obtain ⟨rfl, hB⟩ := hv
  have hC : gC p c cX8_tent s m ([.ref (ad 0), .int a1, .int a2] : List Value).toArray RX8 D cy ad A := g_start B hB
  have hI := g_first hB
  have hx := hC.1
  have hb := hC.2.1
  have hr := B.returns
  have hlocks := B.notSynchronized
  clear B hB
  have hl := lv_entry ([.ref (ad 0), .int a1, .int a2]) (n := 3) (Nat.le_of_ble_eq_true rfl)
  rw [lg_entry_eq]
  generalize (lg_sl ([.ref (ad 0), .int a1, .int a2]) ++ List.replicate (3 - (lg_sl ([.ref (ad 0), .int a1, .int a2])).length) Slot.unset).toArray = ls at hl ⊢
  have hl : lv_has ls 3 [(0, .ref (ad 0)), (1, .int a1), (2, .int a2)] := hl
  unfold w_X8_tent at h
  refine lv_iload_n hx hb dX8_tent_0 rfl (lv_at hl 1 rfl) ?_
  refine lv_iconst (v := 1) hx hb dX8_tent_1 (by decide) ?_
  refine lv_iconst (v := 5) hx hb dX8_tent_2 (by decide) ?_
  refine gy_backv hI (gy_runS (As := [.int a1, .int 1, .int 5]) (rest := []) hC hml hI (c_X8_requireNumber l hst D cy ad A _ _  _ _ _ _ h) k_X8_requireNumber gw_3_119 ⟨rfl, rfl⟩ ⟨Nat.le_of_ble_eq_true rfl, Nat.le_of_ble_eq_true rfl⟩ rfl hl.1 rfl (Nat.le_of_ble_eq_true rfl) dX8_tent_3 ⟨Nat.le_of_ble_eq_true rfl, Nat.le_of_ble_eq_true rfl⟩) (fun _ _ _ _ _ _ hk9 hx9 hI9 h19 h29 h39 => gy_on htb hlocks hk9 hx9 hI9 h19 h29 h39 (Nat.le_of_ble_eq_true rfl) (Nat.le_of_ble_eq_true rfl)) (fun s1 H locs h hI => ?_)
  refine lv_iload_n hx hb dX8_tent_6 rfl (lv_at hl 2 rfl) ?_
  refine lv_iconst (v := 1) hx hb dX8_tent_7 (by decide) ?_
  refine lv_iconst (v := 5) hx hb dX8_tent_8 (by decide) ?_
  refine gy_backv hI (gy_runS (As := [.int a2, .int 1, .int 5]) (rest := []) hC hml hI (c_X8_requireNumber l hst D cy ad A _ _  _ _ _ _ h) k_X8_requireNumber gw_3_119 ⟨rfl, rfl⟩ ⟨Nat.le_of_ble_eq_true rfl, Nat.le_of_ble_eq_true rfl⟩ rfl hl.1 rfl (Nat.le_of_ble_eq_true rfl) dX8_tent_9 ⟨Nat.le_of_ble_eq_true rfl, Nat.le_of_ble_eq_true rfl⟩) (fun _ _ _ _ _ _ hk9 hx9 hI9 h19 h29 h39 => gy_on htb hlocks hk9 hx9 hI9 h19 h29 h39 (Nat.le_of_ble_eq_true rfl) (Nat.le_of_ble_eq_true rfl)) (fun s3 H locs h hI => ?_)
  refine lv_aload_n hx hb dX8_tent_12 rfl (lv_at hl 0 rfl) ?_
  refine gg_X8_meadow hC hI gw_2_47 dX8_tent_13 ?_
  refine gg_X3_tents hC hI gw_1_78 dX8_tent_16 ?_
  refine lv_bipush (v := 60) hx hb dX8_tent_19 (by decide) ?_
  refine lv_icmp_lt (tgt := 32) hx hb dX8_tent_21 (by decide) (fun c5 => ?_) (fun c5 => ?_)
  · have h := h.1 c5
    refine lv_aload_n hx hb dX8_tent_32 rfl (lv_at hl 0 rfl) ?_
    refine gg_X8_meadow hC hI gw_2_47 dX8_tent_33 ?_
    refine lv_iload_n hx hb dX8_tent_36 rfl (lv_at hl 1 rfl) ?_
    refine lv_iload_n hx hb dX8_tent_37 rfl (lv_at hl 2 rfl) ?_
    refine g_backi hI (g_runV (As := [.int a1, .int a2]) (rest := []) hC hml hI (c_X3_putTent l D cy ad A _  _ _ _ h) k_X3_putTent gw_3_152 ⟨rfl, rfl⟩ ⟨Nat.le_of_ble_eq_true rfl, Nat.le_of_ble_eq_true rfl⟩ (grv_3 hC hI) rfl hl.1 rfl (Nat.le_of_ble_eq_true rfl) dX8_tent_38 ⟨Nat.le_of_ble_eq_true rfl, Nat.le_of_ble_eq_true rfl⟩) (fun r7 s6 H locs h hI => ?_)
    exact gy_iret hC hr hlocks hI h (Nat.le_of_ble_eq_true rfl) (Nat.le_of_ble_eq_true rfl) dX8_tent_41
  · have h := h.2 c5
    exact gth_2 hst hC hI hml hl.1 htb hlocks h dX8_tent_24 dX8_tent_27 dX8_tent_28 dX8_tent_31 (Nat.le_of_ble_eq_true rfl) (Nat.le_of_ble_eq_true rfl) (Nat.le_of_ble_eq_true rfl) (Nat.le_of_ble_eq_true rfl) (Nat.le_of_ble_eq_true rfl) (Nat.le_of_ble_eq_true rfl)

theorem dX8_strike_0 : decode cX8_strike 0 = .ok (.iload_n 1, 1) := by decide +kernel
theorem dX8_strike_1 : decode cX8_strike 1 = .ok (.aload_n 0, 1) := by decide +kernel
theorem dX8_strike_2 : decode cX8_strike 2 = .ok (.getfield 28, 3) := by decide +kernel
theorem dX8_strike_5 : decode cX8_strike 5 = .ok (.getfield 97, 3) := by decide +kernel
theorem dX8_strike_8 : decode cX8_strike 8 = .ok (.invokestatic 82, 3) := by decide +kernel
theorem dX8_strike_11 : decode cX8_strike 11 = .ok (.aload_n 0, 1) := by decide +kernel
theorem dX8_strike_12 : decode cX8_strike 12 = .ok (.getfield 28, 3) := by decide +kernel
theorem dX8_strike_15 : decode cX8_strike 15 = .ok (.iload_n 1, 1) := by decide +kernel
theorem dX8_strike_16 : decode cX8_strike 16 = .ok (.invokevirtual 107, 3) := by decide +kernel
theorem dX8_strike_19 : decode cX8_strike 19 = .ok (.ireturn, 1) := by decide +kernel
def w_X8_strike (Q : Int32 → gS → Prop) (X : Nat → gS → Prop) (σ : gS) (a1 : Int32) : Prop :=
    w_X8_requireIndex  (fun (s1 : gS) => w_X3_takeDown  (fun (r4 : Int32) (s3 : gS) => gz r4 ∧ Q r4 s3) s1 a1) X σ a1 (σ 21 0)
abbrev ws_X8_strike : List Cond := Cond.code yX8_strike cX8_strike 2 (some .boolean) :: gG
abbrev rm_X8_strike : Room := { frames := 7, cells := 1, slots := 6, locals := 111 }
theorem k_X8_strike : gCV yX8_strike RX8 cX8_strike 2 (some .boolean) 1 := ⟨gw_3_176, gw_3_177, gw_1_1, gw_3_178, rfl, by decide +kernel⟩
set_option maxHeartbeats 4000000 in
set_option maxRecDepth 100000 in
theorem c_X8_strike (l : Launch) (hst : l.stackTraces = false) (D : va_G) (cy : Nat → ClassId) (ad : Nat → Nat) (A : Nat → Prop) (Q : Int32 → gS → Prop) (X : Nat → gS → Prop) (σ : gS) (a1 : Int32) (h : w_X8_strike Q X σ a1) : vx_Met l yX8_strike ws_X8_strike rm_X8_strike (va_Pc [.ref (ad 0), .int a1] (gB D cy ad A σ)) (va_Qi Q (gB D cy ad A) A) (gXX D cy ad A X) 1 6 A := by
  refine vx_ofW (cc := cX8_strike) (maxL := 2) (ret := (some .boolean)) (by decide) rfl ?_
  intro p e s m args below meth c s₁ B hml htb hv
  obtain ⟨rfl, hB⟩ := hv
  have hC : gC p c cX8_strike s m ([.ref (ad 0), .int a1] : List Value).toArray RX8 D cy ad A := g_start B hB
  have hI := g_first hB
  have hx := hC.1
  have hb := hC.2.1
  have hr := B.returns
  have hlocks := B.notSynchronized
  clear B hB
  have hl := lv_entry ([.ref (ad 0), .int a1]) (n := 2) (Nat.le_of_ble_eq_true rfl)
  rw [lg_entry_eq]
  generalize (lg_sl ([.ref (ad 0), .int a1]) ++ List.replicate (2 - (lg_sl ([.ref (ad 0), .int a1])).length) Slot.unset).toArray = ls at hl ⊢
  have hl : lv_has ls 2 [(0, .ref (ad 0)), (1, .int a1)] := hl
  unfold w_X8_strike at h
  refine lv_iload_n hx hb dX8_strike_0 rfl (lv_at hl 1 rfl) ?_
  refine lv_aload_n hx hb dX8_strike_1 rfl (lv_at hl 0 rfl) ?_
  refine gg_X8_meadow hC hI gw_2_47 dX8_strike_2 ?_
  refine gg_X3_tents hC hI gw_1_78 dX8_strike_5 ?_
  refine gy_backv hI (gy_runS (As := [.int a1, .int (σ 21 0)]) (rest := []) hC hml hI (c_X8_requireIndex l hst D cy ad A _ _  _ _ _ h) k_X8_requireIndex gw_3_33 ⟨rfl, rfl⟩ ⟨Nat.le_of_ble_eq_true rfl, Nat.le_of_ble_eq_true rfl⟩ rfl hl.1 rfl (Nat.le_of_ble_eq_true rfl) dX8_strike_8 ⟨Nat.le_of_ble_eq_true rfl, Nat.le_of_ble_eq_true rfl⟩) (fun _ _ _ _ _ _ hk9 hx9 hI9 h19 h29 h39 => gy_on htb hlocks hk9 hx9 hI9 h19 h29 h39 (Nat.le_of_ble_eq_true rfl) (Nat.le_of_ble_eq_true rfl)) (fun s1 H locs h hI => ?_)
  refine lv_aload_n hx hb dX8_strike_11 rfl (lv_at hl 0 rfl) ?_
  refine gg_X8_meadow hC hI gw_2_47 dX8_strike_12 ?_
  refine lv_iload_n hx hb dX8_strike_15 rfl (lv_at hl 1 rfl) ?_
  refine g_backi hI (g_runV (As := [.int a1]) (rest := []) hC hml hI (c_X3_takeDown l D cy ad A _  _ _ h) k_X3_takeDown gw_3_179 ⟨rfl, rfl⟩ ⟨Nat.le_of_ble_eq_true rfl, Nat.le_of_ble_eq_true rfl⟩ (grv_3 hC hI) rfl hl.1 rfl (Nat.le_of_ble_eq_true rfl) dX8_strike_16 ⟨Nat.le_of_ble_eq_true rfl, Nat.le_of_ble_eq_true rfl⟩) (fun r4 s3 H locs h hI => ?_)
  exact gy_zret hC hr hlocks h.1 hI h.2 (Nat.le_of_ble_eq_true rfl) (Nat.le_of_ble_eq_true rfl) dX8_strike_19

theorem dX8_at_0 : decode cX8_at 0 = .ok (.iload_n 1, 1) := by decide +kernel
theorem dX8_at_1 : decode cX8_at 1 = .ok (.sipush 192, 3) := by decide +kernel
theorem dX8_at_4 : decode cX8_at 4 = .ok (.invokestatic 82, 3) := by decide +kernel
theorem dX8_at_7 : decode cX8_at 7 = .ok (.aload_n 0, 1) := by decide +kernel
theorem dX8_at_8 : decode cX8_at 8 = .ok (.getfield 28, 3) := by decide +kernel
theorem dX8_at_11 : decode cX8_at 11 = .ok (.getfield 111, 3) := by decide +kernel
theorem dX8_at_14 : decode cX8_at 14 = .ok (.iload_n 1, 1) := by decide +kernel
theorem dX8_at_15 : decode cX8_at 15 = .ok (.iaload, 1) := by decide +kernel
theorem dX8_at_16 : decode cX8_at 16 = .ok (.ireturn, 1) := by decide +kernel
def w_X8_at (Q : Int32 → gS → Prop) (X : Nat → gS → Prop) (σ : gS) (a1 : Int32) : Prop :=
    w_X8_requireIndex  (fun (s2 : gS) => vp_in a1 192 ∧ Q (s2 19 a1.toNatClampNeg) s2) X σ a1 192
abbrev ws_X8_at : List Cond := Cond.code yX8_at cX8_at 2 (some .int) :: gG
abbrev rm_X8_at : Room := { frames := 7, cells := 1, slots := 6, locals := 111 }
theorem k_X8_at : gCV yX8_at RX8 cX8_at 2 (some .int) 1 := ⟨gw_3_187, gw_3_188, gw_1_1, gw_3_189, rfl, by decide +kernel⟩
set_option maxHeartbeats 4000000 in
set_option maxRecDepth 100000 in
theorem c_X8_at (l : Launch) (hst : l.stackTraces = false) (D : va_G) (cy : Nat → ClassId) (ad : Nat → Nat) (A : Nat → Prop) (Q : Int32 → gS → Prop) (X : Nat → gS → Prop) (σ : gS) (a1 : Int32) (h : w_X8_at Q X σ a1) : vx_Met l yX8_at ws_X8_at rm_X8_at (va_Pc [.ref (ad 0), .int a1] (gB D cy ad A σ)) (va_Qi Q (gB D cy ad A) A) (gXX D cy ad A X) 1 6 A := by
  refine vx_ofW (cc := cX8_at) (maxL := 2) (ret := (some .int)) (by decide) rfl ?_
  intro p e s m args below meth c s₁ B hml htb hv
  obtain ⟨rfl, hB⟩ := hv
  have hC : gC p c cX8_at s m ([.ref (ad 0), .int a1] : List Value).toArray RX8 D cy ad A := g_start B hB
  have hI := g_first hB
  have hx := hC.1
  have hb := hC.2.1
  have hr := B.returns
  have hlocks := B.notSynchronized
  clear B hB
  have hl := lv_entry ([.ref (ad 0), .int a1]) (n := 2) (Nat.le_of_ble_eq_true rfl)
  rw [lg_entry_eq]
  generalize (lg_sl ([.ref (ad 0), .int a1]) ++ List.replicate (2 - (lg_sl ([.ref (ad 0), .int a1])).length) Slot.unset).toArray = ls at hl ⊢
  have hl : lv_has ls 2 [(0, .ref (ad 0)), (1, .int a1)] := hl
  unfold w_X8_at at h
  refine lv_iload_n hx hb dX8_at_0 rfl (lv_at hl 1 rfl) ?_
  refine lv_sipush (v := 192) hx hb dX8_at_1 (by decide) ?_
  refine gy_backv hI (gy_runS (As := [.int a1, .int 192]) (rest := []) hC hml hI (c_X8_requireIndex l hst D cy ad A _ _  _ _ _ h) k_X8_requireIndex gw_3_33 ⟨rfl, rfl⟩ ⟨Nat.le_of_ble_eq_true rfl, Nat.le_of_ble_eq_true rfl⟩ rfl hl.1 rfl (Nat.le_of_ble_eq_true rfl) dX8_at_4 ⟨Nat.le_of_ble_eq_true rfl, Nat.le_of_ble_eq_true rfl⟩) (fun _ _ _ _ _ _ hk9 hx9 hI9 h19 h29 h39 => gy_on htb hlocks hk9 hx9 hI9 h19 h29 h39 (Nat.le_of_ble_eq_true rfl) (Nat.le_of_ble_eq_true rfl)) (fun s2 H locs h hI => ?_)
  refine lv_aload_n hx hb dX8_at_7 rfl (lv_at hl 0 rfl) ?_
  refine gg_X8_meadow hC hI gw_2_47 dX8_at_8 ?_
  refine gg_X3_squares hC hI gw_1_74 dX8_at_11 ?_
  refine lv_iload_n hx hb dX8_at_14 rfl (lv_at hl 1 rfl) ?_
  obtain ⟨hi4, h⟩ := h
  refine ga_21 hC hI hi4 dX8_at_15 ?_
  exact gy_iret hC hr hlocks hI h (Nat.le_of_ble_eq_true rfl) (Nat.le_of_ble_eq_true rfl) dX8_at_16

theorem dX8_place_0 : decode cX8_place 0 = .ok (.iload_n 1, 1) := by decide +kernel
theorem dX8_place_1 : decode cX8_place 1 = .ok (.iconst 0, 1) := by decide +kernel
theorem dX8_place_2 : decode cX8_place 2 = .ok (.sipush 20000, 3) := by decide +kernel
theorem dX8_place_5 : decode cX8_place 5 = .ok (.invokestatic 93, 3) := by decide +kernel
theorem dX8_place_8 : decode cX8_place 8 = .ok (.iload_n 2, 1) := by decide +kernel
theorem dX8_place_9 : decode cX8_place 9 = .ok (.iconst 0, 1) := by decide +kernel
theorem dX8_place_10 : decode cX8_place 10 = .ok (.sipush 2000, 3) := by decide +kernel
theorem dX8_place_13 : decode cX8_place 13 = .ok (.invokestatic 93, 3) := by decide +kernel
theorem dX8_place_16 : decode cX8_place 16 = .ok (.aload_n 0, 1) := by decide +kernel
theorem dX8_place_17 : decode cX8_place 17 = .ok (.getfield 35, 3) := by decide +kernel
theorem dX8_place_20 : decode cX8_place 20 = .ok (.getfield 114, 3) := by decide +kernel
theorem dX8_place_23 : decode cX8_place 23 = .ok (.bipush 8, 2) := by decide +kernel
theorem dX8_place_25 : decode cX8_place 25 = .ok (.if_icmp .lt 11, 3) := by decide +kernel
theorem dX8_place_28 : decode cX8_place 28 = .ok (.new 100, 3) := by decide +kernel
theorem dX8_place_31 : decode cX8_place 31 = .ok (.dup, 1) := by decide +kernel
theorem dX8_place_32 : decode cX8_place 32 = .ok (.invokespecial 102, 3) := by decide +kernel
theorem dX8_place_35 : decode cX8_place 35 = .ok (.athrow, 1) := by decide +kernel
theorem dX8_place_36 : decode cX8_place 36 = .ok (.aload_n 0, 1) := by decide +kernel
theorem dX8_place_37 : decode cX8_place 37 = .ok (.getfield 35, 3) := by decide +kernel
theorem dX8_place_40 : decode cX8_place 40 = .ok (.iload_n 1, 1) := by decide +kernel
theorem dX8_place_41 : decode cX8_place 41 = .ok (.iload_n 2, 1) := by decide +kernel
theorem dX8_place_42 : decode cX8_place 42 = .ok (.invokevirtual 117, 3) := by decide +kernel
theorem dX8_place_45 : decode cX8_place 45 = .ok (.ireturn, 1) := by decide +kernel
def w_X8_place (Q : Int32 → gS → Prop) (X : Nat → gS → Prop) (σ : gS) (a1 : Int32) (a2 : Int32) : Prop :=
    w_X8_requireNumber  (fun (s1 : gS) => w_X8_requireNumber  (fun (s3 : gS) => ((s3 26 0) < 8 → w_X2_addPlace  (fun (r7 : Int32) (s6 : gS) => Q r7 s6) s3 a1 a2) ∧ (¬ (s3 26 0) < 8 → X 2 s3)) X s1 a2 0 2000) X σ a1 0 20000
abbrev ws_X8_place : List Cond := Cond.code yX8_place cX8_place 3 (some .int) :: gG
abbrev rm_X8_place : Room := { frames := 7, cells := 3, slots := 18, locals := 112 }
theorem k_X8_place : gCV yX8_place RX8 cX8_place 3 (some .int) 2 := ⟨gw_3_194, gw_3_195, gw_1_1, gw_3_196, rfl, by decide +kernel⟩
set_option maxHeartbeats 4000000 in
set_option maxRecDepth 100000 in
theorem c_X8_place (l : Launch) (hst : l.stackTraces = false) (D : va_G) (cy : Nat → ClassId) (ad : Nat → Nat) (A : Nat → Prop) (Q : Int32 → gS → Prop) (X : Nat → gS → Prop) (σ : gS) (a1 : Int32) (a2 : Int32) (h : w_X8_place Q X σ a1 a2) : vx_Met l yX8_place ws_X8_place rm_X8_place (va_Pc [.ref (ad 0), .int a1, .int a2] (gB D cy ad A σ)) (va_Qi Q (gB D cy ad A) A) (gXX D cy ad A X) 3 18 A := by
  refine vx_ofW (cc := cX8_place) (maxL := 3) (ret := (some .int)) (by decide) rfl ?_
  intro p e s m args below meth c s₁ B hml htb hv
  obtain ⟨rfl, hB⟩ := hv
  have hC : gC p c cX8_place s m ([.ref (ad 0), .int a1, .int a2] : List Value).toArray RX8 D cy ad A := g_start B hB
  have hI := g_first hB
  have hx := hC.1
  have hb := hC.2.1
  have hr := B.returns
  have hlocks := B.notSynchronized
  clear B hB
  have hl := lv_entry ([.ref (ad 0), .int a1, .int a2]) (n := 3) (Nat.le_of_ble_eq_true rfl)
  rw [lg_entry_eq]
  generalize (lg_sl ([.ref (ad 0), .int a1, .int a2]) ++ List.replicate (3 - (lg_sl ([.ref (ad 0), .int a1, .int a2])).length) Slot.unset).toArray = ls at hl ⊢
  have hl : lv_has ls 3 [(0, .ref (ad 0)), (1, .int a1), (2, .int a2)] := hl
  unfold w_X8_place at h
  refine lv_iload_n hx hb dX8_place_0 rfl (lv_at hl 1 rfl) ?_
  refine lv_iconst (v := 0) hx hb dX8_place_1 (by decide) ?_
  refine lv_sipush (v := 20000) hx hb dX8_place_2 (by decide) ?_
  refine gy_backv hI (gy_runS (As := [.int a1, .int 0, .int 20000]) (rest := []) hC hml hI (c_X8_requireNumber l hst D cy ad A _ _  _ _ _ _ h) k_X8_requireNumber gw_3_119 ⟨rfl, rfl⟩ ⟨Nat.le_of_ble_eq_true rfl, Nat.le_of_ble_eq_true rfl⟩ rfl hl.1 rfl (Nat.le_of_ble_eq_true rfl) dX8_place_5 ⟨Nat.le_of_ble_eq_true rfl, Nat.le_of_ble_eq_true rfl⟩) (fun _ _ _ _ _ _ hk9 hx9 hI9 h19 h29 h39 => gy_on htb hlocks hk9 hx9 hI9 h19 h29 h39 (Nat.le_of_ble_eq_true rfl) (Nat.le_of_ble_eq_true rfl)) (fun s1 H locs h hI => ?_)
  refine lv_iload_n hx hb dX8_place_8 rfl (lv_at hl 2 rfl) ?_
  refine lv_iconst (v := 0) hx hb dX8_place_9 (by decide) ?_
  refine lv_sipush (v := 2000) hx hb dX8_place_10 (by decide) ?_
  refine gy_backv hI (gy_runS (As := [.int a2, .int 0, .int 2000]) (rest := []) hC hml hI (c_X8_requireNumber l hst D cy ad A _ _  _ _ _ _ h) k_X8_requireNumber gw_3_119 ⟨rfl, rfl⟩ ⟨Nat.le_of_ble_eq_true rfl, Nat.le_of_ble_eq_true rfl⟩ rfl hl.1 rfl (Nat.le_of_ble_eq_true rfl) dX8_place_13 ⟨Nat.le_of_ble_eq_true rfl, Nat.le_of_ble_eq_true rfl⟩) (fun _ _ _ _ _ _ hk9 hx9 hI9 h19 h29 h39 => gy_on htb hlocks hk9 hx9 hI9 h19 h29 h39 (Nat.le_of_ble_eq_true rfl) (Nat.le_of_ble_eq_true rfl)) (fun s3 H locs h hI => ?_)
  refine lv_aload_n hx hb dX8_place_16 rfl (lv_at hl 0 rfl) ?_
  refine gg_X8_ground hC hI gw_2_48 dX8_place_17 ?_
  refine gg_X2_places hC hI gw_1_147 dX8_place_20 ?_
  refine lv_bipush (v := 8) hx hb dX8_place_23 (by decide) ?_
  refine lv_icmp_lt (tgt := 36) hx hb dX8_place_25 (by decide) (fun c5 => ?_) (fun c5 => ?_)
  · have h := h.1 c5
    refine lv_aload_n hx hb dX8_place_36 rfl (lv_at hl 0 rfl) ?_
    refine gg_X8_ground hC hI gw_2_48 dX8_place_37 ?_
    refine lv_iload_n hx hb dX8_place_40 rfl (lv_at hl 1 rfl) ?_
    refine lv_iload_n hx hb dX8_place_41 rfl (lv_at hl 2 rfl) ?_
    refine g_backi hI (g_runV (As := [.int a1, .int a2]) (rest := []) hC hml hI (c_X2_addPlace l D cy ad A _  _ _ _ h) k_X2_addPlace gw_3_197 ⟨rfl, rfl⟩ ⟨Nat.le_of_ble_eq_true rfl, Nat.le_of_ble_eq_true rfl⟩ (grv_4 hC hI) rfl hl.1 rfl (Nat.le_of_ble_eq_true rfl) dX8_place_42 ⟨Nat.le_of_ble_eq_true rfl, Nat.le_of_ble_eq_true rfl⟩) (fun r7 s6 H locs h hI => ?_)
    exact gy_iret hC hr hlocks hI h (Nat.le_of_ble_eq_true rfl) (Nat.le_of_ble_eq_true rfl) dX8_place_45
  · have h := h.2 c5
    exact gth_2 hst hC hI hml hl.1 htb hlocks h dX8_place_28 dX8_place_31 dX8_place_32 dX8_place_35 (Nat.le_of_ble_eq_true rfl) (Nat.le_of_ble_eq_true rfl) (Nat.le_of_ble_eq_true rfl) (Nat.le_of_ble_eq_true rfl) (Nat.le_of_ble_eq_true rfl) (Nat.le_of_ble_eq_true rfl)

theorem dX8_crowd_0 : decode cX8_crowd 0 = .ok (.iload_n 1, 1) := by decide +kernel
theorem dX8_crowd_1 : decode cX8_crowd 1 = .ok (.aload_n 0, 1) := by decide +kernel
theorem dX8_crowd_2 : decode cX8_crowd 2 = .ok (.getfield 35, 3) := by decide +kernel
theorem dX8_crowd_5 : decode cX8_crowd 5 = .ok (.getfield 114, 3) := by decide +kernel
theorem dX8_crowd_8 : decode cX8_crowd 8 = .ok (.invokestatic 82, 3) := by decide +kernel
theorem dX8_crowd_11 : decode cX8_crowd 11 = .ok (.iload_n 2, 1) := by decide +kernel
theorem dX8_crowd_12 : decode cX8_crowd 12 = .ok (.iconst 0, 1) := by decide +kernel
theorem dX8_crowd_13 : decode cX8_crowd 13 = .ok (.sipush 20000, 3) := by decide +kernel
theorem dX8_crowd_16 : decode cX8_crowd 16 = .ok (.invokestatic 93, 3) := by decide +kernel
theorem dX8_crowd_19 : decode cX8_crowd 19 = .ok (.aload_n 0, 1) := by decide +kernel
theorem dX8_crowd_20 : decode cX8_crowd 20 = .ok (.getfield 35, 3) := by decide +kernel
theorem dX8_crowd_23 : decode cX8_crowd 23 = .ok (.iload_n 1, 1) := by decide +kernel
theorem dX8_crowd_24 : decode cX8_crowd 24 = .ok (.iload_n 2, 1) := by decide +kernel
theorem dX8_crowd_25 : decode cX8_crowd 25 = .ok (.invokevirtual 120, 3) := by decide +kernel
theorem dX8_crowd_28 : decode cX8_crowd 28 = .ok (.return_, 1) := by decide +kernel
def w_X8_crowd (Q : gS → Prop) (X : Nat → gS → Prop) (σ : gS) (a1 : Int32) (a2 : Int32) : Prop :=
    w_X8_requireIndex  (fun (s1 : gS) => w_X8_requireNumber  (fun (s3 : gS) => w_X2_setCrowd  (fun (s5 : gS) => Q s5) s3 a1 a2) X s1 a2 0 20000) X σ a1 (σ 26 0)
abbrev ws_X8_crowd : List Cond := Cond.code yX8_crowd cX8_crowd 3 none :: gG
abbrev rm_X8_crowd : Room := { frames := 7, cells := 2, slots := 12, locals := 112 }
theorem k_X8_crowd : gCV yX8_crowd RX8 cX8_crowd 3 none 2 := ⟨gw_3_209, gw_3_210, gw_1_1, gw_3_211, rfl, by decide +kernel⟩
set_option maxHeartbeats 4000000 in
set_option maxRecDepth 100000 in
theorem c_X8_crowd (l : Launch) (hst : l.stackTraces = false) (D : va_G) (cy : Nat → ClassId) (ad : Nat → Nat) (A : Nat → Prop) (Q : gS → Prop) (X : Nat → gS → Prop) (σ : gS) (a1 : Int32) (a2 : Int32) (h : w_X8_crowd Q X σ a1 a2) : vx_Met l yX8_crowd ws_X8_crowd rm_X8_crowd (va_Pc [.ref (ad 0), .int a1, .int a2] (gB D cy ad A σ)) (va_Qv Q (gB D cy ad A) A) (gXX D cy ad A X) 2 12 A := by
  refine vx_ofW (cc := cX8_crowd) (maxL := 3) (ret := none) (by decide) rfl ?_
  intro p e s m args below meth c s₁ B hml htb hv
  obtain ⟨rfl, hB⟩ := hv
  have hC : gC p c cX8_crowd s m ([.ref (ad 0), .int a1, .int a2] : List Value).toArray RX8 D cy ad A := g_start B hB
  have hI := g_first hB
  have hx := hC.1
  have hb := hC.2.1
  have hr := B.returns
  have hlocks := B.notSynchronized
  clear B hB
  have hl := lv_entry ([.ref (ad 0), .int a1, .int a2]) (n := 3) (Nat.le_of_ble_eq_true rfl)
  rw [lg_entry_eq]
  generalize (lg_sl ([.ref (ad 0), .int a1, .int a2]) ++ List.replicate (3 - (lg_sl ([.ref (ad 0), .int a1, .int a2])).length) Slot.unset).toArray = ls at hl ⊢
  have hl : lv_has ls 3 [(0, .ref (ad 0)), (1, .int a1), (2, .int a2)] := hl
  unfold w_X8_crowd at h
  refine lv_iload_n hx hb dX8_crowd_0 rfl (lv_at hl 1 rfl) ?_
  refine lv_aload_n hx hb dX8_crowd_1 rfl (lv_at hl 0 rfl) ?_
  refine gg_X8_ground hC hI gw_2_48 dX8_crowd_2 ?_
  refine gg_X2_places hC hI gw_1_147 dX8_crowd_5 ?_
  refine gy_backv hI (gy_runS (As := [.int a1, .int (σ 26 0)]) (rest := []) hC hml hI (c_X8_requireIndex l hst D cy ad A _ _  _ _ _ h) k_X8_requireIndex gw_3_33 ⟨rfl, rfl⟩ ⟨Nat.le_of_ble_eq_true rfl, Nat.le_of_ble_eq_true rfl⟩ rfl hl.1 rfl (Nat.le_of_ble_eq_true rfl) dX8_crowd_8 ⟨Nat.le_of_ble_eq_true rfl, Nat.le_of_ble_eq_true rfl⟩) (fun _ _ _ _ _ _ hk9 hx9 hI9 h19 h29 h39 => gy_on htb hlocks hk9 hx9 hI9 h19 h29 h39 (Nat.le_of_ble_eq_true rfl) (Nat.le_of_ble_eq_true rfl)) (fun s1 H locs h hI => ?_)
  refine lv_iload_n hx hb dX8_crowd_11 rfl (lv_at hl 2 rfl) ?_
  refine lv_iconst (v := 0) hx hb dX8_crowd_12 (by decide) ?_
  refine lv_sipush (v := 20000) hx hb dX8_crowd_13 (by decide) ?_
  refine gy_backv hI (gy_runS (As := [.int a2, .int 0, .int 20000]) (rest := []) hC hml hI (c_X8_requireNumber l hst D cy ad A _ _  _ _ _ _ h) k_X8_requireNumber gw_3_119 ⟨rfl, rfl⟩ ⟨Nat.le_of_ble_eq_true rfl, Nat.le_of_ble_eq_true rfl⟩ rfl hl.1 rfl (Nat.le_of_ble_eq_true rfl) dX8_crowd_16 ⟨Nat.le_of_ble_eq_true rfl, Nat.le_of_ble_eq_true rfl⟩) (fun _ _ _ _ _ _ hk9 hx9 hI9 h19 h29 h39 => gy_on htb hlocks hk9 hx9 hI9 h19 h29 h39 (Nat.le_of_ble_eq_true rfl) (Nat.le_of_ble_eq_true rfl)) (fun s3 H locs h hI => ?_)
  refine lv_aload_n hx hb dX8_crowd_19 rfl (lv_at hl 0 rfl) ?_
  refine gg_X8_ground hC hI gw_2_48 dX8_crowd_20 ?_
  refine lv_iload_n hx hb dX8_crowd_23 rfl (lv_at hl 1 rfl) ?_
  refine lv_iload_n hx hb dX8_crowd_24 rfl (lv_at hl 2 rfl) ?_
  refine g_backv hI (g_runV (As := [.int a1, .int a2]) (rest := []) hC hml hI (c_X2_setCrowd l D cy ad A _  _ _ _ h) k_X2_setCrowd gw_3_212 ⟨rfl, rfl⟩ ⟨Nat.le_of_ble_eq_true rfl, Nat.le_of_ble_eq_true rfl⟩ (grv_4 hC hI) rfl hl.1 rfl (Nat.le_of_ble_eq_true rfl) dX8_crowd_25 ⟨Nat.le_of_ble_eq_true rfl, Nat.le_of_ble_eq_true rfl⟩) (fun s5 H locs h hI => ?_)
  exact gy_vret hC hr hlocks hI h (Nat.le_of_ble_eq_true rfl) (Nat.le_of_ble_eq_true rfl) dX8_crowd_28

theorem dX8_shut_0 : decode cX8_shut 0 = .ok (.iload_n 1, 1) := by decide +kernel
theorem dX8_shut_1 : decode cX8_shut 1 = .ok (.aload_n 0, 1) := by decide +kernel
theorem dX8_shut_2 : decode cX8_shut 2 = .ok (.getfield 35, 3) := by decide +kernel
theorem dX8_shut_5 : decode cX8_shut 5 = .ok (.getfield 114, 3) := by decide +kernel
theorem dX8_shut_8 : decode cX8_shut 8 = .ok (.invokestatic 82, 3) := by decide +kernel
theorem dX8_shut_11 : decode cX8_shut 11 = .ok (.aload_n 0, 1) := by decide +kernel
theorem dX8_shut_12 : decode cX8_shut 12 = .ok (.getfield 35, 3) := by decide +kernel
theorem dX8_shut_15 : decode cX8_shut 15 = .ok (.iload_n 1, 1) := by decide +kernel
theorem dX8_shut_16 : decode cX8_shut 16 = .ok (.iload_n 2, 1) := by decide +kernel
theorem dX8_shut_17 : decode cX8_shut 17 = .ok (.invokevirtual 123, 3) := by decide +kernel
theorem dX8_shut_20 : decode cX8_shut 20 = .ok (.ireturn, 1) := by decide +kernel
def w_X8_shut (Q : Int32 → gS → Prop) (X : Nat → gS → Prop) (σ : gS) (a1 : Int32) (a2 : Int32) : Prop :=
    w_X8_requireIndex  (fun (s1 : gS) => w_X2_setClosed  (fun (r4 : Int32) (s3 : gS) => gz r4 ∧ Q r4 s3) s1 a1 a2) X σ a1 (σ 26 0)
abbrev ws_X8_shut : List Cond := Cond.code yX8_shut cX8_shut 3 (some .boolean) :: gG
abbrev rm_X8_shut : Room := { frames := 7, cells := 1, slots := 6, locals := 111 }
theorem k_X8_shut : gCV yX8_shut RX8 cX8_shut 3 (some .boolean) 2 := ⟨gw_3_220, gw_3_221, gw_1_1, gw_3_222, rfl, by decide +kernel⟩
set_option maxHeartbeats 4000000 in
set_option maxRecDepth 100000 in
theorem c_X8_shut (l : Launch) (hst : l.stackTraces = false) (D : va_G) (cy : Nat → ClassId) (ad : Nat → Nat) (A : Nat → Prop) (Q : Int32 → gS → Prop) (X : Nat → gS → Prop) (σ : gS) (a1 : Int32) (a2 : Int32) (h : w_X8_shut Q X σ a1 a2) : vx_Met l yX8_shut ws_X8_shut rm_X8_shut (va_Pc [.ref (ad 0), .int a1, .int a2] (gB D cy ad A σ)) (va_Qi Q (gB D cy ad A) A) (gXX D cy ad A X) 1 6 A := by
  refine vx_ofW (cc := cX8_shut) (maxL := 3) (ret := (some .boolean)) (by decide) rfl ?_
  intro p e s m args below meth c s₁ B hml htb hv
  obtain ⟨rfl, hB⟩ := hv
  have hC : gC p c cX8_shut s m ([.ref (ad 0), .int a1, .int a2] : List Value).toArray RX8 D cy ad A := g_start B hB
  have hI := g_first hB
  have hx := hC.1
  have hb := hC.2.1
  have hr := B.returns
  have hlocks := B.notSynchronized
  clear B hB
  have hl := lv_entry ([.ref (ad 0), .int a1, .int a2]) (n := 3) (Nat.le_of_ble_eq_true rfl)
  rw [lg_entry_eq]
  generalize (lg_sl ([.ref (ad 0), .int a1, .int a2]) ++ List.replicate (3 - (lg_sl ([.ref (ad 0), .int a1, .int a2])).length) Slot.unset).toArray = ls at hl ⊢
  have hl : lv_has ls 3 [(0, .ref (ad 0)), (1, .int a1), (2, .int a2)] := hl
  unfold w_X8_shut at h
  refine lv_iload_n hx hb dX8_shut_0 rfl (lv_at hl 1 rfl) ?_
  refine lv_aload_n hx hb dX8_shut_1 rfl (lv_at hl 0 rfl) ?_
  refine gg_X8_ground hC hI gw_2_48 dX8_shut_2 ?_
  refine gg_X2_places hC hI gw_1_147 dX8_shut_5 ?_
  refine gy_backv hI (gy_runS (As := [.int a1, .int (σ 26 0)]) (rest := []) hC hml hI (c_X8_requireIndex l hst D cy ad A _ _  _ _ _ h) k_X8_requireIndex gw_3_33 ⟨rfl, rfl⟩ ⟨Nat.le_of_ble_eq_true rfl, Nat.le_of_ble_eq_true rfl⟩ rfl hl.1 rfl (Nat.le_of_ble_eq_true rfl) dX8_shut_8 ⟨Nat.le_of_ble_eq_true rfl, Nat.le_of_ble_eq_true rfl⟩) (fun _ _ _ _ _ _ hk9 hx9 hI9 h19 h29 h39 => gy_on htb hlocks hk9 hx9 hI9 h19 h29 h39 (Nat.le_of_ble_eq_true rfl) (Nat.le_of_ble_eq_true rfl)) (fun s1 H locs h hI => ?_)
  refine lv_aload_n hx hb dX8_shut_11 rfl (lv_at hl 0 rfl) ?_
  refine gg_X8_ground hC hI gw_2_48 dX8_shut_12 ?_
  refine lv_iload_n hx hb dX8_shut_15 rfl (lv_at hl 1 rfl) ?_
  refine lv_iload_n hx hb dX8_shut_16 rfl (lv_at hl 2 rfl) ?_
  refine g_backi hI (g_runV (As := [.int a1, .int a2]) (rest := []) hC hml hI (c_X2_setClosed l D cy ad A _  _ _ _ h) k_X2_setClosed gw_3_223 ⟨rfl, rfl⟩ ⟨Nat.le_of_ble_eq_true rfl, Nat.le_of_ble_eq_true rfl⟩ (grv_4 hC hI) rfl hl.1 rfl (Nat.le_of_ble_eq_true rfl) dX8_shut_17 ⟨Nat.le_of_ble_eq_true rfl, Nat.le_of_ble_eq_true rfl⟩) (fun r4 s3 H locs h hI => ?_)
  exact gy_zret hC hr hlocks h.1 hI h.2 (Nat.le_of_ble_eq_true rfl) (Nat.le_of_ble_eq_true rfl) dX8_shut_20

theorem dX8_way_0 : decode cX8_way 0 = .ok (.iload_n 1, 1) := by decide +kernel
theorem dX8_way_1 : decode cX8_way 1 = .ok (.aload_n 0, 1) := by decide +kernel
theorem dX8_way_2 : decode cX8_way 2 = .ok (.getfield 35, 3) := by decide +kernel
theorem dX8_way_5 : decode cX8_way 5 = .ok (.getfield 114, 3) := by decide +kernel
theorem dX8_way_8 : decode cX8_way 8 = .ok (.invokestatic 82, 3) := by decide +kernel
theorem dX8_way_11 : decode cX8_way 11 = .ok (.iload_n 2, 1) := by decide +kernel
theorem dX8_way_12 : decode cX8_way 12 = .ok (.aload_n 0, 1) := by decide +kernel
theorem dX8_way_13 : decode cX8_way 13 = .ok (.getfield 35, 3) := by decide +kernel
theorem dX8_way_16 : decode cX8_way 16 = .ok (.getfield 114, 3) := by decide +kernel
theorem dX8_way_19 : decode cX8_way 19 = .ok (.invokestatic 82, 3) := by decide +kernel
theorem dX8_way_22 : decode cX8_way 22 = .ok (.iload_n 3, 1) := by decide +kernel
theorem dX8_way_23 : decode cX8_way 23 = .ok (.iconst 1, 1) := by decide +kernel
theorem dX8_way_24 : decode cX8_way 24 = .ok (.bipush 8, 2) := by decide +kernel
theorem dX8_way_26 : decode cX8_way 26 = .ok (.invokestatic 93, 3) := by decide +kernel
theorem dX8_way_29 : decode cX8_way 29 = .ok (.iload 4, 2) := by decide +kernel
theorem dX8_way_31 : decode cX8_way 31 = .ok (.iconst 1, 1) := by decide +kernel
theorem dX8_way_32 : decode cX8_way 32 = .ok (.sipush 2000, 3) := by decide +kernel
theorem dX8_way_35 : decode cX8_way 35 = .ok (.invokestatic 93, 3) := by decide +kernel
theorem dX8_way_38 : decode cX8_way 38 = .ok (.iload_n 1, 1) := by decide +kernel
theorem dX8_way_39 : decode cX8_way 39 = .ok (.iload_n 2, 1) := by decide +kernel
theorem dX8_way_40 : decode cX8_way 40 = .ok (.if_icmp .ne 11, 3) := by decide +kernel
theorem dX8_way_43 : decode cX8_way 43 = .ok (.new 126, 3) := by decide +kernel
theorem dX8_way_46 : decode cX8_way 46 = .ok (.dup, 1) := by decide +kernel
theorem dX8_way_47 : decode cX8_way 47 = .ok (.invokespecial 128, 3) := by decide +kernel
theorem dX8_way_50 : decode cX8_way 50 = .ok (.athrow, 1) := by decide +kernel
theorem dX8_way_51 : decode cX8_way 51 = .ok (.aload_n 0, 1) := by decide +kernel
theorem dX8_way_52 : decode cX8_way 52 = .ok (.getfield 35, 3) := by decide +kernel
theorem dX8_way_55 : decode cX8_way 55 = .ok (.getfield 129, 3) := by decide +kernel
theorem dX8_way_58 : decode cX8_way 58 = .ok (.bipush 14, 2) := by decide +kernel
theorem dX8_way_60 : decode cX8_way 60 = .ok (.if_icmp .lt 11, 3) := by decide +kernel
theorem dX8_way_63 : decode cX8_way 63 = .ok (.new 100, 3) := by decide +kernel
theorem dX8_way_66 : decode cX8_way 66 = .ok (.dup, 1) := by decide +kernel
theorem dX8_way_67 : decode cX8_way 67 = .ok (.invokespecial 102, 3) := by decide +kernel
theorem dX8_way_70 : decode cX8_way 70 = .ok (.athrow, 1) := by decide +kernel
theorem dX8_way_71 : decode cX8_way 71 = .ok (.aload_n 0, 1) := by decide +kernel
theorem dX8_way_72 : decode cX8_way 72 = .ok (.getfield 35, 3) := by decide +kernel
theorem dX8_way_75 : decode cX8_way 75 = .ok (.iload_n 1, 1) := by decide +kernel
theorem dX8_way_76 : decode cX8_way 76 = .ok (.iload_n 2, 1) := by decide +kernel
theorem dX8_way_77 : decode cX8_way 77 = .ok (.iload_n 3, 1) := by decide +kernel
theorem dX8_way_78 : decode cX8_way 78 = .ok (.iload 4, 2) := by decide +kernel
theorem dX8_way_80 : decode cX8_way 80 = .ok (.invokevirtual 132, 3) := by decide +kernel
theorem dX8_way_83 : decode cX8_way 83 = .ok (.ireturn, 1) := by decide +kernel
def w_X8_way (Q : Int32 → gS → Prop) (X : Nat → gS → Prop) (σ : gS) (a1 : Int32) (a2 : Int32) (a3 : Int32) (a4 : Int32) : Prop :=
    w_X8_requireIndex  (fun (s1 : gS) => w_X8_requireIndex  (fun (s3 : gS) => w_X8_requireNumber  (fun (s5 : gS) => w_X8_requireNumber  (fun (s7 : gS) => (¬ a1 = a2 → ((s7 30 0) < 14 → w_X2_addWay  (fun (r12 : Int32) (s11 : gS) => Q r12 s11) s7 a1 a2 a3 a4) ∧ (¬ (s7 30 0) < 14 → X 2 s7)) ∧ (a1 = a2 → X 1 s7)) X s5 a4 1 2000) X s3 a3 1 8) X s1 a2 (s1 26 0)) X σ a1 (σ 26 0)
abbrev ws_X8_way : List Cond := Cond.code yX8_way cX8_way 5 (some .int) :: gG
abbrev rm_X8_way : Room := { frames := 7, cells := 5, slots := 30, locals := 112 }
theorem k_X8_way : gCV yX8_way RX8 cX8_way 5 (some .int) 4 := ⟨gw_3_231, gw_3_232, gw_1_1, gw_3_233, rfl, by decide +kernel⟩
set_option maxHeartbeats 4000000 in
set_option maxRecDepth 100000 in
theorem c_X8_way (l : Launch) (hst : l.stackTraces = false) (D : va_G) (cy : Nat → ClassId) (ad : Nat → Nat) (A : Nat → Prop) (Q : Int32 → gS → Prop) (X : Nat → gS → Prop) (σ : gS) (a1 : Int32) (a2 : Int32) (a3 : Int32) (a4 : Int32) (h : w_X8_way Q X σ a1 a2 a3 a4) : vx_Met l yX8_way ws_X8_way rm_X8_way (va_Pc [.ref (ad 0), .int a1, .int a2, .int a3, .int a4] (gB D cy ad A σ)) (va_Qi Q (gB D cy ad A) A) (gXX D cy ad A X) 5 30 A := by
  refine vx_ofW (cc := cX8_way) (maxL := 5) (ret := (some .int)) (by decide) rfl ?_
  intro p e s m args below meth c s₁ B hml htb hv
  obtain ⟨rfl, hB⟩ := hv
  have hC : gC p c cX8_way s m ([.ref (ad 0), .int a1, .int a2, .int a3, .int a4] : List Value).toArray RX8 D cy ad A := g_start B hB
  have hI := g_first hB
  have hx := hC.1
  have hb := hC.2.1
  have hr := B.returns
  have hlocks := B.notSynchronized
  clear B hB
  have hl := lv_entry ([.ref (ad 0), .int a1, .int a2, .int a3, .int a4]) (n := 5) (Nat.le_of_ble_eq_true rfl)
  rw [lg_entry_eq]
  generalize (lg_sl ([.ref (ad 0), .int a1, .int a2, .int a3, .int a4]) ++ List.replicate (5 - (lg_sl ([.ref (ad 0), .int a1, .int a2, .int a3, .int a4])).length) Slot.unset).toArray = ls at hl ⊢
  have hl : lv_has ls 5 [(0, .ref (ad 0)), (1, .int a1), (2, .int a2), (3, .int a3), (4, .int a4)] := hl
  unfold w_X8_way at h
  refine lv_iload_n hx hb dX8_way_0 rfl (lv_at hl 1 rfl) ?_
  refine lv_aload_n hx hb dX8_way_1 rfl (lv_at hl 0 rfl) ?_
  refine gg_X8_ground hC hI gw_2_48 dX8_way_2 ?_
  refine gg_X2_places hC hI gw_1_147 dX8_way_5 ?_
  refine gy_backv hI (gy_runS (As := [.int a1, .int (σ 26 0)]) (rest := []) hC hml hI (c_X8_requireIndex l hst D cy ad A _ _  _ _ _ h) k_X8_requireIndex gw_3_33 ⟨rfl, rfl⟩ ⟨Nat.le_of_ble_eq_true rfl, Nat.le_of_ble_eq_true rfl⟩ rfl hl.1 rfl (Nat.le_of_ble_eq_true rfl) dX8_way_8 ⟨Nat.le_of_ble_eq_true rfl, Nat.le_of_ble_eq_true rfl⟩) (fun _ _ _ _ _ _ hk9 hx9 hI9 h19 h29 h39 => gy_on htb hlocks hk9 hx9 hI9 h19 h29 h39 (Nat.le_of_ble_eq_true rfl) (Nat.le_of_ble_eq_true rfl)) (fun s1 H locs h hI => ?_)
  refine lv_iload_n hx hb dX8_way_11 rfl (lv_at hl 2 rfl) ?_
  refine lv_aload_n hx hb dX8_way_12 rfl (lv_at hl 0 rfl) ?_
  refine gg_X8_ground hC hI gw_2_48 dX8_way_13 ?_
  refine gg_X2_places hC hI gw_1_147 dX8_way_16 ?_
  refine gy_backv hI (gy_runS (As := [.int a2, .int (s1 26 0)]) (rest := []) hC hml hI (c_X8_requireIndex l hst D cy ad A _ _  _ _ _ h) k_X8_requireIndex gw_3_33 ⟨rfl, rfl⟩ ⟨Nat.le_of_ble_eq_true rfl, Nat.le_of_ble_eq_true rfl⟩ rfl hl.1 rfl (Nat.le_of_ble_eq_true rfl) dX8_way_19 ⟨Nat.le_of_ble_eq_true rfl, Nat.le_of_ble_eq_true rfl⟩) (fun _ _ _ _ _ _ hk9 hx9 hI9 h19 h29 h39 => gy_on htb hlocks hk9 hx9 hI9 h19 h29 h39 (Nat.le_of_ble_eq_true rfl) (Nat.le_of_ble_eq_true rfl)) (fun s3 H locs h hI => ?_)
  refine lv_iload_n hx hb dX8_way_22 rfl (lv_at hl 3 rfl) ?_
  refine lv_iconst (v := 1) hx hb dX8_way_23 (by decide) ?_
  refine lv_bipush (v := 8) hx hb dX8_way_24 (by decide) ?_
  refine gy_backv hI (gy_runS (As := [.int a3, .int 1, .int 8]) (rest := []) hC hml hI (c_X8_requireNumber l hst D cy ad A _ _  _ _ _ _ h) k_X8_requireNumber gw_3_119 ⟨rfl, rfl⟩ ⟨Nat.le_of_ble_eq_true rfl, Nat.le_of_ble_eq_true rfl⟩ rfl hl.1 rfl (Nat.le_of_ble_eq_true rfl) dX8_way_26 ⟨Nat.le_of_ble_eq_true rfl, Nat.le_of_ble_eq_true rfl⟩) (fun _ _ _ _ _ _ hk9 hx9 hI9 h19 h29 h39 => gy_on htb hlocks hk9 hx9 hI9 h19 h29 h39 (Nat.le_of_ble_eq_true rfl) (Nat.le_of_ble_eq_true rfl)) (fun s5 H locs h hI => ?_)
  refine lv_iload hx hb dX8_way_29 (lv_at hl 4 rfl) ?_
  refine lv_iconst (v := 1) hx hb dX8_way_31 (by decide) ?_
  refine lv_sipush (v := 2000) hx hb dX8_way_32 (by decide) ?_
  refine gy_backv hI (gy_runS (As := [.int a4, .int 1, .int 2000]) (rest := []) hC hml hI (c_X8_requireNumber l hst D cy ad A _ _  _ _ _ _ h) k_X8_requireNumber gw_3_119 ⟨rfl, rfl⟩ ⟨Nat.le_of_ble_eq_true rfl, Nat.le_of_ble_eq_true rfl⟩ rfl hl.1 rfl (Nat.le_of_ble_eq_true rfl) dX8_way_35 ⟨Nat.le_of_ble_eq_true rfl, Nat.le_of_ble_eq_true rfl⟩) (fun _ _ _ _ _ _ hk9 hx9 hI9 h19 h29 h39 => gy_on htb hlocks hk9 hx9 hI9 h19 h29 h39 (Nat.le_of_ble_eq_true rfl) (Nat.le_of_ble_eq_true rfl)) (fun s7 H locs h hI => ?_)
  refine lv_iload_n hx hb dX8_way_38 rfl (lv_at hl 1 rfl) ?_
  refine lv_iload_n hx hb dX8_way_39 rfl (lv_at hl 2 rfl) ?_
  refine lv_icmp_ne (tgt := 51) hx hb dX8_way_40 (by decide) (fun c9 => ?_) (fun c9 => ?_)
  · have h := h.1 c9
    refine lv_aload_n hx hb dX8_way_51 rfl (lv_at hl 0 rfl) ?_
    refine gg_X8_ground hC hI gw_2_48 dX8_way_52 ?_
    refine gg_X2_ways hC hI gw_1_156 dX8_way_55 ?_
    refine lv_bipush (v := 14) hx hb dX8_way_58 (by decide) ?_
    refine lv_icmp_lt (tgt := 71) hx hb dX8_way_60 (by decide) (fun c10 => ?_) (fun c10 => ?_)
    · have h := h.1 c10
      refine lv_aload_n hx hb dX8_way_71 rfl (lv_at hl 0 rfl) ?_
      refine gg_X8_ground hC hI gw_2_48 dX8_way_72 ?_
      refine lv_iload_n hx hb dX8_way_75 rfl (lv_at hl 1 rfl) ?_
      refine lv_iload_n hx hb dX8_way_76 rfl (lv_at hl 2 rfl) ?_
      refine lv_iload_n hx hb dX8_way_77 rfl (lv_at hl 3 rfl) ?_
      refine lv_iload hx hb dX8_way_78 (lv_at hl 4 rfl) ?_
      refine g_backi hI (g_runV (As := [.int a1, .int a2, .int a3, .int a4]) (rest := []) hC hml hI (c_X2_addWay l D cy ad A _  _ _ _ _ _ h) k_X2_addWay gw_3_234 ⟨rfl, rfl⟩ ⟨Nat.le_of_ble_eq_true rfl, Nat.le_of_ble_eq_true rfl⟩ (grv_4 hC hI) rfl hl.1 rfl (Nat.le_of_ble_eq_true rfl) dX8_way_80 ⟨Nat.le_of_ble_eq_true rfl, Nat.le_of_ble_eq_true rfl⟩) (fun r12 s11 H locs h hI => ?_)
      exact gy_iret hC hr hlocks hI h (Nat.le_of_ble_eq_true rfl) (Nat.le_of_ble_eq_true rfl) dX8_way_83
    · have h := h.2 c10
      exact gth_2 hst hC hI hml hl.1 htb hlocks h dX8_way_63 dX8_way_66 dX8_way_67 dX8_way_70 (Nat.le_of_ble_eq_true rfl) (Nat.le_of_ble_eq_true rfl) (Nat.le_of_ble_eq_true rfl) (Nat.le_of_ble_eq_true rfl) (Nat.le_of_ble_eq_true rfl) (Nat.le_of_ble_eq_true rfl)
  · have h := h.2 c9
    exact gth_1 hst hC hI hml hl.1 htb hlocks h dX8_way_43 dX8_way_46 dX8_way_47 dX8_way_50 (Nat.le_of_ble_eq_true rfl) (Nat.le_of_ble_eq_true rfl) (Nat.le_of_ble_eq_true rfl) (Nat.le_of_ble_eq_true rfl) (Nat.le_of_ble_eq_true rfl) (Nat.le_of_ble_eq_true rfl)

theorem dX8_empty_0 : decode cX8_empty 0 = .ok (.aload_n 0, 1) := by decide +kernel
theorem dX8_empty_1 : decode cX8_empty 1 = .ok (.getfield 35, 3) := by decide +kernel
theorem dX8_empty_4 : decode cX8_empty 4 = .ok (.invokevirtual 136, 3) := by decide +kernel
theorem dX8_empty_7 : decode cX8_empty 7 = .ok (.ireturn, 1) := by decide +kernel
def w_X8_empty (Q : Int32 → gS → Prop) (σ : gS) : Prop :=
    w_X2_leastMinutes  (fun (r2 : Int32) (s1 : gS) => Q r2 s1) σ
abbrev ws_X8_empty : List Cond := Cond.code yX8_empty cX8_empty 1 (some .int) :: gG
abbrev rm_X8_empty : Room := { frames := 5, cells := 0, slots := 0, locals := 126 }
theorem k_X8_empty : gCV yX8_empty RX8 cX8_empty 1 (some .int) 0 := ⟨gw_2_96, gw_2_97, gw_1_1, gw_2_98, rfl, by decide +kernel⟩
set_option maxHeartbeats 4000000 in
set_option maxRecDepth 100000 in
theorem c_X8_empty (l : Launch) (D : va_G) (cy : Nat → ClassId) (ad : Nat → Nat) (A : Nat → Prop) (Q : Int32 → gS → Prop) (σ : gS) (h : w_X8_empty Q σ) : Met l yX8_empty ws_X8_empty rm_X8_empty (va_Pc [.ref (ad 0)] (gB D cy ad A σ)) (va_Qi Q (gB D cy ad A) A) 0 0 A := by
  refine Met.ofW (cc := cX8_empty) (maxL := 1) (ret := (some .int)) (by decide) rfl ?_
  intro p e s m args below meth c s₁ B hml hv
  obtain ⟨rfl, hB⟩ := hv
  have hC : gC p c cX8_empty s m ([.ref (ad 0)] : List Value).toArray RX8 D cy ad A := g_start B hB
  have hI := g_first hB
  have hx := hC.1
  have hb := hC.2.1
  have hr := B.returns
  have hlocks := B.notSynchronized
  clear B hB
  have hl := lv_entry ([.ref (ad 0)]) (n := 1) (Nat.le_of_ble_eq_true rfl)
  rw [lg_entry_eq]
  generalize (lg_sl ([.ref (ad 0)]) ++ List.replicate (1 - (lg_sl ([.ref (ad 0)])).length) Slot.unset).toArray = ls at hl ⊢
  have hl : lv_has ls 1 [(0, .ref (ad 0))] := hl
  unfold w_X8_empty at h
  refine lv_aload_n hx hb dX8_empty_0 rfl (lv_at hl 0 rfl) ?_
  refine gg_X8_ground hC hI gw_2_48 dX8_empty_1 ?_
  refine g_backi hI (g_runV (As := []) (rest := []) hC hml hI (c_X2_leastMinutes l D cy ad A _  _ h) k_X2_leastMinutes gw_2_99 ⟨rfl, rfl⟩ ⟨Nat.le_of_ble_eq_true rfl, Nat.le_of_ble_eq_true rfl⟩ (grv_4 hC hI) rfl hl.1 rfl (Nat.le_of_ble_eq_true rfl) dX8_empty_4 ⟨Nat.le_of_ble_eq_true rfl, Nat.le_of_ble_eq_true rfl⟩) (fun r2 s1 H locs h hI => ?_)
  exact g_iret hC hr hlocks hI h dX8_empty_7

theorem dX8_worst_0 : decode cX8_worst 0 = .ok (.aload_n 0, 1) := by decide +kernel
theorem dX8_worst_1 : decode cX8_worst 1 = .ok (.getfield 35, 3) := by decide +kernel
theorem dX8_worst_4 : decode cX8_worst 4 = .ok (.invokevirtual 140, 3) := by decide +kernel
theorem dX8_worst_7 : decode cX8_worst 7 = .ok (.ireturn, 1) := by decide +kernel
def w_X8_worst (Q : Int32 → gS → Prop) (σ : gS) : Prop :=
    w_X2_worstMinutes  (fun (r2 : Int32) (s1 : gS) => Q r2 s1) σ
abbrev ws_X8_worst : List Cond := Cond.code yX8_worst cX8_worst 1 (some .int) :: gG
abbrev rm_X8_worst : Room := { frames := 5, cells := 0, slots := 0, locals := 129 }
theorem k_X8_worst : gCV yX8_worst RX8 cX8_worst 1 (some .int) 0 := ⟨gw_2_176, gw_2_177, gw_1_1, gw_2_178, rfl, by decide +kernel⟩
set_option maxHeartbeats 4000000 in
set_option maxRecDepth 100000 in
theorem c_X8_worst (l : Launch) (D : va_G) (cy : Nat → ClassId) (ad : Nat → Nat) (A : Nat → Prop) (Q : Int32 → gS → Prop) (σ : gS) (h : w_X8_worst Q σ) : Met l yX8_worst ws_X8_worst rm_X8_worst (va_Pc [.ref (ad 0)] (gB D cy ad A σ)) (va_Qi Q (gB D cy ad A) A) 0 0 A := by
  refine Met.ofW (cc := cX8_worst) (maxL := 1) (ret := (some .int)) (by decide) rfl ?_
  intro p e s m args below meth c s₁ B hml hv
  obtain ⟨rfl, hB⟩ := hv
  have hC : gC p c cX8_worst s m ([.ref (ad 0)] : List Value).toArray RX8 D cy ad A := g_start B hB
  have hI := g_first hB
  have hx := hC.1
  have hb := hC.2.1
  have hr := B.returns
  have hlocks := B.notSynchronized
  clear B hB
  have hl := lv_entry ([.ref (ad 0)]) (n := 1) (Nat.le_of_ble_eq_true rfl)
  rw [lg_entry_eq]
  generalize (lg_sl ([.ref (ad 0)]) ++ List.replicate (1 - (lg_sl ([.ref (ad 0)])).length) Slot.unset).toArray = ls at hl ⊢
  have hl : lv_has ls 1 [(0, .ref (ad 0))] := hl
  unfold w_X8_worst at h
  refine lv_aload_n hx hb dX8_worst_0 rfl (lv_at hl 0 rfl) ?_
  refine gg_X8_ground hC hI gw_2_48 dX8_worst_1 ?_
  refine g_backi hI (g_runV (As := []) (rest := []) hC hml hI (c_X2_worstMinutes l D cy ad A _  _ h) k_X2_worstMinutes gw_2_179 ⟨rfl, rfl⟩ ⟨Nat.le_of_ble_eq_true rfl, Nat.le_of_ble_eq_true rfl⟩ (grv_4 hC hI) rfl hl.1 rfl (Nat.le_of_ble_eq_true rfl) dX8_worst_4 ⟨Nat.le_of_ble_eq_true rfl, Nat.le_of_ble_eq_true rfl⟩) (fun r2 s1 H locs h hI => ?_)
  exact g_iret hC hr hlocks hI h dX8_worst_7

theorem dX8_act_0 : decode cX8_act 0 = .ok (.iload_n 1, 1) := by decide +kernel
theorem dX8_act_1 : decode cX8_act 1 = .ok (.aload_n 0, 1) := by decide +kernel
theorem dX8_act_2 : decode cX8_act 2 = .ok (.getfield 35, 3) := by decide +kernel
theorem dX8_act_5 : decode cX8_act 5 = .ok (.getfield 129, 3) := by decide +kernel
theorem dX8_act_8 : decode cX8_act 8 = .ok (.invokestatic 82, 3) := by decide +kernel
theorem dX8_act_11 : decode cX8_act 11 = .ok (.iload_n 3, 1) := by decide +kernel
theorem dX8_act_12 : decode cX8_act 12 = .ok (.iconst 0, 1) := by decide +kernel
theorem dX8_act_13 : decode cX8_act 13 = .ok (.sipush 1000, 3) := by decide +kernel
theorem dX8_act_16 : decode cX8_act 16 = .ok (.invokestatic 93, 3) := by decide +kernel
theorem dX8_act_19 : decode cX8_act 19 = .ok (.iload 4, 2) := by decide +kernel
theorem dX8_act_21 : decode cX8_act 21 = .ok (.iconst 0, 1) := by decide +kernel
theorem dX8_act_22 : decode cX8_act 22 = .ok (.sipush 1000, 3) := by decide +kernel
theorem dX8_act_25 : decode cX8_act 25 = .ok (.invokestatic 93, 3) := by decide +kernel
theorem dX8_act_28 : decode cX8_act 28 = .ok (.iload_n 2, 1) := by decide +kernel
theorem dX8_act_29 : decode cX8_act 29 = .ok (.ifCond .eq 11, 3) := by decide +kernel
theorem dX8_act_32 : decode cX8_act 32 = .ok (.iconst 2, 1) := by decide +kernel
theorem dX8_act_33 : decode cX8_act 33 = .ok (.iload_n 1, 1) := by decide +kernel
theorem dX8_act_34 : decode cX8_act 34 = .ok (.imul, 1) := by decide +kernel
theorem dX8_act_35 : decode cX8_act 35 = .ok (.iconst 1, 1) := by decide +kernel
theorem dX8_act_36 : decode cX8_act 36 = .ok (.iadd, 1) := by decide +kernel
theorem dX8_act_37 : decode cX8_act 37 = .ok (.goto 6, 3) := by decide +kernel
theorem dX8_act_40 : decode cX8_act 40 = .ok (.iconst 2, 1) := by decide +kernel
theorem dX8_act_41 : decode cX8_act 41 = .ok (.iload_n 1, 1) := by decide +kernel
theorem dX8_act_42 : decode cX8_act 42 = .ok (.imul, 1) := by decide +kernel
theorem dX8_act_43 : decode cX8_act 43 = .ok (.istore 5, 2) := by decide +kernel
theorem dX8_act_45 : decode cX8_act 45 = .ok (.aload_n 0, 1) := by decide +kernel
theorem dX8_act_46 : decode cX8_act 46 = .ok (.getfield 42, 3) := by decide +kernel
theorem dX8_act_49 : decode cX8_act 49 = .ok (.iload 5, 2) := by decide +kernel
theorem dX8_act_51 : decode cX8_act 51 = .ok (.aload_n 0, 1) := by decide +kernel
theorem dX8_act_52 : decode cX8_act 52 = .ok (.getfield 35, 3) := by decide +kernel
theorem dX8_act_55 : decode cX8_act 55 = .ok (.getfield 143, 3) := by decide +kernel
theorem dX8_act_58 : decode cX8_act 58 = .ok (.iload 5, 2) := by decide +kernel
theorem dX8_act_60 : decode cX8_act 60 = .ok (.iaload, 1) := by decide +kernel
theorem dX8_act_61 : decode cX8_act 61 = .ok (.iload_n 3, 1) := by decide +kernel
theorem dX8_act_62 : decode cX8_act 62 = .ok (.iload 4, 2) := by decide +kernel
theorem dX8_act_64 : decode cX8_act 64 = .ok (.invokevirtual 146, 3) := by decide +kernel
theorem dX8_act_67 : decode cX8_act 67 = .ok (.ireturn, 1) := by decide +kernel
def w_X8_act_43 (Q : Int32 → gS → Prop) (X : Nat → gS → Prop) (x3 : Int32) (x4 : Int32) (v0 : Int32) (σ : gS) : Prop :=
    vp_in v0 28 ∧ w_X4_addAct  (fun (r4 : Int32) (s3 : gS) => Q r4 s3) σ v0 (σ 29 v0.toNatClampNeg) x3 x4
def w_X8_act (Q : Int32 → gS → Prop) (X : Nat → gS → Prop) (σ : gS) (a1 : Int32) (a2 : Int32) (a3 : Int32) (a4 : Int32) : Prop :=
    w_X8_requireIndex  (fun (s5 : gS) => w_X8_requireNumber  (fun (s7 : gS) => w_X8_requireNumber  (fun (s9 : gS) => (a2 = 0 → w_X8_act_43 Q X a3 a4 (2 * a1) s9) ∧ (¬ a2 = 0 → w_X8_act_43 Q X a3 a4 ((2 * a1) + 1) s9)) X s7 a4 0 1000) X s5 a3 0 1000) X σ a1 (σ 30 0)
abbrev ws_X8_act : List Cond := Cond.code yX8_act cX8_act 6 (some .int) :: gG
abbrev rm_X8_act : Room := { frames := 7, cells := 3, slots := 18, locals := 112 }
theorem k_X8_act : gCV yX8_act RX8 cX8_act 6 (some .int) 4 := ⟨gw_4_6, gw_4_7, gw_1_1, gw_4_8, rfl, by decide +kernel⟩
set_option maxHeartbeats 4000000 in
set_option maxRecDepth 100000 in
theorem c_X8_act (l : Launch) (hst : l.stackTraces = false) (D : va_G) (cy : Nat → ClassId) (ad : Nat → Nat) (A : Nat → Prop) (Q : Int32 → gS → Prop) (X : Nat → gS → Prop) (σ : gS) (a1 : Int32) (a2 : Int32) (a3 : Int32) (a4 : Int32) (h : w_X8_act Q X σ a1 a2 a3 a4) : vx_Met l yX8_act ws_X8_act rm_X8_act (va_Pc [.ref (ad 0), .int a1, .int a2, .int a3, .int a4] (gB D cy ad A σ)) (va_Qi Q (gB D cy ad A) A) (gXX D cy ad A X) 3 18 A := by
  refine vx_ofW (cc := cX8_act) (maxL := 6) (ret := (some .int)) (by decide) rfl ?_
  intro p e s m args below meth c s₁ B hml htb hv
  obtain ⟨rfl, hB⟩ := hv
  have hC : gC p c cX8_act s m ([.ref (ad 0), .int a1, .int a2, .int a3, .int a4] : List Value).toArray RX8 D cy ad A := g_start B hB
  have hI := g_first hB
  have hx := hC.1
  have hb := hC.2.1
  have hr := B.returns
  have hlocks := B.notSynchronized
  clear B hB
  have J43 : ∀ (x3 : Int32) (x4 : Int32) (v0 : Int32) (σ : gS) (H : Heap) (locs : List Loc) (ls : Array Slot), w_X8_act_43 Q X x3 x4 v0 σ → gI D cy ad A s.heap σ H locs → lv_has ls 6 [(0, .ref (ad 0)), (3, .int x3), (4, .int x4)] → W p l e (headSpec ws_X8_act rm_X8_act).room s m ([.ref (ad 0), .int a1, .int a2, .int a3, .int a4] : List Value).toArray below meth c H locs 3 18 (vx_MQ below (va_Qi Q (gB D cy ad A) A) (gXX D cy ad A X) ([.ref (ad 0), .int a1, .int a2, .int a3, .int a4] : List Value).toArray s 3 18 A) (F0 m 43 ls [.int v0]) := by
    intro x3 x4 v0 σ H locs ls h hI hl
    unfold w_X8_act_43 at h
    refine lv_istore (lv' := [(5, .int v0), (0, .ref (ad 0)), (3, .int x3), (4, .int x4)]) hx hb dX8_act_43 hl (by decide) rfl (fun ls hl => ?_)
    refine lv_aload_n hx hb dX8_act_45 rfl (lv_at hl 1 rfl) ?_
    refine gg_X8_programme hC hI gw_2_49 dX8_act_46 ?_
    refine lv_iload hx hb dX8_act_49 (lv_at hl 0 rfl) ?_
    refine lv_aload_n hx hb dX8_act_51 rfl (lv_at hl 1 rfl) ?_
    refine gg_X8_ground hC hI gw_2_48 dX8_act_52 ?_
    refine gg_X2_wides hC hI gw_1_154 dX8_act_55 ?_
    refine lv_iload hx hb dX8_act_58 (lv_at hl 0 rfl) ?_
    obtain ⟨hi2, h⟩ := h
    refine ga_27 hC hI hi2 dX8_act_60 ?_
    refine lv_iload_n hx hb dX8_act_61 rfl (lv_at hl 2 rfl) ?_
    refine lv_iload hx hb dX8_act_62 (lv_at hl 3 rfl) ?_
    refine g_backi hI (g_runV (As := [.int v0, .int (σ 29 v0.toNatClampNeg), .int x3, .int x4]) (rest := []) hC hml hI (c_X4_addAct l D cy ad A _  _ _ _ _ _ h) k_X4_addAct gw_4_9 ⟨rfl, rfl⟩ ⟨Nat.le_of_ble_eq_true rfl, Nat.le_of_ble_eq_true rfl⟩ (grv_6 hC hI) rfl hl.1 rfl (Nat.le_of_ble_eq_true rfl) dX8_act_64 ⟨Nat.le_of_ble_eq_true rfl, Nat.le_of_ble_eq_true rfl⟩) (fun r4 s3 H locs h hI => ?_)
    exact gy_iret hC hr hlocks hI h (Nat.le_of_ble_eq_true rfl) (Nat.le_of_ble_eq_true rfl) dX8_act_67
  have hl := lv_entry ([.ref (ad 0), .int a1, .int a2, .int a3, .int a4]) (n := 6) (Nat.le_of_ble_eq_true rfl)
  rw [lg_entry_eq]
  generalize (lg_sl ([.ref (ad 0), .int a1, .int a2, .int a3, .int a4]) ++ List.replicate (6 - (lg_sl ([.ref (ad 0), .int a1, .int a2, .int a3, .int a4])).length) Slot.unset).toArray = ls at hl ⊢
  have hl : lv_has ls 6 [(0, .ref (ad 0)), (1, .int a1), (2, .int a2), (3, .int a3), (4, .int a4)] := hl
  unfold w_X8_act at h
  refine lv_iload_n hx hb dX8_act_0 rfl (lv_at hl 1 rfl) ?_
  refine lv_aload_n hx hb dX8_act_1 rfl (lv_at hl 0 rfl) ?_
  refine gg_X8_ground hC hI gw_2_48 dX8_act_2 ?_
  refine gg_X2_ways hC hI gw_1_156 dX8_act_5 ?_
  refine gy_backv hI (gy_runS (As := [.int a1, .int (σ 30 0)]) (rest := []) hC hml hI (c_X8_requireIndex l hst D cy ad A _ _  _ _ _ h) k_X8_requireIndex gw_3_33 ⟨rfl, rfl⟩ ⟨Nat.le_of_ble_eq_true rfl, Nat.le_of_ble_eq_true rfl⟩ rfl hl.1 rfl (Nat.le_of_ble_eq_true rfl) dX8_act_8 ⟨Nat.le_of_ble_eq_true rfl, Nat.le_of_ble_eq_true rfl⟩) (fun _ _ _ _ _ _ hk9 hx9 hI9 h19 h29 h39 => gy_on htb hlocks hk9 hx9 hI9 h19 h29 h39 (Nat.le_of_ble_eq_true rfl) (Nat.le_of_ble_eq_true rfl)) (fun s5 H locs h hI => ?_)
  refine lv_iload_n hx hb dX8_act_11 rfl (lv_at hl 3 rfl) ?_
  refine lv_iconst (v := 0) hx hb dX8_act_12 (by decide) ?_
  refine lv_sipush (v := 1000) hx hb dX8_act_13 (by decide) ?_
  refine gy_backv hI (gy_runS (As := [.int a3, .int 0, .int 1000]) (rest := []) hC hml hI (c_X8_requireNumber l hst D cy ad A _ _  _ _ _ _ h) k_X8_requireNumber gw_3_119 ⟨rfl, rfl⟩ ⟨Nat.le_of_ble_eq_true rfl, Nat.le_of_ble_eq_true rfl⟩ rfl hl.1 rfl (Nat.le_of_ble_eq_true rfl) dX8_act_16 ⟨Nat.le_of_ble_eq_true rfl, Nat.le_of_ble_eq_true rfl⟩) (fun _ _ _ _ _ _ hk9 hx9 hI9 h19 h29 h39 => gy_on htb hlocks hk9 hx9 hI9 h19 h29 h39 (Nat.le_of_ble_eq_true rfl) (Nat.le_of_ble_eq_true rfl)) (fun s7 H locs h hI => ?_)
  refine lv_iload hx hb dX8_act_19 (lv_at hl 4 rfl) ?_
  refine lv_iconst (v := 0) hx hb dX8_act_21 (by decide) ?_
  refine lv_sipush (v := 1000) hx hb dX8_act_22 (by decide) ?_
  refine gy_backv hI (gy_runS (As := [.int a4, .int 0, .int 1000]) (rest := []) hC hml hI (c_X8_requireNumber l hst D cy ad A _ _  _ _ _ _ h) k_X8_requireNumber gw_3_119 ⟨rfl, rfl⟩ ⟨Nat.le_of_ble_eq_true rfl, Nat.le_of_ble_eq_true rfl⟩ rfl hl.1 rfl (Nat.le_of_ble_eq_true rfl) dX8_act_25 ⟨Nat.le_of_ble_eq_true rfl, Nat.le_of_ble_eq_true rfl⟩) (fun _ _ _ _ _ _ hk9 hx9 hI9 h19 h29 h39 => gy_on htb hlocks hk9 hx9 hI9 h19 h29 h39 (Nat.le_of_ble_eq_true rfl) (Nat.le_of_ble_eq_true rfl)) (fun s9 H locs h hI => ?_)
  refine lv_iload_n hx hb dX8_act_28 rfl (lv_at hl 2 rfl) ?_
  refine lv_if_eq (tgt := 40) hx hb dX8_act_29 (by decide) (fun c11 => ?_) (fun c11 => ?_)
  · have h := h.1 c11
    refine lv_iconst (v := 2) hx hb dX8_act_40 (by decide) ?_
    refine lv_iload_n hx hb dX8_act_41 rfl (lv_at hl 1 rfl) ?_
    refine lv_imul hx hb dX8_act_42 ?_
    exact J43 _ _ _ _ _ _ _ h hI (lv_sub hl [0, 3, 4] rfl)
  · have h := h.2 c11
    refine lv_iconst (v := 2) hx hb dX8_act_32 (by decide) ?_
    refine lv_iload_n hx hb dX8_act_33 rfl (lv_at hl 1 rfl) ?_
    refine lv_imul hx hb dX8_act_34 ?_
    refine lv_iconst (v := 1) hx hb dX8_act_35 (by decide) ?_
    refine lv_iadd hx hb dX8_act_36 ?_
    refine lv_goto (tgt := 43) hx hb dX8_act_37 (by decide) ?_
    exact J43 _ _ _ _ _ _ _ h hI (lv_sub hl [0, 3, 4] rfl)

theorem dX8_tooMany_0 : decode cX8_tooMany 0 = .ok (.aload_n 0, 1) := by decide +kernel
theorem dX8_tooMany_1 : decode cX8_tooMany 1 = .ok (.getfield 42, 3) := by decide +kernel
theorem dX8_tooMany_4 : decode cX8_tooMany 4 = .ok (.invokevirtual 149, 3) := by decide +kernel
theorem dX8_tooMany_7 : decode cX8_tooMany 7 = .ok (.aload_n 0, 1) := by decide +kernel
theorem dX8_tooMany_8 : decode cX8_tooMany 8 = .ok (.getfield 42, 3) := by decide +kernel
theorem dX8_tooMany_11 : decode cX8_tooMany 11 = .ok (.getfield 152, 3) := by decide +kernel
theorem dX8_tooMany_14 : decode cX8_tooMany 14 = .ok (.ireturn, 1) := by decide +kernel
def w_X8_tooMany (Q : Int32 → gS → Prop) (σ : gS) : Prop :=
    w_X4_findBest  (fun (s1 : gS) => Q (s1 54 0) s1) σ
abbrev ws_X8_tooMany : List Cond := Cond.code yX8_tooMany cX8_tooMany 1 (some .int) :: gG
abbrev rm_X8_tooMany : Room := { frames := 12, cells := 0, slots := 0, locals := 286 }
theorem k_X8_tooMany : gCV yX8_tooMany RX8 cX8_tooMany 1 (some .int) 0 := ⟨gw_2_186, gw_2_187, gw_1_1, gw_2_188, rfl, by decide +kernel⟩
set_option maxHeartbeats 4000000 in
set_option maxRecDepth 100000 in
theorem c_X8_tooMany (l : Launch) (D : va_G) (cy : Nat → ClassId) (ad : Nat → Nat) (A : Nat → Prop) (Q : Int32 → gS → Prop) (σ : gS) (h : w_X8_tooMany Q σ) : Met l yX8_tooMany ws_X8_tooMany rm_X8_tooMany (va_Pc [.ref (ad 0)] (gB D cy ad A σ)) (va_Qi Q (gB D cy ad A) A) 0 0 A := by
  refine Met.ofW (cc := cX8_tooMany) (maxL := 1) (ret := (some .int)) (by decide) rfl ?_
  intro p e s m args below meth c s₁ B hml hv
  obtain ⟨rfl, hB⟩ := hv
  have hC : gC p c cX8_tooMany s m ([.ref (ad 0)] : List Value).toArray RX8 D cy ad A := g_start B hB
  have hI := g_first hB
  have hx := hC.1
  have hb := hC.2.1
  have hr := B.returns
  have hlocks := B.notSynchronized
  clear B hB
  have hl := lv_entry ([.ref (ad 0)]) (n := 1) (Nat.le_of_ble_eq_true rfl)
  rw [lg_entry_eq]
  generalize (lg_sl ([.ref (ad 0)]) ++ List.replicate (1 - (lg_sl ([.ref (ad 0)])).length) Slot.unset).toArray = ls at hl ⊢
  have hl : lv_has ls 1 [(0, .ref (ad 0))] := hl
  unfold w_X8_tooMany at h
  refine lv_aload_n hx hb dX8_tooMany_0 rfl (lv_at hl 0 rfl) ?_
  refine gg_X8_programme hC hI gw_2_49 dX8_tooMany_1 ?_
  refine g_backv hI (g_runV (As := []) (rest := []) hC hml hI (c_X4_findBest l D cy ad A _  _ h) k_X4_findBest gw_2_189 ⟨rfl, rfl⟩ ⟨Nat.le_of_ble_eq_true rfl, Nat.le_of_ble_eq_true rfl⟩ (grv_6 hC hI) rfl hl.1 rfl (Nat.le_of_ble_eq_true rfl) dX8_tooMany_4 ⟨Nat.le_of_ble_eq_true rfl, Nat.le_of_ble_eq_true rfl⟩) (fun s1 H locs h hI => ?_)
  refine lv_aload_n hx hb dX8_tooMany_7 rfl (lv_at hl 0 rfl) ?_
  refine gg_X8_programme hC hI gw_2_49 dX8_tooMany_8 ?_
  refine gg_X4_bestOver hC hI gw_1_207 dX8_tooMany_11 ?_
  exact g_iret hC hr hlocks hI h dX8_tooMany_14

theorem dX8_shift_0 : decode cX8_shift 0 = .ok (.iload_n 1, 1) := by decide +kernel
theorem dX8_shift_1 : decode cX8_shift 1 = .ok (.aload_n 0, 1) := by decide +kernel
theorem dX8_shift_2 : decode cX8_shift 2 = .ok (.getfield 42, 3) := by decide +kernel
theorem dX8_shift_5 : decode cX8_shift 5 = .ok (.getfield 155, 3) := by decide +kernel
theorem dX8_shift_8 : decode cX8_shift 8 = .ok (.invokestatic 82, 3) := by decide +kernel
theorem dX8_shift_11 : decode cX8_shift 11 = .ok (.aload_n 0, 1) := by decide +kernel
theorem dX8_shift_12 : decode cX8_shift 12 = .ok (.getfield 42, 3) := by decide +kernel
theorem dX8_shift_15 : decode cX8_shift 15 = .ok (.invokevirtual 149, 3) := by decide +kernel
theorem dX8_shift_18 : decode cX8_shift 18 = .ok (.aload_n 0, 1) := by decide +kernel
theorem dX8_shift_19 : decode cX8_shift 19 = .ok (.getfield 42, 3) := by decide +kernel
theorem dX8_shift_22 : decode cX8_shift 22 = .ok (.getfield 158, 3) := by decide +kernel
theorem dX8_shift_25 : decode cX8_shift 25 = .ok (.iload_n 1, 1) := by decide +kernel
theorem dX8_shift_26 : decode cX8_shift 26 = .ok (.iaload, 1) := by decide +kernel
theorem dX8_shift_27 : decode cX8_shift 27 = .ok (.ireturn, 1) := by decide +kernel
def w_X8_shift (Q : Int32 → gS → Prop) (X : Nat → gS → Prop) (σ : gS) (a1 : Int32) : Prop :=
    w_X8_requireIndex  (fun (s2 : gS) => w_X4_findBest  (fun (s4 : gS) => vp_in a1 6 ∧ Q (s4 53 a1.toNatClampNeg) s4) s2) X σ a1 (σ 51 0)
abbrev ws_X8_shift : List Cond := Cond.code yX8_shift cX8_shift 2 (some .int) :: gG
abbrev rm_X8_shift : Room := { frames := 12, cells := 1, slots := 6, locals := 286 }
theorem k_X8_shift : gCV yX8_shift RX8 cX8_shift 2 (some .int) 1 := ⟨gw_4_17, gw_4_18, gw_1_1, gw_4_19, rfl, by decide +kernel⟩
set_option maxHeartbeats 4000000 in
set_option maxRecDepth 100000 in
theorem c_X8_shift (l : Launch) (hst : l.stackTraces = false) (D : va_G) (cy : Nat → ClassId) (ad : Nat → Nat) (A : Nat → Prop) (Q : Int32 → gS → Prop) (X : Nat → gS → Prop) (σ : gS) (a1 : Int32) (h : w_X8_shift Q X σ a1) : vx_Met l yX8_shift ws_X8_shift rm_X8_shift (va_Pc [.ref (ad 0), .int a1] (gB D cy ad A σ)) (va_Qi Q (gB D cy ad A) A) (gXX D cy ad A X) 1 6 A := by
  refine vx_ofW (cc := cX8_shift) (maxL := 2) (ret := (some .int)) (by decide) rfl ?_
  intro p e s m args below meth c s₁ B hml htb hv
  obtain ⟨rfl, hB⟩ := hv
  have hC : gC p c cX8_shift s m ([.ref (ad 0), .int a1] : List Value).toArray RX8 D cy ad A := g_start B hB
  have hI := g_first hB
  have hx := hC.1
  have hb := hC.2.1
  have hr := B.returns
  have hlocks := B.notSynchronized
  clear B hB
  have hl := lv_entry ([.ref (ad 0), .int a1]) (n := 2) (Nat.le_of_ble_eq_true rfl)
  rw [lg_entry_eq]
  generalize (lg_sl ([.ref (ad 0), .int a1]) ++ List.replicate (2 - (lg_sl ([.ref (ad 0), .int a1])).length) Slot.unset).toArray = ls at hl ⊢
  have hl : lv_has ls 2 [(0, .ref (ad 0)), (1, .int a1)] := hl
  unfold w_X8_shift at h
  refine lv_iload_n hx hb dX8_shift_0 rfl (lv_at hl 1 rfl) ?_
  refine lv_aload_n hx hb dX8_shift_1 rfl (lv_at hl 0 rfl) ?_
  refine gg_X8_programme hC hI gw_2_49 dX8_shift_2 ?_
  refine gg_X4_acts hC hI gw_1_202 dX8_shift_5 ?_
  refine gy_backv hI (gy_runS (As := [.int a1, .int (σ 51 0)]) (rest := []) hC hml hI (c_X8_requireIndex l hst D cy ad A _ _  _ _ _ h) k_X8_requireIndex gw_3_33 ⟨rfl, rfl⟩ ⟨Nat.le_of_ble_eq_true rfl, Nat.le_of_ble_eq_true rfl⟩ rfl hl.1 rfl (Nat.le_of_ble_eq_true rfl) dX8_shift_8 ⟨Nat.le_of_ble_eq_true rfl, Nat.le_of_ble_eq_true rfl⟩) (fun _ _ _ _ _ _ hk9 hx9 hI9 h19 h29 h39 => gy_on htb hlocks hk9 hx9 hI9 h19 h29 h39 (Nat.le_of_ble_eq_true rfl) (Nat.le_of_ble_eq_true rfl)) (fun s2 H locs h hI => ?_)
  refine lv_aload_n hx hb dX8_shift_11 rfl (lv_at hl 0 rfl) ?_
  refine gg_X8_programme hC hI gw_2_49 dX8_shift_12 ?_
  refine g_backv hI (g_runV (As := []) (rest := []) hC hml hI (c_X4_findBest l D cy ad A _  _ h) k_X4_findBest gw_2_189 ⟨rfl, rfl⟩ ⟨Nat.le_of_ble_eq_true rfl, Nat.le_of_ble_eq_true rfl⟩ (grv_6 hC hI) rfl hl.1 rfl (Nat.le_of_ble_eq_true rfl) dX8_shift_15 ⟨Nat.le_of_ble_eq_true rfl, Nat.le_of_ble_eq_true rfl⟩) (fun s4 H locs h hI => ?_)
  refine lv_aload_n hx hb dX8_shift_18 rfl (lv_at hl 0 rfl) ?_
  refine gg_X8_programme hC hI gw_2_49 dX8_shift_19 ?_
  refine gg_X4_bestShifts hC hI gw_1_205 dX8_shift_22 ?_
  refine lv_iload_n hx hb dX8_shift_25 rfl (lv_at hl 1 rfl) ?_
  obtain ⟨hi6, h⟩ := h
  refine ga_45 hC hI hi6 dX8_shift_26 ?_
  exact gy_iret hC hr hlocks hI h (Nat.le_of_ble_eq_true rfl) (Nat.le_of_ble_eq_true rfl) dX8_shift_27

theorem dX8_forget_0 : decode cX8_forget 0 = .ok (.aload_n 0, 1) := by decide +kernel
theorem dX8_forget_1 : decode cX8_forget 1 = .ok (.getfield 42, 3) := by decide +kernel
theorem dX8_forget_4 : decode cX8_forget 4 = .ok (.invokevirtual 161, 3) := by decide +kernel
theorem dX8_forget_7 : decode cX8_forget 7 = .ok (.ireturn, 1) := by decide +kernel
def w_X8_forget (Q : Int32 → gS → Prop) (σ : gS) : Prop :=
    w_X4_dropActs  (fun (r2 : Int32) (s1 : gS) => Q r2 s1) σ
abbrev ws_X8_forget : List Cond := Cond.code yX8_forget cX8_forget 1 (some .int) :: gG
abbrev rm_X8_forget : Room := { frames := 1, cells := 0, slots := 0, locals := 21 }
theorem k_X8_forget : gCV yX8_forget RX8 cX8_forget 1 (some .int) 0 := ⟨gw_2_211, gw_2_212, gw_1_1, gw_2_213, rfl, by decide +kernel⟩
set_option maxHeartbeats 4000000 in
set_option maxRecDepth 100000 in
theorem c_X8_forget (l : Launch) (D : va_G) (cy : Nat → ClassId) (ad : Nat → Nat) (A : Nat → Prop) (Q : Int32 → gS → Prop) (σ : gS) (h : w_X8_forget Q σ) : Met l yX8_forget ws_X8_forget rm_X8_forget (va_Pc [.ref (ad 0)] (gB D cy ad A σ)) (va_Qi Q (gB D cy ad A) A) 0 0 A := by
  refine Met.ofW (cc := cX8_forget) (maxL := 1) (ret := (some .int)) (by decide) rfl ?_
  intro p e s m args below meth c s₁ B hml hv
  obtain ⟨rfl, hB⟩ := hv
  have hC : gC p c cX8_forget s m ([.ref (ad 0)] : List Value).toArray RX8 D cy ad A := g_start B hB
  have hI := g_first hB
  have hx := hC.1
  have hb := hC.2.1
  have hr := B.returns
  have hlocks := B.notSynchronized
  clear B hB
  have hl := lv_entry ([.ref (ad 0)]) (n := 1) (Nat.le_of_ble_eq_true rfl)
  rw [lg_entry_eq]
  generalize (lg_sl ([.ref (ad 0)]) ++ List.replicate (1 - (lg_sl ([.ref (ad 0)])).length) Slot.unset).toArray = ls at hl ⊢
  have hl : lv_has ls 1 [(0, .ref (ad 0))] := hl
  unfold w_X8_forget at h
  refine lv_aload_n hx hb dX8_forget_0 rfl (lv_at hl 0 rfl) ?_
  refine gg_X8_programme hC hI gw_2_49 dX8_forget_1 ?_
  refine g_backi hI (g_runV (As := []) (rest := []) hC hml hI (c_X4_dropActs l D cy ad A _  _ h) k_X4_dropActs gw_2_214 ⟨rfl, rfl⟩ ⟨Nat.le_of_ble_eq_true rfl, Nat.le_of_ble_eq_true rfl⟩ (grv_6 hC hI) rfl hl.1 rfl (Nat.le_of_ble_eq_true rfl) dX8_forget_4 ⟨Nat.le_of_ble_eq_true rfl, Nat.le_of_ble_eq_true rfl⟩) (fun r2 s1 H locs h hI => ?_)
  exact g_iret hC hr hlocks hI h dX8_forget_7

theorem dX8_minutes_0 : decode cX8_minutes 0 = .ok (.iload_n 1, 1) := by decide +kernel
theorem dX8_minutes_1 : decode cX8_minutes 1 = .ok (.iconst 0, 1) := by decide +kernel
theorem dX8_minutes_2 : decode cX8_minutes 2 = .ok (.sipush 2000, 3) := by decide +kernel
theorem dX8_minutes_5 : decode cX8_minutes 5 = .ok (.invokestatic 93, 3) := by decide +kernel
theorem dX8_minutes_8 : decode cX8_minutes 8 = .ok (.aload_n 0, 1) := by decide +kernel
theorem dX8_minutes_9 : decode cX8_minutes 9 = .ok (.sipush 10000, 3) := by decide +kernel
theorem dX8_minutes_12 : decode cX8_minutes 12 = .ok (.aload_n 0, 1) := by decide +kernel
theorem dX8_minutes_13 : decode cX8_minutes 13 = .ok (.getfield 164, 3) := by decide +kernel
theorem dX8_minutes_16 : decode cX8_minutes 16 = .ok (.iload_n 1, 1) := by decide +kernel
theorem dX8_minutes_17 : decode cX8_minutes 17 = .ok (.iadd, 1) := by decide +kernel
theorem dX8_minutes_18 : decode cX8_minutes 18 = .ok (.invokestatic 167, 3) := by decide +kernel
theorem dX8_minutes_21 : decode cX8_minutes 21 = .ok (.putfield 164, 3) := by decide +kernel
theorem dX8_minutes_24 : decode cX8_minutes 24 = .ok (.aload_n 0, 1) := by decide +kernel
theorem dX8_minutes_25 : decode cX8_minutes 25 = .ok (.getfield 164, 3) := by decide +kernel
theorem dX8_minutes_28 : decode cX8_minutes 28 = .ok (.ireturn, 1) := by decide +kernel
def w_X8_minutes (Q : Int32 → gS → Prop) (X : Nat → gS → Prop) (σ : gS) (a1 : Int32) : Prop :=
    w_X8_requireNumber  (fun (s1 : gS) => ∀ s3 : gS, s3 = gu s1 13 0 (if ((s1 13 0) + a1) < 10000 then ((s1 13 0) + a1) else 10000) → Q (s3 13 0) s3) X σ a1 0 2000
abbrev ws_X8_minutes : List Cond := Cond.code yX8_minutes cX8_minutes 2 (some .int) :: gG
abbrev rm_X8_minutes : Room := { frames := 7, cells := 1, slots := 6, locals := 112 }
theorem k_X8_minutes : gCV yX8_minutes RX8 cX8_minutes 2 (some .int) 1 := ⟨gw_4_24, gw_4_25, gw_1_1, gw_4_26, rfl, by decide +kernel⟩
set_option maxHeartbeats 4000000 in
set_option maxRecDepth 100000 in
theorem c_X8_minutes (l : Launch) (hst : l.stackTraces = false) (D : va_G) (cy : Nat → ClassId) (ad : Nat → Nat) (A : Nat → Prop) (Q : Int32 → gS → Prop) (X : Nat → gS → Prop) (σ : gS) (a1 : Int32) (h : w_X8_minutes Q X σ a1) : vx_Met l yX8_minutes ws_X8_minutes rm_X8_minutes (va_Pc [.ref (ad 0), .int a1] (gB D cy ad A σ)) (va_Qi Q (gB D cy ad A) A) (gXX D cy ad A X) 1 6 A := by
  refine vx_ofW (cc := cX8_minutes) (maxL := 2) (ret := (some .int)) (by decide) rfl ?_
  intro p e s m args below meth c s₁ B hml htb hv
  obtain ⟨rfl, hB⟩ := hv
  have hC : gC p c cX8_minutes s m ([.ref (ad 0), .int a1] : List Value).toArray RX8 D cy ad A := g_start B hB
  have hI := g_first hB
  have hx := hC.1
  have hb := hC.2.1
  have hr := B.returns
  have hlocks := B.notSynchronized
  clear B hB
  have hl := lv_entry ([.ref (ad 0), .int a1]) (n := 2) (Nat.le_of_ble_eq_true rfl)
  rw [lg_entry_eq]
  generalize (lg_sl ([.ref (ad 0), .int a1]) ++ List.replicate (2 - (lg_sl ([.ref (ad 0), .int a1])).length) Slot.unset).toArray = ls at hl ⊢
  have hl : lv_has ls 2 [(0, .ref (ad 0)), (1, .int a1)] := hl
  unfold w_X8_minutes at h
  refine lv_iload_n hx hb dX8_minutes_0 rfl (lv_at hl 1 rfl) ?_
  refine lv_iconst (v := 0) hx hb dX8_minutes_1 (by decide) ?_
  refine lv_sipush (v := 2000) hx hb dX8_minutes_2 (by decide) ?_
  refine gy_backv hI (gy_runS (As := [.int a1, .int 0, .int 2000]) (rest := []) hC hml hI (c_X8_requireNumber l hst D cy ad A _ _  _ _ _ _ h) k_X8_requireNumber gw_3_119 ⟨rfl, rfl⟩ ⟨Nat.le_of_ble_eq_true rfl, Nat.le_of_ble_eq_true rfl⟩ rfl hl.1 rfl (Nat.le_of_ble_eq_true rfl) dX8_minutes_5 ⟨Nat.le_of_ble_eq_true rfl, Nat.le_of_ble_eq_true rfl⟩) (fun _ _ _ _ _ _ hk9 hx9 hI9 h19 h29 h39 => gy_on htb hlocks hk9 hx9 hI9 h19 h29 h39 (Nat.le_of_ble_eq_true rfl) (Nat.le_of_ble_eq_true rfl)) (fun s1 H locs h hI => ?_)
  refine lv_aload_n hx hb dX8_minutes_8 rfl (lv_at hl 0 rfl) ?_
  refine lv_sipush (v := 10000) hx hb dX8_minutes_9 (by decide) ?_
  refine lv_aload_n hx hb dX8_minutes_12 rfl (lv_at hl 0 rfl) ?_
  refine gg_X8_now hC hI gw_2_54 dX8_minutes_13 ?_
  refine lv_iload_n hx hb dX8_minutes_16 rfl (lv_at hl 1 rfl) ?_
  refine lv_iadd hx hb dX8_minutes_17 ?_
  refine va_mmin hx hb (by rw [hml]; exact hl.1.symm) hC.2.2.2.1 (hC.2.2.1 _ gw_4_27) (hC.2.2.1 _ gw_2_141) (hC.2.2.1 _ gw_1_18) (hC.2.2.1 _ gw_2_142) (Nat.le_of_ble_eq_true rfl) (Nat.le_of_ble_eq_true rfl) (Nat.le_of_ble_eq_true rfl) (Nat.le_of_ble_eq_true rfl) dX8_minutes_18 ?_
  refine gp_X8_now hC hI gw_2_54 dX8_minutes_21 (fun s3 H locs es3 hI => ?_)
  have h := h s3 es3
  refine lv_aload_n hx hb dX8_minutes_24 rfl (lv_at hl 0 rfl) ?_
  refine gg_X8_now hC hI gw_2_54 dX8_minutes_25 ?_
  exact gy_iret hC hr hlocks hI h (Nat.le_of_ble_eq_true rfl) (Nat.le_of_ble_eq_true rfl) dX8_minutes_28

theorem dX8_pass_0 : decode cX8_pass 0 = .ok (.iload_n 1, 1) := by decide +kernel
theorem dX8_pass_1 : decode cX8_pass 1 = .ok (.sipush 300, 3) := by decide +kernel
theorem dX8_pass_4 : decode cX8_pass 4 = .ok (.invokestatic 82, 3) := by decide +kernel
theorem dX8_pass_7 : decode cX8_pass 7 = .ok (.iload_n 3, 1) := by decide +kernel
theorem dX8_pass_8 : decode cX8_pass 8 = .ok (.iconst 0, 1) := by decide +kernel
theorem dX8_pass_9 : decode cX8_pass 9 = .ok (.aload_n 0, 1) := by decide +kernel
theorem dX8_pass_10 : decode cX8_pass 10 = .ok (.getfield 164, 3) := by decide +kernel
theorem dX8_pass_13 : decode cX8_pass 13 = .ok (.invokestatic 93, 3) := by decide +kernel
theorem dX8_pass_16 : decode cX8_pass 16 = .ok (.aload_n 0, 1) := by decide +kernel
theorem dX8_pass_17 : decode cX8_pass 17 = .ok (.getfield 49, 3) := by decide +kernel
theorem dX8_pass_20 : decode cX8_pass 20 = .ok (.iload_n 1, 1) := by decide +kernel
theorem dX8_pass_21 : decode cX8_pass 21 = .ok (.iload_n 2, 1) := by decide +kernel
theorem dX8_pass_22 : decode cX8_pass 22 = .ok (.iload_n 3, 1) := by decide +kernel
theorem dX8_pass_23 : decode cX8_pass 23 = .ok (.aload_n 0, 1) := by decide +kernel
theorem dX8_pass_24 : decode cX8_pass 24 = .ok (.getfield 164, 3) := by decide +kernel
theorem dX8_pass_27 : decode cX8_pass 27 = .ok (.invokevirtual 172, 3) := by decide +kernel
theorem dX8_pass_30 : decode cX8_pass 30 = .ok (.ireturn, 1) := by decide +kernel
def w_X8_pass (Q : Int32 → gS → Prop) (X : Nat → gS → Prop) (σ : gS) (a1 : Int32) (a2 : Int32) (a3 : Int32) : Prop :=
    w_X8_requireIndex  (fun (s1 : gS) => w_X8_requireNumber  (fun (s3 : gS) => w_X1_write  (fun (r6 : Int32) (s5 : gS) => Q r6 s5) s3 a1 a2 a3 (s3 13 0)) X s1 a3 0 (s1 13 0)) X σ a1 300
abbrev ws_X8_pass : List Cond := Cond.code yX8_pass cX8_pass 4 (some .int) :: gG
abbrev rm_X8_pass : Room := { frames := 7, cells := 2, slots := 12, locals := 112 }
theorem k_X8_pass : gCV yX8_pass RX8 cX8_pass 4 (some .int) 3 := ⟨gw_4_32, gw_4_33, gw_1_1, gw_4_34, rfl, by decide +kernel⟩
set_option maxHeartbeats 4000000 in
set_option maxRecDepth 100000 in
theorem c_X8_pass (l : Launch) (hst : l.stackTraces = false) (D : va_G) (cy : Nat → ClassId) (ad : Nat → Nat) (A : Nat → Prop) (Q : Int32 → gS → Prop) (X : Nat → gS → Prop) (σ : gS) (a1 : Int32) (a2 : Int32) (a3 : Int32) (h : w_X8_pass Q X σ a1 a2 a3) : vx_Met l yX8_pass ws_X8_pass rm_X8_pass (va_Pc [.ref (ad 0), .int a1, .int a2, .int a3] (gB D cy ad A σ)) (va_Qi Q (gB D cy ad A) A) (gXX D cy ad A X) 2 12 A := by
  refine vx_ofW (cc := cX8_pass) (maxL := 4) (ret := (some .int)) (by decide) rfl ?_
  intro p e s m args below meth c s₁ B hml htb hv
  obtain ⟨rfl, hB⟩ := hv
  have hC : gC p c cX8_pass s m ([.ref (ad 0), .int a1, .int a2, .int a3] : List Value).toArray RX8 D cy ad A := g_start B hB
  have hI := g_first hB
  have hx := hC.1
  have hb := hC.2.1
  have hr := B.returns
  have hlocks := B.notSynchronized
  clear B hB
  have hl := lv_entry ([.ref (ad 0), .int a1, .int a2, .int a3]) (n := 4) (Nat.le_of_ble_eq_true rfl)
  rw [lg_entry_eq]
  generalize (lg_sl ([.ref (ad 0), .int a1, .int a2, .int a3]) ++ List.replicate (4 - (lg_sl ([.ref (ad 0), .int a1, .int a2, .int a3])).length) Slot.unset).toArray = ls at hl ⊢
  have hl : lv_has ls 4 [(0, .ref (ad 0)), (1, .int a1), (2, .int a2), (3, .int a3)] := hl
  unfold w_X8_pass at h
  refine lv_iload_n hx hb dX8_pass_0 rfl (lv_at hl 1 rfl) ?_
  refine lv_sipush (v := 300) hx hb dX8_pass_1 (by decide) ?_
  refine gy_backv hI (gy_runS (As := [.int a1, .int 300]) (rest := []) hC hml hI (c_X8_requireIndex l hst D cy ad A _ _  _ _ _ h) k_X8_requireIndex gw_3_33 ⟨rfl, rfl⟩ ⟨Nat.le_of_ble_eq_true rfl, Nat.le_of_ble_eq_true rfl⟩ rfl hl.1 rfl (Nat.le_of_ble_eq_true rfl) dX8_pass_4 ⟨Nat.le_of_ble_eq_true rfl, Nat.le_of_ble_eq_true rfl⟩) (fun _ _ _ _ _ _ hk9 hx9 hI9 h19 h29 h39 => gy_on htb hlocks hk9 hx9 hI9 h19 h29 h39 (Nat.le_of_ble_eq_true rfl) (Nat.le_of_ble_eq_true rfl)) (fun s1 H locs h hI => ?_)
  refine lv_iload_n hx hb dX8_pass_7 rfl (lv_at hl 3 rfl) ?_
  refine lv_iconst (v := 0) hx hb dX8_pass_8 (by decide) ?_
  refine lv_aload_n hx hb dX8_pass_9 rfl (lv_at hl 0 rfl) ?_
  refine gg_X8_now hC hI gw_2_54 dX8_pass_10 ?_
  refine gy_backv hI (gy_runS (As := [.int a3, .int 0, .int (s1 13 0)]) (rest := []) hC hml hI (c_X8_requireNumber l hst D cy ad A _ _  _ _ _ _ h) k_X8_requireNumber gw_3_119 ⟨rfl, rfl⟩ ⟨Nat.le_of_ble_eq_true rfl, Nat.le_of_ble_eq_true rfl⟩ rfl hl.1 rfl (Nat.le_of_ble_eq_true rfl) dX8_pass_13 ⟨Nat.le_of_ble_eq_true rfl, Nat.le_of_ble_eq_true rfl⟩) (fun _ _ _ _ _ _ hk9 hx9 hI9 h19 h29 h39 => gy_on htb hlocks hk9 hx9 hI9 h19 h29 h39 (Nat.le_of_ble_eq_true rfl) (Nat.le_of_ble_eq_true rfl)) (fun s3 H locs h hI => ?_)
  refine lv_aload_n hx hb dX8_pass_16 rfl (lv_at hl 0 rfl) ?_
  refine gg_X8_book hC hI gw_2_50 dX8_pass_17 ?_
  refine lv_iload_n hx hb dX8_pass_20 rfl (lv_at hl 1 rfl) ?_
  refine lv_iload_n hx hb dX8_pass_21 rfl (lv_at hl 2 rfl) ?_
  refine lv_iload_n hx hb dX8_pass_22 rfl (lv_at hl 3 rfl) ?_
  refine lv_aload_n hx hb dX8_pass_23 rfl (lv_at hl 0 rfl) ?_
  refine gg_X8_now hC hI gw_2_54 dX8_pass_24 ?_
  refine g_backi hI (g_runV (As := [.int a1, .int a2, .int a3, .int (s3 13 0)]) (rest := []) hC hml hI (c_X1_write l D cy ad A _  _ _ _ _ _ h) k_X1_write gw_4_35 ⟨rfl, rfl⟩ ⟨Nat.le_of_ble_eq_true rfl, Nat.le_of_ble_eq_true rfl⟩ (grv_7 hC hI) rfl hl.1 rfl (Nat.le_of_ble_eq_true rfl) dX8_pass_27 ⟨Nat.le_of_ble_eq_true rfl, Nat.le_of_ble_eq_true rfl⟩) (fun r6 s5 H locs h hI => ?_)
  exact gy_iret hC hr hlocks hI h (Nat.le_of_ble_eq_true rfl) (Nat.le_of_ble_eq_true rfl) dX8_pass_30

theorem dX8_inside_0 : decode cX8_inside 0 = .ok (.iload_n 1, 1) := by decide +kernel
theorem dX8_inside_1 : decode cX8_inside 1 = .ok (.sipush 300, 3) := by decide +kernel
theorem dX8_inside_4 : decode cX8_inside 4 = .ok (.invokestatic 82, 3) := by decide +kernel
theorem dX8_inside_7 : decode cX8_inside 7 = .ok (.aload_n 0, 1) := by decide +kernel
theorem dX8_inside_8 : decode cX8_inside 8 = .ok (.getfield 49, 3) := by decide +kernel
theorem dX8_inside_11 : decode cX8_inside 11 = .ok (.iload_n 1, 1) := by decide +kernel
theorem dX8_inside_12 : decode cX8_inside 12 = .ok (.iload_n 2, 1) := by decide +kernel
theorem dX8_inside_13 : decode cX8_inside 13 = .ok (.iload_n 3, 1) := by decide +kernel
theorem dX8_inside_14 : decode cX8_inside 14 = .ok (.invokevirtual 176, 3) := by decide +kernel
theorem dX8_inside_17 : decode cX8_inside 17 = .ok (.ireturn, 1) := by decide +kernel
def w_X8_inside (Q : Int32 → gS → Prop) (X : Nat → gS → Prop) (σ : gS) (a1 : Int32) (a2 : Int32) (a3 : Int32) : Prop :=
    w_X8_requireIndex  (fun (s1 : gS) => w_X1_isInside  (fun (r4 : Int32) (s3 : gS) => gz r4 ∧ Q r4 s3) s1 a1 a2 a3) X σ a1 300
abbrev ws_X8_inside : List Cond := Cond.code yX8_inside cX8_inside 4 (some .boolean) :: gG
abbrev rm_X8_inside : Room := { frames := 7, cells := 1, slots := 6, locals := 111 }
theorem k_X8_inside : gCV yX8_inside RX8 cX8_inside 4 (some .boolean) 3 := ⟨gw_4_51, gw_4_52, gw_1_1, gw_4_53, rfl, by decide +kernel⟩
set_option maxHeartbeats 4000000 in
set_option maxRecDepth 100000 in
theorem c_X8_inside (l : Launch) (hst : l.stackTraces = false) (D : va_G) (cy : Nat → ClassId) (ad : Nat → Nat) (A : Nat → Prop) (Q : Int32 → gS → Prop) (X : Nat → gS → Prop) (σ : gS) (a1 : Int32) (a2 : Int32) (a3 : Int32) (h : w_X8_inside Q X σ a1 a2 a3) : vx_Met l yX8_inside ws_X8_inside rm_X8_inside (va_Pc [.ref (ad 0), .int a1, .int a2, .int a3] (gB D cy ad A σ)) (va_Qi Q (gB D cy ad A) A) (gXX D cy ad A X) 1 6 A := by
  refine vx_ofW (cc := cX8_inside) (maxL := 4) (ret := (some .boolean)) (by decide) rfl ?_
  intro p e s m args below meth c s₁ B hml htb hv
  obtain ⟨rfl, hB⟩ := hv
  have hC : gC p c cX8_inside s m ([.ref (ad 0), .int a1, .int a2, .int a3] : List Value).toArray RX8 D cy ad A := g_start B hB
  have hI := g_first hB
  have hx := hC.1
  have hb := hC.2.1
  have hr := B.returns
  have hlocks := B.notSynchronized
  clear B hB
  have hl := lv_entry ([.ref (ad 0), .int a1, .int a2, .int a3]) (n := 4) (Nat.le_of_ble_eq_true rfl)
  rw [lg_entry_eq]
  generalize (lg_sl ([.ref (ad 0), .int a1, .int a2, .int a3]) ++ List.replicate (4 - (lg_sl ([.ref (ad 0), .int a1, .int a2, .int a3])).length) Slot.unset).toArray = ls at hl ⊢
  have hl : lv_has ls 4 [(0, .ref (ad 0)), (1, .int a1), (2, .int a2), (3, .int a3)] := hl
  unfold w_X8_inside at h
  refine lv_iload_n hx hb dX8_inside_0 rfl (lv_at hl 1 rfl) ?_
  refine lv_sipush (v := 300) hx hb dX8_inside_1 (by decide) ?_
  refine gy_backv hI (gy_runS (As := [.int a1, .int 300]) (rest := []) hC hml hI (c_X8_requireIndex l hst D cy ad A _ _  _ _ _ h) k_X8_requireIndex gw_3_33 ⟨rfl, rfl⟩ ⟨Nat.le_of_ble_eq_true rfl, Nat.le_of_ble_eq_true rfl⟩ rfl hl.1 rfl (Nat.le_of_ble_eq_true rfl) dX8_inside_4 ⟨Nat.le_of_ble_eq_true rfl, Nat.le_of_ble_eq_true rfl⟩) (fun _ _ _ _ _ _ hk9 hx9 hI9 h19 h29 h39 => gy_on htb hlocks hk9 hx9 hI9 h19 h29 h39 (Nat.le_of_ble_eq_true rfl) (Nat.le_of_ble_eq_true rfl)) (fun s1 H locs h hI => ?_)
  refine lv_aload_n hx hb dX8_inside_7 rfl (lv_at hl 0 rfl) ?_
  refine gg_X8_book hC hI gw_2_50 dX8_inside_8 ?_
  refine lv_iload_n hx hb dX8_inside_11 rfl (lv_at hl 1 rfl) ?_
  refine lv_iload_n hx hb dX8_inside_12 rfl (lv_at hl 2 rfl) ?_
  refine lv_iload_n hx hb dX8_inside_13 rfl (lv_at hl 3 rfl) ?_
  refine g_backi hI (g_runV (As := [.int a1, .int a2, .int a3]) (rest := []) hC hml hI (c_X1_isInside l D cy ad A _  _ _ _ _ h) k_X1_isInside gw_4_54 ⟨rfl, rfl⟩ ⟨Nat.le_of_ble_eq_true rfl, Nat.le_of_ble_eq_true rfl⟩ (grv_7 hC hI) rfl hl.1 rfl (Nat.le_of_ble_eq_true rfl) dX8_inside_14 ⟨Nat.le_of_ble_eq_true rfl, Nat.le_of_ble_eq_true rfl⟩) (fun r4 s3 H locs h hI => ?_)
  exact gy_zret hC hr hlocks h.1 hI h.2 (Nat.le_of_ble_eq_true rfl) (Nat.le_of_ble_eq_true rfl) dX8_inside_17

theorem dX8_within_0 : decode cX8_within 0 = .ok (.iload_n 1, 1) := by decide +kernel
theorem dX8_within_1 : decode cX8_within 1 = .ok (.ifCond .eq 14, 3) := by decide +kernel
theorem dX8_within_4 : decode cX8_within 4 = .ok (.aload_n 0, 1) := by decide +kernel
theorem dX8_within_5 : decode cX8_within 5 = .ok (.getfield 49, 3) := by decide +kernel
theorem dX8_within_8 : decode cX8_within 8 = .ok (.iload_n 3, 1) := by decide +kernel
theorem dX8_within_9 : decode cX8_within 9 = .ok (.invokevirtual 180, 3) := by decide +kernel
theorem dX8_within_12 : decode cX8_within 12 = .ok (.goto 12, 3) := by decide +kernel
theorem dX8_within_15 : decode cX8_within 15 = .ok (.aload_n 0, 1) := by decide +kernel
theorem dX8_within_16 : decode cX8_within 16 = .ok (.getfield 49, 3) := by decide +kernel
theorem dX8_within_19 : decode cX8_within 19 = .ok (.iload_n 2, 1) := by decide +kernel
theorem dX8_within_20 : decode cX8_within 20 = .ok (.iload_n 3, 1) := by decide +kernel
theorem dX8_within_21 : decode cX8_within 21 = .ok (.invokevirtual 184, 3) := by decide +kernel
theorem dX8_within_24 : decode cX8_within 24 = .ok (.ireturn, 1) := by decide +kernel
def w_X8_within (Q : Int32 → gS → Prop) (σ : gS) (a1 : Int32) (a2 : Int32) (a3 : Int32) : Prop :=
    (a1 = 0 → w_X1_bandsInside  (fun (r3 : Int32) (s2 : gS) => Q r3 s2) σ a2 a3) ∧ (¬ a1 = 0 → w_X1_oddPasses  (fun (r5 : Int32) (s4 : gS) => Q r5 s4) σ a3)
abbrev ws_X8_within : List Cond := Cond.code yX8_within cX8_within 4 (some .int) :: gG
abbrev rm_X8_within : Room := { frames := 1, cells := 0, slots := 0, locals := 27 }
theorem k_X8_within : gCV yX8_within RX8 cX8_within 4 (some .int) 3 := ⟨gw_2_219, gw_2_220, gw_1_1, gw_2_221, rfl, by decide +kernel⟩
set_option maxHeartbeats 4000000 in
set_option maxRecDepth 100000 in
theorem c_X8_within (l : Launch) (D : va_G) (cy : Nat → ClassId) (ad : Nat → Nat) (A : Nat → Prop) (Q : Int32 → gS → Prop) (σ : gS) (a1 : Int32) (a2 : Int32) (a3 : Int32) (h : w_X8_within Q σ a1 a2 a3) : Met l yX8_within ws_X8_within rm_X8_within (va_Pc [.ref (ad 0), .int a1, .int a2, .int a3] (gB D cy ad A σ)) (va_Qi Q (gB D cy ad A) A) 0 0 A := by
  refine Met.ofW (cc := cX8_within) (maxL := 4) (ret := (some .int)) (by decide) rfl ?_
  intro p e s m args below meth c s₁ B hml hv
  obtain ⟨rfl, hB⟩ := hv
  have hC : gC p c cX8_within s m ([.ref (ad 0), .int a1, .int a2, .int a3] : List Value).toArray RX8 D cy ad A := g_start B hB
  have hI := g_first hB
  have hx := hC.1
  have hb := hC.2.1
  have hr := B.returns
  have hlocks := B.notSynchronized
  clear B hB
  have hl := lv_entry ([.ref (ad 0), .int a1, .int a2, .int a3]) (n := 4) (Nat.le_of_ble_eq_true rfl)
  rw [lg_entry_eq]
  generalize (lg_sl ([.ref (ad 0), .int a1, .int a2, .int a3]) ++ List.replicate (4 - (lg_sl ([.ref (ad 0), .int a1, .int a2, .int a3])).length) Slot.unset).toArray = ls at hl ⊢
  have hl : lv_has ls 4 [(0, .ref (ad 0)), (1, .int a1), (2, .int a2), (3, .int a3)] := hl
  unfold w_X8_within at h
  refine lv_iload_n hx hb dX8_within_0 rfl (lv_at hl 1 rfl) ?_
  refine lv_if_eq (tgt := 15) hx hb dX8_within_1 (by decide) (fun c1 => ?_) (fun c1 => ?_)
  · have h := h.1 c1
    refine lv_aload_n hx hb dX8_within_15 rfl (lv_at hl 0 rfl) ?_
    refine gg_X8_book hC hI gw_2_50 dX8_within_16 ?_
    refine lv_iload_n hx hb dX8_within_19 rfl (lv_at hl 2 rfl) ?_
    refine lv_iload_n hx hb dX8_within_20 rfl (lv_at hl 3 rfl) ?_
    refine g_backi hI (g_runV (As := [.int a2, .int a3]) (rest := []) hC hml hI (c_X1_bandsInside l D cy ad A _  _ _ _ h) k_X1_bandsInside gw_2_226 ⟨rfl, rfl⟩ ⟨Nat.le_of_ble_eq_true rfl, Nat.le_of_ble_eq_true rfl⟩ (grv_7 hC hI) rfl hl.1 rfl (Nat.le_of_ble_eq_true rfl) dX8_within_21 ⟨Nat.le_of_ble_eq_true rfl, Nat.le_of_ble_eq_true rfl⟩) (fun r3 s2 H locs h hI => ?_)
    exact g_iret hC hr hlocks hI h dX8_within_24
  · have h := h.2 c1
    refine lv_aload_n hx hb dX8_within_4 rfl (lv_at hl 0 rfl) ?_
    refine gg_X8_book hC hI gw_2_50 dX8_within_5 ?_
    refine lv_iload_n hx hb dX8_within_8 rfl (lv_at hl 3 rfl) ?_
    refine g_backi hI (g_runV (As := [.int a3]) (rest := []) hC hml hI (c_X1_oddPasses l D cy ad A _  _ _ h) k_X1_oddPasses gw_2_222 ⟨rfl, rfl⟩ ⟨Nat.le_of_ble_eq_true rfl, Nat.le_of_ble_eq_true rfl⟩ (grv_7 hC hI) rfl hl.1 rfl (Nat.le_of_ble_eq_true rfl) dX8_within_9 ⟨Nat.le_of_ble_eq_true rfl, Nat.le_of_ble_eq_true rfl⟩) (fun r5 s4 H locs h hI => ?_)
    refine lv_goto (tgt := 24) hx hb dX8_within_12 (by decide) ?_
    exact g_iret hC hr hlocks hI h dX8_within_24

theorem dX8_noise_0 : decode cX8_noise 0 = .ok (.iload_n 1, 1) := by decide +kernel
theorem dX8_noise_1 : decode cX8_noise 1 = .ok (.iconst 0, 1) := by decide +kernel
theorem dX8_noise_2 : decode cX8_noise 2 = .ok (.bipush 23, 2) := by decide +kernel
theorem dX8_noise_4 : decode cX8_noise 4 = .ok (.invokestatic 93, 3) := by decide +kernel
theorem dX8_noise_7 : decode cX8_noise 7 = .ok (.iload_n 2, 1) := by decide +kernel
theorem dX8_noise_8 : decode cX8_noise 8 = .ok (.iconst 0, 1) := by decide +kernel
theorem dX8_noise_9 : decode cX8_noise 9 = .ok (.sipush 200, 3) := by decide +kernel
theorem dX8_noise_12 : decode cX8_noise 12 = .ok (.invokestatic 93, 3) := by decide +kernel
theorem dX8_noise_15 : decode cX8_noise 15 = .ok (.aload_n 0, 1) := by decide +kernel
theorem dX8_noise_16 : decode cX8_noise 16 = .ok (.getfield 53, 3) := by decide +kernel
theorem dX8_noise_19 : decode cX8_noise 19 = .ok (.iload_n 1, 1) := by decide +kernel
theorem dX8_noise_20 : decode cX8_noise 20 = .ok (.iload_n 2, 1) := by decide +kernel
theorem dX8_noise_21 : decode cX8_noise 21 = .ok (.iastore, 1) := by decide +kernel
theorem dX8_noise_22 : decode cX8_noise 22 = .ok (.return_, 1) := by decide +kernel
def w_X8_noise (Q : gS → Prop) (X : Nat → gS → Prop) (σ : gS) (a1 : Int32) (a2 : Int32) : Prop :=
    w_X8_requireNumber  (fun (s1 : gS) => w_X8_requireNumber  (fun (s3 : gS) => vp_in a1 24 ∧ ∀ s6 : gS, s6 = gu s3 10 a1.toNatClampNeg a2 → Q s6) X s1 a2 0 200) X σ a1 0 23
abbrev ws_X8_noise : List Cond := Cond.code yX8_noise cX8_noise 3 none :: gG
abbrev rm_X8_noise : Room := { frames := 7, cells := 2, slots := 12, locals := 112 }
theorem k_X8_noise : gCV yX8_noise RX8 cX8_noise 3 none 2 := ⟨gw_4_62, gw_4_63, gw_1_1, gw_4_64, rfl, by decide +kernel⟩
set_option maxHeartbeats 4000000 in
set_option maxRecDepth 100000 in
theorem c_X8_noise (l : Launch) (hst : l.stackTraces = false) (D : va_G) (cy : Nat → ClassId) (ad : Nat → Nat) (A : Nat → Prop) (Q : gS → Prop) (X : Nat → gS → Prop) (σ : gS) (a1 : Int32) (a2 : Int32) (h : w_X8_noise Q X σ a1 a2) : vx_Met l yX8_noise ws_X8_noise rm_X8_noise (va_Pc [.ref (ad 0), .int a1, .int a2] (gB D cy ad A σ)) (va_Qv Q (gB D cy ad A) A) (gXX D cy ad A X) 2 12 A := by
  refine vx_ofW (cc := cX8_noise) (maxL := 3) (ret := none) (by decide) rfl ?_
  intro p e s m args below meth c s₁ B hml htb hv
  obtain ⟨rfl, hB⟩ := hv
  have hC : gC p c cX8_noise s m ([.ref (ad 0), .int a1, .int a2] : List Value).toArray RX8 D cy ad A := g_start B hB
  have hI := g_first hB
  have hx := hC.1
  have hb := hC.2.1
  have hr := B.returns
  have hlocks := B.notSynchronized
  clear B hB
  have hl := lv_entry ([.ref (ad 0), .int a1, .int a2]) (n := 3) (Nat.le_of_ble_eq_true rfl)
  rw [lg_entry_eq]
  generalize (lg_sl ([.ref (ad 0), .int a1, .int a2]) ++ List.replicate (3 - (lg_sl ([.ref (ad 0), .int a1, .int a2])).length) Slot.unset).toArray = ls at hl ⊢
  have hl : lv_has ls 3 [(0, .ref (ad 0)), (1, .int a1), (2, .int a2)] := hl
  unfold w_X8_noise at h
  refine lv_iload_n hx hb dX8_noise_0 rfl (lv_at hl 1 rfl) ?_
  refine lv_iconst (v := 0) hx hb dX8_noise_1 (by decide) ?_
  refine lv_bipush (v := 23) hx hb dX8_noise_2 (by decide) ?_
  refine gy_backv hI (gy_runS (As := [.int a1, .int 0, .int 23]) (rest := []) hC hml hI (c_X8_requireNumber l hst D cy ad A _ _  _ _ _ _ h) k_X8_requireNumber gw_3_119 ⟨rfl, rfl⟩ ⟨Nat.le_of_ble_eq_true rfl, Nat.le_of_ble_eq_true rfl⟩ rfl hl.1 rfl (Nat.le_of_ble_eq_true rfl) dX8_noise_4 ⟨Nat.le_of_ble_eq_true rfl, Nat.le_of_ble_eq_true rfl⟩) (fun _ _ _ _ _ _ hk9 hx9 hI9 h19 h29 h39 => gy_on htb hlocks hk9 hx9 hI9 h19 h29 h39 (Nat.le_of_ble_eq_true rfl) (Nat.le_of_ble_eq_true rfl)) (fun s1 H locs h hI => ?_)
  refine lv_iload_n hx hb dX8_noise_7 rfl (lv_at hl 2 rfl) ?_
  refine lv_iconst (v := 0) hx hb dX8_noise_8 (by decide) ?_
  refine lv_sipush (v := 200) hx hb dX8_noise_9 (by decide) ?_
  refine gy_backv hI (gy_runS (As := [.int a2, .int 0, .int 200]) (rest := []) hC hml hI (c_X8_requireNumber l hst D cy ad A _ _  _ _ _ _ h) k_X8_requireNumber gw_3_119 ⟨rfl, rfl⟩ ⟨Nat.le_of_ble_eq_true rfl, Nat.le_of_ble_eq_true rfl⟩ rfl hl.1 rfl (Nat.le_of_ble_eq_true rfl) dX8_noise_12 ⟨Nat.le_of_ble_eq_true rfl, Nat.le_of_ble_eq_true rfl⟩) (fun _ _ _ _ _ _ hk9 hx9 hI9 h19 h29 h39 => gy_on htb hlocks hk9 hx9 hI9 h19 h29 h39 (Nat.le_of_ble_eq_true rfl) (Nat.le_of_ble_eq_true rfl)) (fun s3 H locs h hI => ?_)
  refine lv_aload_n hx hb dX8_noise_15 rfl (lv_at hl 0 rfl) ?_
  refine gg_X8_loudness hC hI gw_2_51 dX8_noise_16 ?_
  refine lv_iload_n hx hb dX8_noise_19 rfl (lv_at hl 1 rfl) ?_
  refine lv_iload_n hx hb dX8_noise_20 rfl (lv_at hl 2 rfl) ?_
  obtain ⟨hi5, h⟩ := h
  refine gs_19 hC hI hi5 dX8_noise_21 (fun s6 H locs es6 hI => ?_)
  have h := h s6 es6
  exact gy_vret hC hr hlocks hI h (Nat.le_of_ble_eq_true rfl) (Nat.le_of_ble_eq_true rfl) dX8_noise_22

theorem dX8_licence_0 : decode cX8_licence 0 = .ok (.aload_n 0, 1) := by decide +kernel
theorem dX8_licence_1 : decode cX8_licence 1 = .ok (.aload_n 0, 1) := by decide +kernel
theorem dX8_licence_2 : decode cX8_licence 2 = .ok (.getfield 21, 3) := by decide +kernel
theorem dX8_licence_5 : decode cX8_licence 5 = .ok (.aload_n 0, 1) := by decide +kernel
theorem dX8_licence_6 : decode cX8_licence 6 = .ok (.getfield 64, 3) := by decide +kernel
theorem dX8_licence_9 : decode cX8_licence 9 = .ok (.invokevirtual 187, 3) := by decide +kernel
theorem dX8_licence_12 : decode cX8_licence 12 = .ok (.putfield 67, 3) := by decide +kernel
theorem dX8_licence_15 : decode cX8_licence 15 = .ok (.aload_n 0, 1) := by decide +kernel
theorem dX8_licence_16 : decode cX8_licence 16 = .ok (.getfield 10, 3) := by decide +kernel
theorem dX8_licence_19 : decode cX8_licence 19 = .ok (.iconst 0, 1) := by decide +kernel
theorem dX8_licence_20 : decode cX8_licence 20 = .ok (.putfield 79, 3) := by decide +kernel
theorem dX8_licence_23 : decode cX8_licence 23 = .ok (.aload_n 0, 1) := by decide +kernel
theorem dX8_licence_24 : decode cX8_licence 24 = .ok (.getfield 67, 3) := by decide +kernel
theorem dX8_licence_27 : decode cX8_licence 27 = .ok (.iconst (-1), 1) := by decide +kernel
theorem dX8_licence_28 : decode cX8_licence 28 = .ok (.if_icmp .eq 11, 3) := by decide +kernel
theorem dX8_licence_31 : decode cX8_licence 31 = .ok (.new 126, 3) := by decide +kernel
theorem dX8_licence_34 : decode cX8_licence 34 = .ok (.dup, 1) := by decide +kernel
theorem dX8_licence_35 : decode cX8_licence 35 = .ok (.invokespecial 128, 3) := by decide +kernel
theorem dX8_licence_38 : decode cX8_licence 38 = .ok (.athrow, 1) := by decide +kernel
theorem dX8_licence_39 : decode cX8_licence 39 = .ok (.aload_n 0, 1) := by decide +kernel
theorem dX8_licence_40 : decode cX8_licence 40 = .ok (.getfield 60, 3) := by decide +kernel
theorem dX8_licence_43 : decode cX8_licence 43 = .ok (.astore_n 1, 1) := by decide +kernel
theorem dX8_licence_44 : decode cX8_licence 44 = .ok (.aload_n 0, 1) := by decide +kernel
theorem dX8_licence_45 : decode cX8_licence 45 = .ok (.aload_n 0, 1) := by decide +kernel
theorem dX8_licence_46 : decode cX8_licence 46 = .ok (.getfield 64, 3) := by decide +kernel
theorem dX8_licence_49 : decode cX8_licence 49 = .ok (.putfield 60, 3) := by decide +kernel
theorem dX8_licence_52 : decode cX8_licence 52 = .ok (.aload_n 0, 1) := by decide +kernel
theorem dX8_licence_53 : decode cX8_licence 53 = .ok (.aload_n 1, 1) := by decide +kernel
theorem dX8_licence_54 : decode cX8_licence 54 = .ok (.putfield 64, 3) := by decide +kernel
theorem dX8_licence_57 : decode cX8_licence 57 = .ok (.aload_n 0, 1) := by decide +kernel
theorem dX8_licence_58 : decode cX8_licence 58 = .ok (.getfield 60, 3) := by decide +kernel
theorem dX8_licence_61 : decode cX8_licence 61 = .ok (.getfield 191, 3) := by decide +kernel
theorem dX8_licence_64 : decode cX8_licence 64 = .ok (.ireturn, 1) := by decide +kernel
def w_X8_licence (Q : Int32 → gS → Prop) (X : Nat → gS → Prop) (σ : gS) : Prop :=
    w_X5_readInto  (fun (r2 : Int32) (s1 : gS) => ∀ s3 : gS, s3 = gu s1 14 0 r2 → ∀ s4 : gS, s4 = gu s3 16 0 0 → ((s4 14 0) = (-1) → ∀ s6 : gS, s6 = gu s4 11 0 (gtv (gtj (s4 12 0))) → ∀ s7 : gS, s7 = gu s6 12 0 (gtv (gtj (s4 11 0))) → Q (s7 (gtk (gtj (s7 11 0)) + 4) 0) s7) ∧ (¬ (s4 14 0) = (-1) → X 1 s4)) (gtj (σ 12 0)) σ
abbrev ws_X8_licence : List Cond := Cond.code yX8_licence cX8_licence 2 (some .int) :: gG
abbrev rm_X8_licence : Room := { frames := 8, cells := 1, slots := 6, locals := 176 }
theorem k_X8_licence : gCV yX8_licence RX8 cX8_licence 2 (some .int) 0 := ⟨gw_4_69, gw_4_70, gw_1_1, gw_4_71, rfl, by decide +kernel⟩
set_option maxHeartbeats 4000000 in
set_option maxRecDepth 100000 in
theorem c_X8_licence (l : Launch) (hst : l.stackTraces = false) (D : va_G) (cy : Nat → ClassId) (ad : Nat → Nat) (A : Nat → Prop) (Q : Int32 → gS → Prop) (X : Nat → gS → Prop) (σ : gS) (h : w_X8_licence Q X σ) : vx_Met l yX8_licence ws_X8_licence rm_X8_licence (va_Pc [.ref (ad 0)] (gB D cy ad A σ)) (va_Qi Q (gB D cy ad A) A) (gXX D cy ad A X) 1 6 A := by
  refine vx_ofW (cc := cX8_licence) (maxL := 2) (ret := (some .int)) (by decide) rfl ?_
  intro p e s m args below meth c s₁ B hml htb hv
  obtain ⟨rfl, hB⟩ := hv
  have hC : gC p c cX8_licence s m ([.ref (ad 0)] : List Value).toArray RX8 D cy ad A := g_start B hB
  have hI := g_first hB
  have hx := hC.1
  have hb := hC.2.1
  have hr := B.returns
  have hlocks := B.notSynchronized
  clear B hB
  have hl := lv_entry ([.ref (ad 0)]) (n := 2) (Nat.le_of_ble_eq_true rfl)
  rw [lg_entry_eq]
  generalize (lg_sl ([.ref (ad 0)]) ++ List.replicate (2 - (lg_sl ([.ref (ad 0)])).length) Slot.unset).toArray = ls at hl ⊢
  have hl : lv_has ls 2 [(0, .ref (ad 0))] := hl
  unfold w_X8_licence at h
  refine lv_aload_n hx hb dX8_licence_0 rfl (lv_at hl 0 rfl) ?_
  refine lv_aload_n hx hb dX8_licence_1 rfl (lv_at hl 0 rfl) ?_
  refine gg_X8_reader hC hI gw_2_46 dX8_licence_2 ?_
  refine lv_aload_n hx hb dX8_licence_5 rfl (lv_at hl 0 rfl) ?_
  refine gg_X8_spareTerms hC hI gw_2_53 dX8_licence_6 ?_
  refine g_backi hI (g_runV (As := [.ref (ad (gtj (σ 12 0)))]) (rest := [.ref (ad 0)]) hC hml hI (c_X5_readInto l D cy ad A _ _ (gtj_or _)  _ h) k_X5_readInto gw_4_72 ⟨rfl, rfl⟩ ⟨Nat.le_of_ble_eq_true rfl, Nat.le_of_ble_eq_true rfl⟩ (grv_2 hC hI) rfl hl.1 rfl (Nat.le_of_ble_eq_true rfl) dX8_licence_9 ⟨Nat.le_of_ble_eq_true rfl, Nat.le_of_ble_eq_true rfl⟩) (fun r2 s1 H locs h hI => ?_)
  refine gp_X8_wrongByte hC hI gw_2_55 dX8_licence_12 (fun s3 H locs es3 hI => ?_)
  have h := h s3 es3
  refine lv_aload_n hx hb dX8_licence_15 rfl (lv_at hl 0 rfl) ?_
  refine gg_X8_tape hC hI gw_2_45 dX8_licence_16 ?_
  refine lv_iconst (v := 0) hx hb dX8_licence_19 (by decide) ?_
  refine gp_X6_size hC hI gw_1_41 dX8_licence_20 (fun s4 H locs es4 hI => ?_)
  have h := h s4 es4
  refine lv_aload_n hx hb dX8_licence_23 rfl (lv_at hl 0 rfl) ?_
  refine gg_X8_wrongByte hC hI gw_2_55 dX8_licence_24 ?_
  refine lv_iconst (v := (-1)) hx hb dX8_licence_27 (by decide) ?_
  refine lv_icmp_eq (tgt := 39) hx hb dX8_licence_28 (by decide) (fun c5 => ?_) (fun c5 => ?_)
  · have h := h.1 c5
    refine lv_aload_n hx hb dX8_licence_39 rfl (lv_at hl 0 rfl) ?_
    refine gg_X8_terms hC hI gw_2_52 dX8_licence_40 ?_
    refine lv_astore_n (lv' := [(1, .ref (ad (gtj (s4 11 0)))), (0, .ref (ad 0))]) hx hb dX8_licence_43 rfl hl (by decide) rfl (fun ls hl => ?_)
    refine lv_aload_n hx hb dX8_licence_44 rfl (lv_at hl 1 rfl) ?_
    refine lv_aload_n hx hb dX8_licence_45 rfl (lv_at hl 1 rfl) ?_
    refine gg_X8_spareTerms hC hI gw_2_53 dX8_licence_46 ?_
    refine gp_X8_terms hC hI (gtj_or _) gw_2_52 dX8_licence_49 (fun s6 H locs es6 hI => ?_)
    have h := h s6 es6
    refine lv_aload_n hx hb dX8_licence_52 rfl (lv_at hl 1 rfl) ?_
    refine lv_aload_n hx hb dX8_licence_53 rfl (lv_at hl 0 rfl) ?_
    refine gp_X8_spareTerms hC hI (gtj_or _) gw_2_53 dX8_licence_54 (fun s7 H locs es7 hI => ?_)
    have h := h s7 es7
    refine lv_aload_n hx hb dX8_licence_57 rfl (lv_at hl 1 rfl) ?_
    refine gg_X8_terms hC hI gw_2_52 dX8_licence_58 ?_
    refine gg_X7_size hC hI (gtj_or _) gw_2_33 dX8_licence_61 ?_
    exact gy_iret hC hr hlocks hI h (Nat.le_of_ble_eq_true rfl) (Nat.le_of_ble_eq_true rfl) dX8_licence_64
  · have h := h.2 c5
    exact gth_1 hst hC hI hml hl.1 htb hlocks h dX8_licence_31 dX8_licence_34 dX8_licence_35 dX8_licence_38 (Nat.le_of_ble_eq_true rfl) (Nat.le_of_ble_eq_true rfl) (Nat.le_of_ble_eq_true rfl) (Nat.le_of_ble_eq_true rfl) (Nat.le_of_ble_eq_true rfl) (Nat.le_of_ble_eq_true rfl)

theorem dX8_fault_0 : decode cX8_fault 0 = .ok (.aload_n 0, 1) := by decide +kernel
theorem dX8_fault_1 : decode cX8_fault 1 = .ok (.getfield 67, 3) := by decide +kernel
theorem dX8_fault_4 : decode cX8_fault 4 = .ok (.ireturn, 1) := by decide +kernel
def w_X8_fault (Q : Int32 → gS → Prop) (σ : gS) : Prop :=
    Q (σ 14 0) σ
abbrev ws_X8_fault : List Cond := Cond.code yX8_fault cX8_fault 1 (some .int) :: gG
abbrev rm_X8_fault : Room := { frames := 0, cells := 0, slots := 0, locals := 0 }
theorem k_X8_fault : gCV yX8_fault RX8 cX8_fault 1 (some .int) 0 := ⟨gw_2_231, gw_2_232, gw_1_1, gw_2_233, rfl, by decide +kernel⟩
set_option maxHeartbeats 4000000 in
set_option maxRecDepth 100000 in
theorem c_X8_fault (l : Launch) (D : va_G) (cy : Nat → ClassId) (ad : Nat → Nat) (A : Nat → Prop) (Q : Int32 → gS → Prop) (σ : gS) (h : w_X8_fault Q σ) : Met l yX8_fault ws_X8_fault rm_X8_fault (va_Pc [.ref (ad 0)] (gB D cy ad A σ)) (va_Qi Q (gB D cy ad A) A) 0 0 A := by
  refine Met.ofW (cc := cX8_fault) (maxL := 1) (ret := (some .int)) (by decide) rfl ?_
  intro p e s m args below meth c s₁ B hml hv
  obtain ⟨rfl, hB⟩ := hv
  have hC : gC p c cX8_fault s m ([.ref (ad 0)] : List Value).toArray RX8 D cy ad A := g_start B hB
  have hI := g_first hB
  have hx := hC.1
  have hb := hC.2.1
  have hr := B.returns
  have hlocks := B.notSynchronized
  clear B hB
  have hl := lv_entry ([.ref (ad 0)]) (n := 1) (Nat.le_of_ble_eq_true rfl)
  rw [lg_entry_eq]
  generalize (lg_sl ([.ref (ad 0)]) ++ List.replicate (1 - (lg_sl ([.ref (ad 0)])).length) Slot.unset).toArray = ls at hl ⊢
  have hl : lv_has ls 1 [(0, .ref (ad 0))] := hl
  unfold w_X8_fault at h
  refine lv_aload_n hx hb dX8_fault_0 rfl (lv_at hl 0 rfl) ?_
  refine gg_X8_wrongByte hC hI gw_2_55 dX8_fault_1 ?_
  exact g_iret hC hr hlocks hI h dX8_fault_4

theorem dX8_isQuiet_0 : decode cX8_isQuiet 0 = .ok (.iload_n 1, 1) := by decide +kernel
theorem dX8_isQuiet_1 : decode cX8_isQuiet 1 = .ok (.istore 4, 2) := by decide +kernel
theorem dX8_isQuiet_3 : decode cX8_isQuiet 3 = .ok (.iload 4, 2) := by decide +kernel
theorem dX8_isQuiet_5 : decode cX8_isQuiet 5 = .ok (.iload_n 2, 1) := by decide +kernel
theorem dX8_isQuiet_6 : decode cX8_isQuiet 6 = .ok (.if_icmp .gt 29, 3) := by decide +kernel
theorem dX8_isQuiet_9 : decode cX8_isQuiet 9 = .ok (.iload 4, 2) := by decide +kernel
theorem dX8_isQuiet_11 : decode cX8_isQuiet 11 = .ok (.bipush 24, 2) := by decide +kernel
theorem dX8_isQuiet_13 : decode cX8_isQuiet 13 = .ok (.if_icmp .ge 22, 3) := by decide +kernel
theorem dX8_isQuiet_16 : decode cX8_isQuiet 16 = .ok (.aload_n 0, 1) := by decide +kernel
theorem dX8_isQuiet_17 : decode cX8_isQuiet 17 = .ok (.getfield 53, 3) := by decide +kernel
theorem dX8_isQuiet_20 : decode cX8_isQuiet 20 = .ok (.iload 4, 2) := by decide +kernel
theorem dX8_isQuiet_22 : decode cX8_isQuiet 22 = .ok (.iaload, 1) := by decide +kernel
theorem dX8_isQuiet_23 : decode cX8_isQuiet 23 = .ok (.iload_n 3, 1) := by decide +kernel
theorem dX8_isQuiet_24 : decode cX8_isQuiet 24 = .ok (.if_icmp .le 5, 3) := by decide +kernel
theorem dX8_isQuiet_27 : decode cX8_isQuiet 27 = .ok (.iconst 0, 1) := by decide +kernel
theorem dX8_isQuiet_28 : decode cX8_isQuiet 28 = .ok (.ireturn, 1) := by decide +kernel
theorem dX8_isQuiet_29 : decode cX8_isQuiet 29 = .ok (.iinc 4 1, 3) := by decide +kernel
theorem dX8_isQuiet_32 : decode cX8_isQuiet 32 = .ok (.goto (-29), 3) := by decide +kernel
theorem dX8_isQuiet_35 : decode cX8_isQuiet 35 = .ok (.iconst 1, 1) := by decide +kernel
theorem dX8_isQuiet_36 : decode cX8_isQuiet 36 = .ok (.ireturn, 1) := by decide +kernel
def w_X8_isQuiet_3 (Q : Int32 → gS → Prop) : Nat → Int32 → Int32 → Int32 → gS → Prop
  | 0, _, _, _, _ => False
  | n3 + 1, x2, x3, x4, σ =>
    (x2 < x4 → Q 1 σ) ∧ (¬ x2 < x4 → (24 ≤ x4 → Q 1 σ) ∧ (¬ 24 ≤ x4 → vp_in x4 24 ∧ ((σ 10 x4.toNatClampNeg) ≤ x3 → ∀ y6 : Int32, y6 = x4 + 1 → w_X8_isQuiet_3 Q n3 x2 x3 y6 σ) ∧ (¬ (σ 10 x4.toNatClampNeg) ≤ x3 → Q 0 σ)))
def w_X8_isQuiet (Q : Int32 → gS → Prop) (σ : gS) (a1 : Int32) (a2 : Int32) (a3 : Int32) : Prop :=
    ∃ n3, w_X8_isQuiet_3 Q n3 a2 a3 a1 σ
abbrev ws_X8_isQuiet : List Cond := Cond.code yX8_isQuiet cX8_isQuiet 5 (some .boolean) :: gG
abbrev rm_X8_isQuiet : Room := { frames := 0, cells := 0, slots := 0, locals := 0 }
theorem k_X8_isQuiet : gCV yX8_isQuiet RX8 cX8_isQuiet 5 (some .boolean) 3 := ⟨gw_3_11, gwp_18, gw_1_1, gw_3_12, rfl, by decide +kernel⟩
set_option maxHeartbeats 4000000 in
set_option maxRecDepth 100000 in
theorem c_X8_isQuiet (l : Launch) (D : va_G) (cy : Nat → ClassId) (ad : Nat → Nat) (A : Nat → Prop) (Q : Int32 → gS → Prop) (σ : gS) (a1 : Int32) (a2 : Int32) (a3 : Int32) (h : w_X8_isQuiet Q σ a1 a2 a3) : Met l yX8_isQuiet ws_X8_isQuiet rm_X8_isQuiet (va_Pc [.ref (ad 0), .int a1, .int a2, .int a3] (gB D cy ad A σ)) (va_Qi Q (gB D cy ad A) A) 0 0 A := by
  refine Met.ofW (cc := cX8_isQuiet) (maxL := 5) (ret := (some .boolean)) (by decide) rfl ?_
  intro p e s m args below meth c s₁ B hml hv
  obtain ⟨rfl, hB⟩ := hv
  have hC : gC p c cX8_isQuiet s m ([.ref (ad 0), .int a1, .int a2, .int a3] : List Value).toArray RX8 D cy ad A := g_start B hB
  have hI := g_first hB
  have hx := hC.1
  have hb := hC.2.1
  have hr := B.returns
  have hlocks := B.notSynchronized
  clear B hB
  have J3 : ∀ (n3 : Nat) (x2 : Int32) (x3 : Int32) (x4 : Int32) (σ : gS) (H : Heap) (locs : List Loc) (ls : Array Slot), w_X8_isQuiet_3 Q n3 x2 x3 x4 σ → gI D cy ad A s.heap σ H locs → lv_has ls 5 [(0, .ref (ad 0)), (2, .int x2), (3, .int x3), (4, .int x4)] → W p l e (headSpec ws_X8_isQuiet rm_X8_isQuiet).room s m ([.ref (ad 0), .int a1, .int a2, .int a3] : List Value).toArray below meth c H locs 0 0 (MQ below (va_Qi Q (gB D cy ad A) A) ([.ref (ad 0), .int a1, .int a2, .int a3] : List Value).toArray s 0 0 A) (F0 m 3 ls []) := by
    intro n3
    induction n3 with
    | zero => intro x2 x3 x4 σ H locs ls h; exact absurd h (fun h => h)
    | succ n3 ih3 =>
      intro x2 x3 x4 σ H locs ls h hI hl
      unfold w_X8_isQuiet_3 at h
      refine lv_iload hx hb dX8_isQuiet_3 (lv_at hl 3 rfl) ?_
      refine lv_iload_n hx hb dX8_isQuiet_5 rfl (lv_at hl 1 rfl) ?_
      refine lv_icmp_gt (tgt := 35) hx hb dX8_isQuiet_6 (by decide) (fun c2 => ?_) (fun c2 => ?_)
      · have h := h.1 c2
        refine lv_iconst (v := 1) hx hb dX8_isQuiet_35 (by decide) ?_
        exact g_zret hC hr hlocks rfl hI h dX8_isQuiet_36
      · have h := h.2 c2
        refine lv_iload hx hb dX8_isQuiet_9 (lv_at hl 3 rfl) ?_
        refine lv_bipush (v := 24) hx hb dX8_isQuiet_11 (by decide) ?_
        refine lv_icmp_ge (tgt := 35) hx hb dX8_isQuiet_13 (by decide) (fun c3 => ?_) (fun c3 => ?_)
        · have h := h.1 c3
          refine lv_iconst (v := 1) hx hb dX8_isQuiet_35 (by decide) ?_
          exact g_zret hC hr hlocks rfl hI h dX8_isQuiet_36
        · have h := h.2 c3
          refine lv_aload_n hx hb dX8_isQuiet_16 rfl (lv_at hl 0 rfl) ?_
          refine gg_X8_loudness hC hI gw_2_51 dX8_isQuiet_17 ?_
          refine lv_iload hx hb dX8_isQuiet_20 (lv_at hl 3 rfl) ?_
          obtain ⟨hi4, h⟩ := h
          refine ga_19 hC hI hi4 dX8_isQuiet_22 ?_
          refine lv_iload_n hx hb dX8_isQuiet_23 rfl (lv_at hl 2 rfl) ?_
          refine lv_icmp_le (tgt := 29) hx hb dX8_isQuiet_24 (by decide) (fun c5 => ?_) (fun c5 => ?_)
          · have h := h.1 c5
            obtain ⟨y6, ey6⟩ : ∃ y : Int32, y = x4 + 1 := ⟨_, rfl⟩
            have h := h y6 ey6
            refine lv_iinc (v := y6) (lv' := [(4, .int y6), (0, .ref (ad 0)), (2, .int x2), (3, .int x3)]) hx hb dX8_isQuiet_29 hl (k := 3) rfl (by rw [ey6]; rfl) (by decide) rfl (fun ls hl => ?_)
            refine lv_goto (tgt := 3) hx hb dX8_isQuiet_32 (by decide) ?_
            exact ih3 _ _ _ _ _ _ _ h hI (lv_sub hl [1, 2, 3, 0] rfl)
          · have h := h.2 c5
            refine lv_iconst (v := 0) hx hb dX8_isQuiet_27 (by decide) ?_
            exact g_zret hC hr hlocks rfl hI h dX8_isQuiet_28
  have hl := lv_entry ([.ref (ad 0), .int a1, .int a2, .int a3]) (n := 5) (Nat.le_of_ble_eq_true rfl)
  rw [lg_entry_eq]
  generalize (lg_sl ([.ref (ad 0), .int a1, .int a2, .int a3]) ++ List.replicate (5 - (lg_sl ([.ref (ad 0), .int a1, .int a2, .int a3])).length) Slot.unset).toArray = ls at hl ⊢
  have hl : lv_has ls 5 [(0, .ref (ad 0)), (1, .int a1), (2, .int a2), (3, .int a3)] := hl
  unfold w_X8_isQuiet at h
  refine lv_iload_n hx hb dX8_isQuiet_0 rfl (lv_at hl 1 rfl) ?_
  refine lv_istore (lv' := [(4, .int a1), (0, .ref (ad 0)), (1, .int a1), (2, .int a2), (3, .int a3)]) hx hb dX8_isQuiet_1 hl (by decide) rfl (fun ls hl => ?_)
  obtain ⟨n9, h⟩ := h
  exact J3 n9 _ _ _ _ _ _ _ h hI (lv_sub hl [1, 3, 4, 0] rfl)

theorem dX8_isAtMost_0 : decode cX8_isAtMost 0 = .ok (.iload_n 0, 1) := by decide +kernel
theorem dX8_isAtMost_1 : decode cX8_isAtMost 1 = .ok (.iconst (-1), 1) := by decide +kernel
theorem dX8_isAtMost_2 : decode cX8_isAtMost 2 = .ok (.if_icmp .eq 12, 3) := by decide +kernel
theorem dX8_isAtMost_5 : decode cX8_isAtMost 5 = .ok (.iload_n 0, 1) := by decide +kernel
theorem dX8_isAtMost_6 : decode cX8_isAtMost 6 = .ok (.iload_n 1, 1) := by decide +kernel
theorem dX8_isAtMost_7 : decode cX8_isAtMost 7 = .ok (.if_icmp .gt 7, 3) := by decide +kernel
theorem dX8_isAtMost_10 : decode cX8_isAtMost 10 = .ok (.iconst 1, 1) := by decide +kernel
theorem dX8_isAtMost_11 : decode cX8_isAtMost 11 = .ok (.goto 4, 3) := by decide +kernel
theorem dX8_isAtMost_14 : decode cX8_isAtMost 14 = .ok (.iconst 0, 1) := by decide +kernel
theorem dX8_isAtMost_15 : decode cX8_isAtMost 15 = .ok (.ireturn, 1) := by decide +kernel
def w_X8_isAtMost_14 (Q : Int32 → gS → Prop) (σ : gS) : Prop :=
    Q 0 σ
def w_X8_isAtMost (Q : Int32 → gS → Prop) (σ : gS) (a0 : Int32) (a1 : Int32) : Prop :=
    (a0 = (-1) → w_X8_isAtMost_14 Q σ) ∧ (¬ a0 = (-1) → (a1 < a0 → w_X8_isAtMost_14 Q σ) ∧ (¬ a1 < a0 → Q 1 σ))
abbrev ws_X8_isAtMost : List Cond := Cond.code yX8_isAtMost cX8_isAtMost 2 (some .boolean) :: gG
abbrev rm_X8_isAtMost : Room := { frames := 0, cells := 0, slots := 0, locals := 0 }
theorem k_X8_isAtMost : gCS yX8_isAtMost cX8_isAtMost 2 (some .boolean) 2 := ⟨gw_3_7, gw_1_1, gw_3_8, by decide +kernel⟩
set_option maxHeartbeats 4000000 in
set_option maxRecDepth 100000 in
theorem c_X8_isAtMost (l : Launch) (D : va_G) (cy : Nat → ClassId) (ad : Nat → Nat) (A : Nat → Prop) (Q : Int32 → gS → Prop) (σ : gS) (a0 : Int32) (a1 : Int32) (h : w_X8_isAtMost Q σ a0 a1) : Met l yX8_isAtMost ws_X8_isAtMost rm_X8_isAtMost (va_Pc [.int a0, .int a1] (gB D cy ad A σ)) (va_Qi Q (gB D cy ad A) A) 0 0 A := by
  refine Met.ofW (cc := cX8_isAtMost) (maxL := 2) (ret := (some .boolean)) (by decide) rfl ?_
  intro p e s m args below meth c s₁ B hml hv
  obtain ⟨rfl, hB⟩ := hv
  have hC : gC p c cX8_isAtMost s m ([.int a0, .int a1] : List Value).toArray RX8 D cy ad A := g_start B hB
  have hI := g_first hB
  have hx := hC.1
  have hb := hC.2.1
  have hr := B.returns
  have hlocks := B.notSynchronized
  clear B hB
  have J14 : ∀ (σ : gS) (H : Heap) (locs : List Loc) (ls : Array Slot), w_X8_isAtMost_14 Q σ → gI D cy ad A s.heap σ H locs → lv_has ls 2 [] → W p l e (headSpec ws_X8_isAtMost rm_X8_isAtMost).room s m ([.int a0, .int a1] : List Value).toArray below meth c H locs 0 0 (MQ below (va_Qi Q (gB D cy ad A) A) ([.int a0, .int a1] : List Value).toArray s 0 0 A) (F0 m 14 ls []) := by
    intro σ H locs ls h hI hl
    unfold w_X8_isAtMost_14 at h
    refine lv_iconst (v := 0) hx hb dX8_isAtMost_14 (by decide) ?_
    exact g_zret hC hr hlocks rfl hI h dX8_isAtMost_15
  have hl := lv_entry ([.int a0, .int a1]) (n := 2) (Nat.le_of_ble_eq_true rfl)
  rw [lg_entry_eq]
  generalize (lg_sl ([.int a0, .int a1]) ++ List.replicate (2 - (lg_sl ([.int a0, .int a1])).length) Slot.unset).toArray = ls at hl ⊢
  have hl : lv_has ls 2 [(0, .int a0), (1, .int a1)] := hl
  unfold w_X8_isAtMost at h
  refine lv_iload_n hx hb dX8_isAtMost_0 rfl (lv_at hl 0 rfl) ?_
  refine lv_iconst (v := (-1)) hx hb dX8_isAtMost_1 (by decide) ?_
  refine lv_icmp_eq (tgt := 14) hx hb dX8_isAtMost_2 (by decide) (fun c1 => ?_) (fun c1 => ?_)
  · have h := h.1 c1
    exact J14 _ _ _ _ h hI (lv_sub hl [] rfl)
  · have h := h.2 c1
    refine lv_iload_n hx hb dX8_isAtMost_5 rfl (lv_at hl 0 rfl) ?_
    refine lv_iload_n hx hb dX8_isAtMost_6 rfl (lv_at hl 1 rfl) ?_
    refine lv_icmp_gt (tgt := 14) hx hb dX8_isAtMost_7 (by decide) (fun c2 => ?_) (fun c2 => ?_)
    · have h := h.1 c2
      exact J14 _ _ _ _ h hI (lv_sub hl [] rfl)
    · have h := h.2 c2
      refine lv_iconst (v := 1) hx hb dX8_isAtMost_10 (by decide) ?_
      refine lv_goto (tgt := 15) hx hb dX8_isAtMost_11 (by decide) ?_
      exact g_zret hC hr hlocks rfl hI h dX8_isAtMost_15

theorem dX8_holds_0 : decode cX8_holds 0 = .ok (.aload_n 0, 1) := by decide +kernel
theorem dX8_holds_1 : decode cX8_holds 1 = .ok (.getfield 60, 3) := by decide +kernel
theorem dX8_holds_4 : decode cX8_holds 4 = .ok (.getfield 210, 3) := by decide +kernel
theorem dX8_holds_7 : decode cX8_holds 7 = .ok (.iload_n 1, 1) := by decide +kernel
theorem dX8_holds_8 : decode cX8_holds 8 = .ok (.iaload, 1) := by decide +kernel
theorem dX8_holds_9 : decode cX8_holds 9 = .ok (.istore_n 2, 1) := by decide +kernel
theorem dX8_holds_10 : decode cX8_holds 10 = .ok (.aload_n 0, 1) := by decide +kernel
theorem dX8_holds_11 : decode cX8_holds 11 = .ok (.getfield 60, 3) := by decide +kernel
theorem dX8_holds_14 : decode cX8_holds 14 = .ok (.getfield 213, 3) := by decide +kernel
theorem dX8_holds_17 : decode cX8_holds 17 = .ok (.iload_n 1, 1) := by decide +kernel
theorem dX8_holds_18 : decode cX8_holds 18 = .ok (.iaload, 1) := by decide +kernel
theorem dX8_holds_19 : decode cX8_holds 19 = .ok (.tableswitch 87 0 3 #[29, 46, 58, 70], 29) := by decide +kernel
theorem dX8_holds_48 : decode cX8_holds 48 = .ok (.aload_n 0, 1) := by decide +kernel
theorem dX8_holds_49 : decode cX8_holds 49 = .ok (.getfield 35, 3) := by decide +kernel
theorem dX8_holds_52 : decode cX8_holds 52 = .ok (.invokevirtual 201, 3) := by decide +kernel
theorem dX8_holds_55 : decode cX8_holds 55 = .ok (.iload_n 2, 1) := by decide +kernel
theorem dX8_holds_56 : decode cX8_holds 56 = .ok (.if_icmp .gt 7, 3) := by decide +kernel
theorem dX8_holds_59 : decode cX8_holds 59 = .ok (.iconst 1, 1) := by decide +kernel
theorem dX8_holds_60 : decode cX8_holds 60 = .ok (.goto 4, 3) := by decide +kernel
theorem dX8_holds_63 : decode cX8_holds 63 = .ok (.iconst 0, 1) := by decide +kernel
theorem dX8_holds_64 : decode cX8_holds 64 = .ok (.ireturn, 1) := by decide +kernel
theorem dX8_holds_65 : decode cX8_holds 65 = .ok (.aload_n 0, 1) := by decide +kernel
theorem dX8_holds_66 : decode cX8_holds 66 = .ok (.getfield 35, 3) := by decide +kernel
theorem dX8_holds_69 : decode cX8_holds 69 = .ok (.invokevirtual 136, 3) := by decide +kernel
theorem dX8_holds_72 : decode cX8_holds 72 = .ok (.iload_n 2, 1) := by decide +kernel
theorem dX8_holds_73 : decode cX8_holds 73 = .ok (.invokestatic 216, 3) := by decide +kernel
theorem dX8_holds_76 : decode cX8_holds 76 = .ok (.ireturn, 1) := by decide +kernel
theorem dX8_holds_77 : decode cX8_holds 77 = .ok (.aload_n 0, 1) := by decide +kernel
theorem dX8_holds_78 : decode cX8_holds 78 = .ok (.getfield 35, 3) := by decide +kernel
theorem dX8_holds_81 : decode cX8_holds 81 = .ok (.invokevirtual 140, 3) := by decide +kernel
theorem dX8_holds_84 : decode cX8_holds 84 = .ok (.iload_n 2, 1) := by decide +kernel
theorem dX8_holds_85 : decode cX8_holds 85 = .ok (.invokestatic 216, 3) := by decide +kernel
theorem dX8_holds_88 : decode cX8_holds 88 = .ok (.ireturn, 1) := by decide +kernel
theorem dX8_holds_89 : decode cX8_holds 89 = .ok (.aload_n 0, 1) := by decide +kernel
theorem dX8_holds_90 : decode cX8_holds 90 = .ok (.getfield 28, 3) := by decide +kernel
theorem dX8_holds_93 : decode cX8_holds 93 = .ok (.getfield 195, 3) := by decide +kernel
theorem dX8_holds_96 : decode cX8_holds 96 = .ok (.iload_n 2, 1) := by decide +kernel
theorem dX8_holds_97 : decode cX8_holds 97 = .ok (.if_icmp .gt 7, 3) := by decide +kernel
theorem dX8_holds_100 : decode cX8_holds 100 = .ok (.iconst 1, 1) := by decide +kernel
theorem dX8_holds_101 : decode cX8_holds 101 = .ok (.goto 4, 3) := by decide +kernel
theorem dX8_holds_104 : decode cX8_holds 104 = .ok (.iconst 0, 1) := by decide +kernel
theorem dX8_holds_105 : decode cX8_holds 105 = .ok (.ireturn, 1) := by decide +kernel
theorem dX8_holds_106 : decode cX8_holds 106 = .ok (.aload_n 0, 1) := by decide +kernel
theorem dX8_holds_107 : decode cX8_holds 107 = .ok (.aload_n 0, 1) := by decide +kernel
theorem dX8_holds_108 : decode cX8_holds 108 = .ok (.getfield 60, 3) := by decide +kernel
theorem dX8_holds_111 : decode cX8_holds 111 = .ok (.getfield 220, 3) := by decide +kernel
theorem dX8_holds_114 : decode cX8_holds 114 = .ok (.iload_n 1, 1) := by decide +kernel
theorem dX8_holds_115 : decode cX8_holds 115 = .ok (.iaload, 1) := by decide +kernel
theorem dX8_holds_116 : decode cX8_holds 116 = .ok (.aload_n 0, 1) := by decide +kernel
theorem dX8_holds_117 : decode cX8_holds 117 = .ok (.getfield 60, 3) := by decide +kernel
theorem dX8_holds_120 : decode cX8_holds 120 = .ok (.getfield 223, 3) := by decide +kernel
theorem dX8_holds_123 : decode cX8_holds 123 = .ok (.iload_n 1, 1) := by decide +kernel
theorem dX8_holds_124 : decode cX8_holds 124 = .ok (.iaload, 1) := by decide +kernel
theorem dX8_holds_125 : decode cX8_holds 125 = .ok (.iload_n 2, 1) := by decide +kernel
theorem dX8_holds_126 : decode cX8_holds 126 = .ok (.invokevirtual 226, 3) := by decide +kernel
theorem dX8_holds_129 : decode cX8_holds 129 = .ok (.ireturn, 1) := by decide +kernel
def w_X8_holds (Q : Int32 → gS → Prop) (σ : gS) (a1 : Int32) : Prop :=
    vp_in a1 12 ∧ ∀ y6 : Int32, y6 = (σ (gtk (gtj (σ 11 0)) + 1) a1.toNatClampNeg) → vp_in a1 12 ∧ ((σ (gtk (gtj (σ 11 0)) + 0) a1.toNatClampNeg) = 0 → w_X2_allCrowd  (fun (r10 : Int32) (s9 : gS) => (y6 < r10 → Q 0 s9) ∧ (¬ y6 < r10 → Q 1 s9)) σ) ∧ (¬ (σ (gtk (gtj (σ 11 0)) + 0) a1.toNatClampNeg) = 0 → ((σ (gtk (gtj (σ 11 0)) + 0) a1.toNatClampNeg) = 1 → w_X2_leastMinutes  (fun (r14 : Int32) (s13 : gS) => w_X8_isAtMost  (fun (r16 : Int32) (s15 : gS) => gz r16 ∧ Q r16 s15) s13 r14 y6) σ) ∧ (¬ (σ (gtk (gtj (σ 11 0)) + 0) a1.toNatClampNeg) = 1 → ((σ (gtk (gtj (σ 11 0)) + 0) a1.toNatClampNeg) = 2 → w_X2_worstMinutes  (fun (r19 : Int32) (s18 : gS) => w_X8_isAtMost  (fun (r21 : Int32) (s20 : gS) => gz r21 ∧ Q r21 s20) s18 r19 y6) σ) ∧ (¬ (σ (gtk (gtj (σ 11 0)) + 0) a1.toNatClampNeg) = 2 → ((σ (gtk (gtj (σ 11 0)) + 0) a1.toNatClampNeg) = 3 → (y6 < (σ 22 0) → Q 0 σ) ∧ (¬ y6 < (σ 22 0) → Q 1 σ)) ∧ (¬ (σ (gtk (gtj (σ 11 0)) + 0) a1.toNatClampNeg) = 3 → vp_in a1 12 ∧ vp_in a1 12 ∧ w_X8_isQuiet  (fun (r27 : Int32) (s26 : gS) => gz r27 ∧ Q r27 s26) σ (σ (gtk (gtj (σ 11 0)) + 2) a1.toNatClampNeg) (σ (gtk (gtj (σ 11 0)) + 3) a1.toNatClampNeg) y6))))
abbrev ws_X8_holds : List Cond := Cond.code yX8_holds cX8_holds 3 (some .boolean) :: gG
abbrev rm_X8_holds : Room := { frames := 5, cells := 0, slots := 0, locals := 129 }
theorem k_X8_holds : gCV yX8_holds RX8 cX8_holds 3 (some .boolean) 1 := ⟨gw_3_0, gwp_17, gw_1_1, gw_3_1, rfl, by decide +kernel⟩
set_option maxHeartbeats 4000000 in
set_option maxRecDepth 100000 in
theorem c_X8_holds (l : Launch) (D : va_G) (cy : Nat → ClassId) (ad : Nat → Nat) (A : Nat → Prop) (Q : Int32 → gS → Prop) (σ : gS) (a1 : Int32) (h : w_X8_holds Q σ a1) : Met l yX8_holds ws_X8_holds rm_X8_holds (va_Pc [.ref (ad 0), .int a1] (gB D cy ad A σ)) (va_Qi Q (gB D cy ad A) A) 0 0 A := by
  refine Met.ofW (cc := cX8_holds) (maxL := 3) (ret := (some .boolean)) (by decide) rfl ?_
  intro p e s m args below meth c s₁ B hml hv
  obtain ⟨rfl, hB⟩ := hv
  have hC : gC p c cX8_holds s m ([.ref (ad 0), .int a1] : List Value).toArray RX8 D cy ad A := g_start B hB
  have hI := g_first hB
  have hx := hC.1
  have hb := hC.2.1
  have hr := B.returns
  have hlocks := B.notSynchronized
  clear B hB
  have hl := lv_entry ([.ref (ad 0), .int a1]) (n := 3) (Nat.le_of_ble_eq_true rfl)
  rw [lg_entry_eq]
  generalize (lg_sl ([.ref (ad 0), .int a1]) ++ List.replicate (3 - (lg_sl ([.ref (ad 0), .int a1])).length) Slot.unset).toArray = ls at hl ⊢
  have hl : lv_has ls 3 [(0, .ref (ad 0)), (1, .int a1)] := hl
  unfold w_X8_holds at h
  refine lv_aload_n hx hb dX8_holds_0 rfl (lv_at hl 0 rfl) ?_
  refine gg_X8_terms hC hI gw_2_52 dX8_holds_1 ?_
  refine gg_X7_mosts hC hI (gtj_or _) gw_2_26 dX8_holds_4 ?_
  refine lv_iload_n hx hb dX8_holds_7 rfl (lv_at hl 1 rfl) ?_
  obtain ⟨hi5, h⟩ := h
  refine gat_1 hC hI (gtj_or _) hi5 dX8_holds_8 ?_
  refine lv_topi (fun y6 ey6 => ?_)
  have h := h y6 ey6
  refine lv_istore_n (lv' := [(2, .int y6), (0, .ref (ad 0)), (1, .int a1)]) hx hb dX8_holds_9 rfl hl (by decide) rfl (fun ls hl => ?_)
  refine lv_aload_n hx hb dX8_holds_10 rfl (lv_at hl 1 rfl) ?_
  refine gg_X8_terms hC hI gw_2_52 dX8_holds_11 ?_
  refine gg_X7_kinds hC hI (gtj_or _) gw_2_24 dX8_holds_14 ?_
  refine lv_iload_n hx hb dX8_holds_17 rfl (lv_at hl 2 rfl) ?_
  obtain ⟨hi7, h⟩ := h
  refine gat_0 hC hI (gtj_or _) hi7 dX8_holds_18 ?_
  by_cases c8 : σ (gtk (gtj (σ 11 0)) + 0) a1.toNatClampNeg = 0
  · have h := h.1 c8
    refine lv_tableIn (tgt := 48) hx hb dX8_holds_19 (by rw [c8]; decide) (by rw [c8]; decide) (by rw [c8]; rfl) (by decide) ?_
    refine lv_aload_n hx hb dX8_holds_48 rfl (lv_at hl 1 rfl) ?_
    refine gg_X8_ground hC hI gw_2_48 dX8_holds_49 ?_
    refine g_backi hI (g_runV (As := []) (rest := []) hC hml hI (c_X2_allCrowd l D cy ad A _  _ h) k_X2_allCrowd gw_3_2 ⟨rfl, rfl⟩ ⟨Nat.le_of_ble_eq_true rfl, Nat.le_of_ble_eq_true rfl⟩ (grv_4 hC hI) rfl hl.1 rfl (Nat.le_of_ble_eq_true rfl) dX8_holds_52 ⟨Nat.le_of_ble_eq_true rfl, Nat.le_of_ble_eq_true rfl⟩) (fun r10 s9 H locs h hI => ?_)
    refine lv_iload_n hx hb dX8_holds_55 rfl (lv_at hl 0 rfl) ?_
    refine lv_icmp_gt (tgt := 63) hx hb dX8_holds_56 (by decide) (fun c11 => ?_) (fun c11 => ?_)
    · have h := h.1 c11
      refine lv_iconst (v := 0) hx hb dX8_holds_63 (by decide) ?_
      exact g_zret hC hr hlocks rfl hI h dX8_holds_64
    · have h := h.2 c11
      refine lv_iconst (v := 1) hx hb dX8_holds_59 (by decide) ?_
      refine lv_goto (tgt := 64) hx hb dX8_holds_60 (by decide) ?_
      exact g_zret hC hr hlocks rfl hI h dX8_holds_64
  have h := h.2 c8
  by_cases c12 : σ (gtk (gtj (σ 11 0)) + 0) a1.toNatClampNeg = 1
  · have h := h.1 c12
    refine lv_tableIn (tgt := 65) hx hb dX8_holds_19 (by rw [c12]; decide) (by rw [c12]; decide) (by rw [c12]; rfl) (by decide) ?_
    refine lv_aload_n hx hb dX8_holds_65 rfl (lv_at hl 1 rfl) ?_
    refine gg_X8_ground hC hI gw_2_48 dX8_holds_66 ?_
    refine g_backi hI (g_runV (As := []) (rest := []) hC hml hI (c_X2_leastMinutes l D cy ad A _  _ h) k_X2_leastMinutes gw_2_99 ⟨rfl, rfl⟩ ⟨Nat.le_of_ble_eq_true rfl, Nat.le_of_ble_eq_true rfl⟩ (grv_4 hC hI) rfl hl.1 rfl (Nat.le_of_ble_eq_true rfl) dX8_holds_69 ⟨Nat.le_of_ble_eq_true rfl, Nat.le_of_ble_eq_true rfl⟩) (fun r14 s13 H locs h hI => ?_)
    refine lv_iload_n hx hb dX8_holds_72 rfl (lv_at hl 0 rfl) ?_
    refine g_backi hI (g_runS (As := [.int r14, .int y6]) (rest := []) hC hml hI (c_X8_isAtMost l D cy ad A _  _ _ _ h) k_X8_isAtMost gw_3_6 ⟨rfl, rfl⟩ ⟨Nat.le_of_ble_eq_true rfl, Nat.le_of_ble_eq_true rfl⟩ rfl hl.1 rfl (Nat.le_of_ble_eq_true rfl) dX8_holds_73 ⟨Nat.le_of_ble_eq_true rfl, Nat.le_of_ble_eq_true rfl⟩) (fun r16 s15 H locs h hI => ?_)
    exact g_zret hC hr hlocks h.1 hI h.2 dX8_holds_76
  have h := h.2 c12
  by_cases c17 : σ (gtk (gtj (σ 11 0)) + 0) a1.toNatClampNeg = 2
  · have h := h.1 c17
    refine lv_tableIn (tgt := 77) hx hb dX8_holds_19 (by rw [c17]; decide) (by rw [c17]; decide) (by rw [c17]; rfl) (by decide) ?_
    refine lv_aload_n hx hb dX8_holds_77 rfl (lv_at hl 1 rfl) ?_
    refine gg_X8_ground hC hI gw_2_48 dX8_holds_78 ?_
    refine g_backi hI (g_runV (As := []) (rest := []) hC hml hI (c_X2_worstMinutes l D cy ad A _  _ h) k_X2_worstMinutes gw_2_179 ⟨rfl, rfl⟩ ⟨Nat.le_of_ble_eq_true rfl, Nat.le_of_ble_eq_true rfl⟩ (grv_4 hC hI) rfl hl.1 rfl (Nat.le_of_ble_eq_true rfl) dX8_holds_81 ⟨Nat.le_of_ble_eq_true rfl, Nat.le_of_ble_eq_true rfl⟩) (fun r19 s18 H locs h hI => ?_)
    refine lv_iload_n hx hb dX8_holds_84 rfl (lv_at hl 0 rfl) ?_
    refine g_backi hI (g_runS (As := [.int r19, .int y6]) (rest := []) hC hml hI (c_X8_isAtMost l D cy ad A _  _ _ _ h) k_X8_isAtMost gw_3_6 ⟨rfl, rfl⟩ ⟨Nat.le_of_ble_eq_true rfl, Nat.le_of_ble_eq_true rfl⟩ rfl hl.1 rfl (Nat.le_of_ble_eq_true rfl) dX8_holds_85 ⟨Nat.le_of_ble_eq_true rfl, Nat.le_of_ble_eq_true rfl⟩) (fun r21 s20 H locs h hI => ?_)
    exact g_zret hC hr hlocks h.1 hI h.2 dX8_holds_88
  have h := h.2 c17
  by_cases c22 : σ (gtk (gtj (σ 11 0)) + 0) a1.toNatClampNeg = 3
  · have h := h.1 c22
    refine lv_tableIn (tgt := 89) hx hb dX8_holds_19 (by rw [c22]; decide) (by rw [c22]; decide) (by rw [c22]; rfl) (by decide) ?_
    refine lv_aload_n hx hb dX8_holds_89 rfl (lv_at hl 1 rfl) ?_
    refine gg_X8_meadow hC hI gw_2_47 dX8_holds_90 ?_
    refine gg_X3_standing hC hI gw_1_80 dX8_holds_93 ?_
    refine lv_iload_n hx hb dX8_holds_96 rfl (lv_at hl 0 rfl) ?_
    refine lv_icmp_gt (tgt := 104) hx hb dX8_holds_97 (by decide) (fun c23 => ?_) (fun c23 => ?_)
    · have h := h.1 c23
      refine lv_iconst (v := 0) hx hb dX8_holds_104 (by decide) ?_
      exact g_zret hC hr hlocks rfl hI h dX8_holds_105
    · have h := h.2 c23
      refine lv_iconst (v := 1) hx hb dX8_holds_100 (by decide) ?_
      refine lv_goto (tgt := 105) hx hb dX8_holds_101 (by decide) ?_
      exact g_zret hC hr hlocks rfl hI h dX8_holds_105
  have h := h.2 c22
  refine lv_tableOut (tgt := 106) hx hb dX8_holds_19 (by have q0 := lv_neT (a := 0) c8 (by decide); have q1 := lv_neT (a := 1) c12 (by decide); have q2 := lv_neT (a := 2) c17 (by decide); have q3 := lv_neT (a := 3) c22 (by decide); omega) (by decide) ?_
  refine lv_aload_n hx hb dX8_holds_106 rfl (lv_at hl 1 rfl) ?_
  refine lv_aload_n hx hb dX8_holds_107 rfl (lv_at hl 1 rfl) ?_
  refine gg_X8_terms hC hI gw_2_52 dX8_holds_108 ?_
  refine gg_X7_firstHours hC hI (gtj_or _) gw_2_28 dX8_holds_111 ?_
  refine lv_iload_n hx hb dX8_holds_114 rfl (lv_at hl 2 rfl) ?_
  obtain ⟨hi24, h⟩ := h
  refine gat_2 hC hI (gtj_or _) hi24 dX8_holds_115 ?_
  refine lv_aload_n hx hb dX8_holds_116 rfl (lv_at hl 1 rfl) ?_
  refine gg_X8_terms hC hI gw_2_52 dX8_holds_117 ?_
  refine gg_X7_lastHours hC hI (gtj_or _) gw_2_30 dX8_holds_120 ?_
  refine lv_iload_n hx hb dX8_holds_123 rfl (lv_at hl 2 rfl) ?_
  obtain ⟨hi25, h⟩ := h
  refine gat_3 hC hI (gtj_or _) hi25 dX8_holds_124 ?_
  refine lv_iload_n hx hb dX8_holds_125 rfl (lv_at hl 0 rfl) ?_
  refine g_backi hI (g_runV (As := [.int (σ (gtk (gtj (σ 11 0)) + 2) a1.toNatClampNeg), .int (σ (gtk (gtj (σ 11 0)) + 3) a1.toNatClampNeg), .int y6]) (rest := []) hC hml hI (c_X8_isQuiet l D cy ad A _  _ _ _ _ h) k_X8_isQuiet gw_3_9 ⟨rfl, rfl⟩ ⟨Nat.le_of_ble_eq_true rfl, Nat.le_of_ble_eq_true rfl⟩ (grv_0 hC hI) rfl hl.1 rfl (Nat.le_of_ble_eq_true rfl) dX8_holds_126 ⟨Nat.le_of_ble_eq_true rfl, Nat.le_of_ble_eq_true rfl⟩) (fun r27 s26 H locs h hI => ?_)
  exact g_zret hC hr hlocks h.1 hI h.2 dX8_holds_129

theorem dX8_broken_0 : decode cX8_broken 0 = .ok (.iconst 0, 1) := by decide +kernel
theorem dX8_broken_1 : decode cX8_broken 1 = .ok (.istore_n 1, 1) := by decide +kernel
theorem dX8_broken_2 : decode cX8_broken 2 = .ok (.iload_n 1, 1) := by decide +kernel
theorem dX8_broken_3 : decode cX8_broken 3 = .ok (.aload_n 0, 1) := by decide +kernel
theorem dX8_broken_4 : decode cX8_broken 4 = .ok (.getfield 60, 3) := by decide +kernel
theorem dX8_broken_7 : decode cX8_broken 7 = .ok (.getfield 191, 3) := by decide +kernel
theorem dX8_broken_10 : decode cX8_broken 10 = .ok (.if_icmp .ge 19, 3) := by decide +kernel
theorem dX8_broken_13 : decode cX8_broken 13 = .ok (.aload_n 0, 1) := by decide +kernel
theorem dX8_broken_14 : decode cX8_broken 14 = .ok (.iload_n 1, 1) := by decide +kernel
theorem dX8_broken_15 : decode cX8_broken 15 = .ok (.invokevirtual 192, 3) := by decide +kernel
theorem dX8_broken_18 : decode cX8_broken 18 = .ok (.ifCond .ne 5, 3) := by decide +kernel
theorem dX8_broken_21 : decode cX8_broken 21 = .ok (.iload_n 1, 1) := by decide +kernel
theorem dX8_broken_22 : decode cX8_broken 22 = .ok (.ireturn, 1) := by decide +kernel
theorem dX8_broken_23 : decode cX8_broken 23 = .ok (.iinc 1 1, 3) := by decide +kernel
theorem dX8_broken_26 : decode cX8_broken 26 = .ok (.goto (-24), 3) := by decide +kernel
theorem dX8_broken_29 : decode cX8_broken 29 = .ok (.iconst (-1), 1) := by decide +kernel
theorem dX8_broken_30 : decode cX8_broken 30 = .ok (.ireturn, 1) := by decide +kernel
def w_X8_broken_2 (Q : Int32 → gS → Prop) : Nat → Int32 → gS → Prop
  | 0, _, _ => False
  | n2 + 1, x1, σ =>
    ((σ (gtk (gtj (σ 11 0)) + 4) 0) ≤ x1 → Q (-1) σ) ∧ (¬ (σ (gtk (gtj (σ 11 0)) + 4) 0) ≤ x1 → w_X8_holds  (fun (r3 : Int32) (s2 : gS) => (¬ r3 = 0 → ∀ y5 : Int32, y5 = x1 + 1 → w_X8_broken_2 Q n2 y5 s2) ∧ (r3 = 0 → Q x1 s2)) σ x1)
def w_X8_broken (Q : Int32 → gS → Prop) (σ : gS) : Prop :=
    ∃ n2, w_X8_broken_2 Q n2 0 σ
abbrev ws_X8_broken : List Cond := Cond.code yX8_broken cX8_broken 2 (some .int) :: gG
abbrev rm_X8_broken : Room := { frames := 6, cells := 0, slots := 0, locals := 151 }
theorem k_X8_broken : gCV yX8_broken RX8 cX8_broken 2 (some .int) 0 := ⟨gw_2_235, gw_2_236, gw_1_1, gw_2_237, rfl, by decide +kernel⟩
set_option maxHeartbeats 4000000 in
set_option maxRecDepth 100000 in
theorem c_X8_broken (l : Launch) (D : va_G) (cy : Nat → ClassId) (ad : Nat → Nat) (A : Nat → Prop) (Q : Int32 → gS → Prop) (σ : gS) (h : w_X8_broken Q σ) : Met l yX8_broken ws_X8_broken rm_X8_broken (va_Pc [.ref (ad 0)] (gB D cy ad A σ)) (va_Qi Q (gB D cy ad A) A) 0 0 A := by
  refine Met.ofW (cc := cX8_broken) (maxL := 2) (ret := (some .int)) (by decide) rfl ?_
  intro p e s m args below meth c s₁ B hml hv
  obtain ⟨rfl, hB⟩ := hv
  have hC : gC p c cX8_broken s m ([.ref (ad 0)] : List Value).toArray RX8 D cy ad A := g_start B hB
  have hI := g_first hB
  have hx := hC.1
  have hb := hC.2.1
  have hr := B.returns
  have hlocks := B.notSynchronized
  clear B hB
  have J2 : ∀ (n2 : Nat) (x1 : Int32) (σ : gS) (H : Heap) (locs : List Loc) (ls : Array Slot), w_X8_broken_2 Q n2 x1 σ → gI D cy ad A s.heap σ H locs → lv_has ls 2 [(0, .ref (ad 0)), (1, .int x1)] → W p l e (headSpec ws_X8_broken rm_X8_broken).room s m ([.ref (ad 0)] : List Value).toArray below meth c H locs 0 0 (MQ below (va_Qi Q (gB D cy ad A) A) ([.ref (ad 0)] : List Value).toArray s 0 0 A) (F0 m 2 ls []) := by
    intro n2
    induction n2 with
    | zero => intro x1 σ H locs ls h; exact absurd h (fun h => h)
    | succ n2 ih2 =>
      intro x1 σ H locs ls h hI hl
      unfold w_X8_broken_2 at h
      refine lv_iload_n hx hb dX8_broken_2 rfl (lv_at hl 1 rfl) ?_
      refine lv_aload_n hx hb dX8_broken_3 rfl (lv_at hl 0 rfl) ?_
      refine gg_X8_terms hC hI gw_2_52 dX8_broken_4 ?_
      refine gg_X7_size hC hI (gtj_or _) gw_2_33 dX8_broken_7 ?_
      refine lv_icmp_ge (tgt := 29) hx hb dX8_broken_10 (by decide) (fun c1 => ?_) (fun c1 => ?_)
      · have h := h.1 c1
        refine lv_iconst (v := (-1)) hx hb dX8_broken_29 (by decide) ?_
        exact g_iret hC hr hlocks hI h dX8_broken_30
      · have h := h.2 c1
        refine lv_aload_n hx hb dX8_broken_13 rfl (lv_at hl 0 rfl) ?_
        refine lv_iload_n hx hb dX8_broken_14 rfl (lv_at hl 1 rfl) ?_
        refine g_backi hI (g_runV (As := [.int x1]) (rest := []) hC hml hI (c_X8_holds l D cy ad A _  _ _ h) k_X8_holds gw_2_238 ⟨rfl, rfl⟩ ⟨Nat.le_of_ble_eq_true rfl, Nat.le_of_ble_eq_true rfl⟩ (grv_0 hC hI) rfl hl.1 rfl (Nat.le_of_ble_eq_true rfl) dX8_broken_15 ⟨Nat.le_of_ble_eq_true rfl, Nat.le_of_ble_eq_true rfl⟩) (fun r3 s2 H locs h hI => ?_)
        refine lv_if_ne (tgt := 23) hx hb dX8_broken_18 (by decide) (fun c4 => ?_) (fun c4 => ?_)
        · have h := h.1 c4
          obtain ⟨y5, ey5⟩ : ∃ y : Int32, y = x1 + 1 := ⟨_, rfl⟩
          have h := h y5 ey5
          refine lv_iinc (v := y5) (lv' := [(1, .int y5), (0, .ref (ad 0))]) hx hb dX8_broken_23 hl (k := 1) rfl (by rw [ey5]; rfl) (by decide) rfl (fun ls hl => ?_)
          refine lv_goto (tgt := 2) hx hb dX8_broken_26 (by decide) ?_
          exact ih2 _ _ _ _ _ h hI (lv_sub hl [1, 0] rfl)
        · have h := h.2 c4
          refine lv_iload_n hx hb dX8_broken_21 rfl (lv_at hl 1 rfl) ?_
          exact g_iret hC hr hlocks hI h dX8_broken_22
  have hl := lv_entry ([.ref (ad 0)]) (n := 2) (Nat.le_of_ble_eq_true rfl)
  rw [lg_entry_eq]
  generalize (lg_sl ([.ref (ad 0)]) ++ List.replicate (2 - (lg_sl ([.ref (ad 0)])).length) Slot.unset).toArray = ls at hl ⊢
  have hl : lv_has ls 2 [(0, .ref (ad 0))] := hl
  unfold w_X8_broken at h
  refine lv_iconst (v := 0) hx hb dX8_broken_0 (by decide) ?_
  refine lv_istore_n (lv' := [(1, .int 0), (0, .ref (ad 0))]) hx hb dX8_broken_1 rfl hl (by decide) rfl (fun ls hl => ?_)
  obtain ⟨n9, h⟩ := h
  exact J2 n9 _ _ _ _ _ h hI (lv_sub hl [1, 0] rfl)

theorem dX8_count_0 : decode cX8_count 0 = .ok (.iload_n 1, 1) := by decide +kernel
theorem dX8_count_1 : decode cX8_count 1 = .ok (.tableswitch 132 0 9 #[55, 60, 68, 76, 84, 92, 100, 108, 116, 124], 55) := by decide +kernel
theorem dX8_count_56 : decode cX8_count 56 = .ok (.aload_n 0, 1) := by decide +kernel
theorem dX8_count_57 : decode cX8_count 57 = .ok (.getfield 164, 3) := by decide +kernel
theorem dX8_count_60 : decode cX8_count 60 = .ok (.ireturn, 1) := by decide +kernel
theorem dX8_count_61 : decode cX8_count 61 = .ok (.aload_n 0, 1) := by decide +kernel
theorem dX8_count_62 : decode cX8_count 62 = .ok (.getfield 28, 3) := by decide +kernel
theorem dX8_count_65 : decode cX8_count 65 = .ok (.getfield 195, 3) := by decide +kernel
theorem dX8_count_68 : decode cX8_count 68 = .ok (.ireturn, 1) := by decide +kernel
theorem dX8_count_69 : decode cX8_count 69 = .ok (.aload_n 0, 1) := by decide +kernel
theorem dX8_count_70 : decode cX8_count 70 = .ok (.getfield 28, 3) := by decide +kernel
theorem dX8_count_73 : decode cX8_count 73 = .ok (.invokevirtual 198, 3) := by decide +kernel
theorem dX8_count_76 : decode cX8_count 76 = .ok (.ireturn, 1) := by decide +kernel
theorem dX8_count_77 : decode cX8_count 77 = .ok (.aload_n 0, 1) := by decide +kernel
theorem dX8_count_78 : decode cX8_count 78 = .ok (.getfield 35, 3) := by decide +kernel
theorem dX8_count_81 : decode cX8_count 81 = .ok (.getfield 114, 3) := by decide +kernel
theorem dX8_count_84 : decode cX8_count 84 = .ok (.ireturn, 1) := by decide +kernel
theorem dX8_count_85 : decode cX8_count 85 = .ok (.aload_n 0, 1) := by decide +kernel
theorem dX8_count_86 : decode cX8_count 86 = .ok (.getfield 35, 3) := by decide +kernel
theorem dX8_count_89 : decode cX8_count 89 = .ok (.invokevirtual 201, 3) := by decide +kernel
theorem dX8_count_92 : decode cX8_count 92 = .ok (.ireturn, 1) := by decide +kernel
theorem dX8_count_93 : decode cX8_count 93 = .ok (.aload_n 0, 1) := by decide +kernel
theorem dX8_count_94 : decode cX8_count 94 = .ok (.getfield 35, 3) := by decide +kernel
theorem dX8_count_97 : decode cX8_count 97 = .ok (.getfield 129, 3) := by decide +kernel
theorem dX8_count_100 : decode cX8_count 100 = .ok (.ireturn, 1) := by decide +kernel
theorem dX8_count_101 : decode cX8_count 101 = .ok (.aload_n 0, 1) := by decide +kernel
theorem dX8_count_102 : decode cX8_count 102 = .ok (.getfield 42, 3) := by decide +kernel
theorem dX8_count_105 : decode cX8_count 105 = .ok (.getfield 155, 3) := by decide +kernel
theorem dX8_count_108 : decode cX8_count 108 = .ok (.ireturn, 1) := by decide +kernel
theorem dX8_count_109 : decode cX8_count 109 = .ok (.aload_n 0, 1) := by decide +kernel
theorem dX8_count_110 : decode cX8_count 110 = .ok (.getfield 49, 3) := by decide +kernel
theorem dX8_count_113 : decode cX8_count 113 = .ok (.getfield 204, 3) := by decide +kernel
theorem dX8_count_116 : decode cX8_count 116 = .ok (.ireturn, 1) := by decide +kernel
theorem dX8_count_117 : decode cX8_count 117 = .ok (.aload_n 0, 1) := by decide +kernel
theorem dX8_count_118 : decode cX8_count 118 = .ok (.getfield 60, 3) := by decide +kernel
theorem dX8_count_121 : decode cX8_count 121 = .ok (.getfield 191, 3) := by decide +kernel
theorem dX8_count_124 : decode cX8_count 124 = .ok (.ireturn, 1) := by decide +kernel
theorem dX8_count_125 : decode cX8_count 125 = .ok (.aload_n 0, 1) := by decide +kernel
theorem dX8_count_126 : decode cX8_count 126 = .ok (.getfield 28, 3) := by decide +kernel
theorem dX8_count_129 : decode cX8_count 129 = .ok (.invokevirtual 207, 3) := by decide +kernel
theorem dX8_count_132 : decode cX8_count 132 = .ok (.ireturn, 1) := by decide +kernel
theorem dX8_count_133 : decode cX8_count 133 = .ok (.iconst (-1), 1) := by decide +kernel
theorem dX8_count_134 : decode cX8_count 134 = .ok (.ireturn, 1) := by decide +kernel
def w_X8_count (Q : Int32 → gS → Prop) (σ : gS) (a1 : Int32) : Prop :=
    (a1 = 0 → Q (σ 13 0) σ) ∧ (¬ a1 = 0 → (a1 = 1 → Q (σ 22 0) σ) ∧ (¬ a1 = 1 → (a1 = 2 → w_X3_squaresWithTent  (fun (r5 : Int32) (s4 : gS) => Q r5 s4) σ) ∧ (¬ a1 = 2 → (a1 = 3 → Q (σ 26 0) σ) ∧ (¬ a1 = 3 → (a1 = 4 → w_X2_allCrowd  (fun (r9 : Int32) (s8 : gS) => Q r9 s8) σ) ∧ (¬ a1 = 4 → (a1 = 5 → Q (σ 30 0) σ) ∧ (¬ a1 = 5 → (a1 = 6 → Q (σ 51 0) σ) ∧ (¬ a1 = 6 → (a1 = 7 → Q (σ 62 0) σ) ∧ (¬ a1 = 7 → (a1 = 8 → Q (σ (gtk (gtj (σ 11 0)) + 4) 0) σ) ∧ (¬ a1 = 8 → (a1 = 9 → w_X3_laneSquares  (fun (r16 : Int32) (s15 : gS) => Q r16 s15) σ) ∧ (¬ a1 = 9 → Q (-1) σ))))))))))
abbrev ws_X8_count : List Cond := Cond.code yX8_count cX8_count 2 (some .int) :: gG
abbrev rm_X8_count : Room := { frames := 1, cells := 0, slots := 0, locals := 22 }
theorem k_X8_count : gCV yX8_count RX8 cX8_count 2 (some .int) 1 := ⟨gw_3_14, gw_3_15, gw_1_1, gw_3_16, rfl, by decide +kernel⟩
set_option maxHeartbeats 4000000 in
set_option maxRecDepth 100000 in
theorem c_X8_count (l : Launch) (D : va_G) (cy : Nat → ClassId) (ad : Nat → Nat) (A : Nat → Prop) (Q : Int32 → gS → Prop) (σ : gS) (a1 : Int32) (h : w_X8_count Q σ a1) : Met l yX8_count ws_X8_count rm_X8_count (va_Pc [.ref (ad 0), .int a1] (gB D cy ad A σ)) (va_Qi Q (gB D cy ad A) A) 0 0 A := by
  refine Met.ofW (cc := cX8_count) (maxL := 2) (ret := (some .int)) (by decide) rfl ?_
  intro p e s m args below meth c s₁ B hml hv
  obtain ⟨rfl, hB⟩ := hv
  have hC : gC p c cX8_count s m ([.ref (ad 0), .int a1] : List Value).toArray RX8 D cy ad A := g_start B hB
  have hI := g_first hB
  have hx := hC.1
  have hb := hC.2.1
  have hr := B.returns
  have hlocks := B.notSynchronized
  clear B hB
  have hl := lv_entry ([.ref (ad 0), .int a1]) (n := 2) (Nat.le_of_ble_eq_true rfl)
  rw [lg_entry_eq]
  generalize (lg_sl ([.ref (ad 0), .int a1]) ++ List.replicate (2 - (lg_sl ([.ref (ad 0), .int a1])).length) Slot.unset).toArray = ls at hl ⊢
  have hl : lv_has ls 2 [(0, .ref (ad 0)), (1, .int a1)] := hl
  unfold w_X8_count at h
  refine lv_iload_n hx hb dX8_count_0 rfl (lv_at hl 1 rfl) ?_
  by_cases c1 : a1 = 0
  · have h := h.1 c1
    refine lv_tableIn (tgt := 56) hx hb dX8_count_1 (by rw [c1]; decide) (by rw [c1]; decide) (by rw [c1]; rfl) (by decide) ?_
    refine lv_aload_n hx hb dX8_count_56 rfl (lv_at hl 0 rfl) ?_
    refine gg_X8_now hC hI gw_2_54 dX8_count_57 ?_
    exact g_iret hC hr hlocks hI h dX8_count_60
  have h := h.2 c1
  by_cases c2 : a1 = 1
  · have h := h.1 c2
    refine lv_tableIn (tgt := 61) hx hb dX8_count_1 (by rw [c2]; decide) (by rw [c2]; decide) (by rw [c2]; rfl) (by decide) ?_
    refine lv_aload_n hx hb dX8_count_61 rfl (lv_at hl 0 rfl) ?_
    refine gg_X8_meadow hC hI gw_2_47 dX8_count_62 ?_
    refine gg_X3_standing hC hI gw_1_80 dX8_count_65 ?_
    exact g_iret hC hr hlocks hI h dX8_count_68
  have h := h.2 c2
  by_cases c3 : a1 = 2
  · have h := h.1 c3
    refine lv_tableIn (tgt := 69) hx hb dX8_count_1 (by rw [c3]; decide) (by rw [c3]; decide) (by rw [c3]; rfl) (by decide) ?_
    refine lv_aload_n hx hb dX8_count_69 rfl (lv_at hl 0 rfl) ?_
    refine gg_X8_meadow hC hI gw_2_47 dX8_count_70 ?_
    refine g_backi hI (g_runV (As := []) (rest := []) hC hml hI (c_X3_squaresWithTent l D cy ad A _  _ h) k_X3_squaresWithTent gw_3_17 ⟨rfl, rfl⟩ ⟨Nat.le_of_ble_eq_true rfl, Nat.le_of_ble_eq_true rfl⟩ (grv_3 hC hI) rfl hl.1 rfl (Nat.le_of_ble_eq_true rfl) dX8_count_73 ⟨Nat.le_of_ble_eq_true rfl, Nat.le_of_ble_eq_true rfl⟩) (fun r5 s4 H locs h hI => ?_)
    exact g_iret hC hr hlocks hI h dX8_count_76
  have h := h.2 c3
  by_cases c6 : a1 = 3
  · have h := h.1 c6
    refine lv_tableIn (tgt := 77) hx hb dX8_count_1 (by rw [c6]; decide) (by rw [c6]; decide) (by rw [c6]; rfl) (by decide) ?_
    refine lv_aload_n hx hb dX8_count_77 rfl (lv_at hl 0 rfl) ?_
    refine gg_X8_ground hC hI gw_2_48 dX8_count_78 ?_
    refine gg_X2_places hC hI gw_1_147 dX8_count_81 ?_
    exact g_iret hC hr hlocks hI h dX8_count_84
  have h := h.2 c6
  by_cases c7 : a1 = 4
  · have h := h.1 c7
    refine lv_tableIn (tgt := 85) hx hb dX8_count_1 (by rw [c7]; decide) (by rw [c7]; decide) (by rw [c7]; rfl) (by decide) ?_
    refine lv_aload_n hx hb dX8_count_85 rfl (lv_at hl 0 rfl) ?_
    refine gg_X8_ground hC hI gw_2_48 dX8_count_86 ?_
    refine g_backi hI (g_runV (As := []) (rest := []) hC hml hI (c_X2_allCrowd l D cy ad A _  _ h) k_X2_allCrowd gw_3_2 ⟨rfl, rfl⟩ ⟨Nat.le_of_ble_eq_true rfl, Nat.le_of_ble_eq_true rfl⟩ (grv_4 hC hI) rfl hl.1 rfl (Nat.le_of_ble_eq_true rfl) dX8_count_89 ⟨Nat.le_of_ble_eq_true rfl, Nat.le_of_ble_eq_true rfl⟩) (fun r9 s8 H locs h hI => ?_)
    exact g_iret hC hr hlocks hI h dX8_count_92
  have h := h.2 c7
  by_cases c10 : a1 = 5
  · have h := h.1 c10
    refine lv_tableIn (tgt := 93) hx hb dX8_count_1 (by rw [c10]; decide) (by rw [c10]; decide) (by rw [c10]; rfl) (by decide) ?_
    refine lv_aload_n hx hb dX8_count_93 rfl (lv_at hl 0 rfl) ?_
    refine gg_X8_ground hC hI gw_2_48 dX8_count_94 ?_
    refine gg_X2_ways hC hI gw_1_156 dX8_count_97 ?_
    exact g_iret hC hr hlocks hI h dX8_count_100
  have h := h.2 c10
  by_cases c11 : a1 = 6
  · have h := h.1 c11
    refine lv_tableIn (tgt := 101) hx hb dX8_count_1 (by rw [c11]; decide) (by rw [c11]; decide) (by rw [c11]; rfl) (by decide) ?_
    refine lv_aload_n hx hb dX8_count_101 rfl (lv_at hl 0 rfl) ?_
    refine gg_X8_programme hC hI gw_2_49 dX8_count_102 ?_
    refine gg_X4_acts hC hI gw_1_202 dX8_count_105 ?_
    exact g_iret hC hr hlocks hI h dX8_count_108
  have h := h.2 c11
  by_cases c12 : a1 = 7
  · have h := h.1 c12
    refine lv_tableIn (tgt := 109) hx hb dX8_count_1 (by rw [c12]; decide) (by rw [c12]; decide) (by rw [c12]; rfl) (by decide) ?_
    refine lv_aload_n hx hb dX8_count_109 rfl (lv_at hl 0 rfl) ?_
    refine gg_X8_book hC hI gw_2_50 dX8_count_110 ?_
    refine gg_X1_passes hC hI gw_2_3 dX8_count_113 ?_
    exact g_iret hC hr hlocks hI h dX8_count_116
  have h := h.2 c12
  by_cases c13 : a1 = 8
  · have h := h.1 c13
    refine lv_tableIn (tgt := 117) hx hb dX8_count_1 (by rw [c13]; decide) (by rw [c13]; decide) (by rw [c13]; rfl) (by decide) ?_
    refine lv_aload_n hx hb dX8_count_117 rfl (lv_at hl 0 rfl) ?_
    refine gg_X8_terms hC hI gw_2_52 dX8_count_118 ?_
    refine gg_X7_size hC hI (gtj_or _) gw_2_33 dX8_count_121 ?_
    exact g_iret hC hr hlocks hI h dX8_count_124
  have h := h.2 c13
  by_cases c14 : a1 = 9
  · have h := h.1 c14
    refine lv_tableIn (tgt := 125) hx hb dX8_count_1 (by rw [c14]; decide) (by rw [c14]; decide) (by rw [c14]; rfl) (by decide) ?_
    refine lv_aload_n hx hb dX8_count_125 rfl (lv_at hl 0 rfl) ?_
    refine gg_X8_meadow hC hI gw_2_47 dX8_count_126 ?_
    refine g_backi hI (g_runV (As := []) (rest := []) hC hml hI (c_X3_laneSquares l D cy ad A _  _ h) k_X3_laneSquares gw_3_21 ⟨rfl, rfl⟩ ⟨Nat.le_of_ble_eq_true rfl, Nat.le_of_ble_eq_true rfl⟩ (grv_3 hC hI) rfl hl.1 rfl (Nat.le_of_ble_eq_true rfl) dX8_count_129 ⟨Nat.le_of_ble_eq_true rfl, Nat.le_of_ble_eq_true rfl⟩) (fun r16 s15 H locs h hI => ?_)
    exact g_iret hC hr hlocks hI h dX8_count_132
  have h := h.2 c14
  refine lv_tableOut (tgt := 133) hx hb dX8_count_1 (by have q0 := lv_neT (a := 0) c1 (by decide); have q1 := lv_neT (a := 1) c2 (by decide); have q2 := lv_neT (a := 2) c3 (by decide); have q3 := lv_neT (a := 3) c6 (by decide); have q4 := lv_neT (a := 4) c7 (by decide); have q5 := lv_neT (a := 5) c10 (by decide); have q6 := lv_neT (a := 6) c11 (by decide); have q7 := lv_neT (a := 7) c12 (by decide); have q8 := lv_neT (a := 8) c13 (by decide); have q9 := lv_neT (a := 9) c14 (by decide); omega) (by decide) ?_
  refine lv_iconst (v := (-1)) hx hb dX8_count_133 (by decide) ?_
  exact g_iret hC hr hlocks hI h dX8_count_134
