/-! 18.Words: printed by wip/gen/walk.py -/
theorem dX5_isLetter_0 : decode cX5_isLetter 0 = .ok (.iload_n 0, 1) := by decide +kernel
theorem dX5_isLetter_1 : decode cX5_isLetter 1 = .ok (.bipush 97, 2) := by decide +kernel
theorem dX5_isLetter_3 : decode cX5_isLetter 3 = .ok (.if_icmp .lt 13, 3) := by decide +kernel
theorem dX5_isLetter_6 : decode cX5_isLetter 6 = .ok (.iload_n 0, 1) := by decide +kernel
theorem dX5_isLetter_7 : decode cX5_isLetter 7 = .ok (.bipush 122, 2) := by decide +kernel
theorem dX5_isLetter_9 : decode cX5_isLetter 9 = .ok (.if_icmp .gt 7, 3) := by decide +kernel
theorem dX5_isLetter_12 : decode cX5_isLetter 12 = .ok (.iconst 1, 1) := by decide +kernel
theorem dX5_isLetter_13 : decode cX5_isLetter 13 = .ok (.goto 4, 3) := by decide +kernel
theorem dX5_isLetter_16 : decode cX5_isLetter 16 = .ok (.iconst 0, 1) := by decide +kernel
theorem dX5_isLetter_17 : decode cX5_isLetter 17 = .ok (.ireturn, 1) := by decide +kernel
def w_X5_isLetter_16 (Q : Int32 → gS → Prop) (σ : gS) : Prop :=
    Q 0 σ
def w_X5_isLetter (Q : Int32 → gS → Prop) (σ : gS) (a0 : Int32) : Prop :=
    (a0 < 97 → w_X5_isLetter_16 Q σ) ∧ (¬ a0 < 97 → (122 < a0 → w_X5_isLetter_16 Q σ) ∧ (¬ 122 < a0 → Q 1 σ))
abbrev ws_X5_isLetter : List Cond := Cond.code yX5_isLetter cX5_isLetter 1 (some .boolean) :: gG
abbrev rm_X5_isLetter : Room := { frames := 0, cells := 0, slots := 0, locals := 0 }
theorem k_X5_isLetter : gCS yX5_isLetter cX5_isLetter 1 (some .boolean) 1 := ⟨gw_4_146, gw_1_3, gw_4_147, by decide +kernel⟩
set_option maxHeartbeats 4000000 in
set_option maxRecDepth 100000 in
theorem c_X5_isLetter (l : Launch) (D : va_G) (cy : Nat → ClassId) (ad : Nat → Nat) (A : Nat → Prop) (Q : Int32 → gS → Prop) (σ : gS) (a0 : Int32) (h : w_X5_isLetter Q σ a0) : Met l yX5_isLetter ws_X5_isLetter rm_X5_isLetter (va_Pc [.int a0] (gB D cy ad A σ)) (va_Qi Q (gB D cy ad A) A) 0 0 A := by
  refine Met.ofW (cc := cX5_isLetter) (maxL := 1) (ret := (some .boolean)) (by decide) rfl ?_
  intro p e s m args below meth c s₁ B hml hv
  obtain ⟨rfl, hB⟩ := hv
  have hC : gC p c cX5_isLetter s m ([.int a0] : List Value).toArray RX5 D cy ad A := g_start B hB
  have hI := g_first hB
  have hx := hC.1
  have hb := hC.2.1
  have hr := B.returns
  have hlocks := B.notSynchronized
  clear B hB
  have J16 : ∀ (σ : gS) (H : Heap) (locs : List Loc) (ls : Array Slot), w_X5_isLetter_16 Q σ → gI D cy ad A s.heap σ H locs → lv_has ls 1 [] → W p l e (headSpec ws_X5_isLetter rm_X5_isLetter).room s m ([.int a0] : List Value).toArray below meth c H locs 0 0 (MQ below (va_Qi Q (gB D cy ad A) A) ([.int a0] : List Value).toArray s 0 0 A) (F0 m 16 ls []) := by
    intro σ H locs ls h hI hl
    unfold w_X5_isLetter_16 at h
    refine lv_iconst (v := 0) hx hb dX5_isLetter_16 (by decide) ?_
    exact g_zret hC hr hlocks rfl hI h dX5_isLetter_17
  have hl := lv_entry ([.int a0]) (n := 1) (Nat.le_of_ble_eq_true rfl)
  rw [lg_entry_eq]
  generalize (lg_sl ([.int a0]) ++ List.replicate (1 - (lg_sl ([.int a0])).length) Slot.unset).toArray = ls at hl ⊢
  have hl : lv_has ls 1 [(0, .int a0)] := hl
  unfold w_X5_isLetter at h
  refine lv_iload_n hx hb dX5_isLetter_0 rfl (lv_at hl 0 rfl) ?_
  refine lv_bipush (v := 97) hx hb dX5_isLetter_1 (by decide) ?_
  refine lv_icmp_lt (tgt := 16) hx hb dX5_isLetter_3 (by decide) (fun c1 => ?_) (fun c1 => ?_)
  · have h := h.1 c1
    exact J16 _ _ _ _ h hI (lv_sub hl [] rfl)
  · have h := h.2 c1
    refine lv_iload_n hx hb dX5_isLetter_6 rfl (lv_at hl 0 rfl) ?_
    refine lv_bipush (v := 122) hx hb dX5_isLetter_7 (by decide) ?_
    refine lv_icmp_gt (tgt := 16) hx hb dX5_isLetter_9 (by decide) (fun c2 => ?_) (fun c2 => ?_)
    · have h := h.1 c2
      exact J16 _ _ _ _ h hI (lv_sub hl [] rfl)
    · have h := h.2 c2
      refine lv_iconst (v := 1) hx hb dX5_isLetter_12 (by decide) ?_
      refine lv_goto (tgt := 17) hx hb dX5_isLetter_13 (by decide) ?_
      exact g_zret hC hr hlocks rfl hI h dX5_isLetter_17

theorem dX5_isDigit_0 : decode cX5_isDigit 0 = .ok (.iload_n 0, 1) := by decide +kernel
theorem dX5_isDigit_1 : decode cX5_isDigit 1 = .ok (.bipush 48, 2) := by decide +kernel
theorem dX5_isDigit_3 : decode cX5_isDigit 3 = .ok (.if_icmp .lt 13, 3) := by decide +kernel
theorem dX5_isDigit_6 : decode cX5_isDigit 6 = .ok (.iload_n 0, 1) := by decide +kernel
theorem dX5_isDigit_7 : decode cX5_isDigit 7 = .ok (.bipush 57, 2) := by decide +kernel
theorem dX5_isDigit_9 : decode cX5_isDigit 9 = .ok (.if_icmp .gt 7, 3) := by decide +kernel
theorem dX5_isDigit_12 : decode cX5_isDigit 12 = .ok (.iconst 1, 1) := by decide +kernel
theorem dX5_isDigit_13 : decode cX5_isDigit 13 = .ok (.goto 4, 3) := by decide +kernel
theorem dX5_isDigit_16 : decode cX5_isDigit 16 = .ok (.iconst 0, 1) := by decide +kernel
theorem dX5_isDigit_17 : decode cX5_isDigit 17 = .ok (.ireturn, 1) := by decide +kernel
def w_X5_isDigit_16 (Q : Int32 → gS → Prop) (σ : gS) : Prop :=
    Q 0 σ
def w_X5_isDigit (Q : Int32 → gS → Prop) (σ : gS) (a0 : Int32) : Prop :=
    (a0 < 48 → w_X5_isDigit_16 Q σ) ∧ (¬ a0 < 48 → (57 < a0 → w_X5_isDigit_16 Q σ) ∧ (¬ 57 < a0 → Q 1 σ))
abbrev ws_X5_isDigit : List Cond := Cond.code yX5_isDigit cX5_isDigit 1 (some .boolean) :: gG
abbrev rm_X5_isDigit : Room := { frames := 0, cells := 0, slots := 0, locals := 0 }
theorem k_X5_isDigit : gCS yX5_isDigit cX5_isDigit 1 (some .boolean) 1 := ⟨gw_4_165, gw_1_3, gw_4_166, by decide +kernel⟩
set_option maxHeartbeats 4000000 in
set_option maxRecDepth 100000 in
theorem c_X5_isDigit (l : Launch) (D : va_G) (cy : Nat → ClassId) (ad : Nat → Nat) (A : Nat → Prop) (Q : Int32 → gS → Prop) (σ : gS) (a0 : Int32) (h : w_X5_isDigit Q σ a0) : Met l yX5_isDigit ws_X5_isDigit rm_X5_isDigit (va_Pc [.int a0] (gB D cy ad A σ)) (va_Qi Q (gB D cy ad A) A) 0 0 A := by
  refine Met.ofW (cc := cX5_isDigit) (maxL := 1) (ret := (some .boolean)) (by decide) rfl ?_
  intro p e s m args below meth c s₁ B hml hv
  obtain ⟨rfl, hB⟩ := hv
  have hC : gC p c cX5_isDigit s m ([.int a0] : List Value).toArray RX5 D cy ad A := g_start B hB
  have hI := g_first hB
  have hx := hC.1
  have hb := hC.2.1
  have hr := B.returns
  have hlocks := B.notSynchronized
  clear B hB
  have J16 : ∀ (σ : gS) (H : Heap) (locs : List Loc) (ls : Array Slot), w_X5_isDigit_16 Q σ → gI D cy ad A s.heap σ H locs → lv_has ls 1 [] → W p l e (headSpec ws_X5_isDigit rm_X5_isDigit).room s m ([.int a0] : List Value).toArray below meth c H locs 0 0 (MQ below (va_Qi Q (gB D cy ad A) A) ([.int a0] : List Value).toArray s 0 0 A) (F0 m 16 ls []) := by
    intro σ H locs ls h hI hl
    unfold w_X5_isDigit_16 at h
    refine lv_iconst (v := 0) hx hb dX5_isDigit_16 (by decide) ?_
    exact g_zret hC hr hlocks rfl hI h dX5_isDigit_17
  have hl := lv_entry ([.int a0]) (n := 1) (Nat.le_of_ble_eq_true rfl)
  rw [lg_entry_eq]
  generalize (lg_sl ([.int a0]) ++ List.replicate (1 - (lg_sl ([.int a0])).length) Slot.unset).toArray = ls at hl ⊢
  have hl : lv_has ls 1 [(0, .int a0)] := hl
  unfold w_X5_isDigit at h
  refine lv_iload_n hx hb dX5_isDigit_0 rfl (lv_at hl 0 rfl) ?_
  refine lv_bipush (v := 48) hx hb dX5_isDigit_1 (by decide) ?_
  refine lv_icmp_lt (tgt := 16) hx hb dX5_isDigit_3 (by decide) (fun c1 => ?_) (fun c1 => ?_)
  · have h := h.1 c1
    exact J16 _ _ _ _ h hI (lv_sub hl [] rfl)
  · have h := h.2 c1
    refine lv_iload_n hx hb dX5_isDigit_6 rfl (lv_at hl 0 rfl) ?_
    refine lv_bipush (v := 57) hx hb dX5_isDigit_7 (by decide) ?_
    refine lv_icmp_gt (tgt := 16) hx hb dX5_isDigit_9 (by decide) (fun c2 => ?_) (fun c2 => ?_)
    · have h := h.1 c2
      exact J16 _ _ _ _ h hI (lv_sub hl [] rfl)
    · have h := h.2 c2
      refine lv_iconst (v := 1) hx hb dX5_isDigit_12 (by decide) ?_
      refine lv_goto (tgt := 17) hx hb dX5_isDigit_13 (by decide) ?_
      exact g_zret hC hr hlocks rfl hI h dX5_isDigit_17

theorem dX5_highest_0 : decode cX5_highest 0 = .ok (.iload_n 0, 1) := by decide +kernel
theorem dX5_highest_1 : decode cX5_highest 1 = .ok (.tableswitch 45 0 4 #[35, 45, 45, 38, 41], 35) := by decide +kernel
theorem dX5_highest_36 : decode cX5_highest 36 = .ok (.ldc 83, 2) := by decide +kernel
theorem dX5_highest_38 : decode cX5_highest 38 = .ok (.ireturn, 1) := by decide +kernel
theorem dX5_highest_39 : decode cX5_highest 39 = .ok (.bipush 60, 2) := by decide +kernel
theorem dX5_highest_41 : decode cX5_highest 41 = .ok (.ireturn, 1) := by decide +kernel
theorem dX5_highest_42 : decode cX5_highest 42 = .ok (.sipush 200, 3) := by decide +kernel
theorem dX5_highest_45 : decode cX5_highest 45 = .ok (.ireturn, 1) := by decide +kernel
theorem dX5_highest_46 : decode cX5_highest 46 = .ok (.bipush 40, 2) := by decide +kernel
theorem dX5_highest_48 : decode cX5_highest 48 = .ok (.ireturn, 1) := by decide +kernel
def w_X5_highest (Q : Int32 → gS → Prop) (σ : gS) (a0 : Int32) : Prop :=
    (a0 = 0 → Q 160000 σ) ∧ (¬ a0 = 0 → (a0 = 1 → Q 40 σ) ∧ (¬ a0 = 1 → (a0 = 2 → Q 40 σ) ∧ (¬ a0 = 2 → (a0 = 3 → Q 60 σ) ∧ (¬ a0 = 3 → (a0 = 4 → Q 200 σ) ∧ (¬ a0 = 4 → Q 40 σ)))))
abbrev ws_X5_highest : List Cond := Cond.code yX5_highest cX5_highest 1 (some .int) :: gG
abbrev rm_X5_highest : Room := { frames := 0, cells := 0, slots := 0, locals := 0 }
theorem k_X5_highest : gCS yX5_highest cX5_highest 1 (some .int) 1 := ⟨gw_4_157, gw_1_3, gw_4_158, by decide +kernel⟩
set_option maxHeartbeats 4000000 in
set_option maxRecDepth 100000 in
theorem c_X5_highest (l : Launch) (D : va_G) (cy : Nat → ClassId) (ad : Nat → Nat) (A : Nat → Prop) (Q : Int32 → gS → Prop) (σ : gS) (a0 : Int32) (h : w_X5_highest Q σ a0) : Met l yX5_highest ws_X5_highest rm_X5_highest (va_Pc [.int a0] (gB D cy ad A σ)) (va_Qi Q (gB D cy ad A) A) 0 0 A := by
  refine Met.ofW (cc := cX5_highest) (maxL := 1) (ret := (some .int)) (by decide) rfl ?_
  intro p e s m args below meth c s₁ B hml hv
  obtain ⟨rfl, hB⟩ := hv
  have hC : gC p c cX5_highest s m ([.int a0] : List Value).toArray RX5 D cy ad A := g_start B hB
  have hI := g_first hB
  have hx := hC.1
  have hb := hC.2.1
  have hr := B.returns
  have hlocks := B.notSynchronized
  clear B hB
  have hl := lv_entry ([.int a0]) (n := 1) (Nat.le_of_ble_eq_true rfl)
  rw [lg_entry_eq]
  generalize (lg_sl ([.int a0]) ++ List.replicate (1 - (lg_sl ([.int a0])).length) Slot.unset).toArray = ls at hl ⊢
  have hl : lv_has ls 1 [(0, .int a0)] := hl
  unfold w_X5_highest at h
  refine lv_iload_n hx hb dX5_highest_0 rfl (lv_at hl 0 rfl) ?_
  by_cases c1 : a0 = 0
  · have h := h.1 c1
    refine lv_tableIn (tgt := 36) hx hb dX5_highest_1 (by rw [c1]; decide) (by rw [c1]; decide) (by rw [c1]; rfl) (by decide) ?_
    refine lv_ldc (v := 160000) hx hb hC.2.2.2.1 (hC.2.2.1 _ gw_4_159) dX5_highest_36 ?_
    exact g_iret hC hr hlocks hI h dX5_highest_38
  have h := h.2 c1
  by_cases c2 : a0 = 1
  · have h := h.1 c2
    refine lv_tableIn (tgt := 46) hx hb dX5_highest_1 (by rw [c2]; decide) (by rw [c2]; decide) (by rw [c2]; rfl) (by decide) ?_
    refine lv_bipush (v := 40) hx hb dX5_highest_46 (by decide) ?_
    exact g_iret hC hr hlocks hI h dX5_highest_48
  have h := h.2 c2
  by_cases c3 : a0 = 2
  · have h := h.1 c3
    refine lv_tableIn (tgt := 46) hx hb dX5_highest_1 (by rw [c3]; decide) (by rw [c3]; decide) (by rw [c3]; rfl) (by decide) ?_
    refine lv_bipush (v := 40) hx hb dX5_highest_46 (by decide) ?_
    exact g_iret hC hr hlocks hI h dX5_highest_48
  have h := h.2 c3
  by_cases c4 : a0 = 3
  · have h := h.1 c4
    refine lv_tableIn (tgt := 39) hx hb dX5_highest_1 (by rw [c4]; decide) (by rw [c4]; decide) (by rw [c4]; rfl) (by decide) ?_
    refine lv_bipush (v := 60) hx hb dX5_highest_39 (by decide) ?_
    exact g_iret hC hr hlocks hI h dX5_highest_41
  have h := h.2 c4
  by_cases c5 : a0 = 4
  · have h := h.1 c5
    refine lv_tableIn (tgt := 42) hx hb dX5_highest_1 (by rw [c5]; decide) (by rw [c5]; decide) (by rw [c5]; rfl) (by decide) ?_
    refine lv_sipush (v := 200) hx hb dX5_highest_42 (by decide) ?_
    exact g_iret hC hr hlocks hI h dX5_highest_45
  have h := h.2 c5
  refine lv_tableOut (tgt := 46) hx hb dX5_highest_1 (by have q0 := lv_neT (a := 0) c1 (by decide); have q1 := lv_neT (a := 1) c2 (by decide); have q2 := lv_neT (a := 2) c3 (by decide); have q3 := lv_neT (a := 3) c4 (by decide); have q4 := lv_neT (a := 4) c5 (by decide); omega) (by decide) ?_
  refine lv_bipush (v := 40) hx hb dX5_highest_46 (by decide) ?_
  exact g_iret hC hr hlocks hI h dX5_highest_48

theorem dX5_skipBlanks_0 : decode cX5_skipBlanks 0 = .ok (.aload_n 0, 1) := by decide +kernel
theorem dX5_skipBlanks_1 : decode cX5_skipBlanks 1 = .ok (.getfield 15, 3) := by decide +kernel
theorem dX5_skipBlanks_4 : decode cX5_skipBlanks 4 = .ok (.aload_n 0, 1) := by decide +kernel
theorem dX5_skipBlanks_5 : decode cX5_skipBlanks 5 = .ok (.getfield 9, 3) := by decide +kernel
theorem dX5_skipBlanks_8 : decode cX5_skipBlanks 8 = .ok (.getfield 34, 3) := by decide +kernel
theorem dX5_skipBlanks_11 : decode cX5_skipBlanks 11 = .ok (.if_icmp .ge 32, 3) := by decide +kernel
theorem dX5_skipBlanks_14 : decode cX5_skipBlanks 14 = .ok (.aload_n 0, 1) := by decide +kernel
theorem dX5_skipBlanks_15 : decode cX5_skipBlanks 15 = .ok (.getfield 9, 3) := by decide +kernel
theorem dX5_skipBlanks_18 : decode cX5_skipBlanks 18 = .ok (.aload_n 0, 1) := by decide +kernel
theorem dX5_skipBlanks_19 : decode cX5_skipBlanks 19 = .ok (.getfield 15, 3) := by decide +kernel
theorem dX5_skipBlanks_22 : decode cX5_skipBlanks 22 = .ok (.invokevirtual 37, 3) := by decide +kernel
theorem dX5_skipBlanks_25 : decode cX5_skipBlanks 25 = .ok (.bipush 32, 2) := by decide +kernel
theorem dX5_skipBlanks_27 : decode cX5_skipBlanks 27 = .ok (.if_icmp .ne 16, 3) := by decide +kernel
theorem dX5_skipBlanks_30 : decode cX5_skipBlanks 30 = .ok (.aload_n 0, 1) := by decide +kernel
theorem dX5_skipBlanks_31 : decode cX5_skipBlanks 31 = .ok (.dup, 1) := by decide +kernel
theorem dX5_skipBlanks_32 : decode cX5_skipBlanks 32 = .ok (.getfield 15, 3) := by decide +kernel
theorem dX5_skipBlanks_35 : decode cX5_skipBlanks 35 = .ok (.iconst 1, 1) := by decide +kernel
theorem dX5_skipBlanks_36 : decode cX5_skipBlanks 36 = .ok (.iadd, 1) := by decide +kernel
theorem dX5_skipBlanks_37 : decode cX5_skipBlanks 37 = .ok (.putfield 15, 3) := by decide +kernel
theorem dX5_skipBlanks_40 : decode cX5_skipBlanks 40 = .ok (.goto (-40), 3) := by decide +kernel
theorem dX5_skipBlanks_43 : decode cX5_skipBlanks 43 = .ok (.return_, 1) := by decide +kernel
def w_X5_skipBlanks_0 (Q : gS → Prop) : Nat → gS → Prop
  | 0, _ => False
  | n0 + 1, σ =>
    ((σ 16 0) ≤ (σ 17 0) → Q σ) ∧ (¬ (σ 16 0) ≤ (σ 17 0) → w_X6_byteAt  (fun (r3 : Int32) (s2 : gS) => (¬ r3 = 32 → Q s2) ∧ (r3 = 32 → ∀ s5 : gS, s5 = gu s2 17 0 ((s2 17 0) + 1) → w_X5_skipBlanks_0 Q n0 s5)) σ (σ 17 0))
def w_X5_skipBlanks (Q : gS → Prop) (σ : gS) : Prop :=
    ∃ n0, w_X5_skipBlanks_0 Q n0 σ
abbrev ws_X5_skipBlanks : List Cond := Cond.code yX5_skipBlanks cX5_skipBlanks 1 none :: gG
abbrev rm_X5_skipBlanks : Room := { frames := 1, cells := 0, slots := 0, locals := 21 }
theorem k_X5_skipBlanks : gCV yX5_skipBlanks RX5 cX5_skipBlanks 1 none 0 := ⟨gw_4_82, gwp_28, gw_1_3, gw_4_83, rfl, by decide +kernel⟩
set_option maxHeartbeats 4000000 in
set_option maxRecDepth 100000 in
theorem c_X5_skipBlanks (l : Launch) (D : va_G) (cy : Nat → ClassId) (ad : Nat → Nat) (A : Nat → Prop) (Q : gS → Prop) (σ : gS) (h : w_X5_skipBlanks Q σ) : Met l yX5_skipBlanks ws_X5_skipBlanks rm_X5_skipBlanks (va_Pc [.ref (ad 2)] (gB D cy ad A σ)) (va_Qv Q (gB D cy ad A) A) 0 0 A := by
  refine Met.ofW (cc := cX5_skipBlanks) (maxL := 1) (ret := none) (by decide) rfl ?_
  intro p e s m args below meth c s₁ B hml hv
  obtain ⟨rfl, hB⟩ := hv
  have hC : gC p c cX5_skipBlanks s m ([.ref (ad 2)] : List Value).toArray RX5 D cy ad A := g_start B hB
  have hI := g_first hB
  have hx := hC.1
  have hb := hC.2.1
  have hr := B.returns
  have hlocks := B.notSynchronized
  clear B hB
  have J0 : ∀ (n0 : Nat) (σ : gS) (H : Heap) (locs : List Loc) (ls : Array Slot), w_X5_skipBlanks_0 Q n0 σ → gI D cy ad A s.heap σ H locs → lv_has ls 1 [(0, .ref (ad 2))] → W p l e (headSpec ws_X5_skipBlanks rm_X5_skipBlanks).room s m ([.ref (ad 2)] : List Value).toArray below meth c H locs 0 0 (MQ below (va_Qv Q (gB D cy ad A) A) ([.ref (ad 2)] : List Value).toArray s 0 0 A) (F0 m 0 ls []) := by
    intro n0
    induction n0 with
    | zero => intro σ H locs ls h; exact absurd h (fun h => h)
    | succ n0 ih0 =>
      intro σ H locs ls h hI hl
      unfold w_X5_skipBlanks_0 at h
      refine lv_aload_n hx hb dX5_skipBlanks_0 rfl (lv_at hl 0 rfl) ?_
      refine gg_X5_next hC hI gw_1_55 dX5_skipBlanks_1 ?_
      refine lv_aload_n hx hb dX5_skipBlanks_4 rfl (lv_at hl 0 rfl) ?_
      refine gg_X5_tape hC hI gw_1_54 dX5_skipBlanks_5 ?_
      refine gg_X6_size hC hI gw_1_40 dX5_skipBlanks_8 ?_
      refine lv_icmp_ge (tgt := 43) hx hb dX5_skipBlanks_11 (by decide) (fun c1 => ?_) (fun c1 => ?_)
      · have h := h.1 c1
        exact g_vret hC hr hlocks hI h dX5_skipBlanks_43
      · have h := h.2 c1
        refine lv_aload_n hx hb dX5_skipBlanks_14 rfl (lv_at hl 0 rfl) ?_
        refine gg_X5_tape hC hI gw_1_54 dX5_skipBlanks_15 ?_
        refine lv_aload_n hx hb dX5_skipBlanks_18 rfl (lv_at hl 0 rfl) ?_
        refine gg_X5_next hC hI gw_1_55 dX5_skipBlanks_19 ?_
        refine g_backi hI (g_runV (As := [.int (σ 17 0)]) (rest := []) hC hml hI (c_X6_byteAt l D cy ad A _  _ _ h) k_X6_byteAt gw_4_84 ⟨rfl, rfl⟩ ⟨Nat.le_of_ble_eq_true rfl, Nat.le_of_ble_eq_true rfl⟩ (grv_1 hC hI) rfl hl.1 rfl (Nat.le_of_ble_eq_true rfl) dX5_skipBlanks_22 ⟨Nat.le_of_ble_eq_true rfl, Nat.le_of_ble_eq_true rfl⟩) (fun r3 s2 H locs h hI => ?_)
        refine lv_bipush (v := 32) hx hb dX5_skipBlanks_25 (by decide) ?_
        refine lv_icmp_ne (tgt := 43) hx hb dX5_skipBlanks_27 (by decide) (fun c4 => ?_) (fun c4 => ?_)
        · have h := h.1 c4
          exact g_vret hC hr hlocks hI h dX5_skipBlanks_43
        · have h := h.2 c4
          refine lv_aload_n hx hb dX5_skipBlanks_30 rfl (lv_at hl 0 rfl) ?_
          refine lv_dup hx hb dX5_skipBlanks_31 rfl ?_
          refine gg_X5_next hC hI gw_1_55 dX5_skipBlanks_32 ?_
          refine lv_iconst (v := 1) hx hb dX5_skipBlanks_35 (by decide) ?_
          refine lv_iadd hx hb dX5_skipBlanks_36 ?_
          refine gp_X5_next hC hI gw_1_55 dX5_skipBlanks_37 (fun s5 H locs es5 hI => ?_)
          have h := h s5 es5
          refine lv_goto (tgt := 0) hx hb dX5_skipBlanks_40 (by decide) ?_
          exact ih0 _ _ _ _ h hI (lv_sub hl [0] rfl)
  have hl := lv_entry ([.ref (ad 2)]) (n := 1) (Nat.le_of_ble_eq_true rfl)
  rw [lg_entry_eq]
  generalize (lg_sl ([.ref (ad 2)]) ++ List.replicate (1 - (lg_sl ([.ref (ad 2)])).length) Slot.unset).toArray = ls at hl ⊢
  have hl : lv_has ls 1 [(0, .ref (ad 2))] := hl
  unfold w_X5_skipBlanks at h
  obtain ⟨n9, h⟩ := h
  exact J0 n9 _ _ _ _ h hI (lv_sub hl [0] rfl)

theorem dX5_skipWord_0 : decode cX5_skipWord 0 = .ok (.aload_n 0, 1) := by decide +kernel
theorem dX5_skipWord_1 : decode cX5_skipWord 1 = .ok (.getfield 15, 3) := by decide +kernel
theorem dX5_skipWord_4 : decode cX5_skipWord 4 = .ok (.aload_n 0, 1) := by decide +kernel
theorem dX5_skipWord_5 : decode cX5_skipWord 5 = .ok (.getfield 9, 3) := by decide +kernel
theorem dX5_skipWord_8 : decode cX5_skipWord 8 = .ok (.getfield 34, 3) := by decide +kernel
theorem dX5_skipWord_11 : decode cX5_skipWord 11 = .ok (.if_icmp .ge 33, 3) := by decide +kernel
theorem dX5_skipWord_14 : decode cX5_skipWord 14 = .ok (.aload_n 0, 1) := by decide +kernel
theorem dX5_skipWord_15 : decode cX5_skipWord 15 = .ok (.getfield 9, 3) := by decide +kernel
theorem dX5_skipWord_18 : decode cX5_skipWord 18 = .ok (.aload_n 0, 1) := by decide +kernel
theorem dX5_skipWord_19 : decode cX5_skipWord 19 = .ok (.getfield 15, 3) := by decide +kernel
theorem dX5_skipWord_22 : decode cX5_skipWord 22 = .ok (.invokevirtual 37, 3) := by decide +kernel
theorem dX5_skipWord_25 : decode cX5_skipWord 25 = .ok (.invokestatic 99, 3) := by decide +kernel
theorem dX5_skipWord_28 : decode cX5_skipWord 28 = .ok (.ifCond .eq 16, 3) := by decide +kernel
theorem dX5_skipWord_31 : decode cX5_skipWord 31 = .ok (.aload_n 0, 1) := by decide +kernel
theorem dX5_skipWord_32 : decode cX5_skipWord 32 = .ok (.dup, 1) := by decide +kernel
theorem dX5_skipWord_33 : decode cX5_skipWord 33 = .ok (.getfield 15, 3) := by decide +kernel
theorem dX5_skipWord_36 : decode cX5_skipWord 36 = .ok (.iconst 1, 1) := by decide +kernel
theorem dX5_skipWord_37 : decode cX5_skipWord 37 = .ok (.iadd, 1) := by decide +kernel
theorem dX5_skipWord_38 : decode cX5_skipWord 38 = .ok (.putfield 15, 3) := by decide +kernel
theorem dX5_skipWord_41 : decode cX5_skipWord 41 = .ok (.goto (-41), 3) := by decide +kernel
theorem dX5_skipWord_44 : decode cX5_skipWord 44 = .ok (.return_, 1) := by decide +kernel
def w_X5_skipWord_0 (Q : gS → Prop) : Nat → gS → Prop
  | 0, _ => False
  | n0 + 1, σ =>
    ((σ 16 0) ≤ (σ 17 0) → Q σ) ∧ (¬ (σ 16 0) ≤ (σ 17 0) → w_X6_byteAt  (fun (r3 : Int32) (s2 : gS) => w_X5_isLetter  (fun (r5 : Int32) (s4 : gS) => (r5 = 0 → Q s4) ∧ (¬ r5 = 0 → ∀ s7 : gS, s7 = gu s4 17 0 ((s4 17 0) + 1) → w_X5_skipWord_0 Q n0 s7)) s2 r3) σ (σ 17 0))
def w_X5_skipWord (Q : gS → Prop) (σ : gS) : Prop :=
    ∃ n0, w_X5_skipWord_0 Q n0 σ
abbrev ws_X5_skipWord : List Cond := Cond.code yX5_skipWord cX5_skipWord 1 none :: gG
abbrev rm_X5_skipWord : Room := { frames := 1, cells := 0, slots := 0, locals := 21 }
theorem k_X5_skipWord : gCV yX5_skipWord RX5 cX5_skipWord 1 none 0 := ⟨gw_4_154, gwp_31, gw_1_3, gw_4_155, rfl, by decide +kernel⟩
set_option maxHeartbeats 4000000 in
set_option maxRecDepth 100000 in
theorem c_X5_skipWord (l : Launch) (D : va_G) (cy : Nat → ClassId) (ad : Nat → Nat) (A : Nat → Prop) (Q : gS → Prop) (σ : gS) (h : w_X5_skipWord Q σ) : Met l yX5_skipWord ws_X5_skipWord rm_X5_skipWord (va_Pc [.ref (ad 2)] (gB D cy ad A σ)) (va_Qv Q (gB D cy ad A) A) 0 0 A := by
  refine Met.ofW (cc := cX5_skipWord) (maxL := 1) (ret := none) (by decide) rfl ?_
  intro p e s m args below meth c s₁ B hml hv
  obtain ⟨rfl, hB⟩ := hv
  have hC : gC p c cX5_skipWord s m ([.ref (ad 2)] : List Value).toArray RX5 D cy ad A := g_start B hB
  have hI := g_first hB
  have hx := hC.1
  have hb := hC.2.1
  have hr := B.returns
  have hlocks := B.notSynchronized
  clear B hB
  have J0 : ∀ (n0 : Nat) (σ : gS) (H : Heap) (locs : List Loc) (ls : Array Slot), w_X5_skipWord_0 Q n0 σ → gI D cy ad A s.heap σ H locs → lv_has ls 1 [(0, .ref (ad 2))] → W p l e (headSpec ws_X5_skipWord rm_X5_skipWord).room s m ([.ref (ad 2)] : List Value).toArray below meth c H locs 0 0 (MQ below (va_Qv Q (gB D cy ad A) A) ([.ref (ad 2)] : List Value).toArray s 0 0 A) (F0 m 0 ls []) := by
    intro n0
    induction n0 with
    | zero => intro σ H locs ls h; exact absurd h (fun h => h)
    | succ n0 ih0 =>
      intro σ H locs ls h hI hl
      unfold w_X5_skipWord_0 at h
      refine lv_aload_n hx hb dX5_skipWord_0 rfl (lv_at hl 0 rfl) ?_
      refine gg_X5_next hC hI gw_1_55 dX5_skipWord_1 ?_
      refine lv_aload_n hx hb dX5_skipWord_4 rfl (lv_at hl 0 rfl) ?_
      refine gg_X5_tape hC hI gw_1_54 dX5_skipWord_5 ?_
      refine gg_X6_size hC hI gw_1_40 dX5_skipWord_8 ?_
      refine lv_icmp_ge (tgt := 44) hx hb dX5_skipWord_11 (by decide) (fun c1 => ?_) (fun c1 => ?_)
      · have h := h.1 c1
        exact g_vret hC hr hlocks hI h dX5_skipWord_44
      · have h := h.2 c1
        refine lv_aload_n hx hb dX5_skipWord_14 rfl (lv_at hl 0 rfl) ?_
        refine gg_X5_tape hC hI gw_1_54 dX5_skipWord_15 ?_
        refine lv_aload_n hx hb dX5_skipWord_18 rfl (lv_at hl 0 rfl) ?_
        refine gg_X5_next hC hI gw_1_55 dX5_skipWord_19 ?_
        refine g_backi hI (g_runV (As := [.int (σ 17 0)]) (rest := []) hC hml hI (c_X6_byteAt l D cy ad A _  _ _ h) k_X6_byteAt gw_4_84 ⟨rfl, rfl⟩ ⟨Nat.le_of_ble_eq_true rfl, Nat.le_of_ble_eq_true rfl⟩ (grv_1 hC hI) rfl hl.1 rfl (Nat.le_of_ble_eq_true rfl) dX5_skipWord_22 ⟨Nat.le_of_ble_eq_true rfl, Nat.le_of_ble_eq_true rfl⟩) (fun r3 s2 H locs h hI => ?_)
        refine g_backi hI (g_runS (As := [.int r3]) (rest := []) hC hml hI (c_X5_isLetter l D cy ad A _  _ _ h) k_X5_isLetter gw_4_145 ⟨rfl, rfl⟩ ⟨Nat.le_of_ble_eq_true rfl, Nat.le_of_ble_eq_true rfl⟩ rfl hl.1 rfl (Nat.le_of_ble_eq_true rfl) dX5_skipWord_25 ⟨Nat.le_of_ble_eq_true rfl, Nat.le_of_ble_eq_true rfl⟩) (fun r5 s4 H locs h hI => ?_)
        refine lv_if_eq (tgt := 44) hx hb dX5_skipWord_28 (by decide) (fun c6 => ?_) (fun c6 => ?_)
        · have h := h.1 c6
          exact g_vret hC hr hlocks hI h dX5_skipWord_44
        · have h := h.2 c6
          refine lv_aload_n hx hb dX5_skipWord_31 rfl (lv_at hl 0 rfl) ?_
          refine lv_dup hx hb dX5_skipWord_32 rfl ?_
          refine gg_X5_next hC hI gw_1_55 dX5_skipWord_33 ?_
          refine lv_iconst (v := 1) hx hb dX5_skipWord_36 (by decide) ?_
          refine lv_iadd hx hb dX5_skipWord_37 ?_
          refine gp_X5_next hC hI gw_1_55 dX5_skipWord_38 (fun s7 H locs es7 hI => ?_)
          have h := h s7 es7
          refine lv_goto (tgt := 0) hx hb dX5_skipWord_41 (by decide) ?_
          exact ih0 _ _ _ _ h hI (lv_sub hl [0] rfl)
  have hl := lv_entry ([.ref (ad 2)]) (n := 1) (Nat.le_of_ble_eq_true rfl)
  rw [lg_entry_eq]
  generalize (lg_sl ([.ref (ad 2)]) ++ List.replicate (1 - (lg_sl ([.ref (ad 2)])).length) Slot.unset).toArray = ls at hl ⊢
  have hl : lv_has ls 1 [(0, .ref (ad 2))] := hl
  unfold w_X5_skipWord at h
  obtain ⟨n9, h⟩ := h
  exact J0 n9 _ _ _ _ h hI (lv_sub hl [0] rfl)

theorem dX5_isWordHere_0 : decode cX5_isWordHere 0 = .ok (.aload_n 1, 1) := by decide +kernel
theorem dX5_isWordHere_1 : decode cX5_isWordHere 1 = .ok (.invokevirtual 90, 3) := by decide +kernel
theorem dX5_isWordHere_4 : decode cX5_isWordHere 4 = .ok (.istore_n 2, 1) := by decide +kernel
theorem dX5_isWordHere_5 : decode cX5_isWordHere 5 = .ok (.iconst 0, 1) := by decide +kernel
theorem dX5_isWordHere_6 : decode cX5_isWordHere 6 = .ok (.istore_n 3, 1) := by decide +kernel
theorem dX5_isWordHere_7 : decode cX5_isWordHere 7 = .ok (.iload_n 3, 1) := by decide +kernel
theorem dX5_isWordHere_8 : decode cX5_isWordHere 8 = .ok (.iload_n 2, 1) := by decide +kernel
theorem dX5_isWordHere_9 : decode cX5_isWordHere 9 = .ok (.if_icmp .ge 32, 3) := by decide +kernel
theorem dX5_isWordHere_12 : decode cX5_isWordHere 12 = .ok (.aload_n 0, 1) := by decide +kernel
theorem dX5_isWordHere_13 : decode cX5_isWordHere 13 = .ok (.getfield 9, 3) := by decide +kernel
theorem dX5_isWordHere_16 : decode cX5_isWordHere 16 = .ok (.aload_n 0, 1) := by decide +kernel
theorem dX5_isWordHere_17 : decode cX5_isWordHere 17 = .ok (.getfield 15, 3) := by decide +kernel
theorem dX5_isWordHere_20 : decode cX5_isWordHere 20 = .ok (.iload_n 3, 1) := by decide +kernel
theorem dX5_isWordHere_21 : decode cX5_isWordHere 21 = .ok (.iadd, 1) := by decide +kernel
theorem dX5_isWordHere_22 : decode cX5_isWordHere 22 = .ok (.invokevirtual 37, 3) := by decide +kernel
theorem dX5_isWordHere_25 : decode cX5_isWordHere 25 = .ok (.aload_n 1, 1) := by decide +kernel
theorem dX5_isWordHere_26 : decode cX5_isWordHere 26 = .ok (.iload_n 3, 1) := by decide +kernel
theorem dX5_isWordHere_27 : decode cX5_isWordHere 27 = .ok (.invokevirtual 95, 3) := by decide +kernel
theorem dX5_isWordHere_30 : decode cX5_isWordHere 30 = .ok (.if_icmp .eq 5, 3) := by decide +kernel
theorem dX5_isWordHere_33 : decode cX5_isWordHere 33 = .ok (.iconst 0, 1) := by decide +kernel
theorem dX5_isWordHere_34 : decode cX5_isWordHere 34 = .ok (.ireturn, 1) := by decide +kernel
theorem dX5_isWordHere_35 : decode cX5_isWordHere 35 = .ok (.iinc 3 1, 3) := by decide +kernel
theorem dX5_isWordHere_38 : decode cX5_isWordHere 38 = .ok (.goto (-31), 3) := by decide +kernel
theorem dX5_isWordHere_41 : decode cX5_isWordHere 41 = .ok (.aload_n 0, 1) := by decide +kernel
theorem dX5_isWordHere_42 : decode cX5_isWordHere 42 = .ok (.getfield 9, 3) := by decide +kernel
theorem dX5_isWordHere_45 : decode cX5_isWordHere 45 = .ok (.aload_n 0, 1) := by decide +kernel
theorem dX5_isWordHere_46 : decode cX5_isWordHere 46 = .ok (.getfield 15, 3) := by decide +kernel
theorem dX5_isWordHere_49 : decode cX5_isWordHere 49 = .ok (.iload_n 2, 1) := by decide +kernel
theorem dX5_isWordHere_50 : decode cX5_isWordHere 50 = .ok (.iadd, 1) := by decide +kernel
theorem dX5_isWordHere_51 : decode cX5_isWordHere 51 = .ok (.invokevirtual 37, 3) := by decide +kernel
theorem dX5_isWordHere_54 : decode cX5_isWordHere 54 = .ok (.invokestatic 99, 3) := by decide +kernel
theorem dX5_isWordHere_57 : decode cX5_isWordHere 57 = .ok (.ifCond .ne 7, 3) := by decide +kernel
theorem dX5_isWordHere_60 : decode cX5_isWordHere 60 = .ok (.iconst 1, 1) := by decide +kernel
theorem dX5_isWordHere_61 : decode cX5_isWordHere 61 = .ok (.goto 4, 3) := by decide +kernel
theorem dX5_isWordHere_64 : decode cX5_isWordHere 64 = .ok (.iconst 0, 1) := by decide +kernel
theorem dX5_isWordHere_65 : decode cX5_isWordHere 65 = .ok (.ireturn, 1) := by decide +kernel
def w_X5_isWordHere_7 (Q : Int32 → gS → Prop) (ti : Nat) : Nat → Int32 → Int32 → gS → Prop
  | 0, _, _, _ => False
  | n7 + 1, x2, x3, σ =>
    (x2 ≤ x3 → w_X6_byteAt  (fun (r3 : Int32) (s2 : gS) => w_X5_isLetter  (fun (r5 : Int32) (s4 : gS) => (¬ r5 = 0 → Q 0 s4) ∧ (r5 = 0 → Q 1 s4)) s2 r3) σ ((σ 17 0) + x2)) ∧ (¬ x2 ≤ x3 → w_X6_byteAt  (fun (r8 : Int32) (s7 : gS) => w_J0_charAt_5068e  (fun (r10 : Int32) (s9 : gS) => (r8 = r10 → ∀ y12 : Int32, y12 = x3 + 1 → w_X5_isWordHere_7 Q ti n7 x2 y12 s9) ∧ (¬ r8 = r10 → Q 0 s9)) ti s7 x3) σ ((σ 17 0) + x3))
def w_X5_isWordHere (Q : Int32 → gS → Prop) (ti : Nat) (σ : gS) : Prop :=
    w_J0_length_8abf5  (fun (r14 : Int32) (s13 : gS) => ∃ n7, w_X5_isWordHere_7 Q ti n7 r14 0 s13) ti σ
abbrev ws_X5_isWordHere : List Cond := Cond.code yX5_isWordHere cX5_isWordHere 4 (some .boolean) :: gG
abbrev rm_X5_isWordHere : Room := { frames := 4, cells := 0, slots := 0, locals := 85 }
theorem k_X5_isWordHere : gCV yX5_isWordHere RX5 cX5_isWordHere 4 (some .boolean) 1 := ⟨gw_4_95, gwp_30, gw_1_3, gw_4_96, rfl, by decide +kernel⟩
set_option maxHeartbeats 4000000 in
set_option maxRecDepth 100000 in
theorem c_X5_isWordHere (l : Launch) (D : va_G) (cy : Nat → ClassId) (ad : Nat → Nat) (A : Nat → Prop) (Q : Int32 → gS → Prop) (ti : Nat) (hti : ti < 14) (σ : gS) (h : w_X5_isWordHere Q ti σ) : Met l yX5_isWordHere ws_X5_isWordHere rm_X5_isWordHere (va_Pc [.ref (ad 2), .ref (ad (200 + ti))] (gB D cy ad A σ)) (va_Qi Q (gB D cy ad A) A) 0 0 A := by
  refine Met.ofW (cc := cX5_isWordHere) (maxL := 4) (ret := (some .boolean)) (by decide) rfl ?_
  intro p e s m args below meth c s₁ B hml hv
  obtain ⟨rfl, hB⟩ := hv
  have hC : gC p c cX5_isWordHere s m ([.ref (ad 2), .ref (ad (200 + ti))] : List Value).toArray RX5 D cy ad A := g_start B hB
  have hI := g_first hB
  have hx := hC.1
  have hb := hC.2.1
  have hr := B.returns
  have hlocks := B.notSynchronized
  clear B hB
  have J7 : ∀ (n7 : Nat) (x2 : Int32) (x3 : Int32) (σ : gS) (H : Heap) (locs : List Loc) (ls : Array Slot), w_X5_isWordHere_7 Q ti n7 x2 x3 σ → gI D cy ad A s.heap σ H locs → lv_has ls 4 [(0, .ref (ad 2)), (1, .ref (ad (200 + ti))), (2, .int x2), (3, .int x3)] → W p l e (headSpec ws_X5_isWordHere rm_X5_isWordHere).room s m ([.ref (ad 2), .ref (ad (200 + ti))] : List Value).toArray below meth c H locs 0 0 (MQ below (va_Qi Q (gB D cy ad A) A) ([.ref (ad 2), .ref (ad (200 + ti))] : List Value).toArray s 0 0 A) (F0 m 7 ls []) := by
    intro n7
    induction n7 with
    | zero => intro x2 x3 σ H locs ls h; exact absurd h (fun h => h)
    | succ n7 ih7 =>
      intro x2 x3 σ H locs ls h hI hl
      unfold w_X5_isWordHere_7 at h
      refine lv_iload_n hx hb dX5_isWordHere_7 rfl (lv_at hl 3 rfl) ?_
      refine lv_iload_n hx hb dX5_isWordHere_8 rfl (lv_at hl 2 rfl) ?_
      refine lv_icmp_ge (tgt := 41) hx hb dX5_isWordHere_9 (by decide) (fun c1 => ?_) (fun c1 => ?_)
      · have h := h.1 c1
        refine lv_aload_n hx hb dX5_isWordHere_41 rfl (lv_at hl 0 rfl) ?_
        refine gg_X5_tape hC hI gw_1_54 dX5_isWordHere_42 ?_
        refine lv_aload_n hx hb dX5_isWordHere_45 rfl (lv_at hl 0 rfl) ?_
        refine gg_X5_next hC hI gw_1_55 dX5_isWordHere_46 ?_
        refine lv_iload_n hx hb dX5_isWordHere_49 rfl (lv_at hl 2 rfl) ?_
        refine lv_iadd hx hb dX5_isWordHere_50 ?_
        refine g_backi hI (g_runV (As := [.int ((σ 17 0) + x2)]) (rest := []) hC hml hI (c_X6_byteAt l D cy ad A _  _ _ h) k_X6_byteAt gw_4_84 ⟨rfl, rfl⟩ ⟨Nat.le_of_ble_eq_true rfl, Nat.le_of_ble_eq_true rfl⟩ (grv_1 hC hI) rfl hl.1 rfl (Nat.le_of_ble_eq_true rfl) dX5_isWordHere_51 ⟨Nat.le_of_ble_eq_true rfl, Nat.le_of_ble_eq_true rfl⟩) (fun r3 s2 H locs h hI => ?_)
        refine g_backi hI (g_runS (As := [.int r3]) (rest := []) hC hml hI (c_X5_isLetter l D cy ad A _  _ _ h) k_X5_isLetter gw_4_145 ⟨rfl, rfl⟩ ⟨Nat.le_of_ble_eq_true rfl, Nat.le_of_ble_eq_true rfl⟩ rfl hl.1 rfl (Nat.le_of_ble_eq_true rfl) dX5_isWordHere_54 ⟨Nat.le_of_ble_eq_true rfl, Nat.le_of_ble_eq_true rfl⟩) (fun r5 s4 H locs h hI => ?_)
        refine lv_if_ne (tgt := 64) hx hb dX5_isWordHere_57 (by decide) (fun c6 => ?_) (fun c6 => ?_)
        · have h := h.1 c6
          refine lv_iconst (v := 0) hx hb dX5_isWordHere_64 (by decide) ?_
          exact g_zret hC hr hlocks rfl hI h dX5_isWordHere_65
        · have h := h.2 c6
          refine lv_iconst (v := 1) hx hb dX5_isWordHere_60 (by decide) ?_
          refine lv_goto (tgt := 65) hx hb dX5_isWordHere_61 (by decide) ?_
          exact g_zret hC hr hlocks rfl hI h dX5_isWordHere_65
      · have h := h.2 c1
        refine lv_aload_n hx hb dX5_isWordHere_12 rfl (lv_at hl 0 rfl) ?_
        refine gg_X5_tape hC hI gw_1_54 dX5_isWordHere_13 ?_
        refine lv_aload_n hx hb dX5_isWordHere_16 rfl (lv_at hl 0 rfl) ?_
        refine gg_X5_next hC hI gw_1_55 dX5_isWordHere_17 ?_
        refine lv_iload_n hx hb dX5_isWordHere_20 rfl (lv_at hl 3 rfl) ?_
        refine lv_iadd hx hb dX5_isWordHere_21 ?_
        refine g_backi hI (g_runV (As := [.int ((σ 17 0) + x3)]) (rest := []) hC hml hI (c_X6_byteAt l D cy ad A _  _ _ h) k_X6_byteAt gw_4_84 ⟨rfl, rfl⟩ ⟨Nat.le_of_ble_eq_true rfl, Nat.le_of_ble_eq_true rfl⟩ (grv_1 hC hI) rfl hl.1 rfl (Nat.le_of_ble_eq_true rfl) dX5_isWordHere_22 ⟨Nat.le_of_ble_eq_true rfl, Nat.le_of_ble_eq_true rfl⟩) (fun r8 s7 H locs h hI => ?_)
        refine lv_aload_n hx hb dX5_isWordHere_25 rfl (lv_at hl 1 rfl) ?_
        refine lv_iload_n hx hb dX5_isWordHere_26 rfl (lv_at hl 3 rfl) ?_
        refine g_backi hI (g_runV (As := [.int x3]) (rest := [.int r8]) hC hml hI (c_J0_charAt_5068e l D cy ad A _ _ hti  _ _ h) k_J0_charAt_5068e gw_4_107 ⟨rfl, rfl⟩ ⟨Nat.le_of_ble_eq_true rfl, Nat.le_of_ble_eq_true rfl⟩ (gx_recv hti hC hI) rfl hl.1 rfl (Nat.le_of_ble_eq_true rfl) dX5_isWordHere_27 ⟨Nat.le_of_ble_eq_true rfl, Nat.le_of_ble_eq_true rfl⟩) (fun r10 s9 H locs h hI => ?_)
        refine lv_icmp_eq (tgt := 35) hx hb dX5_isWordHere_30 (by decide) (fun c11 => ?_) (fun c11 => ?_)
        · have h := h.1 c11
          obtain ⟨y12, ey12⟩ : ∃ y : Int32, y = x3 + 1 := ⟨_, rfl⟩
          have h := h y12 ey12
          refine lv_iinc (v := y12) (lv' := [(3, .int y12), (0, .ref (ad 2)), (1, .ref (ad (200 + ti))), (2, .int x2)]) hx hb dX5_isWordHere_35 hl (k := 3) rfl (by rw [ey12]; rfl) (by decide) rfl (fun ls hl => ?_)
          refine lv_goto (tgt := 7) hx hb dX5_isWordHere_38 (by decide) ?_
          exact ih7 _ _ _ _ _ _ h hI (lv_sub hl [1, 2, 3, 0] rfl)
        · have h := h.2 c11
          refine lv_iconst (v := 0) hx hb dX5_isWordHere_33 (by decide) ?_
          exact g_zret hC hr hlocks rfl hI h dX5_isWordHere_34
  have hl := lv_entry ([.ref (ad 2), .ref (ad (200 + ti))]) (n := 4) (Nat.le_of_ble_eq_true rfl)
  rw [lg_entry_eq]
  generalize (lg_sl ([.ref (ad 2), .ref (ad (200 + ti))]) ++ List.replicate (4 - (lg_sl ([.ref (ad 2), .ref (ad (200 + ti))])).length) Slot.unset).toArray = ls at hl ⊢
  have hl : lv_has ls 4 [(0, .ref (ad 2)), (1, .ref (ad (200 + ti)))] := hl
  unfold w_X5_isWordHere at h
  refine lv_aload_n hx hb dX5_isWordHere_0 rfl (lv_at hl 1 rfl) ?_
  refine g_backi hI (g_runV (As := []) (rest := []) hC hml hI (c_J0_length_8abf5 l D cy ad A _ _ hti  _ h) k_J0_length_8abf5 gw_4_97 ⟨rfl, rfl⟩ ⟨Nat.le_of_ble_eq_true rfl, Nat.le_of_ble_eq_true rfl⟩ (gx_recv hti hC hI) rfl hl.1 rfl (Nat.le_of_ble_eq_true rfl) dX5_isWordHere_1 ⟨Nat.le_of_ble_eq_true rfl, Nat.le_of_ble_eq_true rfl⟩) (fun r14 s13 H locs h hI => ?_)
  refine lv_istore_n (lv' := [(2, .int r14), (0, .ref (ad 2)), (1, .ref (ad (200 + ti)))]) hx hb dX5_isWordHere_4 rfl hl (by decide) rfl (fun ls hl => ?_)
  refine lv_iconst (v := 0) hx hb dX5_isWordHere_5 (by decide) ?_
  refine lv_istore_n (lv' := [(3, .int 0), (2, .int r14), (0, .ref (ad 2)), (1, .ref (ad (200 + ti)))]) hx hb dX5_isWordHere_6 rfl hl (by decide) rfl (fun ls hl => ?_)
  obtain ⟨n9, h⟩ := h
  exact J7 n9 _ _ _ _ _ _ h hI (lv_sub hl [2, 3, 1, 0] rfl)

theorem dX5_kindHere_0 : decode cX5_kindHere 0 = .ok (.aload_n 0, 1) := by decide +kernel
theorem dX5_kindHere_1 : decode cX5_kindHere 1 = .ok (.ldc 67, 2) := by decide +kernel
theorem dX5_kindHere_3 : decode cX5_kindHere 3 = .ok (.invokevirtual 69, 3) := by decide +kernel
theorem dX5_kindHere_6 : decode cX5_kindHere 6 = .ok (.ifCond .eq 5, 3) := by decide +kernel
theorem dX5_kindHere_9 : decode cX5_kindHere 9 = .ok (.iconst 0, 1) := by decide +kernel
theorem dX5_kindHere_10 : decode cX5_kindHere 10 = .ok (.ireturn, 1) := by decide +kernel
theorem dX5_kindHere_11 : decode cX5_kindHere 11 = .ok (.aload_n 0, 1) := by decide +kernel
theorem dX5_kindHere_12 : decode cX5_kindHere 12 = .ok (.ldc 73, 2) := by decide +kernel
theorem dX5_kindHere_14 : decode cX5_kindHere 14 = .ok (.invokevirtual 69, 3) := by decide +kernel
theorem dX5_kindHere_17 : decode cX5_kindHere 17 = .ok (.ifCond .eq 5, 3) := by decide +kernel
theorem dX5_kindHere_20 : decode cX5_kindHere 20 = .ok (.iconst 1, 1) := by decide +kernel
theorem dX5_kindHere_21 : decode cX5_kindHere 21 = .ok (.ireturn, 1) := by decide +kernel
theorem dX5_kindHere_22 : decode cX5_kindHere 22 = .ok (.aload_n 0, 1) := by decide +kernel
theorem dX5_kindHere_23 : decode cX5_kindHere 23 = .ok (.ldc 75, 2) := by decide +kernel
theorem dX5_kindHere_25 : decode cX5_kindHere 25 = .ok (.invokevirtual 69, 3) := by decide +kernel
theorem dX5_kindHere_28 : decode cX5_kindHere 28 = .ok (.ifCond .eq 5, 3) := by decide +kernel
theorem dX5_kindHere_31 : decode cX5_kindHere 31 = .ok (.iconst 2, 1) := by decide +kernel
theorem dX5_kindHere_32 : decode cX5_kindHere 32 = .ok (.ireturn, 1) := by decide +kernel
theorem dX5_kindHere_33 : decode cX5_kindHere 33 = .ok (.aload_n 0, 1) := by decide +kernel
theorem dX5_kindHere_34 : decode cX5_kindHere 34 = .ok (.ldc 77, 2) := by decide +kernel
theorem dX5_kindHere_36 : decode cX5_kindHere 36 = .ok (.invokevirtual 69, 3) := by decide +kernel
theorem dX5_kindHere_39 : decode cX5_kindHere 39 = .ok (.ifCond .eq 5, 3) := by decide +kernel
theorem dX5_kindHere_42 : decode cX5_kindHere 42 = .ok (.iconst 3, 1) := by decide +kernel
theorem dX5_kindHere_43 : decode cX5_kindHere 43 = .ok (.ireturn, 1) := by decide +kernel
theorem dX5_kindHere_44 : decode cX5_kindHere 44 = .ok (.aload_n 0, 1) := by decide +kernel
theorem dX5_kindHere_45 : decode cX5_kindHere 45 = .ok (.ldc 79, 2) := by decide +kernel
theorem dX5_kindHere_47 : decode cX5_kindHere 47 = .ok (.invokevirtual 69, 3) := by decide +kernel
theorem dX5_kindHere_50 : decode cX5_kindHere 50 = .ok (.ifCond .eq 7, 3) := by decide +kernel
theorem dX5_kindHere_53 : decode cX5_kindHere 53 = .ok (.iconst 4, 1) := by decide +kernel
theorem dX5_kindHere_54 : decode cX5_kindHere 54 = .ok (.goto 4, 3) := by decide +kernel
theorem dX5_kindHere_57 : decode cX5_kindHere 57 = .ok (.iconst (-1), 1) := by decide +kernel
theorem dX5_kindHere_58 : decode cX5_kindHere 58 = .ok (.ireturn, 1) := by decide +kernel
def w_X5_kindHere (Q : Int32 → gS → Prop) (σ : gS) : Prop :=
    w_X5_isWordHere  (fun (r2 : Int32) (s1 : gS) => (r2 = 0 → w_X5_isWordHere  (fun (r5 : Int32) (s4 : gS) => (r5 = 0 → w_X5_isWordHere  (fun (r8 : Int32) (s7 : gS) => (r8 = 0 → w_X5_isWordHere  (fun (r11 : Int32) (s10 : gS) => (r11 = 0 → w_X5_isWordHere  (fun (r14 : Int32) (s13 : gS) => (r14 = 0 → Q (-1) s13) ∧ (¬ r14 = 0 → Q 4 s13)) 4 s10) ∧ (¬ r11 = 0 → Q 3 s10)) 3 s7) ∧ (¬ r8 = 0 → Q 2 s7)) 2 s4) ∧ (¬ r5 = 0 → Q 1 s4)) 1 s1) ∧ (¬ r2 = 0 → Q 0 s1)) 0 σ
abbrev ws_X5_kindHere : List Cond := Cond.code yX5_kindHere cX5_kindHere 1 (some .int) :: gG
abbrev rm_X5_kindHere : Room := { frames := 5, cells := 0, slots := 0, locals := 108 }
theorem k_X5_kindHere : gCV yX5_kindHere RX5 cX5_kindHere 1 (some .int) 0 := ⟨gw_4_90, gwp_29, gw_1_3, gw_4_91, rfl, by decide +kernel⟩
set_option maxHeartbeats 4000000 in
set_option maxRecDepth 100000 in
theorem c_X5_kindHere (l : Launch) (D : va_G) (cy : Nat → ClassId) (ad : Nat → Nat) (A : Nat → Prop) (Q : Int32 → gS → Prop) (σ : gS) (h : w_X5_kindHere Q σ) : Met l yX5_kindHere ws_X5_kindHere rm_X5_kindHere (va_Pc [.ref (ad 2)] (gB D cy ad A σ)) (va_Qi Q (gB D cy ad A) A) 0 0 A := by
  refine Met.ofW (cc := cX5_kindHere) (maxL := 1) (ret := (some .int)) (by decide) rfl ?_
  intro p e s m args below meth c s₁ B hml hv
  obtain ⟨rfl, hB⟩ := hv
  have hC : gC p c cX5_kindHere s m ([.ref (ad 2)] : List Value).toArray RX5 D cy ad A := g_start B hB
  have hI := g_first hB
  have hx := hC.1
  have hb := hC.2.1
  have hr := B.returns
  have hlocks := B.notSynchronized
  clear B hB
  have hl := lv_entry ([.ref (ad 2)]) (n := 1) (Nat.le_of_ble_eq_true rfl)
  rw [lg_entry_eq]
  generalize (lg_sl ([.ref (ad 2)]) ++ List.replicate (1 - (lg_sl ([.ref (ad 2)])).length) Slot.unset).toArray = ls at hl ⊢
  have hl : lv_has ls 1 [(0, .ref (ad 2))] := hl
  unfold w_X5_kindHere at h
  refine lv_aload_n hx hb dX5_kindHere_0 rfl (lv_at hl 0 rfl) ?_
  refine gx_ldc (tx := "people") (i := 0) (by decide) hC dX5_kindHere_1 ?_
  refine g_backi hI (g_runV (As := [.ref (ad (200 + 0))]) (rest := []) hC hml hI (c_X5_isWordHere l D cy ad A _ _ (by decide)  _ h) k_X5_isWordHere gw_4_93 ⟨rfl, rfl⟩ ⟨Nat.le_of_ble_eq_true rfl, Nat.le_of_ble_eq_true rfl⟩ (grv_2 hC hI) rfl hl.1 rfl (Nat.le_of_ble_eq_true rfl) dX5_kindHere_3 ⟨Nat.le_of_ble_eq_true rfl, Nat.le_of_ble_eq_true rfl⟩) (fun r2 s1 H locs h hI => ?_)
  refine lv_if_eq (tgt := 11) hx hb dX5_kindHere_6 (by decide) (fun c3 => ?_) (fun c3 => ?_)
  · have h := h.1 c3
    refine lv_aload_n hx hb dX5_kindHere_11 rfl (lv_at hl 0 rfl) ?_
    refine gx_ldc (tx := "minutes") (i := 1) (by decide) hC dX5_kindHere_12 ?_
    refine g_backi hI (g_runV (As := [.ref (ad (200 + 1))]) (rest := []) hC hml hI (c_X5_isWordHere l D cy ad A _ _ (by decide)  _ h) k_X5_isWordHere gw_4_93 ⟨rfl, rfl⟩ ⟨Nat.le_of_ble_eq_true rfl, Nat.le_of_ble_eq_true rfl⟩ (grv_2 hC hI) rfl hl.1 rfl (Nat.le_of_ble_eq_true rfl) dX5_kindHere_14 ⟨Nat.le_of_ble_eq_true rfl, Nat.le_of_ble_eq_true rfl⟩) (fun r5 s4 H locs h hI => ?_)
    refine lv_if_eq (tgt := 22) hx hb dX5_kindHere_17 (by decide) (fun c6 => ?_) (fun c6 => ?_)
    · have h := h.1 c6
      refine lv_aload_n hx hb dX5_kindHere_22 rfl (lv_at hl 0 rfl) ?_
      refine gx_ldc (tx := "worst") (i := 2) (by decide) hC dX5_kindHere_23 ?_
      refine g_backi hI (g_runV (As := [.ref (ad (200 + 2))]) (rest := []) hC hml hI (c_X5_isWordHere l D cy ad A _ _ (by decide)  _ h) k_X5_isWordHere gw_4_93 ⟨rfl, rfl⟩ ⟨Nat.le_of_ble_eq_true rfl, Nat.le_of_ble_eq_true rfl⟩ (grv_2 hC hI) rfl hl.1 rfl (Nat.le_of_ble_eq_true rfl) dX5_kindHere_25 ⟨Nat.le_of_ble_eq_true rfl, Nat.le_of_ble_eq_true rfl⟩) (fun r8 s7 H locs h hI => ?_)
      refine lv_if_eq (tgt := 33) hx hb dX5_kindHere_28 (by decide) (fun c9 => ?_) (fun c9 => ?_)
      · have h := h.1 c9
        refine lv_aload_n hx hb dX5_kindHere_33 rfl (lv_at hl 0 rfl) ?_
        refine gx_ldc (tx := "tents") (i := 3) (by decide) hC dX5_kindHere_34 ?_
        refine g_backi hI (g_runV (As := [.ref (ad (200 + 3))]) (rest := []) hC hml hI (c_X5_isWordHere l D cy ad A _ _ (by decide)  _ h) k_X5_isWordHere gw_4_93 ⟨rfl, rfl⟩ ⟨Nat.le_of_ble_eq_true rfl, Nat.le_of_ble_eq_true rfl⟩ (grv_2 hC hI) rfl hl.1 rfl (Nat.le_of_ble_eq_true rfl) dX5_kindHere_36 ⟨Nat.le_of_ble_eq_true rfl, Nat.le_of_ble_eq_true rfl⟩) (fun r11 s10 H locs h hI => ?_)
        refine lv_if_eq (tgt := 44) hx hb dX5_kindHere_39 (by decide) (fun c12 => ?_) (fun c12 => ?_)
        · have h := h.1 c12
          refine lv_aload_n hx hb dX5_kindHere_44 rfl (lv_at hl 0 rfl) ?_
          refine gx_ldc (tx := "noise") (i := 4) (by decide) hC dX5_kindHere_45 ?_
          refine g_backi hI (g_runV (As := [.ref (ad (200 + 4))]) (rest := []) hC hml hI (c_X5_isWordHere l D cy ad A _ _ (by decide)  _ h) k_X5_isWordHere gw_4_93 ⟨rfl, rfl⟩ ⟨Nat.le_of_ble_eq_true rfl, Nat.le_of_ble_eq_true rfl⟩ (grv_2 hC hI) rfl hl.1 rfl (Nat.le_of_ble_eq_true rfl) dX5_kindHere_47 ⟨Nat.le_of_ble_eq_true rfl, Nat.le_of_ble_eq_true rfl⟩) (fun r14 s13 H locs h hI => ?_)
          refine lv_if_eq (tgt := 57) hx hb dX5_kindHere_50 (by decide) (fun c15 => ?_) (fun c15 => ?_)
          · have h := h.1 c15
            refine lv_iconst (v := (-1)) hx hb dX5_kindHere_57 (by decide) ?_
            exact g_iret hC hr hlocks hI h dX5_kindHere_58
          · have h := h.2 c15
            refine lv_iconst (v := 4) hx hb dX5_kindHere_53 (by decide) ?_
            refine lv_goto (tgt := 58) hx hb dX5_kindHere_54 (by decide) ?_
            exact g_iret hC hr hlocks hI h dX5_kindHere_58
        · have h := h.2 c12
          refine lv_iconst (v := 3) hx hb dX5_kindHere_42 (by decide) ?_
          exact g_iret hC hr hlocks hI h dX5_kindHere_43
      · have h := h.2 c9
        refine lv_iconst (v := 2) hx hb dX5_kindHere_31 (by decide) ?_
        exact g_iret hC hr hlocks hI h dX5_kindHere_32
    · have h := h.2 c6
      refine lv_iconst (v := 1) hx hb dX5_kindHere_20 (by decide) ?_
      exact g_iret hC hr hlocks hI h dX5_kindHere_21
  · have h := h.2 c3
    refine lv_iconst (v := 0) hx hb dX5_kindHere_9 (by decide) ?_
    exact g_iret hC hr hlocks hI h dX5_kindHere_10

theorem dX5_readWord_0 : decode cX5_readWord 0 = .ok (.aload_n 0, 1) := by decide +kernel
theorem dX5_readWord_1 : decode cX5_readWord 1 = .ok (.getfield 19, 3) := by decide +kernel
theorem dX5_readWord_4 : decode cX5_readWord 4 = .ok (.iconst (-1), 1) := by decide +kernel
theorem dX5_readWord_5 : decode cX5_readWord 5 = .ok (.if_icmp .eq 4, 3) := by decide +kernel
theorem dX5_readWord_8 : decode cX5_readWord 8 = .ok (.return_, 1) := by decide +kernel
theorem dX5_readWord_9 : decode cX5_readWord 9 = .ok (.aload_n 0, 1) := by decide +kernel
theorem dX5_readWord_10 : decode cX5_readWord 10 = .ok (.invokevirtual 31, 3) := by decide +kernel
theorem dX5_readWord_13 : decode cX5_readWord 13 = .ok (.aload_n 0, 1) := by decide +kernel
theorem dX5_readWord_14 : decode cX5_readWord 14 = .ok (.aload_n 1, 1) := by decide +kernel
theorem dX5_readWord_15 : decode cX5_readWord 15 = .ok (.invokevirtual 69, 3) := by decide +kernel
theorem dX5_readWord_18 : decode cX5_readWord 18 = .ok (.ifCond .eq 10, 3) := by decide +kernel
theorem dX5_readWord_21 : decode cX5_readWord 21 = .ok (.aload_n 0, 1) := by decide +kernel
theorem dX5_readWord_22 : decode cX5_readWord 22 = .ok (.invokevirtual 45, 3) := by decide +kernel
theorem dX5_readWord_25 : decode cX5_readWord 25 = .ok (.goto 11, 3) := by decide +kernel
theorem dX5_readWord_28 : decode cX5_readWord 28 = .ok (.aload_n 0, 1) := by decide +kernel
theorem dX5_readWord_29 : decode cX5_readWord 29 = .ok (.aload_n 0, 1) := by decide +kernel
theorem dX5_readWord_30 : decode cX5_readWord 30 = .ok (.getfield 15, 3) := by decide +kernel
theorem dX5_readWord_33 : decode cX5_readWord 33 = .ok (.putfield 19, 3) := by decide +kernel
theorem dX5_readWord_36 : decode cX5_readWord 36 = .ok (.return_, 1) := by decide +kernel
def w_X5_readWord (Q : gS → Prop) (ti : Nat) (σ : gS) : Prop :=
    ((σ 18 0) = (-1) → w_X5_skipBlanks  (fun (s2 : gS) => w_X5_isWordHere  (fun (r5 : Int32) (s4 : gS) => (r5 = 0 → ∀ s7 : gS, s7 = gu s4 18 0 (s4 17 0) → Q s7) ∧ (¬ r5 = 0 → w_X5_skipWord  (fun (s8 : gS) => Q s8) s4)) ti s2) σ) ∧ (¬ (σ 18 0) = (-1) → Q σ)
abbrev ws_X5_readWord : List Cond := Cond.code yX5_readWord cX5_readWord 2 none :: gG
abbrev rm_X5_readWord : Room := { frames := 5, cells := 0, slots := 0, locals := 108 }
theorem k_X5_readWord : gCV yX5_readWord RX5 cX5_readWord 2 none 1 := ⟨gw_4_170, gwp_33, gw_1_3, gw_4_171, rfl, by decide +kernel⟩
set_option maxHeartbeats 4000000 in
set_option maxRecDepth 100000 in
theorem c_X5_readWord (l : Launch) (D : va_G) (cy : Nat → ClassId) (ad : Nat → Nat) (A : Nat → Prop) (Q : gS → Prop) (ti : Nat) (hti : ti < 14) (σ : gS) (h : w_X5_readWord Q ti σ) : Met l yX5_readWord ws_X5_readWord rm_X5_readWord (va_Pc [.ref (ad 2), .ref (ad (200 + ti))] (gB D cy ad A σ)) (va_Qv Q (gB D cy ad A) A) 0 0 A := by
  refine Met.ofW (cc := cX5_readWord) (maxL := 2) (ret := none) (by decide) rfl ?_
  intro p e s m args below meth c s₁ B hml hv
  obtain ⟨rfl, hB⟩ := hv
  have hC : gC p c cX5_readWord s m ([.ref (ad 2), .ref (ad (200 + ti))] : List Value).toArray RX5 D cy ad A := g_start B hB
  have hI := g_first hB
  have hx := hC.1
  have hb := hC.2.1
  have hr := B.returns
  have hlocks := B.notSynchronized
  clear B hB
  have hl := lv_entry ([.ref (ad 2), .ref (ad (200 + ti))]) (n := 2) (Nat.le_of_ble_eq_true rfl)
  rw [lg_entry_eq]
  generalize (lg_sl ([.ref (ad 2), .ref (ad (200 + ti))]) ++ List.replicate (2 - (lg_sl ([.ref (ad 2), .ref (ad (200 + ti))])).length) Slot.unset).toArray = ls at hl ⊢
  have hl : lv_has ls 2 [(0, .ref (ad 2)), (1, .ref (ad (200 + ti)))] := hl
  unfold w_X5_readWord at h
  refine lv_aload_n hx hb dX5_readWord_0 rfl (lv_at hl 0 rfl) ?_
  refine gg_X5_wrong hC hI gw_1_56 dX5_readWord_1 ?_
  refine lv_iconst (v := (-1)) hx hb dX5_readWord_4 (by decide) ?_
  refine lv_icmp_eq (tgt := 9) hx hb dX5_readWord_5 (by decide) (fun c1 => ?_) (fun c1 => ?_)
  · have h := h.1 c1
    refine lv_aload_n hx hb dX5_readWord_9 rfl (lv_at hl 0 rfl) ?_
    refine g_backv hI (g_runV (As := []) (rest := []) hC hml hI (c_X5_skipBlanks l D cy ad A _  _ h) k_X5_skipBlanks gw_4_80 ⟨rfl, rfl⟩ ⟨Nat.le_of_ble_eq_true rfl, Nat.le_of_ble_eq_true rfl⟩ (grv_2 hC hI) rfl hl.1 rfl (Nat.le_of_ble_eq_true rfl) dX5_readWord_10 ⟨Nat.le_of_ble_eq_true rfl, Nat.le_of_ble_eq_true rfl⟩) (fun s2 H locs h hI => ?_)
    refine lv_aload_n hx hb dX5_readWord_13 rfl (lv_at hl 0 rfl) ?_
    refine lv_aload_n hx hb dX5_readWord_14 rfl (lv_at hl 1 rfl) ?_
    refine g_backi hI (g_runV (As := [.ref (ad (200 + ti))]) (rest := []) hC hml hI (c_X5_isWordHere l D cy ad A _ _ hti  _ h) k_X5_isWordHere gw_4_93 ⟨rfl, rfl⟩ ⟨Nat.le_of_ble_eq_true rfl, Nat.le_of_ble_eq_true rfl⟩ (grv_2 hC hI) rfl hl.1 rfl (Nat.le_of_ble_eq_true rfl) dX5_readWord_15 ⟨Nat.le_of_ble_eq_true rfl, Nat.le_of_ble_eq_true rfl⟩) (fun r5 s4 H locs h hI => ?_)
    refine lv_if_eq (tgt := 28) hx hb dX5_readWord_18 (by decide) (fun c6 => ?_) (fun c6 => ?_)
    · have h := h.1 c6
      refine lv_aload_n hx hb dX5_readWord_28 rfl (lv_at hl 0 rfl) ?_
      refine lv_aload_n hx hb dX5_readWord_29 rfl (lv_at hl 0 rfl) ?_
      refine gg_X5_next hC hI gw_1_55 dX5_readWord_30 ?_
      refine gp_X5_wrong hC hI gw_1_56 dX5_readWord_33 (fun s7 H locs es7 hI => ?_)
      have h := h s7 es7
      exact g_vret hC hr hlocks hI h dX5_readWord_36
    · have h := h.2 c6
      refine lv_aload_n hx hb dX5_readWord_21 rfl (lv_at hl 0 rfl) ?_
      refine g_backv hI (g_runV (As := []) (rest := []) hC hml hI (c_X5_skipWord l D cy ad A _  _ h) k_X5_skipWord gw_4_152 ⟨rfl, rfl⟩ ⟨Nat.le_of_ble_eq_true rfl, Nat.le_of_ble_eq_true rfl⟩ (grv_2 hC hI) rfl hl.1 rfl (Nat.le_of_ble_eq_true rfl) dX5_readWord_22 ⟨Nat.le_of_ble_eq_true rfl, Nat.le_of_ble_eq_true rfl⟩) (fun s8 H locs h hI => ?_)
      refine lv_goto (tgt := 36) hx hb dX5_readWord_25 (by decide) ?_
      exact g_vret hC hr hlocks hI h dX5_readWord_36
  · have h := h.2 c1
    exact g_vret hC hr hlocks hI h dX5_readWord_8

theorem dX5_readNumber_0 : decode cX5_readNumber 0 = .ok (.aload_n 0, 1) := by decide +kernel
theorem dX5_readNumber_1 : decode cX5_readNumber 1 = .ok (.getfield 19, 3) := by decide +kernel
theorem dX5_readNumber_4 : decode cX5_readNumber 4 = .ok (.iconst (-1), 1) := by decide +kernel
theorem dX5_readNumber_5 : decode cX5_readNumber 5 = .ok (.if_icmp .eq 5, 3) := by decide +kernel
theorem dX5_readNumber_8 : decode cX5_readNumber 8 = .ok (.iconst (-1), 1) := by decide +kernel
theorem dX5_readNumber_9 : decode cX5_readNumber 9 = .ok (.ireturn, 1) := by decide +kernel
theorem dX5_readNumber_10 : decode cX5_readNumber 10 = .ok (.aload_n 0, 1) := by decide +kernel
theorem dX5_readNumber_11 : decode cX5_readNumber 11 = .ok (.invokevirtual 31, 3) := by decide +kernel
theorem dX5_readNumber_14 : decode cX5_readNumber 14 = .ok (.aload_n 0, 1) := by decide +kernel
theorem dX5_readNumber_15 : decode cX5_readNumber 15 = .ok (.getfield 15, 3) := by decide +kernel
theorem dX5_readNumber_18 : decode cX5_readNumber 18 = .ok (.istore_n 3, 1) := by decide +kernel
theorem dX5_readNumber_19 : decode cX5_readNumber 19 = .ok (.iconst 0, 1) := by decide +kernel
theorem dX5_readNumber_20 : decode cX5_readNumber 20 = .ok (.istore 4, 2) := by decide +kernel
theorem dX5_readNumber_22 : decode cX5_readNumber 22 = .ok (.aload_n 0, 1) := by decide +kernel
theorem dX5_readNumber_23 : decode cX5_readNumber 23 = .ok (.getfield 15, 3) := by decide +kernel
theorem dX5_readNumber_26 : decode cX5_readNumber 26 = .ok (.aload_n 0, 1) := by decide +kernel
theorem dX5_readNumber_27 : decode cX5_readNumber 27 = .ok (.getfield 9, 3) := by decide +kernel
theorem dX5_readNumber_30 : decode cX5_readNumber 30 = .ok (.getfield 34, 3) := by decide +kernel
theorem dX5_readNumber_33 : decode cX5_readNumber 33 = .ok (.if_icmp .ge 66, 3) := by decide +kernel
theorem dX5_readNumber_36 : decode cX5_readNumber 36 = .ok (.aload_n 0, 1) := by decide +kernel
theorem dX5_readNumber_37 : decode cX5_readNumber 37 = .ok (.getfield 9, 3) := by decide +kernel
theorem dX5_readNumber_40 : decode cX5_readNumber 40 = .ok (.aload_n 0, 1) := by decide +kernel
theorem dX5_readNumber_41 : decode cX5_readNumber 41 = .ok (.getfield 15, 3) := by decide +kernel
theorem dX5_readNumber_44 : decode cX5_readNumber 44 = .ok (.invokevirtual 37, 3) := by decide +kernel
theorem dX5_readNumber_47 : decode cX5_readNumber 47 = .ok (.invokestatic 86, 3) := by decide +kernel
theorem dX5_readNumber_50 : decode cX5_readNumber 50 = .ok (.ifCond .eq 49, 3) := by decide +kernel
theorem dX5_readNumber_53 : decode cX5_readNumber 53 = .ok (.aload_n 0, 1) := by decide +kernel
theorem dX5_readNumber_54 : decode cX5_readNumber 54 = .ok (.getfield 15, 3) := by decide +kernel
theorem dX5_readNumber_57 : decode cX5_readNumber 57 = .ok (.iload_n 3, 1) := by decide +kernel
theorem dX5_readNumber_58 : decode cX5_readNumber 58 = .ok (.isub, 1) := by decide +kernel
theorem dX5_readNumber_59 : decode cX5_readNumber 59 = .ok (.bipush 6, 2) := by decide +kernel
theorem dX5_readNumber_61 : decode cX5_readNumber 61 = .ok (.if_icmp .ge 25, 3) := by decide +kernel
theorem dX5_readNumber_64 : decode cX5_readNumber 64 = .ok (.bipush 10, 2) := by decide +kernel
theorem dX5_readNumber_66 : decode cX5_readNumber 66 = .ok (.iload 4, 2) := by decide +kernel
theorem dX5_readNumber_68 : decode cX5_readNumber 68 = .ok (.imul, 1) := by decide +kernel
theorem dX5_readNumber_69 : decode cX5_readNumber 69 = .ok (.aload_n 0, 1) := by decide +kernel
theorem dX5_readNumber_70 : decode cX5_readNumber 70 = .ok (.getfield 9, 3) := by decide +kernel
theorem dX5_readNumber_73 : decode cX5_readNumber 73 = .ok (.aload_n 0, 1) := by decide +kernel
theorem dX5_readNumber_74 : decode cX5_readNumber 74 = .ok (.getfield 15, 3) := by decide +kernel
theorem dX5_readNumber_77 : decode cX5_readNumber 77 = .ok (.invokevirtual 37, 3) := by decide +kernel
theorem dX5_readNumber_80 : decode cX5_readNumber 80 = .ok (.iadd, 1) := by decide +kernel
theorem dX5_readNumber_81 : decode cX5_readNumber 81 = .ok (.bipush 48, 2) := by decide +kernel
theorem dX5_readNumber_83 : decode cX5_readNumber 83 = .ok (.isub, 1) := by decide +kernel
theorem dX5_readNumber_84 : decode cX5_readNumber 84 = .ok (.istore 4, 2) := by decide +kernel
theorem dX5_readNumber_86 : decode cX5_readNumber 86 = .ok (.aload_n 0, 1) := by decide +kernel
theorem dX5_readNumber_87 : decode cX5_readNumber 87 = .ok (.dup, 1) := by decide +kernel
theorem dX5_readNumber_88 : decode cX5_readNumber 88 = .ok (.getfield 15, 3) := by decide +kernel
theorem dX5_readNumber_91 : decode cX5_readNumber 91 = .ok (.iconst 1, 1) := by decide +kernel
theorem dX5_readNumber_92 : decode cX5_readNumber 92 = .ok (.iadd, 1) := by decide +kernel
theorem dX5_readNumber_93 : decode cX5_readNumber 93 = .ok (.putfield 15, 3) := by decide +kernel
theorem dX5_readNumber_96 : decode cX5_readNumber 96 = .ok (.goto (-74), 3) := by decide +kernel
theorem dX5_readNumber_99 : decode cX5_readNumber 99 = .ok (.aload_n 0, 1) := by decide +kernel
theorem dX5_readNumber_100 : decode cX5_readNumber 100 = .ok (.getfield 15, 3) := by decide +kernel
theorem dX5_readNumber_103 : decode cX5_readNumber 103 = .ok (.iload_n 3, 1) := by decide +kernel
theorem dX5_readNumber_104 : decode cX5_readNumber 104 = .ok (.isub, 1) := by decide +kernel
theorem dX5_readNumber_105 : decode cX5_readNumber 105 = .ok (.istore 5, 2) := by decide +kernel
theorem dX5_readNumber_107 : decode cX5_readNumber 107 = .ok (.iload 5, 2) := by decide +kernel
theorem dX5_readNumber_109 : decode cX5_readNumber 109 = .ok (.ifCond .eq 22, 3) := by decide +kernel
theorem dX5_readNumber_112 : decode cX5_readNumber 112 = .ok (.iload 5, 2) := by decide +kernel
theorem dX5_readNumber_114 : decode cX5_readNumber 114 = .ok (.bipush 6, 2) := by decide +kernel
theorem dX5_readNumber_116 : decode cX5_readNumber 116 = .ok (.if_icmp .gt 15, 3) := by decide +kernel
theorem dX5_readNumber_119 : decode cX5_readNumber 119 = .ok (.iload 4, 2) := by decide +kernel
theorem dX5_readNumber_121 : decode cX5_readNumber 121 = .ok (.iload_n 1, 1) := by decide +kernel
theorem dX5_readNumber_122 : decode cX5_readNumber 122 = .ok (.if_icmp .lt 9, 3) := by decide +kernel
theorem dX5_readNumber_125 : decode cX5_readNumber 125 = .ok (.iload 4, 2) := by decide +kernel
theorem dX5_readNumber_127 : decode cX5_readNumber 127 = .ok (.iload_n 2, 1) := by decide +kernel
theorem dX5_readNumber_128 : decode cX5_readNumber 128 = .ok (.if_icmp .le 10, 3) := by decide +kernel
theorem dX5_readNumber_131 : decode cX5_readNumber 131 = .ok (.aload_n 0, 1) := by decide +kernel
theorem dX5_readNumber_132 : decode cX5_readNumber 132 = .ok (.iload_n 3, 1) := by decide +kernel
theorem dX5_readNumber_133 : decode cX5_readNumber 133 = .ok (.putfield 19, 3) := by decide +kernel
theorem dX5_readNumber_136 : decode cX5_readNumber 136 = .ok (.iconst (-1), 1) := by decide +kernel
theorem dX5_readNumber_137 : decode cX5_readNumber 137 = .ok (.ireturn, 1) := by decide +kernel
theorem dX5_readNumber_138 : decode cX5_readNumber 138 = .ok (.iload 4, 2) := by decide +kernel
theorem dX5_readNumber_140 : decode cX5_readNumber 140 = .ok (.ireturn, 1) := by decide +kernel
def w_X5_readNumber_131 (Q : Int32 → gS → Prop) (x3 : Int32) (σ : gS) : Prop :=
    ∀ s1 : gS, s1 = gu σ 18 0 x3 → Q (-1) s1
def w_X5_readNumber_99 (Q : Int32 → gS → Prop) (x1 : Int32) (x2 : Int32) (x3 : Int32) (x4 : Int32) (σ : gS) : Prop :=
    ∀ y2 : Int32, y2 = ((σ 17 0) - x3) → (y2 = 0 → w_X5_readNumber_131 Q x3 σ) ∧ (¬ y2 = 0 → (6 < y2 → w_X5_readNumber_131 Q x3 σ) ∧ (¬ 6 < y2 → (x4 < x1 → w_X5_readNumber_131 Q x3 σ) ∧ (¬ x4 < x1 → (x4 ≤ x2 → Q x4 σ) ∧ (¬ x4 ≤ x2 → w_X5_readNumber_131 Q x3 σ))))
def w_X5_readNumber_86 (Q : Int32 → gS → Prop) (k22 : Int32 → Int32 → Int32 → Int32 → gS → Prop) (x1 : Int32) (x2 : Int32) (x3 : Int32) (x4 : Int32) (σ : gS) : Prop :=
    ∀ s7 : gS, s7 = gu σ 17 0 ((σ 17 0) + 1) → k22 x1 x2 x3 x4 s7
def w_X5_readNumber_22 (Q : Int32 → gS → Prop) : Nat → Int32 → Int32 → Int32 → Int32 → gS → Prop
  | 0, _, _, _, _, _ => False
  | n22 + 1, x1, x2, x3, x4, σ =>
    ((σ 16 0) ≤ (σ 17 0) → w_X5_readNumber_99 Q x1 x2 x3 x4 σ) ∧ (¬ (σ 16 0) ≤ (σ 17 0) → w_X6_byteAt  (fun (r10 : Int32) (s9 : gS) => w_X5_isDigit  (fun (r12 : Int32) (s11 : gS) => (r12 = 0 → w_X5_readNumber_99 Q x1 x2 x3 x4 s11) ∧ (¬ r12 = 0 → (6 ≤ ((s11 17 0) - x3) → w_X5_readNumber_86 Q (w_X5_readNumber_22 Q n22) x1 x2 x3 x4 s11) ∧ (¬ 6 ≤ ((s11 17 0) - x3) → w_X6_byteAt  (fun (r16 : Int32) (s15 : gS) => ∀ y17 : Int32, y17 = (((10 * x4) + r16) - 48) → w_X5_readNumber_86 Q (w_X5_readNumber_22 Q n22) x1 x2 x3 y17 s15) s11 (s11 17 0)))) s9 r10) σ (σ 17 0))
def w_X5_readNumber (Q : Int32 → gS → Prop) (σ : gS) (a1 : Int32) (a2 : Int32) : Prop :=
    ((σ 18 0) = (-1) → w_X5_skipBlanks  (fun (s19 : gS) => ∀ y21 : Int32, y21 = (s19 17 0) → ∃ n22, w_X5_readNumber_22 Q n22 a1 a2 y21 0 s19) σ) ∧ (¬ (σ 18 0) = (-1) → Q (-1) σ)
abbrev ws_X5_readNumber : List Cond := Cond.code yX5_readNumber cX5_readNumber 6 (some .int) :: gG
abbrev rm_X5_readNumber : Room := { frames := 2, cells := 0, slots := 0, locals := 41 }
theorem k_X5_readNumber : gCV yX5_readNumber RX5 cX5_readNumber 6 (some .int) 2 := ⟨gw_4_162, gwp_32, gw_1_3, gw_4_163, rfl, by decide +kernel⟩
set_option maxHeartbeats 4000000 in
set_option maxRecDepth 100000 in
theorem c_X5_readNumber (l : Launch) (D : va_G) (cy : Nat → ClassId) (ad : Nat → Nat) (A : Nat → Prop) (Q : Int32 → gS → Prop) (σ : gS) (a1 : Int32) (a2 : Int32) (h : w_X5_readNumber Q σ a1 a2) : Met l yX5_readNumber ws_X5_readNumber rm_X5_readNumber (va_Pc [.ref (ad 2), .int a1, .int a2] (gB D cy ad A σ)) (va_Qi Q (gB D cy ad A) A) 0 0 A := by
  refine Met.ofW (cc := cX5_readNumber) (maxL := 6) (ret := (some .int)) (by decide) rfl ?_
  intro p e s m args below meth c s₁ B hml hv
  obtain ⟨rfl, hB⟩ := hv
  have hC : gC p c cX5_readNumber s m ([.ref (ad 2), .int a1, .int a2] : List Value).toArray RX5 D cy ad A := g_start B hB
  have hI := g_first hB
  have hx := hC.1
  have hb := hC.2.1
  have hr := B.returns
  have hlocks := B.notSynchronized
  clear B hB
  have J131 : ∀ (x3 : Int32) (σ : gS) (H : Heap) (locs : List Loc) (ls : Array Slot), w_X5_readNumber_131 Q x3 σ → gI D cy ad A s.heap σ H locs → lv_has ls 6 [(0, .ref (ad 2)), (3, .int x3)] → W p l e (headSpec ws_X5_readNumber rm_X5_readNumber).room s m ([.ref (ad 2), .int a1, .int a2] : List Value).toArray below meth c H locs 0 0 (MQ below (va_Qi Q (gB D cy ad A) A) ([.ref (ad 2), .int a1, .int a2] : List Value).toArray s 0 0 A) (F0 m 131 ls []) := by
    intro x3 σ H locs ls h hI hl
    unfold w_X5_readNumber_131 at h
    refine lv_aload_n hx hb dX5_readNumber_131 rfl (lv_at hl 0 rfl) ?_
    refine lv_iload_n hx hb dX5_readNumber_132 rfl (lv_at hl 1 rfl) ?_
    refine gp_X5_wrong hC hI gw_1_56 dX5_readNumber_133 (fun s1 H locs es1 hI => ?_)
    have h := h s1 es1
    refine lv_iconst (v := (-1)) hx hb dX5_readNumber_136 (by decide) ?_
    exact g_iret hC hr hlocks hI h dX5_readNumber_137
  have J99 : ∀ (x1 : Int32) (x2 : Int32) (x3 : Int32) (x4 : Int32) (σ : gS) (H : Heap) (locs : List Loc) (ls : Array Slot), w_X5_readNumber_99 Q x1 x2 x3 x4 σ → gI D cy ad A s.heap σ H locs → lv_has ls 6 [(0, .ref (ad 2)), (1, .int x1), (2, .int x2), (3, .int x3), (4, .int x4)] → W p l e (headSpec ws_X5_readNumber rm_X5_readNumber).room s m ([.ref (ad 2), .int a1, .int a2] : List Value).toArray below meth c H locs 0 0 (MQ below (va_Qi Q (gB D cy ad A) A) ([.ref (ad 2), .int a1, .int a2] : List Value).toArray s 0 0 A) (F0 m 99 ls []) := by
    intro x1 x2 x3 x4 σ H locs ls h hI hl
    unfold w_X5_readNumber_99 at h
    refine lv_aload_n hx hb dX5_readNumber_99 rfl (lv_at hl 0 rfl) ?_
    refine gg_X5_next hC hI gw_1_55 dX5_readNumber_100 ?_
    refine lv_iload_n hx hb dX5_readNumber_103 rfl (lv_at hl 3 rfl) ?_
    refine lv_isub hx hb dX5_readNumber_104 ?_
    refine lv_topi (fun y2 ey2 => ?_)
    have h := h y2 ey2
    refine lv_istore (lv' := [(5, .int y2), (0, .ref (ad 2)), (1, .int x1), (2, .int x2), (3, .int x3), (4, .int x4)]) hx hb dX5_readNumber_105 hl (by decide) rfl (fun ls hl => ?_)
    refine lv_iload hx hb dX5_readNumber_107 (lv_at hl 0 rfl) ?_
    refine lv_if_eq (tgt := 131) hx hb dX5_readNumber_109 (by decide) (fun c3 => ?_) (fun c3 => ?_)
    · have h := h.1 c3
      exact J131 _ _ _ _ _ h hI (lv_sub hl [1, 4] rfl)
    · have h := h.2 c3
      refine lv_iload hx hb dX5_readNumber_112 (lv_at hl 0 rfl) ?_
      refine lv_bipush (v := 6) hx hb dX5_readNumber_114 (by decide) ?_
      refine lv_icmp_gt (tgt := 131) hx hb dX5_readNumber_116 (by decide) (fun c4 => ?_) (fun c4 => ?_)
      · have h := h.1 c4
        exact J131 _ _ _ _ _ h hI (lv_sub hl [1, 4] rfl)
      · have h := h.2 c4
        refine lv_iload hx hb dX5_readNumber_119 (lv_at hl 5 rfl) ?_
        refine lv_iload_n hx hb dX5_readNumber_121 rfl (lv_at hl 2 rfl) ?_
        refine lv_icmp_lt (tgt := 131) hx hb dX5_readNumber_122 (by decide) (fun c5 => ?_) (fun c5 => ?_)
        · have h := h.1 c5
          exact J131 _ _ _ _ _ h hI (lv_sub hl [1, 4] rfl)
        · have h := h.2 c5
          refine lv_iload hx hb dX5_readNumber_125 (lv_at hl 5 rfl) ?_
          refine lv_iload_n hx hb dX5_readNumber_127 rfl (lv_at hl 3 rfl) ?_
          refine lv_icmp_le (tgt := 138) hx hb dX5_readNumber_128 (by decide) (fun c6 => ?_) (fun c6 => ?_)
          · have h := h.1 c6
            refine lv_iload hx hb dX5_readNumber_138 (lv_at hl 5 rfl) ?_
            exact g_iret hC hr hlocks hI h dX5_readNumber_140
          · have h := h.2 c6
            exact J131 _ _ _ _ _ h hI (lv_sub hl [1, 4] rfl)
  have J22 : ∀ (n22 : Nat) (x1 : Int32) (x2 : Int32) (x3 : Int32) (x4 : Int32) (σ : gS) (H : Heap) (locs : List Loc) (ls : Array Slot), w_X5_readNumber_22 Q n22 x1 x2 x3 x4 σ → gI D cy ad A s.heap σ H locs → lv_has ls 6 [(0, .ref (ad 2)), (1, .int x1), (2, .int x2), (3, .int x3), (4, .int x4)] → W p l e (headSpec ws_X5_readNumber rm_X5_readNumber).room s m ([.ref (ad 2), .int a1, .int a2] : List Value).toArray below meth c H locs 0 0 (MQ below (va_Qi Q (gB D cy ad A) A) ([.ref (ad 2), .int a1, .int a2] : List Value).toArray s 0 0 A) (F0 m 22 ls []) := by
    intro n22
    induction n22 with
    | zero => intro x1 x2 x3 x4 σ H locs ls h; exact absurd h (fun h => h)
    | succ n22 ih22 =>
      have J86 : ∀ (x1 : Int32) (x2 : Int32) (x3 : Int32) (x4 : Int32) (σ : gS) (H : Heap) (locs : List Loc) (ls : Array Slot), w_X5_readNumber_86 Q (w_X5_readNumber_22 Q n22) x1 x2 x3 x4 σ → gI D cy ad A s.heap σ H locs → lv_has ls 6 [(0, .ref (ad 2)), (1, .int x1), (2, .int x2), (3, .int x3), (4, .int x4)] → W p l e (headSpec ws_X5_readNumber rm_X5_readNumber).room s m ([.ref (ad 2), .int a1, .int a2] : List Value).toArray below meth c H locs 0 0 (MQ below (va_Qi Q (gB D cy ad A) A) ([.ref (ad 2), .int a1, .int a2] : List Value).toArray s 0 0 A) (F0 m 86 ls []) := by
        intro x1 x2 x3 x4 σ H locs ls h hI hl
        unfold w_X5_readNumber_86 at h
        refine lv_aload_n hx hb dX5_readNumber_86 rfl (lv_at hl 0 rfl) ?_
        refine lv_dup hx hb dX5_readNumber_87 rfl ?_
        refine gg_X5_next hC hI gw_1_55 dX5_readNumber_88 ?_
        refine lv_iconst (v := 1) hx hb dX5_readNumber_91 (by decide) ?_
        refine lv_iadd hx hb dX5_readNumber_92 ?_
        refine gp_X5_next hC hI gw_1_55 dX5_readNumber_93 (fun s7 H locs es7 hI => ?_)
        have h := h s7 es7
        refine lv_goto (tgt := 22) hx hb dX5_readNumber_96 (by decide) ?_
        exact ih22 _ _ _ _ _ _ _ _ h hI (lv_sub hl [0, 1, 2, 3, 4] rfl)
      intro x1 x2 x3 x4 σ H locs ls h hI hl
      unfold w_X5_readNumber_22 at h
      refine lv_aload_n hx hb dX5_readNumber_22 rfl (lv_at hl 0 rfl) ?_
      refine gg_X5_next hC hI gw_1_55 dX5_readNumber_23 ?_
      refine lv_aload_n hx hb dX5_readNumber_26 rfl (lv_at hl 0 rfl) ?_
      refine gg_X5_tape hC hI gw_1_54 dX5_readNumber_27 ?_
      refine gg_X6_size hC hI gw_1_40 dX5_readNumber_30 ?_
      refine lv_icmp_ge (tgt := 99) hx hb dX5_readNumber_33 (by decide) (fun c8 => ?_) (fun c8 => ?_)
      · have h := h.1 c8
        exact J99 _ _ _ _ _ _ _ _ h hI (lv_sub hl [0, 1, 2, 3, 4] rfl)
      · have h := h.2 c8
        refine lv_aload_n hx hb dX5_readNumber_36 rfl (lv_at hl 0 rfl) ?_
        refine gg_X5_tape hC hI gw_1_54 dX5_readNumber_37 ?_
        refine lv_aload_n hx hb dX5_readNumber_40 rfl (lv_at hl 0 rfl) ?_
        refine gg_X5_next hC hI gw_1_55 dX5_readNumber_41 ?_
        refine g_backi hI (g_runV (As := [.int (σ 17 0)]) (rest := []) hC hml hI (c_X6_byteAt l D cy ad A _  _ _ h) k_X6_byteAt gw_4_84 ⟨rfl, rfl⟩ ⟨Nat.le_of_ble_eq_true rfl, Nat.le_of_ble_eq_true rfl⟩ (grv_1 hC hI) rfl hl.1 rfl (Nat.le_of_ble_eq_true rfl) dX5_readNumber_44 ⟨Nat.le_of_ble_eq_true rfl, Nat.le_of_ble_eq_true rfl⟩) (fun r10 s9 H locs h hI => ?_)
        refine g_backi hI (g_runS (As := [.int r10]) (rest := []) hC hml hI (c_X5_isDigit l D cy ad A _  _ _ h) k_X5_isDigit gw_4_164 ⟨rfl, rfl⟩ ⟨Nat.le_of_ble_eq_true rfl, Nat.le_of_ble_eq_true rfl⟩ rfl hl.1 rfl (Nat.le_of_ble_eq_true rfl) dX5_readNumber_47 ⟨Nat.le_of_ble_eq_true rfl, Nat.le_of_ble_eq_true rfl⟩) (fun r12 s11 H locs h hI => ?_)
        refine lv_if_eq (tgt := 99) hx hb dX5_readNumber_50 (by decide) (fun c13 => ?_) (fun c13 => ?_)
        · have h := h.1 c13
          exact J99 _ _ _ _ _ _ _ _ h hI (lv_sub hl [0, 1, 2, 3, 4] rfl)
        · have h := h.2 c13
          refine lv_aload_n hx hb dX5_readNumber_53 rfl (lv_at hl 0 rfl) ?_
          refine gg_X5_next hC hI gw_1_55 dX5_readNumber_54 ?_
          refine lv_iload_n hx hb dX5_readNumber_57 rfl (lv_at hl 3 rfl) ?_
          refine lv_isub hx hb dX5_readNumber_58 ?_
          refine lv_bipush (v := 6) hx hb dX5_readNumber_59 (by decide) ?_
          refine lv_icmp_ge (tgt := 86) hx hb dX5_readNumber_61 (by decide) (fun c14 => ?_) (fun c14 => ?_)
          · have h := h.1 c14
            exact J86 _ _ _ _ _ _ _ _ h hI (lv_sub hl [0, 1, 2, 3, 4] rfl)
          · have h := h.2 c14
            refine lv_bipush (v := 10) hx hb dX5_readNumber_64 (by decide) ?_
            refine lv_iload hx hb dX5_readNumber_66 (lv_at hl 4 rfl) ?_
            refine lv_imul hx hb dX5_readNumber_68 ?_
            refine lv_aload_n hx hb dX5_readNumber_69 rfl (lv_at hl 0 rfl) ?_
            refine gg_X5_tape hC hI gw_1_54 dX5_readNumber_70 ?_
            refine lv_aload_n hx hb dX5_readNumber_73 rfl (lv_at hl 0 rfl) ?_
            refine gg_X5_next hC hI gw_1_55 dX5_readNumber_74 ?_
            refine g_backi hI (g_runV (As := [.int (s11 17 0)]) (rest := [.int (10 * x4)]) hC hml hI (c_X6_byteAt l D cy ad A _  _ _ h) k_X6_byteAt gw_4_84 ⟨rfl, rfl⟩ ⟨Nat.le_of_ble_eq_true rfl, Nat.le_of_ble_eq_true rfl⟩ (grv_1 hC hI) rfl hl.1 rfl (Nat.le_of_ble_eq_true rfl) dX5_readNumber_77 ⟨Nat.le_of_ble_eq_true rfl, Nat.le_of_ble_eq_true rfl⟩) (fun r16 s15 H locs h hI => ?_)
            refine lv_iadd hx hb dX5_readNumber_80 ?_
            refine lv_bipush (v := 48) hx hb dX5_readNumber_81 (by decide) ?_
            refine lv_isub hx hb dX5_readNumber_83 ?_
            refine lv_topi (fun y17 ey17 => ?_)
            have h := h y17 ey17
            refine lv_istore (lv' := [(4, .int y17), (0, .ref (ad 2)), (1, .int x1), (2, .int x2), (3, .int x3)]) hx hb dX5_readNumber_84 hl (by decide) rfl (fun ls hl => ?_)
            exact J86 _ _ _ _ _ _ _ _ h hI (lv_sub hl [1, 2, 3, 4, 0] rfl)
  have hl := lv_entry ([.ref (ad 2), .int a1, .int a2]) (n := 6) (Nat.le_of_ble_eq_true rfl)
  rw [lg_entry_eq]
  generalize (lg_sl ([.ref (ad 2), .int a1, .int a2]) ++ List.replicate (6 - (lg_sl ([.ref (ad 2), .int a1, .int a2])).length) Slot.unset).toArray = ls at hl ⊢
  have hl : lv_has ls 6 [(0, .ref (ad 2)), (1, .int a1), (2, .int a2)] := hl
  unfold w_X5_readNumber at h
  refine lv_aload_n hx hb dX5_readNumber_0 rfl (lv_at hl 0 rfl) ?_
  refine gg_X5_wrong hC hI gw_1_56 dX5_readNumber_1 ?_
  refine lv_iconst (v := (-1)) hx hb dX5_readNumber_4 (by decide) ?_
  refine lv_icmp_eq (tgt := 10) hx hb dX5_readNumber_5 (by decide) (fun c18 => ?_) (fun c18 => ?_)
  · have h := h.1 c18
    refine lv_aload_n hx hb dX5_readNumber_10 rfl (lv_at hl 0 rfl) ?_
    refine g_backv hI (g_runV (As := []) (rest := []) hC hml hI (c_X5_skipBlanks l D cy ad A _  _ h) k_X5_skipBlanks gw_4_80 ⟨rfl, rfl⟩ ⟨Nat.le_of_ble_eq_true rfl, Nat.le_of_ble_eq_true rfl⟩ (grv_2 hC hI) rfl hl.1 rfl (Nat.le_of_ble_eq_true rfl) dX5_readNumber_11 ⟨Nat.le_of_ble_eq_true rfl, Nat.le_of_ble_eq_true rfl⟩) (fun s19 H locs h hI => ?_)
    refine lv_aload_n hx hb dX5_readNumber_14 rfl (lv_at hl 0 rfl) ?_
    refine gg_X5_next hC hI gw_1_55 dX5_readNumber_15 ?_
    refine lv_topi (fun y21 ey21 => ?_)
    have h := h y21 ey21
    refine lv_istore_n (lv' := [(3, .int y21), (0, .ref (ad 2)), (1, .int a1), (2, .int a2)]) hx hb dX5_readNumber_18 rfl hl (by decide) rfl (fun ls hl => ?_)
    refine lv_iconst (v := 0) hx hb dX5_readNumber_19 (by decide) ?_
    refine lv_istore (lv' := [(4, .int 0), (3, .int y21), (0, .ref (ad 2)), (1, .int a1), (2, .int a2)]) hx hb dX5_readNumber_20 hl (by decide) rfl (fun ls hl => ?_)
    obtain ⟨n9, h⟩ := h
    exact J22 n9 _ _ _ _ _ _ _ _ h hI (lv_sub hl [2, 3, 4, 1, 0] rfl)
  · have h := h.2 c18
    refine lv_iconst (v := (-1)) hx hb dX5_readNumber_8 (by decide) ?_
    exact g_iret hC hr hlocks hI h dX5_readNumber_9

theorem dX5_readTerm_0 : decode cX5_readTerm 0 = .ok (.aload_n 0, 1) := by decide +kernel
theorem dX5_readTerm_1 : decode cX5_readTerm 1 = .ok (.invokevirtual 31, 3) := by decide +kernel
theorem dX5_readTerm_4 : decode cX5_readTerm 4 = .ok (.aload_n 1, 1) := by decide +kernel
theorem dX5_readTerm_5 : decode cX5_readTerm 5 = .ok (.getfield 22, 3) := by decide +kernel
theorem dX5_readTerm_8 : decode cX5_readTerm 8 = .ok (.bipush 12, 2) := by decide +kernel
theorem dX5_readTerm_10 : decode cX5_readTerm 10 = .ok (.if_icmp .ge 10, 3) := by decide +kernel
theorem dX5_readTerm_13 : decode cX5_readTerm 13 = .ok (.aload_n 0, 1) := by decide +kernel
theorem dX5_readTerm_14 : decode cX5_readTerm 14 = .ok (.invokevirtual 41, 3) := by decide +kernel
theorem dX5_readTerm_17 : decode cX5_readTerm 17 = .ok (.goto 4, 3) := by decide +kernel
theorem dX5_readTerm_20 : decode cX5_readTerm 20 = .ok (.iconst (-1), 1) := by decide +kernel
theorem dX5_readTerm_21 : decode cX5_readTerm 21 = .ok (.istore_n 2, 1) := by decide +kernel
theorem dX5_readTerm_22 : decode cX5_readTerm 22 = .ok (.iload_n 2, 1) := by decide +kernel
theorem dX5_readTerm_23 : decode cX5_readTerm 23 = .ok (.iconst (-1), 1) := by decide +kernel
theorem dX5_readTerm_24 : decode cX5_readTerm 24 = .ok (.if_icmp .ne 12, 3) := by decide +kernel
theorem dX5_readTerm_27 : decode cX5_readTerm 27 = .ok (.aload_n 0, 1) := by decide +kernel
theorem dX5_readTerm_28 : decode cX5_readTerm 28 = .ok (.aload_n 0, 1) := by decide +kernel
theorem dX5_readTerm_29 : decode cX5_readTerm 29 = .ok (.getfield 15, 3) := by decide +kernel
theorem dX5_readTerm_32 : decode cX5_readTerm 32 = .ok (.putfield 19, 3) := by decide +kernel
theorem dX5_readTerm_35 : decode cX5_readTerm 35 = .ok (.return_, 1) := by decide +kernel
theorem dX5_readTerm_36 : decode cX5_readTerm 36 = .ok (.aload_n 0, 1) := by decide +kernel
theorem dX5_readTerm_37 : decode cX5_readTerm 37 = .ok (.invokevirtual 45, 3) := by decide +kernel
theorem dX5_readTerm_40 : decode cX5_readTerm 40 = .ok (.aload_n 0, 1) := by decide +kernel
theorem dX5_readTerm_41 : decode cX5_readTerm 41 = .ok (.iconst 0, 1) := by decide +kernel
theorem dX5_readTerm_42 : decode cX5_readTerm 42 = .ok (.iload_n 2, 1) := by decide +kernel
theorem dX5_readTerm_43 : decode cX5_readTerm 43 = .ok (.invokestatic 48, 3) := by decide +kernel
theorem dX5_readTerm_46 : decode cX5_readTerm 46 = .ok (.invokevirtual 51, 3) := by decide +kernel
theorem dX5_readTerm_49 : decode cX5_readTerm 49 = .ok (.istore_n 3, 1) := by decide +kernel
theorem dX5_readTerm_50 : decode cX5_readTerm 50 = .ok (.iconst 0, 1) := by decide +kernel
theorem dX5_readTerm_51 : decode cX5_readTerm 51 = .ok (.istore 4, 2) := by decide +kernel
theorem dX5_readTerm_53 : decode cX5_readTerm 53 = .ok (.iconst 0, 1) := by decide +kernel
theorem dX5_readTerm_54 : decode cX5_readTerm 54 = .ok (.istore 5, 2) := by decide +kernel
theorem dX5_readTerm_56 : decode cX5_readTerm 56 = .ok (.iload_n 2, 1) := by decide +kernel
theorem dX5_readTerm_57 : decode cX5_readTerm 57 = .ok (.iconst 4, 1) := by decide +kernel
theorem dX5_readTerm_58 : decode cX5_readTerm 58 = .ok (.if_icmp .ne 34, 3) := by decide +kernel
theorem dX5_readTerm_61 : decode cX5_readTerm 61 = .ok (.aload_n 0, 1) := by decide +kernel
theorem dX5_readTerm_62 : decode cX5_readTerm 62 = .ok (.ldc 55, 2) := by decide +kernel
theorem dX5_readTerm_64 : decode cX5_readTerm 64 = .ok (.invokevirtual 57, 3) := by decide +kernel
theorem dX5_readTerm_67 : decode cX5_readTerm 67 = .ok (.aload_n 0, 1) := by decide +kernel
theorem dX5_readTerm_68 : decode cX5_readTerm 68 = .ok (.iconst 0, 1) := by decide +kernel
theorem dX5_readTerm_69 : decode cX5_readTerm 69 = .ok (.bipush 23, 2) := by decide +kernel
theorem dX5_readTerm_71 : decode cX5_readTerm 71 = .ok (.invokevirtual 51, 3) := by decide +kernel
theorem dX5_readTerm_74 : decode cX5_readTerm 74 = .ok (.istore 4, 2) := by decide +kernel
theorem dX5_readTerm_76 : decode cX5_readTerm 76 = .ok (.aload_n 0, 1) := by decide +kernel
theorem dX5_readTerm_77 : decode cX5_readTerm 77 = .ok (.ldc 61, 2) := by decide +kernel
theorem dX5_readTerm_79 : decode cX5_readTerm 79 = .ok (.invokevirtual 57, 3) := by decide +kernel
theorem dX5_readTerm_82 : decode cX5_readTerm 82 = .ok (.aload_n 0, 1) := by decide +kernel
theorem dX5_readTerm_83 : decode cX5_readTerm 83 = .ok (.iload 4, 2) := by decide +kernel
theorem dX5_readTerm_85 : decode cX5_readTerm 85 = .ok (.bipush 23, 2) := by decide +kernel
theorem dX5_readTerm_87 : decode cX5_readTerm 87 = .ok (.invokevirtual 51, 3) := by decide +kernel
theorem dX5_readTerm_90 : decode cX5_readTerm 90 = .ok (.istore 5, 2) := by decide +kernel
theorem dX5_readTerm_92 : decode cX5_readTerm 92 = .ok (.aload_n 0, 1) := by decide +kernel
theorem dX5_readTerm_93 : decode cX5_readTerm 93 = .ok (.getfield 19, 3) := by decide +kernel
theorem dX5_readTerm_96 : decode cX5_readTerm 96 = .ok (.iconst (-1), 1) := by decide +kernel
theorem dX5_readTerm_97 : decode cX5_readTerm 97 = .ok (.if_icmp .ne 13, 3) := by decide +kernel
theorem dX5_readTerm_100 : decode cX5_readTerm 100 = .ok (.aload_n 1, 1) := by decide +kernel
theorem dX5_readTerm_101 : decode cX5_readTerm 101 = .ok (.iload_n 2, 1) := by decide +kernel
theorem dX5_readTerm_102 : decode cX5_readTerm 102 = .ok (.iload_n 3, 1) := by decide +kernel
theorem dX5_readTerm_103 : decode cX5_readTerm 103 = .ok (.iload 4, 2) := by decide +kernel
theorem dX5_readTerm_105 : decode cX5_readTerm 105 = .ok (.iload 5, 2) := by decide +kernel
theorem dX5_readTerm_107 : decode cX5_readTerm 107 = .ok (.invokevirtual 63, 3) := by decide +kernel
theorem dX5_readTerm_110 : decode cX5_readTerm 110 = .ok (.return_, 1) := by decide +kernel
def w_X5_readTerm_92 (Q : gS → Prop) (j : Nat) (x2 : Int32) (x3 : Int32) (x4 : Int32) (x5 : Int32) (σ : gS) : Prop :=
    (¬ (σ 18 0) = (-1) → Q σ) ∧ ((σ 18 0) = (-1) → w_X7_add  (fun (s2 : gS) => Q s2) j σ x2 x3 x4 x5)
def w_X5_readTerm_21 (Q : gS → Prop) (j : Nat) (v0 : Int32) (σ : gS) : Prop :=
    (¬ v0 = (-1) → w_X5_skipWord  (fun (s5 : gS) => w_X5_highest  (fun (r8 : Int32) (s7 : gS) => w_X5_readNumber  (fun (r10 : Int32) (s9 : gS) => (¬ v0 = 4 → w_X5_readTerm_92 Q j v0 r10 0 0 s9) ∧ (v0 = 4 → w_X5_readWord  (fun (s12 : gS) => w_X5_readNumber  (fun (r15 : Int32) (s14 : gS) => w_X5_readWord  (fun (s16 : gS) => w_X5_readNumber  (fun (r19 : Int32) (s18 : gS) => w_X5_readTerm_92 Q j v0 r10 r15 r19 s18) s16 r15 23) 6 s14) s12 0 23) 5 s9)) s7 0 r8) s5 v0) σ) ∧ (v0 = (-1) → ∀ s20 : gS, s20 = gu σ 18 0 (σ 17 0) → Q s20)
def w_X5_readTerm (Q : gS → Prop) (j : Nat) (σ : gS) : Prop :=
    w_X5_skipBlanks  (fun (s21 : gS) => (12 ≤ (s21 (gtk j + 4) 0) → w_X5_readTerm_21 Q j (-1) s21) ∧ (¬ 12 ≤ (s21 (gtk j + 4) 0) → w_X5_kindHere  (fun (r25 : Int32) (s24 : gS) => w_X5_readTerm_21 Q j r25 s24) s21)) σ
abbrev ws_X5_readTerm : List Cond := Cond.code yX5_readTerm cX5_readTerm 6 none :: gG
abbrev rm_X5_readTerm : Room := { frames := 6, cells := 0, slots := 0, locals := 129 }
theorem k_X5_readTerm : gCV yX5_readTerm RX5 cX5_readTerm 6 none 1 := ⟨gw_4_78, gwp_27, gw_1_3, gw_4_79, rfl, by decide +kernel⟩
set_option maxHeartbeats 4000000 in
set_option maxRecDepth 100000 in
theorem c_X5_readTerm (l : Launch) (D : va_G) (cy : Nat → ClassId) (ad : Nat → Nat) (A : Nat → Prop) (Q : gS → Prop) (j : Nat) (hj : j = 8 ∨ j = 9) (σ : gS) (h : w_X5_readTerm Q j σ) : Met l yX5_readTerm ws_X5_readTerm rm_X5_readTerm (va_Pc [.ref (ad 2), .ref (ad j)] (gB D cy ad A σ)) (va_Qv Q (gB D cy ad A) A) 0 0 A := by
  refine Met.ofW (cc := cX5_readTerm) (maxL := 6) (ret := none) (by decide) rfl ?_
  intro p e s m args below meth c s₁ B hml hv
  obtain ⟨rfl, hB⟩ := hv
  have hC : gC p c cX5_readTerm s m ([.ref (ad 2), .ref (ad j)] : List Value).toArray RX5 D cy ad A := g_start B hB
  have hI := g_first hB
  have hx := hC.1
  have hb := hC.2.1
  have hr := B.returns
  have hlocks := B.notSynchronized
  clear B hB
  have J92 : ∀ (x2 : Int32) (x3 : Int32) (x4 : Int32) (x5 : Int32) (σ : gS) (H : Heap) (locs : List Loc) (ls : Array Slot), w_X5_readTerm_92 Q j x2 x3 x4 x5 σ → gI D cy ad A s.heap σ H locs → lv_has ls 6 [(0, .ref (ad 2)), (1, .ref (ad j)), (2, .int x2), (3, .int x3), (4, .int x4), (5, .int x5)] → W p l e (headSpec ws_X5_readTerm rm_X5_readTerm).room s m ([.ref (ad 2), .ref (ad j)] : List Value).toArray below meth c H locs 0 0 (MQ below (va_Qv Q (gB D cy ad A) A) ([.ref (ad 2), .ref (ad j)] : List Value).toArray s 0 0 A) (F0 m 92 ls []) := by
    intro x2 x3 x4 x5 σ H locs ls h hI hl
    unfold w_X5_readTerm_92 at h
    refine lv_aload_n hx hb dX5_readTerm_92 rfl (lv_at hl 0 rfl) ?_
    refine gg_X5_wrong hC hI gw_1_56 dX5_readTerm_93 ?_
    refine lv_iconst (v := (-1)) hx hb dX5_readTerm_96 (by decide) ?_
    refine lv_icmp_ne (tgt := 110) hx hb dX5_readTerm_97 (by decide) (fun c1 => ?_) (fun c1 => ?_)
    · have h := h.1 c1
      exact g_vret hC hr hlocks hI h dX5_readTerm_110
    · have h := h.2 c1
      refine lv_aload_n hx hb dX5_readTerm_100 rfl (lv_at hl 1 rfl) ?_
      refine lv_iload_n hx hb dX5_readTerm_101 rfl (lv_at hl 2 rfl) ?_
      refine lv_iload_n hx hb dX5_readTerm_102 rfl (lv_at hl 3 rfl) ?_
      refine lv_iload hx hb dX5_readTerm_103 (lv_at hl 4 rfl) ?_
      refine lv_iload hx hb dX5_readTerm_105 (lv_at hl 5 rfl) ?_
      refine g_backv hI (g_runV (As := [.int x2, .int x3, .int x4, .int x5]) (rest := []) hC hml hI (c_X7_add l D cy ad A _ _ hj  _ _ _ _ _ h) k_X7_add gw_4_173 ⟨rfl, rfl⟩ ⟨Nat.le_of_ble_eq_true rfl, Nat.le_of_ble_eq_true rfl⟩ (grv_t hj hC hI) rfl hl.1 rfl (Nat.le_of_ble_eq_true rfl) dX5_readTerm_107 ⟨Nat.le_of_ble_eq_true rfl, Nat.le_of_ble_eq_true rfl⟩) (fun s2 H locs h hI => ?_)
      exact g_vret hC hr hlocks hI h dX5_readTerm_110
  have J21 : ∀ (v0 : Int32) (σ : gS) (H : Heap) (locs : List Loc) (ls : Array Slot), w_X5_readTerm_21 Q j v0 σ → gI D cy ad A s.heap σ H locs → lv_has ls 6 [(0, .ref (ad 2)), (1, .ref (ad j))] → W p l e (headSpec ws_X5_readTerm rm_X5_readTerm).room s m ([.ref (ad 2), .ref (ad j)] : List Value).toArray below meth c H locs 0 0 (MQ below (va_Qv Q (gB D cy ad A) A) ([.ref (ad 2), .ref (ad j)] : List Value).toArray s 0 0 A) (F0 m 21 ls [.int v0]) := by
    intro v0 σ H locs ls h hI hl
    unfold w_X5_readTerm_21 at h
    refine lv_istore_n (lv' := [(2, .int v0), (0, .ref (ad 2)), (1, .ref (ad j))]) hx hb dX5_readTerm_21 rfl hl (by decide) rfl (fun ls hl => ?_)
    refine lv_iload_n hx hb dX5_readTerm_22 rfl (lv_at hl 0 rfl) ?_
    refine lv_iconst (v := (-1)) hx hb dX5_readTerm_23 (by decide) ?_
    refine lv_icmp_ne (tgt := 36) hx hb dX5_readTerm_24 (by decide) (fun c4 => ?_) (fun c4 => ?_)
    · have h := h.1 c4
      refine lv_aload_n hx hb dX5_readTerm_36 rfl (lv_at hl 1 rfl) ?_
      refine g_backv hI (g_runV (As := []) (rest := []) hC hml hI (c_X5_skipWord l D cy ad A _  _ h) k_X5_skipWord gw_4_152 ⟨rfl, rfl⟩ ⟨Nat.le_of_ble_eq_true rfl, Nat.le_of_ble_eq_true rfl⟩ (grv_2 hC hI) rfl hl.1 rfl (Nat.le_of_ble_eq_true rfl) dX5_readTerm_37 ⟨Nat.le_of_ble_eq_true rfl, Nat.le_of_ble_eq_true rfl⟩) (fun s5 H locs h hI => ?_)
      refine lv_aload_n hx hb dX5_readTerm_40 rfl (lv_at hl 1 rfl) ?_
      refine lv_iconst (v := 0) hx hb dX5_readTerm_41 (by decide) ?_
      refine lv_iload_n hx hb dX5_readTerm_42 rfl (lv_at hl 0 rfl) ?_
      refine g_backi hI (g_runS (As := [.int v0]) (rest := [.int 0, .ref (ad 2)]) hC hml hI (c_X5_highest l D cy ad A _  _ _ h) k_X5_highest gw_4_156 ⟨rfl, rfl⟩ ⟨Nat.le_of_ble_eq_true rfl, Nat.le_of_ble_eq_true rfl⟩ rfl hl.1 rfl (Nat.le_of_ble_eq_true rfl) dX5_readTerm_43 ⟨Nat.le_of_ble_eq_true rfl, Nat.le_of_ble_eq_true rfl⟩) (fun r8 s7 H locs h hI => ?_)
      refine g_backi hI (g_runV (As := [.int 0, .int r8]) (rest := []) hC hml hI (c_X5_readNumber l D cy ad A _  _ _ _ h) k_X5_readNumber gw_4_160 ⟨rfl, rfl⟩ ⟨Nat.le_of_ble_eq_true rfl, Nat.le_of_ble_eq_true rfl⟩ (grv_2 hC hI) rfl hl.1 rfl (Nat.le_of_ble_eq_true rfl) dX5_readTerm_46 ⟨Nat.le_of_ble_eq_true rfl, Nat.le_of_ble_eq_true rfl⟩) (fun r10 s9 H locs h hI => ?_)
      refine lv_istore_n (lv' := [(3, .int r10), (2, .int v0), (0, .ref (ad 2)), (1, .ref (ad j))]) hx hb dX5_readTerm_49 rfl hl (by decide) rfl (fun ls hl => ?_)
      refine lv_iconst (v := 0) hx hb dX5_readTerm_50 (by decide) ?_
      refine lv_istore (lv' := [(4, .int 0), (3, .int r10), (2, .int v0), (0, .ref (ad 2)), (1, .ref (ad j))]) hx hb dX5_readTerm_51 hl (by decide) rfl (fun ls hl => ?_)
      refine lv_iconst (v := 0) hx hb dX5_readTerm_53 (by decide) ?_
      refine lv_istore (lv' := [(5, .int 0), (4, .int 0), (3, .int r10), (2, .int v0), (0, .ref (ad 2)), (1, .ref (ad j))]) hx hb dX5_readTerm_54 hl (by decide) rfl (fun ls hl => ?_)
      refine lv_iload_n hx hb dX5_readTerm_56 rfl (lv_at hl 3 rfl) ?_
      refine lv_iconst (v := 4) hx hb dX5_readTerm_57 (by decide) ?_
      refine lv_icmp_ne (tgt := 92) hx hb dX5_readTerm_58 (by decide) (fun c11 => ?_) (fun c11 => ?_)
      · have h := h.1 c11
        exact J92 _ _ _ _ _ _ _ _ h hI (lv_sub hl [4, 5, 3, 2, 1, 0] rfl)
      · have h := h.2 c11
        refine lv_aload_n hx hb dX5_readTerm_61 rfl (lv_at hl 4 rfl) ?_
        refine gx_ldc (tx := "from") (i := 5) (by decide) hC dX5_readTerm_62 ?_
        refine g_backv hI (g_runV (As := [.ref (ad (200 + 5))]) (rest := []) hC hml hI (c_X5_readWord l D cy ad A _ _ (by decide)  _ h) k_X5_readWord gw_4_168 ⟨rfl, rfl⟩ ⟨Nat.le_of_ble_eq_true rfl, Nat.le_of_ble_eq_true rfl⟩ (grv_2 hC hI) rfl hl.1 rfl (Nat.le_of_ble_eq_true rfl) dX5_readTerm_64 ⟨Nat.le_of_ble_eq_true rfl, Nat.le_of_ble_eq_true rfl⟩) (fun s12 H locs h hI => ?_)
        refine lv_aload_n hx hb dX5_readTerm_67 rfl (lv_at hl 4 rfl) ?_
        refine lv_iconst (v := 0) hx hb dX5_readTerm_68 (by decide) ?_
        refine lv_bipush (v := 23) hx hb dX5_readTerm_69 (by decide) ?_
        refine g_backi hI (g_runV (As := [.int 0, .int 23]) (rest := []) hC hml hI (c_X5_readNumber l D cy ad A _  _ _ _ h) k_X5_readNumber gw_4_160 ⟨rfl, rfl⟩ ⟨Nat.le_of_ble_eq_true rfl, Nat.le_of_ble_eq_true rfl⟩ (grv_2 hC hI) rfl hl.1 rfl (Nat.le_of_ble_eq_true rfl) dX5_readTerm_71 ⟨Nat.le_of_ble_eq_true rfl, Nat.le_of_ble_eq_true rfl⟩) (fun r15 s14 H locs h hI => ?_)
        refine lv_istore (lv' := [(4, .int r15), (5, .int 0), (3, .int r10), (2, .int v0), (0, .ref (ad 2)), (1, .ref (ad j))]) hx hb dX5_readTerm_74 hl (by decide) rfl (fun ls hl => ?_)
        refine lv_aload_n hx hb dX5_readTerm_76 rfl (lv_at hl 4 rfl) ?_
        refine gx_ldc (tx := "to") (i := 6) (by decide) hC dX5_readTerm_77 ?_
        refine g_backv hI (g_runV (As := [.ref (ad (200 + 6))]) (rest := []) hC hml hI (c_X5_readWord l D cy ad A _ _ (by decide)  _ h) k_X5_readWord gw_4_168 ⟨rfl, rfl⟩ ⟨Nat.le_of_ble_eq_true rfl, Nat.le_of_ble_eq_true rfl⟩ (grv_2 hC hI) rfl hl.1 rfl (Nat.le_of_ble_eq_true rfl) dX5_readTerm_79 ⟨Nat.le_of_ble_eq_true rfl, Nat.le_of_ble_eq_true rfl⟩) (fun s16 H locs h hI => ?_)
        refine lv_aload_n hx hb dX5_readTerm_82 rfl (lv_at hl 4 rfl) ?_
        refine lv_iload hx hb dX5_readTerm_83 (lv_at hl 0 rfl) ?_
        refine lv_bipush (v := 23) hx hb dX5_readTerm_85 (by decide) ?_
        refine g_backi hI (g_runV (As := [.int r15, .int 23]) (rest := []) hC hml hI (c_X5_readNumber l D cy ad A _  _ _ _ h) k_X5_readNumber gw_4_160 ⟨rfl, rfl⟩ ⟨Nat.le_of_ble_eq_true rfl, Nat.le_of_ble_eq_true rfl⟩ (grv_2 hC hI) rfl hl.1 rfl (Nat.le_of_ble_eq_true rfl) dX5_readTerm_87 ⟨Nat.le_of_ble_eq_true rfl, Nat.le_of_ble_eq_true rfl⟩) (fun r19 s18 H locs h hI => ?_)
        refine lv_istore (lv' := [(5, .int r19), (4, .int r15), (3, .int r10), (2, .int v0), (0, .ref (ad 2)), (1, .ref (ad j))]) hx hb dX5_readTerm_90 hl (by decide) rfl (fun ls hl => ?_)
        exact J92 _ _ _ _ _ _ _ _ h hI (lv_sub hl [4, 5, 3, 2, 1, 0] rfl)
    · have h := h.2 c4
      refine lv_aload_n hx hb dX5_readTerm_27 rfl (lv_at hl 1 rfl) ?_
      refine lv_aload_n hx hb dX5_readTerm_28 rfl (lv_at hl 1 rfl) ?_
      refine gg_X5_next hC hI gw_1_55 dX5_readTerm_29 ?_
      refine gp_X5_wrong hC hI gw_1_56 dX5_readTerm_32 (fun s20 H locs es20 hI => ?_)
      have h := h s20 es20
      exact g_vret hC hr hlocks hI h dX5_readTerm_35
  have hl := lv_entry ([.ref (ad 2), .ref (ad j)]) (n := 6) (Nat.le_of_ble_eq_true rfl)
  rw [lg_entry_eq]
  generalize (lg_sl ([.ref (ad 2), .ref (ad j)]) ++ List.replicate (6 - (lg_sl ([.ref (ad 2), .ref (ad j)])).length) Slot.unset).toArray = ls at hl ⊢
  have hl : lv_has ls 6 [(0, .ref (ad 2)), (1, .ref (ad j))] := hl
  unfold w_X5_readTerm at h
  refine lv_aload_n hx hb dX5_readTerm_0 rfl (lv_at hl 0 rfl) ?_
  refine g_backv hI (g_runV (As := []) (rest := []) hC hml hI (c_X5_skipBlanks l D cy ad A _  _ h) k_X5_skipBlanks gw_4_80 ⟨rfl, rfl⟩ ⟨Nat.le_of_ble_eq_true rfl, Nat.le_of_ble_eq_true rfl⟩ (grv_2 hC hI) rfl hl.1 rfl (Nat.le_of_ble_eq_true rfl) dX5_readTerm_1 ⟨Nat.le_of_ble_eq_true rfl, Nat.le_of_ble_eq_true rfl⟩) (fun s21 H locs h hI => ?_)
  refine lv_aload_n hx hb dX5_readTerm_4 rfl (lv_at hl 1 rfl) ?_
  refine gg_X7_size hC hI hj gw_2_32 dX5_readTerm_5 ?_
  refine lv_bipush (v := 12) hx hb dX5_readTerm_8 (by decide) ?_
  refine lv_icmp_ge (tgt := 20) hx hb dX5_readTerm_10 (by decide) (fun c23 => ?_) (fun c23 => ?_)
  · have h := h.1 c23
    refine lv_iconst (v := (-1)) hx hb dX5_readTerm_20 (by decide) ?_
    exact J21 _ _ _ _ _ h hI (lv_sub hl [0, 1] rfl)
  · have h := h.2 c23
    refine lv_aload_n hx hb dX5_readTerm_13 rfl (lv_at hl 0 rfl) ?_
    refine g_backi hI (g_runV (As := []) (rest := []) hC hml hI (c_X5_kindHere l D cy ad A _  _ h) k_X5_kindHere gw_4_88 ⟨rfl, rfl⟩ ⟨Nat.le_of_ble_eq_true rfl, Nat.le_of_ble_eq_true rfl⟩ (grv_2 hC hI) rfl hl.1 rfl (Nat.le_of_ble_eq_true rfl) dX5_readTerm_14 ⟨Nat.le_of_ble_eq_true rfl, Nat.le_of_ble_eq_true rfl⟩) (fun r25 s24 H locs h hI => ?_)
    refine lv_goto (tgt := 21) hx hb dX5_readTerm_17 (by decide) ?_
    exact J21 _ _ _ _ _ h hI (lv_sub hl [0, 1] rfl)

theorem dX5_readInto_0 : decode cX5_readInto 0 = .ok (.aload_n 0, 1) := by decide +kernel
theorem dX5_readInto_1 : decode cX5_readInto 1 = .ok (.iconst 0, 1) := by decide +kernel
theorem dX5_readInto_2 : decode cX5_readInto 2 = .ok (.putfield 15, 3) := by decide +kernel
theorem dX5_readInto_5 : decode cX5_readInto 5 = .ok (.aload_n 0, 1) := by decide +kernel
theorem dX5_readInto_6 : decode cX5_readInto 6 = .ok (.iconst (-1), 1) := by decide +kernel
theorem dX5_readInto_7 : decode cX5_readInto 7 = .ok (.putfield 19, 3) := by decide +kernel
theorem dX5_readInto_10 : decode cX5_readInto 10 = .ok (.aload_n 1, 1) := by decide +kernel
theorem dX5_readInto_11 : decode cX5_readInto 11 = .ok (.iconst 0, 1) := by decide +kernel
theorem dX5_readInto_12 : decode cX5_readInto 12 = .ok (.putfield 22, 3) := by decide +kernel
theorem dX5_readInto_15 : decode cX5_readInto 15 = .ok (.iconst 0, 1) := by decide +kernel
theorem dX5_readInto_16 : decode cX5_readInto 16 = .ok (.istore_n 2, 1) := by decide +kernel
theorem dX5_readInto_17 : decode cX5_readInto 17 = .ok (.iload_n 2, 1) := by decide +kernel
theorem dX5_readInto_18 : decode cX5_readInto 18 = .ok (.bipush 12, 2) := by decide +kernel
theorem dX5_readInto_20 : decode cX5_readInto 20 = .ok (.if_icmp .gt 78, 3) := by decide +kernel
theorem dX5_readInto_23 : decode cX5_readInto 23 = .ok (.aload_n 0, 1) := by decide +kernel
theorem dX5_readInto_24 : decode cX5_readInto 24 = .ok (.aload_n 1, 1) := by decide +kernel
theorem dX5_readInto_25 : decode cX5_readInto 25 = .ok (.invokevirtual 27, 3) := by decide +kernel
theorem dX5_readInto_28 : decode cX5_readInto 28 = .ok (.aload_n 0, 1) := by decide +kernel
theorem dX5_readInto_29 : decode cX5_readInto 29 = .ok (.getfield 19, 3) := by decide +kernel
theorem dX5_readInto_32 : decode cX5_readInto 32 = .ok (.iconst (-1), 1) := by decide +kernel
theorem dX5_readInto_33 : decode cX5_readInto 33 = .ok (.if_icmp .eq 8, 3) := by decide +kernel
theorem dX5_readInto_36 : decode cX5_readInto 36 = .ok (.aload_n 0, 1) := by decide +kernel
theorem dX5_readInto_37 : decode cX5_readInto 37 = .ok (.getfield 19, 3) := by decide +kernel
theorem dX5_readInto_40 : decode cX5_readInto 40 = .ok (.ireturn, 1) := by decide +kernel
theorem dX5_readInto_41 : decode cX5_readInto 41 = .ok (.aload_n 0, 1) := by decide +kernel
theorem dX5_readInto_42 : decode cX5_readInto 42 = .ok (.invokevirtual 31, 3) := by decide +kernel
theorem dX5_readInto_45 : decode cX5_readInto 45 = .ok (.aload_n 0, 1) := by decide +kernel
theorem dX5_readInto_46 : decode cX5_readInto 46 = .ok (.getfield 15, 3) := by decide +kernel
theorem dX5_readInto_49 : decode cX5_readInto 49 = .ok (.aload_n 0, 1) := by decide +kernel
theorem dX5_readInto_50 : decode cX5_readInto 50 = .ok (.getfield 9, 3) := by decide +kernel
theorem dX5_readInto_53 : decode cX5_readInto 53 = .ok (.getfield 34, 3) := by decide +kernel
theorem dX5_readInto_56 : decode cX5_readInto 56 = .ok (.if_icmp .lt 5, 3) := by decide +kernel
theorem dX5_readInto_59 : decode cX5_readInto 59 = .ok (.iconst (-1), 1) := by decide +kernel
theorem dX5_readInto_60 : decode cX5_readInto 60 = .ok (.ireturn, 1) := by decide +kernel
theorem dX5_readInto_61 : decode cX5_readInto 61 = .ok (.aload_n 0, 1) := by decide +kernel
theorem dX5_readInto_62 : decode cX5_readInto 62 = .ok (.getfield 9, 3) := by decide +kernel
theorem dX5_readInto_65 : decode cX5_readInto 65 = .ok (.aload_n 0, 1) := by decide +kernel
theorem dX5_readInto_66 : decode cX5_readInto 66 = .ok (.getfield 15, 3) := by decide +kernel
theorem dX5_readInto_69 : decode cX5_readInto 69 = .ok (.invokevirtual 37, 3) := by decide +kernel
theorem dX5_readInto_72 : decode cX5_readInto 72 = .ok (.bipush 59, 2) := by decide +kernel
theorem dX5_readInto_74 : decode cX5_readInto 74 = .ok (.if_icmp .eq 8, 3) := by decide +kernel
theorem dX5_readInto_77 : decode cX5_readInto 77 = .ok (.aload_n 0, 1) := by decide +kernel
theorem dX5_readInto_78 : decode cX5_readInto 78 = .ok (.getfield 15, 3) := by decide +kernel
theorem dX5_readInto_81 : decode cX5_readInto 81 = .ok (.ireturn, 1) := by decide +kernel
theorem dX5_readInto_82 : decode cX5_readInto 82 = .ok (.aload_n 0, 1) := by decide +kernel
theorem dX5_readInto_83 : decode cX5_readInto 83 = .ok (.dup, 1) := by decide +kernel
theorem dX5_readInto_84 : decode cX5_readInto 84 = .ok (.getfield 15, 3) := by decide +kernel
theorem dX5_readInto_87 : decode cX5_readInto 87 = .ok (.iconst 1, 1) := by decide +kernel
theorem dX5_readInto_88 : decode cX5_readInto 88 = .ok (.iadd, 1) := by decide +kernel
theorem dX5_readInto_89 : decode cX5_readInto 89 = .ok (.putfield 15, 3) := by decide +kernel
theorem dX5_readInto_92 : decode cX5_readInto 92 = .ok (.iinc 2 1, 3) := by decide +kernel
theorem dX5_readInto_95 : decode cX5_readInto 95 = .ok (.goto (-78), 3) := by decide +kernel
theorem dX5_readInto_98 : decode cX5_readInto 98 = .ok (.aload_n 0, 1) := by decide +kernel
theorem dX5_readInto_99 : decode cX5_readInto 99 = .ok (.getfield 15, 3) := by decide +kernel
theorem dX5_readInto_102 : decode cX5_readInto 102 = .ok (.ireturn, 1) := by decide +kernel
def w_X5_readInto_17 (Q : Int32 → gS → Prop) (j : Nat) : Nat → Int32 → gS → Prop
  | 0, _, _ => False
  | n17 + 1, x2, σ =>
    (12 < x2 → Q (σ 17 0) σ) ∧ (¬ 12 < x2 → w_X5_readTerm  (fun (s2 : gS) => ((s2 18 0) = (-1) → w_X5_skipBlanks  (fun (s5 : gS) => ((s5 17 0) < (s5 16 0) → w_X6_byteAt  (fun (r9 : Int32) (s8 : gS) => (r9 = 59 → ∀ s11 : gS, s11 = gu s8 17 0 ((s8 17 0) + 1) → ∀ y12 : Int32, y12 = x2 + 1 → w_X5_readInto_17 Q j n17 y12 s11) ∧ (¬ r9 = 59 → Q (s8 17 0) s8)) s5 (s5 17 0)) ∧ (¬ (s5 17 0) < (s5 16 0) → Q (-1) s5)) s2) ∧ (¬ (s2 18 0) = (-1) → Q (s2 18 0) s2)) j σ)
def w_X5_readInto (Q : Int32 → gS → Prop) (j : Nat) (σ : gS) : Prop :=
    ∀ s13 : gS, s13 = gu σ 17 0 0 → ∀ s14 : gS, s14 = gu s13 18 0 (-1) → ∀ s15 : gS, s15 = gu s14 (gtk j + 4) 0 0 → ∃ n17, w_X5_readInto_17 Q j n17 0 s15
abbrev ws_X5_readInto : List Cond := Cond.code yX5_readInto cX5_readInto 3 (some .int) :: gG
abbrev rm_X5_readInto : Room := { frames := 7, cells := 0, slots := 0, locals := 154 }
theorem k_X5_readInto : gCV yX5_readInto RX5 cX5_readInto 3 (some .int) 1 := ⟨gw_4_73, gw_4_74, gw_1_3, gw_4_75, rfl, by decide +kernel⟩
set_option maxHeartbeats 4000000 in
set_option maxRecDepth 100000 in
theorem c_X5_readInto (l : Launch) (D : va_G) (cy : Nat → ClassId) (ad : Nat → Nat) (A : Nat → Prop) (Q : Int32 → gS → Prop) (j : Nat) (hj : j = 8 ∨ j = 9) (σ : gS) (h : w_X5_readInto Q j σ) : Met l yX5_readInto ws_X5_readInto rm_X5_readInto (va_Pc [.ref (ad 2), .ref (ad j)] (gB D cy ad A σ)) (va_Qi Q (gB D cy ad A) A) 0 0 A := by
  refine Met.ofW (cc := cX5_readInto) (maxL := 3) (ret := (some .int)) (by decide) rfl ?_
  intro p e s m args below meth c s₁ B hml hv
  obtain ⟨rfl, hB⟩ := hv
  have hC : gC p c cX5_readInto s m ([.ref (ad 2), .ref (ad j)] : List Value).toArray RX5 D cy ad A := g_start B hB
  have hI := g_first hB
  have hx := hC.1
  have hb := hC.2.1
  have hr := B.returns
  have hlocks := B.notSynchronized
  clear B hB
  have J17 : ∀ (n17 : Nat) (x2 : Int32) (σ : gS) (H : Heap) (locs : List Loc) (ls : Array Slot), w_X5_readInto_17 Q j n17 x2 σ → gI D cy ad A s.heap σ H locs → lv_has ls 3 [(0, .ref (ad 2)), (1, .ref (ad j)), (2, .int x2)] → W p l e (headSpec ws_X5_readInto rm_X5_readInto).room s m ([.ref (ad 2), .ref (ad j)] : List Value).toArray below meth c H locs 0 0 (MQ below (va_Qi Q (gB D cy ad A) A) ([.ref (ad 2), .ref (ad j)] : List Value).toArray s 0 0 A) (F0 m 17 ls []) := by
    intro n17
    induction n17 with
    | zero => intro x2 σ H locs ls h; exact absurd h (fun h => h)
    | succ n17 ih17 =>
      intro x2 σ H locs ls h hI hl
      unfold w_X5_readInto_17 at h
      refine lv_iload_n hx hb dX5_readInto_17 rfl (lv_at hl 2 rfl) ?_
      refine lv_bipush (v := 12) hx hb dX5_readInto_18 (by decide) ?_
      refine lv_icmp_gt (tgt := 98) hx hb dX5_readInto_20 (by decide) (fun c1 => ?_) (fun c1 => ?_)
      · have h := h.1 c1
        refine lv_aload_n hx hb dX5_readInto_98 rfl (lv_at hl 0 rfl) ?_
        refine gg_X5_next hC hI gw_1_55 dX5_readInto_99 ?_
        exact g_iret hC hr hlocks hI h dX5_readInto_102
      · have h := h.2 c1
        refine lv_aload_n hx hb dX5_readInto_23 rfl (lv_at hl 0 rfl) ?_
        refine lv_aload_n hx hb dX5_readInto_24 rfl (lv_at hl 1 rfl) ?_
        refine g_backv hI (g_runV (As := [.ref (ad j)]) (rest := []) hC hml hI (c_X5_readTerm l D cy ad A _ _ hj  _ h) k_X5_readTerm gw_4_76 ⟨rfl, rfl⟩ ⟨Nat.le_of_ble_eq_true rfl, Nat.le_of_ble_eq_true rfl⟩ (grv_2 hC hI) rfl hl.1 rfl (Nat.le_of_ble_eq_true rfl) dX5_readInto_25 ⟨Nat.le_of_ble_eq_true rfl, Nat.le_of_ble_eq_true rfl⟩) (fun s2 H locs h hI => ?_)
        refine lv_aload_n hx hb dX5_readInto_28 rfl (lv_at hl 0 rfl) ?_
        refine gg_X5_wrong hC hI gw_1_56 dX5_readInto_29 ?_
        refine lv_iconst (v := (-1)) hx hb dX5_readInto_32 (by decide) ?_
        refine lv_icmp_eq (tgt := 41) hx hb dX5_readInto_33 (by decide) (fun c4 => ?_) (fun c4 => ?_)
        · have h := h.1 c4
          refine lv_aload_n hx hb dX5_readInto_41 rfl (lv_at hl 0 rfl) ?_
          refine g_backv hI (g_runV (As := []) (rest := []) hC hml hI (c_X5_skipBlanks l D cy ad A _  _ h) k_X5_skipBlanks gw_4_80 ⟨rfl, rfl⟩ ⟨Nat.le_of_ble_eq_true rfl, Nat.le_of_ble_eq_true rfl⟩ (grv_2 hC hI) rfl hl.1 rfl (Nat.le_of_ble_eq_true rfl) dX5_readInto_42 ⟨Nat.le_of_ble_eq_true rfl, Nat.le_of_ble_eq_true rfl⟩) (fun s5 H locs h hI => ?_)
          refine lv_aload_n hx hb dX5_readInto_45 rfl (lv_at hl 0 rfl) ?_
          refine gg_X5_next hC hI gw_1_55 dX5_readInto_46 ?_
          refine lv_aload_n hx hb dX5_readInto_49 rfl (lv_at hl 0 rfl) ?_
          refine gg_X5_tape hC hI gw_1_54 dX5_readInto_50 ?_
          refine gg_X6_size hC hI gw_1_40 dX5_readInto_53 ?_
          refine lv_icmp_lt (tgt := 61) hx hb dX5_readInto_56 (by decide) (fun c7 => ?_) (fun c7 => ?_)
          · have h := h.1 c7
            refine lv_aload_n hx hb dX5_readInto_61 rfl (lv_at hl 0 rfl) ?_
            refine gg_X5_tape hC hI gw_1_54 dX5_readInto_62 ?_
            refine lv_aload_n hx hb dX5_readInto_65 rfl (lv_at hl 0 rfl) ?_
            refine gg_X5_next hC hI gw_1_55 dX5_readInto_66 ?_
            refine g_backi hI (g_runV (As := [.int (s5 17 0)]) (rest := []) hC hml hI (c_X6_byteAt l D cy ad A _  _ _ h) k_X6_byteAt gw_4_84 ⟨rfl, rfl⟩ ⟨Nat.le_of_ble_eq_true rfl, Nat.le_of_ble_eq_true rfl⟩ (grv_1 hC hI) rfl hl.1 rfl (Nat.le_of_ble_eq_true rfl) dX5_readInto_69 ⟨Nat.le_of_ble_eq_true rfl, Nat.le_of_ble_eq_true rfl⟩) (fun r9 s8 H locs h hI => ?_)
            refine lv_bipush (v := 59) hx hb dX5_readInto_72 (by decide) ?_
            refine lv_icmp_eq (tgt := 82) hx hb dX5_readInto_74 (by decide) (fun c10 => ?_) (fun c10 => ?_)
            · have h := h.1 c10
              refine lv_aload_n hx hb dX5_readInto_82 rfl (lv_at hl 0 rfl) ?_
              refine lv_dup hx hb dX5_readInto_83 rfl ?_
              refine gg_X5_next hC hI gw_1_55 dX5_readInto_84 ?_
              refine lv_iconst (v := 1) hx hb dX5_readInto_87 (by decide) ?_
              refine lv_iadd hx hb dX5_readInto_88 ?_
              refine gp_X5_next hC hI gw_1_55 dX5_readInto_89 (fun s11 H locs es11 hI => ?_)
              have h := h s11 es11
              obtain ⟨y12, ey12⟩ : ∃ y : Int32, y = x2 + 1 := ⟨_, rfl⟩
              have h := h y12 ey12
              refine lv_iinc (v := y12) (lv' := [(2, .int y12), (0, .ref (ad 2)), (1, .ref (ad j))]) hx hb dX5_readInto_92 hl (k := 2) rfl (by rw [ey12]; rfl) (by decide) rfl (fun ls hl => ?_)
              refine lv_goto (tgt := 17) hx hb dX5_readInto_95 (by decide) ?_
              exact ih17 _ _ _ _ _ h hI (lv_sub hl [1, 2, 0] rfl)
            · have h := h.2 c10
              refine lv_aload_n hx hb dX5_readInto_77 rfl (lv_at hl 0 rfl) ?_
              refine gg_X5_next hC hI gw_1_55 dX5_readInto_78 ?_
              exact g_iret hC hr hlocks hI h dX5_readInto_81
          · have h := h.2 c7
            refine lv_iconst (v := (-1)) hx hb dX5_readInto_59 (by decide) ?_
            exact g_iret hC hr hlocks hI h dX5_readInto_60
        · have h := h.2 c4
          refine lv_aload_n hx hb dX5_readInto_36 rfl (lv_at hl 0 rfl) ?_
          refine gg_X5_wrong hC hI gw_1_56 dX5_readInto_37 ?_
          exact g_iret hC hr hlocks hI h dX5_readInto_40
  have hl := lv_entry ([.ref (ad 2), .ref (ad j)]) (n := 3) (Nat.le_of_ble_eq_true rfl)
  rw [lg_entry_eq]
  generalize (lg_sl ([.ref (ad 2), .ref (ad j)]) ++ List.replicate (3 - (lg_sl ([.ref (ad 2), .ref (ad j)])).length) Slot.unset).toArray = ls at hl ⊢
  have hl : lv_has ls 3 [(0, .ref (ad 2)), (1, .ref (ad j))] := hl
  unfold w_X5_readInto at h
  refine lv_aload_n hx hb dX5_readInto_0 rfl (lv_at hl 0 rfl) ?_
  refine lv_iconst (v := 0) hx hb dX5_readInto_1 (by decide) ?_
  refine gp_X5_next hC hI gw_1_55 dX5_readInto_2 (fun s13 H locs es13 hI => ?_)
  have h := h s13 es13
  refine lv_aload_n hx hb dX5_readInto_5 rfl (lv_at hl 0 rfl) ?_
  refine lv_iconst (v := (-1)) hx hb dX5_readInto_6 (by decide) ?_
  refine gp_X5_wrong hC hI gw_1_56 dX5_readInto_7 (fun s14 H locs es14 hI => ?_)
  have h := h s14 es14
  refine lv_aload_n hx hb dX5_readInto_10 rfl (lv_at hl 1 rfl) ?_
  refine lv_iconst (v := 0) hx hb dX5_readInto_11 (by decide) ?_
  refine gp_X7_size hC hI hj gw_2_32 dX5_readInto_12 (fun s15 H locs es15 hI => ?_)
  have h := h s15 es15
  refine lv_iconst (v := 0) hx hb dX5_readInto_15 (by decide) ?_
  refine lv_istore_n (lv' := [(2, .int 0), (0, .ref (ad 2)), (1, .ref (ad j))]) hx hb dX5_readInto_16 rfl hl (by decide) rfl (fun ls hl => ?_)
  obtain ⟨n9, h⟩ := h
  exact J17 n9 _ _ _ _ _ h hI (lv_sub hl [1, 2, 0] rfl)

theorem dX9_isWord_0 : decode cX9_isWord 0 = .ok (.aload_n 0, 1) := by decide +kernel
theorem dX9_isWord_1 : decode cX9_isWord 1 = .ok (.getfield 227, 3) := by decide +kernel
theorem dX9_isWord_4 : decode cX9_isWord 4 = .ok (.aload_n 0, 1) := by decide +kernel
theorem dX9_isWord_5 : decode cX9_isWord 5 = .ok (.getfield 237, 3) := by decide +kernel
theorem dX9_isWord_8 : decode cX9_isWord 8 = .ok (.isub, 1) := by decide +kernel
theorem dX9_isWord_9 : decode cX9_isWord 9 = .ok (.aload_n 1, 1) := by decide +kernel
theorem dX9_isWord_10 : decode cX9_isWord 10 = .ok (.invokevirtual 243, 3) := by decide +kernel
theorem dX9_isWord_13 : decode cX9_isWord 13 = .ok (.if_icmp .ne 7, 3) := by decide +kernel
theorem dX9_isWord_16 : decode cX9_isWord 16 = .ok (.iconst 1, 1) := by decide +kernel
theorem dX9_isWord_17 : decode cX9_isWord 17 = .ok (.goto 4, 3) := by decide +kernel
theorem dX9_isWord_20 : decode cX9_isWord 20 = .ok (.iconst 0, 1) := by decide +kernel
theorem dX9_isWord_21 : decode cX9_isWord 21 = .ok (.istore_n 2, 1) := by decide +kernel
theorem dX9_isWord_22 : decode cX9_isWord 22 = .ok (.iconst 0, 1) := by decide +kernel
theorem dX9_isWord_23 : decode cX9_isWord 23 = .ok (.istore_n 3, 1) := by decide +kernel
theorem dX9_isWord_24 : decode cX9_isWord 24 = .ok (.iload_n 2, 1) := by decide +kernel
theorem dX9_isWord_25 : decode cX9_isWord 25 = .ok (.ifCond .eq 42, 3) := by decide +kernel
theorem dX9_isWord_28 : decode cX9_isWord 28 = .ok (.iload_n 3, 1) := by decide +kernel
theorem dX9_isWord_29 : decode cX9_isWord 29 = .ok (.aload_n 1, 1) := by decide +kernel
theorem dX9_isWord_30 : decode cX9_isWord 30 = .ok (.invokevirtual 243, 3) := by decide +kernel
theorem dX9_isWord_33 : decode cX9_isWord 33 = .ok (.if_icmp .ge 34, 3) := by decide +kernel
theorem dX9_isWord_36 : decode cX9_isWord 36 = .ok (.aload_n 0, 1) := by decide +kernel
theorem dX9_isWord_37 : decode cX9_isWord 37 = .ok (.getfield 105, 3) := by decide +kernel
theorem dX9_isWord_40 : decode cX9_isWord 40 = .ok (.aload_n 0, 1) := by decide +kernel
theorem dX9_isWord_41 : decode cX9_isWord 41 = .ok (.getfield 237, 3) := by decide +kernel
theorem dX9_isWord_44 : decode cX9_isWord 44 = .ok (.iload_n 3, 1) := by decide +kernel
theorem dX9_isWord_45 : decode cX9_isWord 45 = .ok (.iadd, 1) := by decide +kernel
theorem dX9_isWord_46 : decode cX9_isWord 46 = .ok (.baload, 1) := by decide +kernel
theorem dX9_isWord_47 : decode cX9_isWord 47 = .ok (.aload_n 1, 1) := by decide +kernel
theorem dX9_isWord_48 : decode cX9_isWord 48 = .ok (.iload_n 3, 1) := by decide +kernel
theorem dX9_isWord_49 : decode cX9_isWord 49 = .ok (.invokevirtual 247, 3) := by decide +kernel
theorem dX9_isWord_52 : decode cX9_isWord 52 = .ok (.if_icmp .ne 7, 3) := by decide +kernel
theorem dX9_isWord_55 : decode cX9_isWord 55 = .ok (.iconst 1, 1) := by decide +kernel
theorem dX9_isWord_56 : decode cX9_isWord 56 = .ok (.goto 4, 3) := by decide +kernel
theorem dX9_isWord_59 : decode cX9_isWord 59 = .ok (.iconst 0, 1) := by decide +kernel
theorem dX9_isWord_60 : decode cX9_isWord 60 = .ok (.istore_n 2, 1) := by decide +kernel
theorem dX9_isWord_61 : decode cX9_isWord 61 = .ok (.iinc 3 1, 3) := by decide +kernel
theorem dX9_isWord_64 : decode cX9_isWord 64 = .ok (.goto (-40), 3) := by decide +kernel
theorem dX9_isWord_67 : decode cX9_isWord 67 = .ok (.iload_n 2, 1) := by decide +kernel
theorem dX9_isWord_68 : decode cX9_isWord 68 = .ok (.ireturn, 1) := by decide +kernel
def w_X9_isWord_24 (Q : Int32 → gS → Prop) (ti : Nat) : Nat → Int32 → Int32 → gS → Prop
  | 0, _, _, _ => False
  | n24 + 1, x2, x3, σ =>
    (x2 = 0 → gz x2 ∧ Q x2 σ) ∧ (¬ x2 = 0 → w_J0_length_8abf5  (fun (r4 : Int32) (s3 : gS) => (r4 ≤ x3 → gz x2 ∧ Q x2 s3) ∧ (¬ r4 ≤ x3 → vp_in ((s3 107 0) + x3) 400 ∧ w_J0_charAt_5068e  (fun (r8 : Int32) (s7 : gS) => (¬ (s3 103 ((s3 107 0) + x3).toNatClampNeg) = r8 → ∀ y10 : Int32, y10 = x3 + 1 → w_X9_isWord_24 Q ti n24 0 y10 s7) ∧ ((s3 103 ((s3 107 0) + x3).toNatClampNeg) = r8 → ∀ y11 : Int32, y11 = x3 + 1 → w_X9_isWord_24 Q ti n24 1 y11 s7)) ti s3 x3)) ti σ)
def w_X9_isWord_21 (Q : Int32 → gS → Prop) (ti : Nat) (v0 : Int32) (σ : gS) : Prop :=
    ∃ n24, w_X9_isWord_24 Q ti n24 v0 0 σ
def w_X9_isWord (Q : Int32 → gS → Prop) (ti : Nat) (σ : gS) : Prop :=
    w_J0_length_8abf5  (fun (r13 : Int32) (s12 : gS) => (¬ ((σ 105 0) - (σ 107 0)) = r13 → w_X9_isWord_21 Q ti 0 s12) ∧ (((σ 105 0) - (σ 107 0)) = r13 → w_X9_isWord_21 Q ti 1 s12)) ti σ
abbrev ws_X9_isWord : List Cond := Cond.code yX9_isWord cX9_isWord 4 (some .boolean) :: gG
abbrev rm_X9_isWord : Room := { frames := 4, cells := 0, slots := 0, locals := 85 }
theorem k_X9_isWord : gCV yX9_isWord RX9 cX9_isWord 4 (some .boolean) 1 := ⟨gw_6_49, gwp_56, gw_1_11, gw_6_50, rfl, by decide +kernel⟩
set_option maxHeartbeats 4000000 in
set_option maxRecDepth 100000 in
theorem c_X9_isWord (l : Launch) (D : va_G) (cy : Nat → ClassId) (ad : Nat → Nat) (A : Nat → Prop) (Q : Int32 → gS → Prop) (ti : Nat) (hti : ti < 14) (σ : gS) (h : w_X9_isWord Q ti σ) : Met l yX9_isWord ws_X9_isWord rm_X9_isWord (va_Pc [.ref (ad 10), .ref (ad (200 + ti))] (gB D cy ad A σ)) (va_Qi Q (gB D cy ad A) A) 0 0 A := by
  refine Met.ofW (cc := cX9_isWord) (maxL := 4) (ret := (some .boolean)) (by decide) rfl ?_
  intro p e s m args below meth c s₁ B hml hv
  obtain ⟨rfl, hB⟩ := hv
  have hC : gC p c cX9_isWord s m ([.ref (ad 10), .ref (ad (200 + ti))] : List Value).toArray RX9 D cy ad A := g_start B hB
  have hI := g_first hB
  have hx := hC.1
  have hb := hC.2.1
  have hr := B.returns
  have hlocks := B.notSynchronized
  clear B hB
  have J24 : ∀ (n24 : Nat) (x2 : Int32) (x3 : Int32) (σ : gS) (H : Heap) (locs : List Loc) (ls : Array Slot), w_X9_isWord_24 Q ti n24 x2 x3 σ → gI D cy ad A s.heap σ H locs → lv_has ls 4 [(0, .ref (ad 10)), (1, .ref (ad (200 + ti))), (2, .int x2), (3, .int x3)] → W p l e (headSpec ws_X9_isWord rm_X9_isWord).room s m ([.ref (ad 10), .ref (ad (200 + ti))] : List Value).toArray below meth c H locs 0 0 (MQ below (va_Qi Q (gB D cy ad A) A) ([.ref (ad 10), .ref (ad (200 + ti))] : List Value).toArray s 0 0 A) (F0 m 24 ls []) := by
    intro n24
    induction n24 with
    | zero => intro x2 x3 σ H locs ls h; exact absurd h (fun h => h)
    | succ n24 ih24 =>
      intro x2 x3 σ H locs ls h hI hl
      unfold w_X9_isWord_24 at h
      refine lv_iload_n hx hb dX9_isWord_24 rfl (lv_at hl 2 rfl) ?_
      refine lv_if_eq (tgt := 67) hx hb dX9_isWord_25 (by decide) (fun c2 => ?_) (fun c2 => ?_)
      · have h := h.1 c2
        refine lv_iload_n hx hb dX9_isWord_67 rfl (lv_at hl 2 rfl) ?_
        exact g_zret hC hr hlocks h.1 hI h.2 dX9_isWord_68
      · have h := h.2 c2
        refine lv_iload_n hx hb dX9_isWord_28 rfl (lv_at hl 3 rfl) ?_
        refine lv_aload_n hx hb dX9_isWord_29 rfl (lv_at hl 1 rfl) ?_
        refine g_backi hI (g_runV (As := []) (rest := [.int x3]) hC hml hI (c_J0_length_8abf5 l D cy ad A _ _ hti  _ h) k_J0_length_8abf5 gw_6_51 ⟨rfl, rfl⟩ ⟨Nat.le_of_ble_eq_true rfl, Nat.le_of_ble_eq_true rfl⟩ (gx_recv hti hC hI) rfl hl.1 rfl (Nat.le_of_ble_eq_true rfl) dX9_isWord_30 ⟨Nat.le_of_ble_eq_true rfl, Nat.le_of_ble_eq_true rfl⟩) (fun r4 s3 H locs h hI => ?_)
        refine lv_icmp_ge (tgt := 67) hx hb dX9_isWord_33 (by decide) (fun c5 => ?_) (fun c5 => ?_)
        · have h := h.1 c5
          refine lv_iload_n hx hb dX9_isWord_67 rfl (lv_at hl 2 rfl) ?_
          exact g_zret hC hr hlocks h.1 hI h.2 dX9_isWord_68
        · have h := h.2 c5
          refine lv_aload_n hx hb dX9_isWord_36 rfl (lv_at hl 0 rfl) ?_
          refine gg_X9_tape hC hI gw_4_228 dX9_isWord_37 ?_
          refine lv_aload_n hx hb dX9_isWord_40 rfl (lv_at hl 0 rfl) ?_
          refine gg_X9_begin hC hI gw_4_232 dX9_isWord_41 ?_
          refine lv_iload_n hx hb dX9_isWord_44 rfl (lv_at hl 3 rfl) ?_
          refine lv_iadd hx hb dX9_isWord_45 ?_
          obtain ⟨hi6, h⟩ := h
          refine ga_81 hC hI hi6 dX9_isWord_46 ?_
          refine lv_aload_n hx hb dX9_isWord_47 rfl (lv_at hl 1 rfl) ?_
          refine lv_iload_n hx hb dX9_isWord_48 rfl (lv_at hl 3 rfl) ?_
          refine g_backi hI (g_runV (As := [.int x3]) (rest := [.int (s3 103 ((s3 107 0) + x3).toNatClampNeg)]) hC hml hI (c_J0_charAt_5068e l D cy ad A _ _ hti  _ _ h) k_J0_charAt_5068e gw_6_52 ⟨rfl, rfl⟩ ⟨Nat.le_of_ble_eq_true rfl, Nat.le_of_ble_eq_true rfl⟩ (gx_recv hti hC hI) rfl hl.1 rfl (Nat.le_of_ble_eq_true rfl) dX9_isWord_49 ⟨Nat.le_of_ble_eq_true rfl, Nat.le_of_ble_eq_true rfl⟩) (fun r8 s7 H locs h hI => ?_)
          refine lv_icmp_ne (tgt := 59) hx hb dX9_isWord_52 (by decide) (fun c9 => ?_) (fun c9 => ?_)
          · have h := h.1 c9
            refine lv_iconst (v := 0) hx hb dX9_isWord_59 (by decide) ?_
            refine lv_istore_n (lv' := [(2, .int 0), (0, .ref (ad 10)), (1, .ref (ad (200 + ti))), (3, .int x3)]) hx hb dX9_isWord_60 rfl hl (by decide) rfl (fun ls hl => ?_)
            obtain ⟨y10, ey10⟩ : ∃ y : Int32, y = x3 + 1 := ⟨_, rfl⟩
            have h := h y10 ey10
            refine lv_iinc (v := y10) (lv' := [(3, .int y10), (2, .int 0), (0, .ref (ad 10)), (1, .ref (ad (200 + ti)))]) hx hb dX9_isWord_61 hl (k := 3) rfl (by rw [ey10]; rfl) (by decide) rfl (fun ls hl => ?_)
            refine lv_goto (tgt := 24) hx hb dX9_isWord_64 (by decide) ?_
            exact ih24 _ _ _ _ _ _ h hI (lv_sub hl [2, 3, 1, 0] rfl)
          · have h := h.2 c9
            refine lv_iconst (v := 1) hx hb dX9_isWord_55 (by decide) ?_
            refine lv_goto (tgt := 60) hx hb dX9_isWord_56 (by decide) ?_
            refine lv_istore_n (lv' := [(2, .int 1), (0, .ref (ad 10)), (1, .ref (ad (200 + ti))), (3, .int x3)]) hx hb dX9_isWord_60 rfl hl (by decide) rfl (fun ls hl => ?_)
            obtain ⟨y11, ey11⟩ : ∃ y : Int32, y = x3 + 1 := ⟨_, rfl⟩
            have h := h y11 ey11
            refine lv_iinc (v := y11) (lv' := [(3, .int y11), (2, .int 1), (0, .ref (ad 10)), (1, .ref (ad (200 + ti)))]) hx hb dX9_isWord_61 hl (k := 3) rfl (by rw [ey11]; rfl) (by decide) rfl (fun ls hl => ?_)
            refine lv_goto (tgt := 24) hx hb dX9_isWord_64 (by decide) ?_
            exact ih24 _ _ _ _ _ _ h hI (lv_sub hl [2, 3, 1, 0] rfl)
  have J21 : ∀ (v0 : Int32) (σ : gS) (H : Heap) (locs : List Loc) (ls : Array Slot), w_X9_isWord_21 Q ti v0 σ → gI D cy ad A s.heap σ H locs → lv_has ls 4 [(0, .ref (ad 10)), (1, .ref (ad (200 + ti)))] → W p l e (headSpec ws_X9_isWord rm_X9_isWord).room s m ([.ref (ad 10), .ref (ad (200 + ti))] : List Value).toArray below meth c H locs 0 0 (MQ below (va_Qi Q (gB D cy ad A) A) ([.ref (ad 10), .ref (ad (200 + ti))] : List Value).toArray s 0 0 A) (F0 m 21 ls [.int v0]) := by
    intro v0 σ H locs ls h hI hl
    unfold w_X9_isWord_21 at h
    refine lv_istore_n (lv' := [(2, .int v0), (0, .ref (ad 10)), (1, .ref (ad (200 + ti)))]) hx hb dX9_isWord_21 rfl hl (by decide) rfl (fun ls hl => ?_)
    refine lv_iconst (v := 0) hx hb dX9_isWord_22 (by decide) ?_
    refine lv_istore_n (lv' := [(3, .int 0), (2, .int v0), (0, .ref (ad 10)), (1, .ref (ad (200 + ti)))]) hx hb dX9_isWord_23 rfl hl (by decide) rfl (fun ls hl => ?_)
    obtain ⟨n9, h⟩ := h
    exact J24 n9 _ _ _ _ _ _ h hI (lv_sub hl [2, 3, 1, 0] rfl)
  have hl := lv_entry ([.ref (ad 10), .ref (ad (200 + ti))]) (n := 4) (Nat.le_of_ble_eq_true rfl)
  rw [lg_entry_eq]
  generalize (lg_sl ([.ref (ad 10), .ref (ad (200 + ti))]) ++ List.replicate (4 - (lg_sl ([.ref (ad 10), .ref (ad (200 + ti))])).length) Slot.unset).toArray = ls at hl ⊢
  have hl : lv_has ls 4 [(0, .ref (ad 10)), (1, .ref (ad (200 + ti)))] := hl
  unfold w_X9_isWord at h
  refine lv_aload_n hx hb dX9_isWord_0 rfl (lv_at hl 0 rfl) ?_
  refine gg_X9_point hC hI gw_4_230 dX9_isWord_1 ?_
  refine lv_aload_n hx hb dX9_isWord_4 rfl (lv_at hl 0 rfl) ?_
  refine gg_X9_begin hC hI gw_4_232 dX9_isWord_5 ?_
  refine lv_isub hx hb dX9_isWord_8 ?_
  refine lv_aload_n hx hb dX9_isWord_9 rfl (lv_at hl 1 rfl) ?_
  refine g_backi hI (g_runV (As := []) (rest := [.int ((σ 105 0) - (σ 107 0))]) hC hml hI (c_J0_length_8abf5 l D cy ad A _ _ hti  _ h) k_J0_length_8abf5 gw_6_51 ⟨rfl, rfl⟩ ⟨Nat.le_of_ble_eq_true rfl, Nat.le_of_ble_eq_true rfl⟩ (gx_recv hti hC hI) rfl hl.1 rfl (Nat.le_of_ble_eq_true rfl) dX9_isWord_10 ⟨Nat.le_of_ble_eq_true rfl, Nat.le_of_ble_eq_true rfl⟩) (fun r13 s12 H locs h hI => ?_)
  refine lv_icmp_ne (tgt := 20) hx hb dX9_isWord_13 (by decide) (fun c14 => ?_) (fun c14 => ?_)
  · have h := h.1 c14
    refine lv_iconst (v := 0) hx hb dX9_isWord_20 (by decide) ?_
    exact J21 _ _ _ _ _ h hI (lv_sub hl [0, 1] rfl)
  · have h := h.2 c14
    refine lv_iconst (v := 1) hx hb dX9_isWord_16 (by decide) ?_
    refine lv_goto (tgt := 21) hx hb dX9_isWord_17 (by decide) ?_
    exact J21 _ _ _ _ _ h hI (lv_sub hl [0, 1] rfl)

theorem dX9_readTerm_0 : decode cX9_readTerm 0 = .ok (.aload_n 0, 1) := by decide +kernel
theorem dX9_readTerm_1 : decode cX9_readTerm 1 = .ok (.invokevirtual 251, 3) := by decide +kernel
theorem dX9_readTerm_4 : decode cX9_readTerm 4 = .ok (.iload_n 1, 1) := by decide +kernel
theorem dX9_readTerm_5 : decode cX9_readTerm 5 = .ok (.bipush 12, 2) := by decide +kernel
theorem dX9_readTerm_7 : decode cX9_readTerm 7 = .ok (.if_icmp .ne 5, 3) := by decide +kernel
theorem dX9_readTerm_10 : decode cX9_readTerm 10 = .ok (.iconst 0, 1) := by decide +kernel
theorem dX9_readTerm_11 : decode cX9_readTerm 11 = .ok (.ireturn, 1) := by decide +kernel
theorem dX9_readTerm_12 : decode cX9_readTerm 12 = .ok (.iconst 4, 1) := by decide +kernel
theorem dX9_readTerm_13 : decode cX9_readTerm 13 = .ok (.iload_n 1, 1) := by decide +kernel
theorem dX9_readTerm_14 : decode cX9_readTerm 14 = .ok (.imul, 1) := by decide +kernel
theorem dX9_readTerm_15 : decode cX9_readTerm 15 = .ok (.istore_n 2, 1) := by decide +kernel
theorem dX9_readTerm_16 : decode cX9_readTerm 16 = .ok (.aload_n 0, 1) := by decide +kernel
theorem dX9_readTerm_17 : decode cX9_readTerm 17 = .ok (.getfield 99, 3) := by decide +kernel
theorem dX9_readTerm_20 : decode cX9_readTerm 20 = .ok (.iload_n 2, 1) := by decide +kernel
theorem dX9_readTerm_21 : decode cX9_readTerm 21 = .ok (.aload_n 0, 1) := by decide +kernel
theorem dX9_readTerm_22 : decode cX9_readTerm 22 = .ok (.ldc 254, 2) := by decide +kernel
theorem dX9_readTerm_24 : decode cX9_readTerm 24 = .ok (.invokevirtual 255, 3) := by decide +kernel
theorem dX9_readTerm_27 : decode cX9_readTerm 27 = .ok (.ifCond .eq 7, 3) := by decide +kernel
theorem dX9_readTerm_30 : decode cX9_readTerm 30 = .ok (.iconst 0, 1) := by decide +kernel
theorem dX9_readTerm_31 : decode cX9_readTerm 31 = .ok (.goto 60, 3) := by decide +kernel
theorem dX9_readTerm_34 : decode cX9_readTerm 34 = .ok (.aload_n 0, 1) := by decide +kernel
theorem dX9_readTerm_35 : decode cX9_readTerm 35 = .ok (.ldc_w 259, 3) := by decide +kernel
theorem dX9_readTerm_38 : decode cX9_readTerm 38 = .ok (.invokevirtual 255, 3) := by decide +kernel
theorem dX9_readTerm_41 : decode cX9_readTerm 41 = .ok (.ifCond .eq 7, 3) := by decide +kernel
theorem dX9_readTerm_44 : decode cX9_readTerm 44 = .ok (.iconst 1, 1) := by decide +kernel
theorem dX9_readTerm_45 : decode cX9_readTerm 45 = .ok (.goto 46, 3) := by decide +kernel
theorem dX9_readTerm_48 : decode cX9_readTerm 48 = .ok (.aload_n 0, 1) := by decide +kernel
theorem dX9_readTerm_49 : decode cX9_readTerm 49 = .ok (.ldc_w 261, 3) := by decide +kernel
theorem dX9_readTerm_52 : decode cX9_readTerm 52 = .ok (.invokevirtual 255, 3) := by decide +kernel
theorem dX9_readTerm_55 : decode cX9_readTerm 55 = .ok (.ifCond .eq 7, 3) := by decide +kernel
theorem dX9_readTerm_58 : decode cX9_readTerm 58 = .ok (.iconst 2, 1) := by decide +kernel
theorem dX9_readTerm_59 : decode cX9_readTerm 59 = .ok (.goto 32, 3) := by decide +kernel
theorem dX9_readTerm_62 : decode cX9_readTerm 62 = .ok (.aload_n 0, 1) := by decide +kernel
theorem dX9_readTerm_63 : decode cX9_readTerm 63 = .ok (.ldc_w 263, 3) := by decide +kernel
theorem dX9_readTerm_66 : decode cX9_readTerm 66 = .ok (.invokevirtual 255, 3) := by decide +kernel
theorem dX9_readTerm_69 : decode cX9_readTerm 69 = .ok (.ifCond .eq 7, 3) := by decide +kernel
theorem dX9_readTerm_72 : decode cX9_readTerm 72 = .ok (.iconst 3, 1) := by decide +kernel
theorem dX9_readTerm_73 : decode cX9_readTerm 73 = .ok (.goto 18, 3) := by decide +kernel
theorem dX9_readTerm_76 : decode cX9_readTerm 76 = .ok (.aload_n 0, 1) := by decide +kernel
theorem dX9_readTerm_77 : decode cX9_readTerm 77 = .ok (.ldc_w 264, 3) := by decide +kernel
theorem dX9_readTerm_80 : decode cX9_readTerm 80 = .ok (.invokevirtual 255, 3) := by decide +kernel
theorem dX9_readTerm_83 : decode cX9_readTerm 83 = .ok (.ifCond .eq 7, 3) := by decide +kernel
theorem dX9_readTerm_86 : decode cX9_readTerm 86 = .ok (.iconst 4, 1) := by decide +kernel
theorem dX9_readTerm_87 : decode cX9_readTerm 87 = .ok (.goto 4, 3) := by decide +kernel
theorem dX9_readTerm_90 : decode cX9_readTerm 90 = .ok (.iconst (-1), 1) := by decide +kernel
theorem dX9_readTerm_91 : decode cX9_readTerm 91 = .ok (.iastore, 1) := by decide +kernel
theorem dX9_readTerm_92 : decode cX9_readTerm 92 = .ok (.aload_n 0, 1) := by decide +kernel
theorem dX9_readTerm_93 : decode cX9_readTerm 93 = .ok (.getfield 99, 3) := by decide +kernel
theorem dX9_readTerm_96 : decode cX9_readTerm 96 = .ok (.iload_n 2, 1) := by decide +kernel
theorem dX9_readTerm_97 : decode cX9_readTerm 97 = .ok (.iaload, 1) := by decide +kernel
theorem dX9_readTerm_98 : decode cX9_readTerm 98 = .ok (.tableswitch 153 0 4 #[34, 46, 46, 57, 68], 34) := by decide +kernel
theorem dX9_readTerm_132 : decode cX9_readTerm 132 = .ok (.aload_n 0, 1) := by decide +kernel
theorem dX9_readTerm_133 : decode cX9_readTerm 133 = .ok (.iload_n 2, 1) := by decide +kernel
theorem dX9_readTerm_134 : decode cX9_readTerm 134 = .ok (.iconst 1, 1) := by decide +kernel
theorem dX9_readTerm_135 : decode cX9_readTerm 135 = .ok (.iadd, 1) := by decide +kernel
theorem dX9_readTerm_136 : decode cX9_readTerm 136 = .ok (.iconst 0, 1) := by decide +kernel
theorem dX9_readTerm_137 : decode cX9_readTerm 137 = .ok (.ldc_w 265, 3) := by decide +kernel
theorem dX9_readTerm_140 : decode cX9_readTerm 140 = .ok (.invokevirtual 266, 3) := by decide +kernel
theorem dX9_readTerm_143 : decode cX9_readTerm 143 = .ok (.ireturn, 1) := by decide +kernel
theorem dX9_readTerm_144 : decode cX9_readTerm 144 = .ok (.aload_n 0, 1) := by decide +kernel
theorem dX9_readTerm_145 : decode cX9_readTerm 145 = .ok (.iload_n 2, 1) := by decide +kernel
theorem dX9_readTerm_146 : decode cX9_readTerm 146 = .ok (.iconst 1, 1) := by decide +kernel
theorem dX9_readTerm_147 : decode cX9_readTerm 147 = .ok (.iadd, 1) := by decide +kernel
theorem dX9_readTerm_148 : decode cX9_readTerm 148 = .ok (.iconst 0, 1) := by decide +kernel
theorem dX9_readTerm_149 : decode cX9_readTerm 149 = .ok (.bipush 40, 2) := by decide +kernel
theorem dX9_readTerm_151 : decode cX9_readTerm 151 = .ok (.invokevirtual 266, 3) := by decide +kernel
theorem dX9_readTerm_154 : decode cX9_readTerm 154 = .ok (.ireturn, 1) := by decide +kernel
theorem dX9_readTerm_155 : decode cX9_readTerm 155 = .ok (.aload_n 0, 1) := by decide +kernel
theorem dX9_readTerm_156 : decode cX9_readTerm 156 = .ok (.iload_n 2, 1) := by decide +kernel
theorem dX9_readTerm_157 : decode cX9_readTerm 157 = .ok (.iconst 1, 1) := by decide +kernel
theorem dX9_readTerm_158 : decode cX9_readTerm 158 = .ok (.iadd, 1) := by decide +kernel
theorem dX9_readTerm_159 : decode cX9_readTerm 159 = .ok (.iconst 0, 1) := by decide +kernel
theorem dX9_readTerm_160 : decode cX9_readTerm 160 = .ok (.bipush 60, 2) := by decide +kernel
theorem dX9_readTerm_162 : decode cX9_readTerm 162 = .ok (.invokevirtual 266, 3) := by decide +kernel
theorem dX9_readTerm_165 : decode cX9_readTerm 165 = .ok (.ireturn, 1) := by decide +kernel
theorem dX9_readTerm_166 : decode cX9_readTerm 166 = .ok (.aload_n 0, 1) := by decide +kernel
theorem dX9_readTerm_167 : decode cX9_readTerm 167 = .ok (.iload_n 2, 1) := by decide +kernel
theorem dX9_readTerm_168 : decode cX9_readTerm 168 = .ok (.iconst 1, 1) := by decide +kernel
theorem dX9_readTerm_169 : decode cX9_readTerm 169 = .ok (.iadd, 1) := by decide +kernel
theorem dX9_readTerm_170 : decode cX9_readTerm 170 = .ok (.iconst 0, 1) := by decide +kernel
theorem dX9_readTerm_171 : decode cX9_readTerm 171 = .ok (.sipush 200, 3) := by decide +kernel
theorem dX9_readTerm_174 : decode cX9_readTerm 174 = .ok (.invokevirtual 266, 3) := by decide +kernel
theorem dX9_readTerm_177 : decode cX9_readTerm 177 = .ok (.ifCond .ne 5, 3) := by decide +kernel
theorem dX9_readTerm_180 : decode cX9_readTerm 180 = .ok (.iconst 0, 1) := by decide +kernel
theorem dX9_readTerm_181 : decode cX9_readTerm 181 = .ok (.ireturn, 1) := by decide +kernel
theorem dX9_readTerm_182 : decode cX9_readTerm 182 = .ok (.aload_n 0, 1) := by decide +kernel
theorem dX9_readTerm_183 : decode cX9_readTerm 183 = .ok (.invokevirtual 251, 3) := by decide +kernel
theorem dX9_readTerm_186 : decode cX9_readTerm 186 = .ok (.aload_n 0, 1) := by decide +kernel
theorem dX9_readTerm_187 : decode cX9_readTerm 187 = .ok (.ldc_w 269, 3) := by decide +kernel
theorem dX9_readTerm_190 : decode cX9_readTerm 190 = .ok (.invokevirtual 255, 3) := by decide +kernel
theorem dX9_readTerm_193 : decode cX9_readTerm 193 = .ok (.ifCond .eq 16, 3) := by decide +kernel
theorem dX9_readTerm_196 : decode cX9_readTerm 196 = .ok (.aload_n 0, 1) := by decide +kernel
theorem dX9_readTerm_197 : decode cX9_readTerm 197 = .ok (.iload_n 2, 1) := by decide +kernel
theorem dX9_readTerm_198 : decode cX9_readTerm 198 = .ok (.iconst 2, 1) := by decide +kernel
theorem dX9_readTerm_199 : decode cX9_readTerm 199 = .ok (.iadd, 1) := by decide +kernel
theorem dX9_readTerm_200 : decode cX9_readTerm 200 = .ok (.iconst 0, 1) := by decide +kernel
theorem dX9_readTerm_201 : decode cX9_readTerm 201 = .ok (.bipush 23, 2) := by decide +kernel
theorem dX9_readTerm_203 : decode cX9_readTerm 203 = .ok (.invokevirtual 266, 3) := by decide +kernel
theorem dX9_readTerm_206 : decode cX9_readTerm 206 = .ok (.ifCond .ne 5, 3) := by decide +kernel
theorem dX9_readTerm_209 : decode cX9_readTerm 209 = .ok (.iconst 0, 1) := by decide +kernel
theorem dX9_readTerm_210 : decode cX9_readTerm 210 = .ok (.ireturn, 1) := by decide +kernel
theorem dX9_readTerm_211 : decode cX9_readTerm 211 = .ok (.aload_n 0, 1) := by decide +kernel
theorem dX9_readTerm_212 : decode cX9_readTerm 212 = .ok (.invokevirtual 251, 3) := by decide +kernel
theorem dX9_readTerm_215 : decode cX9_readTerm 215 = .ok (.aload_n 0, 1) := by decide +kernel
theorem dX9_readTerm_216 : decode cX9_readTerm 216 = .ok (.ldc_w 270, 3) := by decide +kernel
theorem dX9_readTerm_219 : decode cX9_readTerm 219 = .ok (.invokevirtual 255, 3) := by decide +kernel
theorem dX9_readTerm_222 : decode cX9_readTerm 222 = .ok (.ifCond .eq 27, 3) := by decide +kernel
theorem dX9_readTerm_225 : decode cX9_readTerm 225 = .ok (.aload_n 0, 1) := by decide +kernel
theorem dX9_readTerm_226 : decode cX9_readTerm 226 = .ok (.iload_n 2, 1) := by decide +kernel
theorem dX9_readTerm_227 : decode cX9_readTerm 227 = .ok (.iconst 3, 1) := by decide +kernel
theorem dX9_readTerm_228 : decode cX9_readTerm 228 = .ok (.iadd, 1) := by decide +kernel
theorem dX9_readTerm_229 : decode cX9_readTerm 229 = .ok (.aload_n 0, 1) := by decide +kernel
theorem dX9_readTerm_230 : decode cX9_readTerm 230 = .ok (.getfield 99, 3) := by decide +kernel
theorem dX9_readTerm_233 : decode cX9_readTerm 233 = .ok (.iload_n 2, 1) := by decide +kernel
theorem dX9_readTerm_234 : decode cX9_readTerm 234 = .ok (.iconst 2, 1) := by decide +kernel
theorem dX9_readTerm_235 : decode cX9_readTerm 235 = .ok (.iadd, 1) := by decide +kernel
theorem dX9_readTerm_236 : decode cX9_readTerm 236 = .ok (.iaload, 1) := by decide +kernel
theorem dX9_readTerm_237 : decode cX9_readTerm 237 = .ok (.bipush 23, 2) := by decide +kernel
theorem dX9_readTerm_239 : decode cX9_readTerm 239 = .ok (.invokevirtual 266, 3) := by decide +kernel
theorem dX9_readTerm_242 : decode cX9_readTerm 242 = .ok (.ifCond .eq 7, 3) := by decide +kernel
theorem dX9_readTerm_245 : decode cX9_readTerm 245 = .ok (.iconst 1, 1) := by decide +kernel
theorem dX9_readTerm_246 : decode cX9_readTerm 246 = .ok (.goto 4, 3) := by decide +kernel
theorem dX9_readTerm_249 : decode cX9_readTerm 249 = .ok (.iconst 0, 1) := by decide +kernel
theorem dX9_readTerm_250 : decode cX9_readTerm 250 = .ok (.ireturn, 1) := by decide +kernel
theorem dX9_readTerm_251 : decode cX9_readTerm 251 = .ok (.iconst 0, 1) := by decide +kernel
theorem dX9_readTerm_252 : decode cX9_readTerm 252 = .ok (.ireturn, 1) := by decide +kernel
def w_X9_readTerm_249 (Q : Int32 → gS → Prop) (σ : gS) : Prop :=
    Q 0 σ
def w_X9_readTerm_91 (Q : Int32 → gS → Prop) (x2 : Int32) (v0 : Int32) (v1 : Int32) (σ : gS) : Prop :=
    vp_in v1 48 ∧ ∀ s4 : gS, s4 = gu σ 100 v1.toNatClampNeg v0 → vp_in x2 48 ∧ ((s4 100 x2.toNatClampNeg) = 0 → w_X9_number  (fun (r8 : Int32) (s7 : gS) => gz r8 ∧ Q r8 s7) s4 (x2 + 1) 0 160000) ∧ (¬ (s4 100 x2.toNatClampNeg) = 0 → ((s4 100 x2.toNatClampNeg) = 1 → w_X9_number  (fun (r11 : Int32) (s10 : gS) => gz r11 ∧ Q r11 s10) s4 (x2 + 1) 0 40) ∧ (¬ (s4 100 x2.toNatClampNeg) = 1 → ((s4 100 x2.toNatClampNeg) = 2 → w_X9_number  (fun (r14 : Int32) (s13 : gS) => gz r14 ∧ Q r14 s13) s4 (x2 + 1) 0 40) ∧ (¬ (s4 100 x2.toNatClampNeg) = 2 → ((s4 100 x2.toNatClampNeg) = 3 → w_X9_number  (fun (r17 : Int32) (s16 : gS) => gz r17 ∧ Q r17 s16) s4 (x2 + 1) 0 60) ∧ (¬ (s4 100 x2.toNatClampNeg) = 3 → ((s4 100 x2.toNatClampNeg) = 4 → w_X9_number  (fun (r20 : Int32) (s19 : gS) => (¬ r20 = 0 → w_X9_word  (fun (s22 : gS) => w_X9_isWord  (fun (r25 : Int32) (s24 : gS) => (r25 = 0 → Q 0 s24) ∧ (¬ r25 = 0 → w_X9_number  (fun (r28 : Int32) (s27 : gS) => (¬ r28 = 0 → w_X9_word  (fun (s30 : gS) => w_X9_isWord  (fun (r33 : Int32) (s32 : gS) => (r33 = 0 → w_X9_readTerm_249 Q s32) ∧ (¬ r33 = 0 → vp_in (x2 + 2) 48 ∧ w_X9_number  (fun (r37 : Int32) (s36 : gS) => (r37 = 0 → w_X9_readTerm_249 Q s36) ∧ (¬ r37 = 0 → Q 1 s36)) s32 (x2 + 3) (s32 100 (x2 + 2).toNatClampNeg) 23)) 13 s30) s27) ∧ (r28 = 0 → Q 0 s27)) s24 (x2 + 2) 0 23)) 12 s22) s19) ∧ (r20 = 0 → Q 0 s19)) s4 (x2 + 1) 0 200) ∧ (¬ (s4 100 x2.toNatClampNeg) = 4 → Q 0 s4)))))
def w_X9_readTerm (Q : Int32 → gS → Prop) (σ : gS) (a1 : Int32) : Prop :=
    w_X9_word  (fun (s39 : gS) => (¬ a1 = 12 → ∀ y42 : Int32, y42 = (4 * a1) → w_X9_isWord  (fun (r44 : Int32) (s43 : gS) => (r44 = 0 → w_X9_isWord  (fun (r47 : Int32) (s46 : gS) => (r47 = 0 → w_X9_isWord  (fun (r50 : Int32) (s49 : gS) => (r50 = 0 → w_X9_isWord  (fun (r53 : Int32) (s52 : gS) => (r53 = 0 → w_X9_isWord  (fun (r56 : Int32) (s55 : gS) => (r56 = 0 → w_X9_readTerm_91 Q y42 (-1) y42 s55) ∧ (¬ r56 = 0 → w_X9_readTerm_91 Q y42 4 y42 s55)) 11 s52) ∧ (¬ r53 = 0 → w_X9_readTerm_91 Q y42 3 y42 s52)) 10 s49) ∧ (¬ r50 = 0 → w_X9_readTerm_91 Q y42 2 y42 s49)) 9 s46) ∧ (¬ r47 = 0 → w_X9_readTerm_91 Q y42 1 y42 s46)) 8 s43) ∧ (¬ r44 = 0 → w_X9_readTerm_91 Q y42 0 y42 s43)) 7 s39) ∧ (a1 = 12 → Q 0 s39)) σ
abbrev ws_X9_readTerm : List Cond := Cond.code yX9_readTerm cX9_readTerm 3 (some .boolean) :: gG
abbrev rm_X9_readTerm : Room := { frames := 5, cells := 0, slots := 0, locals := 108 }
theorem k_X9_readTerm : gCV yX9_readTerm RX9 cX9_readTerm 3 (some .boolean) 1 := ⟨gw_6_32, gwp_52, gw_1_11, gw_6_33, rfl, by decide +kernel⟩
set_option maxHeartbeats 4000000 in
set_option maxRecDepth 100000 in
theorem c_X9_readTerm (l : Launch) (D : va_G) (cy : Nat → ClassId) (ad : Nat → Nat) (A : Nat → Prop) (Q : Int32 → gS → Prop) (σ : gS) (a1 : Int32) (h : w_X9_readTerm Q σ a1) : Met l yX9_readTerm ws_X9_readTerm rm_X9_readTerm (va_Pc [.ref (ad 10), .int a1] (gB D cy ad A σ)) (va_Qi Q (gB D cy ad A) A) 0 0 A := by
  refine Met.ofW (cc := cX9_readTerm) (maxL := 3) (ret := (some .boolean)) (by decide) rfl ?_
  intro p e s m args below meth c s₁ B hml hv
  obtain ⟨rfl, hB⟩ := hv
  have hC : gC p c cX9_readTerm s m ([.ref (ad 10), .int a1] : List Value).toArray RX9 D cy ad A := g_start B hB
  have hI := g_first hB
  have hx := hC.1
  have hb := hC.2.1
  have hr := B.returns
  have hlocks := B.notSynchronized
  clear B hB
  have J249 : ∀ (σ : gS) (H : Heap) (locs : List Loc) (ls : Array Slot), w_X9_readTerm_249 Q σ → gI D cy ad A s.heap σ H locs → lv_has ls 3 [] → W p l e (headSpec ws_X9_readTerm rm_X9_readTerm).room s m ([.ref (ad 10), .int a1] : List Value).toArray below meth c H locs 0 0 (MQ below (va_Qi Q (gB D cy ad A) A) ([.ref (ad 10), .int a1] : List Value).toArray s 0 0 A) (F0 m 249 ls []) := by
    intro σ H locs ls h hI hl
    unfold w_X9_readTerm_249 at h
    refine lv_iconst (v := 0) hx hb dX9_readTerm_249 (by decide) ?_
    exact g_zret hC hr hlocks rfl hI h dX9_readTerm_250
  have J91 : ∀ (x2 : Int32) (v0 : Int32) (v1 : Int32) (σ : gS) (H : Heap) (locs : List Loc) (ls : Array Slot), w_X9_readTerm_91 Q x2 v0 v1 σ → gI D cy ad A s.heap σ H locs → lv_has ls 3 [(0, .ref (ad 10)), (2, .int x2)] → W p l e (headSpec ws_X9_readTerm rm_X9_readTerm).room s m ([.ref (ad 10), .int a1] : List Value).toArray below meth c H locs 0 0 (MQ below (va_Qi Q (gB D cy ad A) A) ([.ref (ad 10), .int a1] : List Value).toArray s 0 0 A) (F0 m 91 ls [.int v0, .int v1, .ref (ad 79)]) := by
    intro x2 v0 v1 σ H locs ls h hI hl
    unfold w_X9_readTerm_91 at h
    obtain ⟨hi3, h⟩ := h
    refine gs_79 hC hI hi3 dX9_readTerm_91 (fun s4 H locs es4 hI => ?_)
    have h := h s4 es4
    refine lv_aload_n hx hb dX9_readTerm_92 rfl (lv_at hl 0 rfl) ?_
    refine gg_X9_draft hC hI gw_4_225 dX9_readTerm_93 ?_
    refine lv_iload_n hx hb dX9_readTerm_96 rfl (lv_at hl 1 rfl) ?_
    obtain ⟨hi5, h⟩ := h
    refine ga_79 hC hI hi5 dX9_readTerm_97 ?_
    by_cases c6 : s4 100 x2.toNatClampNeg = 0
    · have h := h.1 c6
      refine lv_tableIn (tgt := 132) hx hb dX9_readTerm_98 (by rw [c6]; decide) (by rw [c6]; decide) (by rw [c6]; rfl) (by decide) ?_
      refine lv_aload_n hx hb dX9_readTerm_132 rfl (lv_at hl 0 rfl) ?_
      refine lv_iload_n hx hb dX9_readTerm_133 rfl (lv_at hl 1 rfl) ?_
      refine lv_iconst (v := 1) hx hb dX9_readTerm_134 (by decide) ?_
      refine lv_iadd hx hb dX9_readTerm_135 ?_
      refine lv_iconst (v := 0) hx hb dX9_readTerm_136 (by decide) ?_
      refine lv_ldcw (v := 160000) hx hb hC.2.2.2.1 (hC.2.2.1 _ gw_6_57) dX9_readTerm_137 ?_
      refine g_backi hI (g_runV (As := [.int (x2 + 1), .int 0, .int 160000]) (rest := []) hC hml hI (c_X9_number l D cy ad A _  _ _ _ _ h) k_X9_number gw_6_58 ⟨rfl, rfl⟩ ⟨Nat.le_of_ble_eq_true rfl, Nat.le_of_ble_eq_true rfl⟩ (grv_10 hC hI) rfl hl.1 rfl (Nat.le_of_ble_eq_true rfl) dX9_readTerm_140 ⟨Nat.le_of_ble_eq_true rfl, Nat.le_of_ble_eq_true rfl⟩) (fun r8 s7 H locs h hI => ?_)
      exact g_zret hC hr hlocks h.1 hI h.2 dX9_readTerm_143
    have h := h.2 c6
    by_cases c9 : s4 100 x2.toNatClampNeg = 1
    · have h := h.1 c9
      refine lv_tableIn (tgt := 144) hx hb dX9_readTerm_98 (by rw [c9]; decide) (by rw [c9]; decide) (by rw [c9]; rfl) (by decide) ?_
      refine lv_aload_n hx hb dX9_readTerm_144 rfl (lv_at hl 0 rfl) ?_
      refine lv_iload_n hx hb dX9_readTerm_145 rfl (lv_at hl 1 rfl) ?_
      refine lv_iconst (v := 1) hx hb dX9_readTerm_146 (by decide) ?_
      refine lv_iadd hx hb dX9_readTerm_147 ?_
      refine lv_iconst (v := 0) hx hb dX9_readTerm_148 (by decide) ?_
      refine lv_bipush (v := 40) hx hb dX9_readTerm_149 (by decide) ?_
      refine g_backi hI (g_runV (As := [.int (x2 + 1), .int 0, .int 40]) (rest := []) hC hml hI (c_X9_number l D cy ad A _  _ _ _ _ h) k_X9_number gw_6_58 ⟨rfl, rfl⟩ ⟨Nat.le_of_ble_eq_true rfl, Nat.le_of_ble_eq_true rfl⟩ (grv_10 hC hI) rfl hl.1 rfl (Nat.le_of_ble_eq_true rfl) dX9_readTerm_151 ⟨Nat.le_of_ble_eq_true rfl, Nat.le_of_ble_eq_true rfl⟩) (fun r11 s10 H locs h hI => ?_)
      exact g_zret hC hr hlocks h.1 hI h.2 dX9_readTerm_154
    have h := h.2 c9
    by_cases c12 : s4 100 x2.toNatClampNeg = 2
    · have h := h.1 c12
      refine lv_tableIn (tgt := 144) hx hb dX9_readTerm_98 (by rw [c12]; decide) (by rw [c12]; decide) (by rw [c12]; rfl) (by decide) ?_
      refine lv_aload_n hx hb dX9_readTerm_144 rfl (lv_at hl 0 rfl) ?_
      refine lv_iload_n hx hb dX9_readTerm_145 rfl (lv_at hl 1 rfl) ?_
      refine lv_iconst (v := 1) hx hb dX9_readTerm_146 (by decide) ?_
      refine lv_iadd hx hb dX9_readTerm_147 ?_
      refine lv_iconst (v := 0) hx hb dX9_readTerm_148 (by decide) ?_
      refine lv_bipush (v := 40) hx hb dX9_readTerm_149 (by decide) ?_
      refine g_backi hI (g_runV (As := [.int (x2 + 1), .int 0, .int 40]) (rest := []) hC hml hI (c_X9_number l D cy ad A _  _ _ _ _ h) k_X9_number gw_6_58 ⟨rfl, rfl⟩ ⟨Nat.le_of_ble_eq_true rfl, Nat.le_of_ble_eq_true rfl⟩ (grv_10 hC hI) rfl hl.1 rfl (Nat.le_of_ble_eq_true rfl) dX9_readTerm_151 ⟨Nat.le_of_ble_eq_true rfl, Nat.le_of_ble_eq_true rfl⟩) (fun r14 s13 H locs h hI => ?_)
      exact g_zret hC hr hlocks h.1 hI h.2 dX9_readTerm_154
    have h := h.2 c12
    by_cases c15 : s4 100 x2.toNatClampNeg = 3
    · have h := h.1 c15
      refine lv_tableIn (tgt := 155) hx hb dX9_readTerm_98 (by rw [c15]; decide) (by rw [c15]; decide) (by rw [c15]; rfl) (by decide) ?_
      refine lv_aload_n hx hb dX9_readTerm_155 rfl (lv_at hl 0 rfl) ?_
      refine lv_iload_n hx hb dX9_readTerm_156 rfl (lv_at hl 1 rfl) ?_
      refine lv_iconst (v := 1) hx hb dX9_readTerm_157 (by decide) ?_
      refine lv_iadd hx hb dX9_readTerm_158 ?_
      refine lv_iconst (v := 0) hx hb dX9_readTerm_159 (by decide) ?_
      refine lv_bipush (v := 60) hx hb dX9_readTerm_160 (by decide) ?_
      refine g_backi hI (g_runV (As := [.int (x2 + 1), .int 0, .int 60]) (rest := []) hC hml hI (c_X9_number l D cy ad A _  _ _ _ _ h) k_X9_number gw_6_58 ⟨rfl, rfl⟩ ⟨Nat.le_of_ble_eq_true rfl, Nat.le_of_ble_eq_true rfl⟩ (grv_10 hC hI) rfl hl.1 rfl (Nat.le_of_ble_eq_true rfl) dX9_readTerm_162 ⟨Nat.le_of_ble_eq_true rfl, Nat.le_of_ble_eq_true rfl⟩) (fun r17 s16 H locs h hI => ?_)
      exact g_zret hC hr hlocks h.1 hI h.2 dX9_readTerm_165
    have h := h.2 c15
    by_cases c18 : s4 100 x2.toNatClampNeg = 4
    · have h := h.1 c18
      refine lv_tableIn (tgt := 166) hx hb dX9_readTerm_98 (by rw [c18]; decide) (by rw [c18]; decide) (by rw [c18]; rfl) (by decide) ?_
      refine lv_aload_n hx hb dX9_readTerm_166 rfl (lv_at hl 0 rfl) ?_
      refine lv_iload_n hx hb dX9_readTerm_167 rfl (lv_at hl 1 rfl) ?_
      refine lv_iconst (v := 1) hx hb dX9_readTerm_168 (by decide) ?_
      refine lv_iadd hx hb dX9_readTerm_169 ?_
      refine lv_iconst (v := 0) hx hb dX9_readTerm_170 (by decide) ?_
      refine lv_sipush (v := 200) hx hb dX9_readTerm_171 (by decide) ?_
      refine g_backi hI (g_runV (As := [.int (x2 + 1), .int 0, .int 200]) (rest := []) hC hml hI (c_X9_number l D cy ad A _  _ _ _ _ h) k_X9_number gw_6_58 ⟨rfl, rfl⟩ ⟨Nat.le_of_ble_eq_true rfl, Nat.le_of_ble_eq_true rfl⟩ (grv_10 hC hI) rfl hl.1 rfl (Nat.le_of_ble_eq_true rfl) dX9_readTerm_174 ⟨Nat.le_of_ble_eq_true rfl, Nat.le_of_ble_eq_true rfl⟩) (fun r20 s19 H locs h hI => ?_)
      refine lv_if_ne (tgt := 182) hx hb dX9_readTerm_177 (by decide) (fun c21 => ?_) (fun c21 => ?_)
      · have h := h.1 c21
        refine lv_aload_n hx hb dX9_readTerm_182 rfl (lv_at hl 0 rfl) ?_
        refine g_backv hI (g_runV (As := []) (rest := []) hC hml hI (c_X9_word l D cy ad A _  _ h) k_X9_word gw_6_34 ⟨rfl, rfl⟩ ⟨Nat.le_of_ble_eq_true rfl, Nat.le_of_ble_eq_true rfl⟩ (grv_10 hC hI) rfl hl.1 rfl (Nat.le_of_ble_eq_true rfl) dX9_readTerm_183 ⟨Nat.le_of_ble_eq_true rfl, Nat.le_of_ble_eq_true rfl⟩) (fun s22 H locs h hI => ?_)
        refine lv_aload_n hx hb dX9_readTerm_186 rfl (lv_at hl 0 rfl) ?_
        refine gx_ldcw (tx := "from") (i := 12) (by decide) hC dX9_readTerm_187 ?_
        refine g_backi hI (g_runV (As := [.ref (ad (200 + 12))]) (rest := []) hC hml hI (c_X9_isWord l D cy ad A _ _ (by decide)  _ h) k_X9_isWord gw_6_47 ⟨rfl, rfl⟩ ⟨Nat.le_of_ble_eq_true rfl, Nat.le_of_ble_eq_true rfl⟩ (grv_10 hC hI) rfl hl.1 rfl (Nat.le_of_ble_eq_true rfl) dX9_readTerm_190 ⟨Nat.le_of_ble_eq_true rfl, Nat.le_of_ble_eq_true rfl⟩) (fun r25 s24 H locs h hI => ?_)
        refine lv_if_eq (tgt := 209) hx hb dX9_readTerm_193 (by decide) (fun c26 => ?_) (fun c26 => ?_)
        · have h := h.1 c26
          refine lv_iconst (v := 0) hx hb dX9_readTerm_209 (by decide) ?_
          exact g_zret hC hr hlocks rfl hI h dX9_readTerm_210
        · have h := h.2 c26
          refine lv_aload_n hx hb dX9_readTerm_196 rfl (lv_at hl 0 rfl) ?_
          refine lv_iload_n hx hb dX9_readTerm_197 rfl (lv_at hl 1 rfl) ?_
          refine lv_iconst (v := 2) hx hb dX9_readTerm_198 (by decide) ?_
          refine lv_iadd hx hb dX9_readTerm_199 ?_
          refine lv_iconst (v := 0) hx hb dX9_readTerm_200 (by decide) ?_
          refine lv_bipush (v := 23) hx hb dX9_readTerm_201 (by decide) ?_
          refine g_backi hI (g_runV (As := [.int (x2 + 2), .int 0, .int 23]) (rest := []) hC hml hI (c_X9_number l D cy ad A _  _ _ _ _ h) k_X9_number gw_6_58 ⟨rfl, rfl⟩ ⟨Nat.le_of_ble_eq_true rfl, Nat.le_of_ble_eq_true rfl⟩ (grv_10 hC hI) rfl hl.1 rfl (Nat.le_of_ble_eq_true rfl) dX9_readTerm_203 ⟨Nat.le_of_ble_eq_true rfl, Nat.le_of_ble_eq_true rfl⟩) (fun r28 s27 H locs h hI => ?_)
          refine lv_if_ne (tgt := 211) hx hb dX9_readTerm_206 (by decide) (fun c29 => ?_) (fun c29 => ?_)
          · have h := h.1 c29
            refine lv_aload_n hx hb dX9_readTerm_211 rfl (lv_at hl 0 rfl) ?_
            refine g_backv hI (g_runV (As := []) (rest := []) hC hml hI (c_X9_word l D cy ad A _  _ h) k_X9_word gw_6_34 ⟨rfl, rfl⟩ ⟨Nat.le_of_ble_eq_true rfl, Nat.le_of_ble_eq_true rfl⟩ (grv_10 hC hI) rfl hl.1 rfl (Nat.le_of_ble_eq_true rfl) dX9_readTerm_212 ⟨Nat.le_of_ble_eq_true rfl, Nat.le_of_ble_eq_true rfl⟩) (fun s30 H locs h hI => ?_)
            refine lv_aload_n hx hb dX9_readTerm_215 rfl (lv_at hl 0 rfl) ?_
            refine gx_ldcw (tx := "to") (i := 13) (by decide) hC dX9_readTerm_216 ?_
            refine g_backi hI (g_runV (As := [.ref (ad (200 + 13))]) (rest := []) hC hml hI (c_X9_isWord l D cy ad A _ _ (by decide)  _ h) k_X9_isWord gw_6_47 ⟨rfl, rfl⟩ ⟨Nat.le_of_ble_eq_true rfl, Nat.le_of_ble_eq_true rfl⟩ (grv_10 hC hI) rfl hl.1 rfl (Nat.le_of_ble_eq_true rfl) dX9_readTerm_219 ⟨Nat.le_of_ble_eq_true rfl, Nat.le_of_ble_eq_true rfl⟩) (fun r33 s32 H locs h hI => ?_)
            refine lv_if_eq (tgt := 249) hx hb dX9_readTerm_222 (by decide) (fun c34 => ?_) (fun c34 => ?_)
            · have h := h.1 c34
              exact J249 _ _ _ _ h hI (lv_sub hl [] rfl)
            · have h := h.2 c34
              refine lv_aload_n hx hb dX9_readTerm_225 rfl (lv_at hl 0 rfl) ?_
              refine lv_iload_n hx hb dX9_readTerm_226 rfl (lv_at hl 1 rfl) ?_
              refine lv_iconst (v := 3) hx hb dX9_readTerm_227 (by decide) ?_
              refine lv_iadd hx hb dX9_readTerm_228 ?_
              refine lv_aload_n hx hb dX9_readTerm_229 rfl (lv_at hl 0 rfl) ?_
              refine gg_X9_draft hC hI gw_4_225 dX9_readTerm_230 ?_
              refine lv_iload_n hx hb dX9_readTerm_233 rfl (lv_at hl 1 rfl) ?_
              refine lv_iconst (v := 2) hx hb dX9_readTerm_234 (by decide) ?_
              refine lv_iadd hx hb dX9_readTerm_235 ?_
              obtain ⟨hi35, h⟩ := h
              refine ga_79 hC hI hi35 dX9_readTerm_236 ?_
              refine lv_bipush (v := 23) hx hb dX9_readTerm_237 (by decide) ?_
              refine g_backi hI (g_runV (As := [.int (x2 + 3), .int (s32 100 (x2 + 2).toNatClampNeg), .int 23]) (rest := []) hC hml hI (c_X9_number l D cy ad A _  _ _ _ _ h) k_X9_number gw_6_58 ⟨rfl, rfl⟩ ⟨Nat.le_of_ble_eq_true rfl, Nat.le_of_ble_eq_true rfl⟩ (grv_10 hC hI) rfl hl.1 rfl (Nat.le_of_ble_eq_true rfl) dX9_readTerm_239 ⟨Nat.le_of_ble_eq_true rfl, Nat.le_of_ble_eq_true rfl⟩) (fun r37 s36 H locs h hI => ?_)
              refine lv_if_eq (tgt := 249) hx hb dX9_readTerm_242 (by decide) (fun c38 => ?_) (fun c38 => ?_)
              · have h := h.1 c38
                exact J249 _ _ _ _ h hI (lv_sub hl [] rfl)
              · have h := h.2 c38
                refine lv_iconst (v := 1) hx hb dX9_readTerm_245 (by decide) ?_
                refine lv_goto (tgt := 250) hx hb dX9_readTerm_246 (by decide) ?_
                exact g_zret hC hr hlocks rfl hI h dX9_readTerm_250
          · have h := h.2 c29
            refine lv_iconst (v := 0) hx hb dX9_readTerm_209 (by decide) ?_
            exact g_zret hC hr hlocks rfl hI h dX9_readTerm_210
      · have h := h.2 c21
        refine lv_iconst (v := 0) hx hb dX9_readTerm_180 (by decide) ?_
        exact g_zret hC hr hlocks rfl hI h dX9_readTerm_181
    have h := h.2 c18
    refine lv_tableOut (tgt := 251) hx hb dX9_readTerm_98 (by have q0 := lv_neT (a := 0) c6 (by decide); have q1 := lv_neT (a := 1) c9 (by decide); have q2 := lv_neT (a := 2) c12 (by decide); have q3 := lv_neT (a := 3) c15 (by decide); have q4 := lv_neT (a := 4) c18 (by decide); omega) (by decide) ?_
    refine lv_iconst (v := 0) hx hb dX9_readTerm_251 (by decide) ?_
    exact g_zret hC hr hlocks rfl hI h dX9_readTerm_252
  have hl := lv_entry ([.ref (ad 10), .int a1]) (n := 3) (Nat.le_of_ble_eq_true rfl)
  rw [lg_entry_eq]
  generalize (lg_sl ([.ref (ad 10), .int a1]) ++ List.replicate (3 - (lg_sl ([.ref (ad 10), .int a1])).length) Slot.unset).toArray = ls at hl ⊢
  have hl : lv_has ls 3 [(0, .ref (ad 10)), (1, .int a1)] := hl
  unfold w_X9_readTerm at h
  refine lv_aload_n hx hb dX9_readTerm_0 rfl (lv_at hl 0 rfl) ?_
  refine g_backv hI (g_runV (As := []) (rest := []) hC hml hI (c_X9_word l D cy ad A _  _ h) k_X9_word gw_6_34 ⟨rfl, rfl⟩ ⟨Nat.le_of_ble_eq_true rfl, Nat.le_of_ble_eq_true rfl⟩ (grv_10 hC hI) rfl hl.1 rfl (Nat.le_of_ble_eq_true rfl) dX9_readTerm_1 ⟨Nat.le_of_ble_eq_true rfl, Nat.le_of_ble_eq_true rfl⟩) (fun s39 H locs h hI => ?_)
  refine lv_iload_n hx hb dX9_readTerm_4 rfl (lv_at hl 1 rfl) ?_
  refine lv_bipush (v := 12) hx hb dX9_readTerm_5 (by decide) ?_
  refine lv_icmp_ne (tgt := 12) hx hb dX9_readTerm_7 (by decide) (fun c41 => ?_) (fun c41 => ?_)
  · have h := h.1 c41
    refine lv_iconst (v := 4) hx hb dX9_readTerm_12 (by decide) ?_
    refine lv_iload_n hx hb dX9_readTerm_13 rfl (lv_at hl 1 rfl) ?_
    refine lv_imul hx hb dX9_readTerm_14 ?_
    refine lv_topi (fun y42 ey42 => ?_)
    have h := h y42 ey42
    refine lv_istore_n (lv' := [(2, .int y42), (0, .ref (ad 10)), (1, .int a1)]) hx hb dX9_readTerm_15 rfl hl (by decide) rfl (fun ls hl => ?_)
    refine lv_aload_n hx hb dX9_readTerm_16 rfl (lv_at hl 1 rfl) ?_
    refine gg_X9_draft hC hI gw_4_225 dX9_readTerm_17 ?_
    refine lv_iload_n hx hb dX9_readTerm_20 rfl (lv_at hl 0 rfl) ?_
    refine lv_aload_n hx hb dX9_readTerm_21 rfl (lv_at hl 1 rfl) ?_
    refine gx_ldc (tx := "people") (i := 7) (by decide) hC dX9_readTerm_22 ?_
    refine g_backi hI (g_runV (As := [.ref (ad (200 + 7))]) (rest := [.int y42, .ref (ad 79)]) hC hml hI (c_X9_isWord l D cy ad A _ _ (by decide)  _ h) k_X9_isWord gw_6_47 ⟨rfl, rfl⟩ ⟨Nat.le_of_ble_eq_true rfl, Nat.le_of_ble_eq_true rfl⟩ (grv_10 hC hI) rfl hl.1 rfl (Nat.le_of_ble_eq_true rfl) dX9_readTerm_24 ⟨Nat.le_of_ble_eq_true rfl, Nat.le_of_ble_eq_true rfl⟩) (fun r44 s43 H locs h hI => ?_)
    refine lv_if_eq (tgt := 34) hx hb dX9_readTerm_27 (by decide) (fun c45 => ?_) (fun c45 => ?_)
    · have h := h.1 c45
      refine lv_aload_n hx hb dX9_readTerm_34 rfl (lv_at hl 1 rfl) ?_
      refine gx_ldcw (tx := "minutes") (i := 8) (by decide) hC dX9_readTerm_35 ?_
      refine g_backi hI (g_runV (As := [.ref (ad (200 + 8))]) (rest := [.int y42, .ref (ad 79)]) hC hml hI (c_X9_isWord l D cy ad A _ _ (by decide)  _ h) k_X9_isWord gw_6_47 ⟨rfl, rfl⟩ ⟨Nat.le_of_ble_eq_true rfl, Nat.le_of_ble_eq_true rfl⟩ (grv_10 hC hI) rfl hl.1 rfl (Nat.le_of_ble_eq_true rfl) dX9_readTerm_38 ⟨Nat.le_of_ble_eq_true rfl, Nat.le_of_ble_eq_true rfl⟩) (fun r47 s46 H locs h hI => ?_)
      refine lv_if_eq (tgt := 48) hx hb dX9_readTerm_41 (by decide) (fun c48 => ?_) (fun c48 => ?_)
      · have h := h.1 c48
        refine lv_aload_n hx hb dX9_readTerm_48 rfl (lv_at hl 1 rfl) ?_
        refine gx_ldcw (tx := "worst") (i := 9) (by decide) hC dX9_readTerm_49 ?_
        refine g_backi hI (g_runV (As := [.ref (ad (200 + 9))]) (rest := [.int y42, .ref (ad 79)]) hC hml hI (c_X9_isWord l D cy ad A _ _ (by decide)  _ h) k_X9_isWord gw_6_47 ⟨rfl, rfl⟩ ⟨Nat.le_of_ble_eq_true rfl, Nat.le_of_ble_eq_true rfl⟩ (grv_10 hC hI) rfl hl.1 rfl (Nat.le_of_ble_eq_true rfl) dX9_readTerm_52 ⟨Nat.le_of_ble_eq_true rfl, Nat.le_of_ble_eq_true rfl⟩) (fun r50 s49 H locs h hI => ?_)
        refine lv_if_eq (tgt := 62) hx hb dX9_readTerm_55 (by decide) (fun c51 => ?_) (fun c51 => ?_)
        · have h := h.1 c51
          refine lv_aload_n hx hb dX9_readTerm_62 rfl (lv_at hl 1 rfl) ?_
          refine gx_ldcw (tx := "tents") (i := 10) (by decide) hC dX9_readTerm_63 ?_
          refine g_backi hI (g_runV (As := [.ref (ad (200 + 10))]) (rest := [.int y42, .ref (ad 79)]) hC hml hI (c_X9_isWord l D cy ad A _ _ (by decide)  _ h) k_X9_isWord gw_6_47 ⟨rfl, rfl⟩ ⟨Nat.le_of_ble_eq_true rfl, Nat.le_of_ble_eq_true rfl⟩ (grv_10 hC hI) rfl hl.1 rfl (Nat.le_of_ble_eq_true rfl) dX9_readTerm_66 ⟨Nat.le_of_ble_eq_true rfl, Nat.le_of_ble_eq_true rfl⟩) (fun r53 s52 H locs h hI => ?_)
          refine lv_if_eq (tgt := 76) hx hb dX9_readTerm_69 (by decide) (fun c54 => ?_) (fun c54 => ?_)
          · have h := h.1 c54
            refine lv_aload_n hx hb dX9_readTerm_76 rfl (lv_at hl 1 rfl) ?_
            refine gx_ldcw (tx := "noise") (i := 11) (by decide) hC dX9_readTerm_77 ?_
            refine g_backi hI (g_runV (As := [.ref (ad (200 + 11))]) (rest := [.int y42, .ref (ad 79)]) hC hml hI (c_X9_isWord l D cy ad A _ _ (by decide)  _ h) k_X9_isWord gw_6_47 ⟨rfl, rfl⟩ ⟨Nat.le_of_ble_eq_true rfl, Nat.le_of_ble_eq_true rfl⟩ (grv_10 hC hI) rfl hl.1 rfl (Nat.le_of_ble_eq_true rfl) dX9_readTerm_80 ⟨Nat.le_of_ble_eq_true rfl, Nat.le_of_ble_eq_true rfl⟩) (fun r56 s55 H locs h hI => ?_)
            refine lv_if_eq (tgt := 90) hx hb dX9_readTerm_83 (by decide) (fun c57 => ?_) (fun c57 => ?_)
            · have h := h.1 c57
              refine lv_iconst (v := (-1)) hx hb dX9_readTerm_90 (by decide) ?_
              exact J91 _ _ _ _ _ _ _ h hI (lv_sub hl [1, 0] rfl)
            · have h := h.2 c57
              refine lv_iconst (v := 4) hx hb dX9_readTerm_86 (by decide) ?_
              refine lv_goto (tgt := 91) hx hb dX9_readTerm_87 (by decide) ?_
              exact J91 _ _ _ _ _ _ _ h hI (lv_sub hl [1, 0] rfl)
          · have h := h.2 c54
            refine lv_iconst (v := 3) hx hb dX9_readTerm_72 (by decide) ?_
            refine lv_goto (tgt := 91) hx hb dX9_readTerm_73 (by decide) ?_
            exact J91 _ _ _ _ _ _ _ h hI (lv_sub hl [1, 0] rfl)
        · have h := h.2 c51
          refine lv_iconst (v := 2) hx hb dX9_readTerm_58 (by decide) ?_
          refine lv_goto (tgt := 91) hx hb dX9_readTerm_59 (by decide) ?_
          exact J91 _ _ _ _ _ _ _ h hI (lv_sub hl [1, 0] rfl)
      · have h := h.2 c48
        refine lv_iconst (v := 1) hx hb dX9_readTerm_44 (by decide) ?_
        refine lv_goto (tgt := 91) hx hb dX9_readTerm_45 (by decide) ?_
        exact J91 _ _ _ _ _ _ _ h hI (lv_sub hl [1, 0] rfl)
    · have h := h.2 c45
      refine lv_iconst (v := 0) hx hb dX9_readTerm_30 (by decide) ?_
      refine lv_goto (tgt := 91) hx hb dX9_readTerm_31 (by decide) ?_
      exact J91 _ _ _ _ _ _ _ h hI (lv_sub hl [1, 0] rfl)
  · have h := h.2 c41
    refine lv_iconst (v := 0) hx hb dX9_readTerm_10 (by decide) ?_
    exact g_zret hC hr hlocks rfl hI h dX9_readTerm_11

theorem dX9_readAll_0 : decode cX9_readAll 0 = .ok (.aload_n 0, 1) := by decide +kernel
theorem dX9_readAll_1 : decode cX9_readAll 1 = .ok (.aload_n 0, 1) := by decide +kernel
theorem dX9_readAll_2 : decode cX9_readAll 2 = .ok (.getfield 224, 3) := by decide +kernel
theorem dX9_readAll_5 : decode cX9_readAll 5 = .ok (.putfield 230, 3) := by decide +kernel
theorem dX9_readAll_8 : decode cX9_readAll 8 = .ok (.aload_n 0, 1) := by decide +kernel
theorem dX9_readAll_9 : decode cX9_readAll 9 = .ok (.iconst 0, 1) := by decide +kernel
theorem dX9_readAll_10 : decode cX9_readAll 10 = .ok (.putfield 224, 3) := by decide +kernel
theorem dX9_readAll_13 : decode cX9_readAll 13 = .ok (.aload_n 0, 1) := by decide +kernel
theorem dX9_readAll_14 : decode cX9_readAll 14 = .ok (.iconst 0, 1) := by decide +kernel
theorem dX9_readAll_15 : decode cX9_readAll 15 = .ok (.putfield 227, 3) := by decide +kernel
theorem dX9_readAll_18 : decode cX9_readAll 18 = .ok (.iconst 0, 1) := by decide +kernel
theorem dX9_readAll_19 : decode cX9_readAll 19 = .ok (.istore_n 1, 1) := by decide +kernel
theorem dX9_readAll_20 : decode cX9_readAll 20 = .ok (.aload_n 0, 1) := by decide +kernel
theorem dX9_readAll_21 : decode cX9_readAll 21 = .ok (.iload_n 1, 1) := by decide +kernel
theorem dX9_readAll_22 : decode cX9_readAll 22 = .ok (.invokevirtual 271, 3) := by decide +kernel
theorem dX9_readAll_25 : decode cX9_readAll 25 = .ok (.ifCond .ne 5, 3) := by decide +kernel
theorem dX9_readAll_28 : decode cX9_readAll 28 = .ok (.iconst (-1), 1) := by decide +kernel
theorem dX9_readAll_29 : decode cX9_readAll 29 = .ok (.ireturn, 1) := by decide +kernel
theorem dX9_readAll_30 : decode cX9_readAll 30 = .ok (.aload_n 0, 1) := by decide +kernel
theorem dX9_readAll_31 : decode cX9_readAll 31 = .ok (.invokevirtual 240, 3) := by decide +kernel
theorem dX9_readAll_34 : decode cX9_readAll 34 = .ok (.aload_n 0, 1) := by decide +kernel
theorem dX9_readAll_35 : decode cX9_readAll 35 = .ok (.getfield 227, 3) := by decide +kernel
theorem dX9_readAll_38 : decode cX9_readAll 38 = .ok (.aload_n 0, 1) := by decide +kernel
theorem dX9_readAll_39 : decode cX9_readAll 39 = .ok (.getfield 230, 3) := by decide +kernel
theorem dX9_readAll_42 : decode cX9_readAll 42 = .ok (.if_icmp .ne 7, 3) := by decide +kernel
theorem dX9_readAll_45 : decode cX9_readAll 45 = .ok (.iload_n 1, 1) := by decide +kernel
theorem dX9_readAll_46 : decode cX9_readAll 46 = .ok (.iconst 1, 1) := by decide +kernel
theorem dX9_readAll_47 : decode cX9_readAll 47 = .ok (.iadd, 1) := by decide +kernel
theorem dX9_readAll_48 : decode cX9_readAll 48 = .ok (.ireturn, 1) := by decide +kernel
theorem dX9_readAll_49 : decode cX9_readAll 49 = .ok (.aload_n 0, 1) := by decide +kernel
theorem dX9_readAll_50 : decode cX9_readAll 50 = .ok (.bipush 59, 2) := by decide +kernel
theorem dX9_readAll_52 : decode cX9_readAll 52 = .ok (.bipush 59, 2) := by decide +kernel
theorem dX9_readAll_54 : decode cX9_readAll 54 = .ok (.invokevirtual 233, 3) := by decide +kernel
theorem dX9_readAll_57 : decode cX9_readAll 57 = .ok (.ifCond .ne 5, 3) := by decide +kernel
theorem dX9_readAll_60 : decode cX9_readAll 60 = .ok (.iconst (-1), 1) := by decide +kernel
theorem dX9_readAll_61 : decode cX9_readAll 61 = .ok (.ireturn, 1) := by decide +kernel
theorem dX9_readAll_62 : decode cX9_readAll 62 = .ok (.aload_n 0, 1) := by decide +kernel
theorem dX9_readAll_63 : decode cX9_readAll 63 = .ok (.dup, 1) := by decide +kernel
theorem dX9_readAll_64 : decode cX9_readAll 64 = .ok (.getfield 227, 3) := by decide +kernel
theorem dX9_readAll_67 : decode cX9_readAll 67 = .ok (.iconst 1, 1) := by decide +kernel
theorem dX9_readAll_68 : decode cX9_readAll 68 = .ok (.iadd, 1) := by decide +kernel
theorem dX9_readAll_69 : decode cX9_readAll 69 = .ok (.putfield 227, 3) := by decide +kernel
theorem dX9_readAll_72 : decode cX9_readAll 72 = .ok (.iinc 1 1, 3) := by decide +kernel
theorem dX9_readAll_75 : decode cX9_readAll 75 = .ok (.goto (-55), 3) := by decide +kernel
def w_X9_readAll_20 (Q : Int32 → gS → Prop) : Nat → Int32 → gS → Prop
  | 0, _, _ => False
  | n20 + 1, x1, σ =>
    w_X9_readTerm  (fun (r2 : Int32) (s1 : gS) => (¬ r2 = 0 → w_X9_blanks  (fun (s4 : gS) => (¬ (s4 105 0) = (s4 106 0) → w_X9_isAt  (fun (r8 : Int32) (s7 : gS) => (¬ r8 = 0 → ∀ s10 : gS, s10 = gu s7 105 0 ((s7 105 0) + 1) → ∀ y11 : Int32, y11 = x1 + 1 → w_X9_readAll_20 Q n20 y11 s10) ∧ (r8 = 0 → Q (-1) s7)) s4 59 59) ∧ ((s4 105 0) = (s4 106 0) → Q (x1 + 1) s4)) s1) ∧ (r2 = 0 → Q (-1) s1)) σ x1
def w_X9_readAll (Q : Int32 → gS → Prop) (σ : gS) : Prop :=
    ∀ s12 : gS, s12 = gu σ 106 0 (σ 104 0) → ∀ s13 : gS, s13 = gu s12 104 0 0 → ∀ s14 : gS, s14 = gu s13 105 0 0 → ∃ n20, w_X9_readAll_20 Q n20 0 s14
abbrev ws_X9_readAll : List Cond := Cond.code yX9_readAll cX9_readAll 2 (some .int) :: gG
abbrev rm_X9_readAll : Room := { frames := 6, cells := 0, slots := 0, locals := 130 }
theorem k_X9_readAll : gCV yX9_readAll RX9 cX9_readAll 2 (some .int) 0 := ⟨gw_6_28, gwp_51, gw_1_11, gw_6_29, rfl, by decide +kernel⟩
set_option maxHeartbeats 4000000 in
set_option maxRecDepth 100000 in
theorem c_X9_readAll (l : Launch) (D : va_G) (cy : Nat → ClassId) (ad : Nat → Nat) (A : Nat → Prop) (Q : Int32 → gS → Prop) (σ : gS) (h : w_X9_readAll Q σ) : Met l yX9_readAll ws_X9_readAll rm_X9_readAll (va_Pc [.ref (ad 10)] (gB D cy ad A σ)) (va_Qi Q (gB D cy ad A) A) 0 0 A := by
  refine Met.ofW (cc := cX9_readAll) (maxL := 2) (ret := (some .int)) (by decide) rfl ?_
  intro p e s m args below meth c s₁ B hml hv
  obtain ⟨rfl, hB⟩ := hv
  have hC : gC p c cX9_readAll s m ([.ref (ad 10)] : List Value).toArray RX9 D cy ad A := g_start B hB
  have hI := g_first hB
  have hx := hC.1
  have hb := hC.2.1
  have hr := B.returns
  have hlocks := B.notSynchronized
  clear B hB
  have J20 : ∀ (n20 : Nat) (x1 : Int32) (σ : gS) (H : Heap) (locs : List Loc) (ls : Array Slot), w_X9_readAll_20 Q n20 x1 σ → gI D cy ad A s.heap σ H locs → lv_has ls 2 [(0, .ref (ad 10)), (1, .int x1)] → W p l e (headSpec ws_X9_readAll rm_X9_readAll).room s m ([.ref (ad 10)] : List Value).toArray below meth c H locs 0 0 (MQ below (va_Qi Q (gB D cy ad A) A) ([.ref (ad 10)] : List Value).toArray s 0 0 A) (F0 m 20 ls []) := by
    intro n20
    induction n20 with
    | zero => intro x1 σ H locs ls h; exact absurd h (fun h => h)
    | succ n20 ih20 =>
      intro x1 σ H locs ls h hI hl
      unfold w_X9_readAll_20 at h
      refine lv_aload_n hx hb dX9_readAll_20 rfl (lv_at hl 0 rfl) ?_
      refine lv_iload_n hx hb dX9_readAll_21 rfl (lv_at hl 1 rfl) ?_
      refine g_backi hI (g_runV (As := [.int x1]) (rest := []) hC hml hI (c_X9_readTerm l D cy ad A _  _ _ h) k_X9_readTerm gw_6_30 ⟨rfl, rfl⟩ ⟨Nat.le_of_ble_eq_true rfl, Nat.le_of_ble_eq_true rfl⟩ (grv_10 hC hI) rfl hl.1 rfl (Nat.le_of_ble_eq_true rfl) dX9_readAll_22 ⟨Nat.le_of_ble_eq_true rfl, Nat.le_of_ble_eq_true rfl⟩) (fun r2 s1 H locs h hI => ?_)
      refine lv_if_ne (tgt := 30) hx hb dX9_readAll_25 (by decide) (fun c3 => ?_) (fun c3 => ?_)
      · have h := h.1 c3
        refine lv_aload_n hx hb dX9_readAll_30 rfl (lv_at hl 0 rfl) ?_
        refine g_backv hI (g_runV (As := []) (rest := []) hC hml hI (c_X9_blanks l D cy ad A _  _ h) k_X9_blanks gw_6_38 ⟨rfl, rfl⟩ ⟨Nat.le_of_ble_eq_true rfl, Nat.le_of_ble_eq_true rfl⟩ (grv_10 hC hI) rfl hl.1 rfl (Nat.le_of_ble_eq_true rfl) dX9_readAll_31 ⟨Nat.le_of_ble_eq_true rfl, Nat.le_of_ble_eq_true rfl⟩) (fun s4 H locs h hI => ?_)
        refine lv_aload_n hx hb dX9_readAll_34 rfl (lv_at hl 0 rfl) ?_
        refine gg_X9_point hC hI gw_4_230 dX9_readAll_35 ?_
        refine lv_aload_n hx hb dX9_readAll_38 rfl (lv_at hl 0 rfl) ?_
        refine gg_X9_end hC hI gw_4_231 dX9_readAll_39 ?_
        refine lv_icmp_ne (tgt := 49) hx hb dX9_readAll_42 (by decide) (fun c6 => ?_) (fun c6 => ?_)
        · have h := h.1 c6
          refine lv_aload_n hx hb dX9_readAll_49 rfl (lv_at hl 0 rfl) ?_
          refine lv_bipush (v := 59) hx hb dX9_readAll_50 (by decide) ?_
          refine lv_bipush (v := 59) hx hb dX9_readAll_52 (by decide) ?_
          refine g_backi hI (g_runV (As := [.int 59, .int 59]) (rest := []) hC hml hI (c_X9_isAt l D cy ad A _  _ _ _ h) k_X9_isAt gw_6_42 ⟨rfl, rfl⟩ ⟨Nat.le_of_ble_eq_true rfl, Nat.le_of_ble_eq_true rfl⟩ (grv_10 hC hI) rfl hl.1 rfl (Nat.le_of_ble_eq_true rfl) dX9_readAll_54 ⟨Nat.le_of_ble_eq_true rfl, Nat.le_of_ble_eq_true rfl⟩) (fun r8 s7 H locs h hI => ?_)
          refine lv_if_ne (tgt := 62) hx hb dX9_readAll_57 (by decide) (fun c9 => ?_) (fun c9 => ?_)
          · have h := h.1 c9
            refine lv_aload_n hx hb dX9_readAll_62 rfl (lv_at hl 0 rfl) ?_
            refine lv_dup hx hb dX9_readAll_63 rfl ?_
            refine gg_X9_point hC hI gw_4_230 dX9_readAll_64 ?_
            refine lv_iconst (v := 1) hx hb dX9_readAll_67 (by decide) ?_
            refine lv_iadd hx hb dX9_readAll_68 ?_
            refine gp_X9_point hC hI gw_4_230 dX9_readAll_69 (fun s10 H locs es10 hI => ?_)
            have h := h s10 es10
            obtain ⟨y11, ey11⟩ : ∃ y : Int32, y = x1 + 1 := ⟨_, rfl⟩
            have h := h y11 ey11
            refine lv_iinc (v := y11) (lv' := [(1, .int y11), (0, .ref (ad 10))]) hx hb dX9_readAll_72 hl (k := 1) rfl (by rw [ey11]; rfl) (by decide) rfl (fun ls hl => ?_)
            refine lv_goto (tgt := 20) hx hb dX9_readAll_75 (by decide) ?_
            exact ih20 _ _ _ _ _ h hI (lv_sub hl [1, 0] rfl)
          · have h := h.2 c9
            refine lv_iconst (v := (-1)) hx hb dX9_readAll_60 (by decide) ?_
            exact g_iret hC hr hlocks hI h dX9_readAll_61
        · have h := h.2 c6
          refine lv_iload_n hx hb dX9_readAll_45 rfl (lv_at hl 1 rfl) ?_
          refine lv_iconst (v := 1) hx hb dX9_readAll_46 (by decide) ?_
          refine lv_iadd hx hb dX9_readAll_47 ?_
          exact g_iret hC hr hlocks hI h dX9_readAll_48
      · have h := h.2 c3
        refine lv_iconst (v := (-1)) hx hb dX9_readAll_28 (by decide) ?_
        exact g_iret hC hr hlocks hI h dX9_readAll_29
  have hl := lv_entry ([.ref (ad 10)]) (n := 2) (Nat.le_of_ble_eq_true rfl)
  rw [lg_entry_eq]
  generalize (lg_sl ([.ref (ad 10)]) ++ List.replicate (2 - (lg_sl ([.ref (ad 10)])).length) Slot.unset).toArray = ls at hl ⊢
  have hl : lv_has ls 2 [(0, .ref (ad 10))] := hl
  unfold w_X9_readAll at h
  refine lv_aload_n hx hb dX9_readAll_0 rfl (lv_at hl 0 rfl) ?_
  refine lv_aload_n hx hb dX9_readAll_1 rfl (lv_at hl 0 rfl) ?_
  refine gg_X9_taped hC hI gw_4_229 dX9_readAll_2 ?_
  refine gp_X9_end hC hI gw_4_231 dX9_readAll_5 (fun s12 H locs es12 hI => ?_)
  have h := h s12 es12
  refine lv_aload_n hx hb dX9_readAll_8 rfl (lv_at hl 0 rfl) ?_
  refine lv_iconst (v := 0) hx hb dX9_readAll_9 (by decide) ?_
  refine gp_X9_taped hC hI gw_4_229 dX9_readAll_10 (fun s13 H locs es13 hI => ?_)
  have h := h s13 es13
  refine lv_aload_n hx hb dX9_readAll_13 rfl (lv_at hl 0 rfl) ?_
  refine lv_iconst (v := 0) hx hb dX9_readAll_14 (by decide) ?_
  refine gp_X9_point hC hI gw_4_230 dX9_readAll_15 (fun s14 H locs es14 hI => ?_)
  have h := h s14 es14
  refine lv_iconst (v := 0) hx hb dX9_readAll_18 (by decide) ?_
  refine lv_istore_n (lv' := [(1, .int 0), (0, .ref (ad 10))]) hx hb dX9_readAll_19 rfl hl (by decide) rfl (fun ls hl => ?_)
  obtain ⟨n9, h⟩ := h
  exact J20 n9 _ _ _ _ _ h hI (lv_sub hl [1, 0] rfl)

theorem dX9_licence_0 : decode cX9_licence 0 = .ok (.aload_n 0, 1) := by decide +kernel
theorem dX9_licence_1 : decode cX9_licence 1 = .ok (.iconst 0, 1) := by decide +kernel
theorem dX9_licence_2 : decode cX9_licence 2 = .ok (.putfield 3, 3) := by decide +kernel
theorem dX9_licence_5 : decode cX9_licence 5 = .ok (.aload_n 0, 1) := by decide +kernel
theorem dX9_licence_6 : decode cX9_licence 6 = .ok (.invokevirtual 274, 3) := by decide +kernel
theorem dX9_licence_9 : decode cX9_licence 9 = .ok (.istore_n 1, 1) := by decide +kernel
theorem dX9_licence_10 : decode cX9_licence 10 = .ok (.aload_n 0, 1) := by decide +kernel
theorem dX9_licence_11 : decode cX9_licence 11 = .ok (.iload_n 1, 1) := by decide +kernel
theorem dX9_licence_12 : decode cX9_licence 12 = .ok (.ifCond .ge 10, 3) := by decide +kernel
theorem dX9_licence_15 : decode cX9_licence 15 = .ok (.aload_n 0, 1) := by decide +kernel
theorem dX9_licence_16 : decode cX9_licence 16 = .ok (.getfield 237, 3) := by decide +kernel
theorem dX9_licence_19 : decode cX9_licence 19 = .ok (.goto 4, 3) := by decide +kernel
theorem dX9_licence_22 : decode cX9_licence 22 = .ok (.iconst (-1), 1) := by decide +kernel
theorem dX9_licence_23 : decode cX9_licence 23 = .ok (.putfield 109, 3) := by decide +kernel
theorem dX9_licence_26 : decode cX9_licence 26 = .ok (.aload_n 0, 1) := by decide +kernel
theorem dX9_licence_27 : decode cX9_licence 27 = .ok (.iload_n 1, 1) := by decide +kernel
theorem dX9_licence_28 : decode cX9_licence 28 = .ok (.ifCond .ge 7, 3) := by decide +kernel
theorem dX9_licence_31 : decode cX9_licence 31 = .ok (.iconst 1, 1) := by decide +kernel
theorem dX9_licence_32 : decode cX9_licence 32 = .ok (.goto 4, 3) := by decide +kernel
theorem dX9_licence_35 : decode cX9_licence 35 = .ok (.iconst 0, 1) := by decide +kernel
theorem dX9_licence_36 : decode cX9_licence 36 = .ok (.iconst 1, 1) := by decide +kernel
theorem dX9_licence_37 : decode cX9_licence 37 = .ok (.invokevirtual 123, 3) := by decide +kernel
theorem dX9_licence_40 : decode cX9_licence 40 = .ok (.ifCond .eq 5, 3) := by decide +kernel
theorem dX9_licence_43 : decode cX9_licence 43 = .ok (.iconst 0, 1) := by decide +kernel
theorem dX9_licence_44 : decode cX9_licence 44 = .ok (.ireturn, 1) := by decide +kernel
theorem dX9_licence_45 : decode cX9_licence 45 = .ok (.aload_n 0, 1) := by decide +kernel
theorem dX9_licence_46 : decode cX9_licence 46 = .ok (.iload_n 1, 1) := by decide +kernel
theorem dX9_licence_47 : decode cX9_licence 47 = .ok (.putfield 277, 3) := by decide +kernel
theorem dX9_licence_50 : decode cX9_licence 50 = .ok (.iconst 0, 1) := by decide +kernel
theorem dX9_licence_51 : decode cX9_licence 51 = .ok (.istore_n 2, 1) := by decide +kernel
theorem dX9_licence_52 : decode cX9_licence 52 = .ok (.iload_n 2, 1) := by decide +kernel
theorem dX9_licence_53 : decode cX9_licence 53 = .ok (.iconst 4, 1) := by decide +kernel
theorem dX9_licence_54 : decode cX9_licence 54 = .ok (.iload_n 1, 1) := by decide +kernel
theorem dX9_licence_55 : decode cX9_licence 55 = .ok (.imul, 1) := by decide +kernel
theorem dX9_licence_56 : decode cX9_licence 56 = .ok (.if_icmp .ge 21, 3) := by decide +kernel
theorem dX9_licence_59 : decode cX9_licence 59 = .ok (.aload_n 0, 1) := by decide +kernel
theorem dX9_licence_60 : decode cX9_licence 60 = .ok (.getfield 96, 3) := by decide +kernel
theorem dX9_licence_63 : decode cX9_licence 63 = .ok (.iload_n 2, 1) := by decide +kernel
theorem dX9_licence_64 : decode cX9_licence 64 = .ok (.aload_n 0, 1) := by decide +kernel
theorem dX9_licence_65 : decode cX9_licence 65 = .ok (.getfield 99, 3) := by decide +kernel
theorem dX9_licence_68 : decode cX9_licence 68 = .ok (.iload_n 2, 1) := by decide +kernel
theorem dX9_licence_69 : decode cX9_licence 69 = .ok (.iaload, 1) := by decide +kernel
theorem dX9_licence_70 : decode cX9_licence 70 = .ok (.iastore, 1) := by decide +kernel
theorem dX9_licence_71 : decode cX9_licence 71 = .ok (.iinc 2 1, 3) := by decide +kernel
theorem dX9_licence_74 : decode cX9_licence 74 = .ok (.goto (-22), 3) := by decide +kernel
theorem dX9_licence_77 : decode cX9_licence 77 = .ok (.iload_n 1, 1) := by decide +kernel
theorem dX9_licence_78 : decode cX9_licence 78 = .ok (.ireturn, 1) := by decide +kernel
def w_X9_licence_52 (Q : Int32 → gS → Prop) : Nat → Int32 → Int32 → gS → Prop
  | 0, _, _, _ => False
  | n52 + 1, x1, x2, σ =>
    ((4 * x1) ≤ x2 → Q x1 σ) ∧ (¬ (4 * x1) ≤ x2 → vp_in x2 48 ∧ vp_in x2 48 ∧ ∀ s5 : gS, s5 = gu σ 99 x2.toNatClampNeg (σ 100 x2.toNatClampNeg) → ∀ y6 : Int32, y6 = x2 + 1 → w_X9_licence_52 Q n52 x1 y6 s5)
def w_X9_licence_36 (Q : Int32 → gS → Prop) (x1 : Int32) (v0 : Int32) (σ : gS) : Prop :=
    w_X9_throwsIf  (fun (r8 : Int32) (s7 : gS) => (r8 = 0 → ∀ s10 : gS, s10 = gu s7 101 0 x1 → ∃ n52, w_X9_licence_52 Q n52 x1 0 s10) ∧ (¬ r8 = 0 → Q 0 s7)) σ v0 1
def w_X9_licence_23 (Q : Int32 → gS → Prop) (x1 : Int32) (v0 : Int32) (σ : gS) : Prop :=
    ∀ s11 : gS, s11 = gu σ 108 0 v0 → (0 ≤ x1 → w_X9_licence_36 Q x1 0 s11) ∧ (¬ 0 ≤ x1 → w_X9_licence_36 Q x1 1 s11)
def w_X9_licence (Q : Int32 → gS → Prop) (σ : gS) : Prop :=
    ∀ s13 : gS, s13 = gu σ 63 0 0 → w_X9_readAll  (fun (r15 : Int32) (s14 : gS) => (0 ≤ r15 → w_X9_licence_23 Q r15 (-1) s14) ∧ (¬ 0 ≤ r15 → w_X9_licence_23 Q r15 (s14 107 0) s14)) s13
abbrev ws_X9_licence : List Cond := Cond.code yX9_licence cX9_licence 3 (some .int) :: gG
abbrev rm_X9_licence : Room := { frames := 7, cells := 0, slots := 0, locals := 151 }
theorem k_X9_licence : gCV yX9_licence RX9 cX9_licence 3 (some .int) 0 := ⟨gw_6_23, gw_6_24, gw_1_11, gw_6_25, rfl, by decide +kernel⟩
set_option maxHeartbeats 4000000 in
set_option maxRecDepth 100000 in
theorem c_X9_licence (l : Launch) (D : va_G) (cy : Nat → ClassId) (ad : Nat → Nat) (A : Nat → Prop) (Q : Int32 → gS → Prop) (σ : gS) (h : w_X9_licence Q σ) : Met l yX9_licence ws_X9_licence rm_X9_licence (va_Pc [.ref (ad 10)] (gB D cy ad A σ)) (va_Qi Q (gB D cy ad A) A) 0 0 A := by
  refine Met.ofW (cc := cX9_licence) (maxL := 3) (ret := (some .int)) (by decide) rfl ?_
  intro p e s m args below meth c s₁ B hml hv
  obtain ⟨rfl, hB⟩ := hv
  have hC : gC p c cX9_licence s m ([.ref (ad 10)] : List Value).toArray RX9 D cy ad A := g_start B hB
  have hI := g_first hB
  have hx := hC.1
  have hb := hC.2.1
  have hr := B.returns
  have hlocks := B.notSynchronized
  clear B hB
  have J52 : ∀ (n52 : Nat) (x1 : Int32) (x2 : Int32) (σ : gS) (H : Heap) (locs : List Loc) (ls : Array Slot), w_X9_licence_52 Q n52 x1 x2 σ → gI D cy ad A s.heap σ H locs → lv_has ls 3 [(0, .ref (ad 10)), (1, .int x1), (2, .int x2)] → W p l e (headSpec ws_X9_licence rm_X9_licence).room s m ([.ref (ad 10)] : List Value).toArray below meth c H locs 0 0 (MQ below (va_Qi Q (gB D cy ad A) A) ([.ref (ad 10)] : List Value).toArray s 0 0 A) (F0 m 52 ls []) := by
    intro n52
    induction n52 with
    | zero => intro x1 x2 σ H locs ls h; exact absurd h (fun h => h)
    | succ n52 ih52 =>
      intro x1 x2 σ H locs ls h hI hl
      unfold w_X9_licence_52 at h
      refine lv_iload_n hx hb dX9_licence_52 rfl (lv_at hl 2 rfl) ?_
      refine lv_iconst (v := 4) hx hb dX9_licence_53 (by decide) ?_
      refine lv_iload_n hx hb dX9_licence_54 rfl (lv_at hl 1 rfl) ?_
      refine lv_imul hx hb dX9_licence_55 ?_
      refine lv_icmp_ge (tgt := 77) hx hb dX9_licence_56 (by decide) (fun c2 => ?_) (fun c2 => ?_)
      · have h := h.1 c2
        refine lv_iload_n hx hb dX9_licence_77 rfl (lv_at hl 1 rfl) ?_
        exact g_iret hC hr hlocks hI h dX9_licence_78
      · have h := h.2 c2
        refine lv_aload_n hx hb dX9_licence_59 rfl (lv_at hl 0 rfl) ?_
        refine gg_X9_term hC hI gw_4_224 dX9_licence_60 ?_
        refine lv_iload_n hx hb dX9_licence_63 rfl (lv_at hl 2 rfl) ?_
        refine lv_aload_n hx hb dX9_licence_64 rfl (lv_at hl 0 rfl) ?_
        refine gg_X9_draft hC hI gw_4_225 dX9_licence_65 ?_
        refine lv_iload_n hx hb dX9_licence_68 rfl (lv_at hl 2 rfl) ?_
        obtain ⟨hi3, h⟩ := h
        refine ga_79 hC hI hi3 dX9_licence_69 ?_
        obtain ⟨hi4, h⟩ := h
        refine gs_78 hC hI hi4 dX9_licence_70 (fun s5 H locs es5 hI => ?_)
        have h := h s5 es5
        obtain ⟨y6, ey6⟩ : ∃ y : Int32, y = x2 + 1 := ⟨_, rfl⟩
        have h := h y6 ey6
        refine lv_iinc (v := y6) (lv' := [(2, .int y6), (0, .ref (ad 10)), (1, .int x1)]) hx hb dX9_licence_71 hl (k := 2) rfl (by rw [ey6]; rfl) (by decide) rfl (fun ls hl => ?_)
        refine lv_goto (tgt := 52) hx hb dX9_licence_74 (by decide) ?_
        exact ih52 _ _ _ _ _ _ h hI (lv_sub hl [1, 2, 0] rfl)
  have J36 : ∀ (x1 : Int32) (v0 : Int32) (σ : gS) (H : Heap) (locs : List Loc) (ls : Array Slot), w_X9_licence_36 Q x1 v0 σ → gI D cy ad A s.heap σ H locs → lv_has ls 3 [(0, .ref (ad 10)), (1, .int x1)] → W p l e (headSpec ws_X9_licence rm_X9_licence).room s m ([.ref (ad 10)] : List Value).toArray below meth c H locs 0 0 (MQ below (va_Qi Q (gB D cy ad A) A) ([.ref (ad 10)] : List Value).toArray s 0 0 A) (F0 m 36 ls [.int v0, .ref (ad 10)]) := by
    intro x1 v0 σ H locs ls h hI hl
    unfold w_X9_licence_36 at h
    refine lv_iconst (v := 1) hx hb dX9_licence_36 (by decide) ?_
    refine g_backi hI (g_runV (As := [.int v0, .int 1]) (rest := []) hC hml hI (c_X9_throwsIf l D cy ad A _  _ _ _ h) k_X9_throwsIf gw_5_100 ⟨rfl, rfl⟩ ⟨Nat.le_of_ble_eq_true rfl, Nat.le_of_ble_eq_true rfl⟩ (grv_10 hC hI) rfl hl.1 rfl (Nat.le_of_ble_eq_true rfl) dX9_licence_37 ⟨Nat.le_of_ble_eq_true rfl, Nat.le_of_ble_eq_true rfl⟩) (fun r8 s7 H locs h hI => ?_)
    refine lv_if_eq (tgt := 45) hx hb dX9_licence_40 (by decide) (fun c9 => ?_) (fun c9 => ?_)
    · have h := h.1 c9
      refine lv_aload_n hx hb dX9_licence_45 rfl (lv_at hl 0 rfl) ?_
      refine lv_iload_n hx hb dX9_licence_46 rfl (lv_at hl 1 rfl) ?_
      refine gp_X9_terms hC hI gw_4_226 dX9_licence_47 (fun s10 H locs es10 hI => ?_)
      have h := h s10 es10
      refine lv_iconst (v := 0) hx hb dX9_licence_50 (by decide) ?_
      refine lv_istore_n (lv' := [(2, .int 0), (0, .ref (ad 10)), (1, .int x1)]) hx hb dX9_licence_51 rfl hl (by decide) rfl (fun ls hl => ?_)
      obtain ⟨n9, h⟩ := h
      exact J52 n9 _ _ _ _ _ _ h hI (lv_sub hl [1, 2, 0] rfl)
    · have h := h.2 c9
      refine lv_iconst (v := 0) hx hb dX9_licence_43 (by decide) ?_
      exact g_iret hC hr hlocks hI h dX9_licence_44
  have J23 : ∀ (x1 : Int32) (v0 : Int32) (σ : gS) (H : Heap) (locs : List Loc) (ls : Array Slot), w_X9_licence_23 Q x1 v0 σ → gI D cy ad A s.heap σ H locs → lv_has ls 3 [(0, .ref (ad 10)), (1, .int x1)] → W p l e (headSpec ws_X9_licence rm_X9_licence).room s m ([.ref (ad 10)] : List Value).toArray below meth c H locs 0 0 (MQ below (va_Qi Q (gB D cy ad A) A) ([.ref (ad 10)] : List Value).toArray s 0 0 A) (F0 m 23 ls [.int v0, .ref (ad 10)]) := by
    intro x1 v0 σ H locs ls h hI hl
    unfold w_X9_licence_23 at h
    refine gp_X9_faultAt hC hI gw_4_233 dX9_licence_23 (fun s11 H locs es11 hI => ?_)
    have h := h s11 es11
    refine lv_aload_n hx hb dX9_licence_26 rfl (lv_at hl 0 rfl) ?_
    refine lv_iload_n hx hb dX9_licence_27 rfl (lv_at hl 1 rfl) ?_
    refine lv_if_ge (tgt := 35) hx hb dX9_licence_28 (by decide) (fun c12 => ?_) (fun c12 => ?_)
    · have h := h.1 c12
      refine lv_iconst (v := 0) hx hb dX9_licence_35 (by decide) ?_
      exact J36 _ _ _ _ _ _ h hI (lv_sub hl [0, 1] rfl)
    · have h := h.2 c12
      refine lv_iconst (v := 1) hx hb dX9_licence_31 (by decide) ?_
      refine lv_goto (tgt := 36) hx hb dX9_licence_32 (by decide) ?_
      exact J36 _ _ _ _ _ _ h hI (lv_sub hl [0, 1] rfl)
  have hl := lv_entry ([.ref (ad 10)]) (n := 3) (Nat.le_of_ble_eq_true rfl)
  rw [lg_entry_eq]
  generalize (lg_sl ([.ref (ad 10)]) ++ List.replicate (3 - (lg_sl ([.ref (ad 10)])).length) Slot.unset).toArray = ls at hl ⊢
  have hl : lv_has ls 3 [(0, .ref (ad 10))] := hl
  unfold w_X9_licence at h
  refine lv_aload_n hx hb dX9_licence_0 rfl (lv_at hl 0 rfl) ?_
  refine lv_iconst (v := 0) hx hb dX9_licence_1 (by decide) ?_
  refine gp_X9_thrown hC hI gw_4_188 dX9_licence_2 (fun s13 H locs es13 hI => ?_)
  have h := h s13 es13
  refine lv_aload_n hx hb dX9_licence_5 rfl (lv_at hl 0 rfl) ?_
  refine g_backi hI (g_runV (As := []) (rest := []) hC hml hI (c_X9_readAll l D cy ad A _  _ h) k_X9_readAll gw_6_26 ⟨rfl, rfl⟩ ⟨Nat.le_of_ble_eq_true rfl, Nat.le_of_ble_eq_true rfl⟩ (grv_10 hC hI) rfl hl.1 rfl (Nat.le_of_ble_eq_true rfl) dX9_licence_6 ⟨Nat.le_of_ble_eq_true rfl, Nat.le_of_ble_eq_true rfl⟩) (fun r15 s14 H locs h hI => ?_)
  refine lv_istore_n (lv' := [(1, .int r15), (0, .ref (ad 10))]) hx hb dX9_licence_9 rfl hl (by decide) rfl (fun ls hl => ?_)
  refine lv_aload_n hx hb dX9_licence_10 rfl (lv_at hl 1 rfl) ?_
  refine lv_iload_n hx hb dX9_licence_11 rfl (lv_at hl 0 rfl) ?_
  refine lv_if_ge (tgt := 22) hx hb dX9_licence_12 (by decide) (fun c16 => ?_) (fun c16 => ?_)
  · have h := h.1 c16
    refine lv_iconst (v := (-1)) hx hb dX9_licence_22 (by decide) ?_
    exact J23 _ _ _ _ _ _ h hI (lv_sub hl [1, 0] rfl)
  · have h := h.2 c16
    refine lv_aload_n hx hb dX9_licence_15 rfl (lv_at hl 1 rfl) ?_
    refine gg_X9_begin hC hI gw_4_232 dX9_licence_16 ?_
    refine lv_goto (tgt := 23) hx hb dX9_licence_19 (by decide) ?_
    exact J23 _ _ _ _ _ _ h hI (lv_sub hl [1, 0] rfl)
