/-! 17.ModelC: printed by wip/gen/walk.py -/
theorem dX9_act_0 : decode cX9_act 0 = .ok (.aload_n 0, 1) := by decide +kernel
theorem dX9_act_1 : decode cX9_act 1 = .ok (.iconst 0, 1) := by decide +kernel
theorem dX9_act_2 : decode cX9_act 2 = .ok (.putfield 3, 3) := by decide +kernel
theorem dX9_act_5 : decode cX9_act 5 = .ok (.aload_n 0, 1) := by decide +kernel
theorem dX9_act_6 : decode cX9_act 6 = .ok (.iload_n 1, 1) := by decide +kernel
theorem dX9_act_7 : decode cX9_act 7 = .ok (.iconst 0, 1) := by decide +kernel
theorem dX9_act_8 : decode cX9_act 8 = .ok (.aload_n 0, 1) := by decide +kernel
theorem dX9_act_9 : decode cX9_act 9 = .ok (.getfield 148, 3) := by decide +kernel
theorem dX9_act_12 : decode cX9_act 12 = .ok (.iconst 1, 1) := by decide +kernel
theorem dX9_act_13 : decode cX9_act 13 = .ok (.isub, 1) := by decide +kernel
theorem dX9_act_14 : decode cX9_act 14 = .ok (.invokestatic 115, 3) := by decide +kernel
theorem dX9_act_17 : decode cX9_act 17 = .ok (.ifCond .ne 7, 3) := by decide +kernel
theorem dX9_act_20 : decode cX9_act 20 = .ok (.iconst 1, 1) := by decide +kernel
theorem dX9_act_21 : decode cX9_act 21 = .ok (.goto 4, 3) := by decide +kernel
theorem dX9_act_24 : decode cX9_act 24 = .ok (.iconst 0, 1) := by decide +kernel
theorem dX9_act_25 : decode cX9_act 25 = .ok (.iconst 1, 1) := by decide +kernel
theorem dX9_act_26 : decode cX9_act 26 = .ok (.invokevirtual 123, 3) := by decide +kernel
theorem dX9_act_29 : decode cX9_act 29 = .ok (.ifCond .ne 39, 3) := by decide +kernel
theorem dX9_act_32 : decode cX9_act 32 = .ok (.aload_n 0, 1) := by decide +kernel
theorem dX9_act_33 : decode cX9_act 33 = .ok (.iload_n 3, 1) := by decide +kernel
theorem dX9_act_34 : decode cX9_act 34 = .ok (.iconst 0, 1) := by decide +kernel
theorem dX9_act_35 : decode cX9_act 35 = .ok (.sipush 1000, 3) := by decide +kernel
theorem dX9_act_38 : decode cX9_act 38 = .ok (.invokestatic 115, 3) := by decide +kernel
theorem dX9_act_41 : decode cX9_act 41 = .ok (.ifCond .eq 15, 3) := by decide +kernel
theorem dX9_act_44 : decode cX9_act 44 = .ok (.iload 4, 2) := by decide +kernel
theorem dX9_act_46 : decode cX9_act 46 = .ok (.iconst 0, 1) := by decide +kernel
theorem dX9_act_47 : decode cX9_act 47 = .ok (.sipush 1000, 3) := by decide +kernel
theorem dX9_act_50 : decode cX9_act 50 = .ok (.invokestatic 115, 3) := by decide +kernel
theorem dX9_act_53 : decode cX9_act 53 = .ok (.ifCond .ne 7, 3) := by decide +kernel
theorem dX9_act_56 : decode cX9_act 56 = .ok (.iconst 1, 1) := by decide +kernel
theorem dX9_act_57 : decode cX9_act 57 = .ok (.goto 4, 3) := by decide +kernel
theorem dX9_act_60 : decode cX9_act 60 = .ok (.iconst 0, 1) := by decide +kernel
theorem dX9_act_61 : decode cX9_act 61 = .ok (.iconst 2, 1) := by decide +kernel
theorem dX9_act_62 : decode cX9_act 62 = .ok (.invokevirtual 123, 3) := by decide +kernel
theorem dX9_act_65 : decode cX9_act 65 = .ok (.ifCond .eq 5, 3) := by decide +kernel
theorem dX9_act_68 : decode cX9_act 68 = .ok (.iconst 0, 1) := by decide +kernel
theorem dX9_act_69 : decode cX9_act 69 = .ok (.ireturn, 1) := by decide +kernel
theorem dX9_act_70 : decode cX9_act 70 = .ok (.aload_n 0, 1) := by decide +kernel
theorem dX9_act_71 : decode cX9_act 71 = .ok (.getfield 196, 3) := by decide +kernel
theorem dX9_act_74 : decode cX9_act 74 = .ok (.bipush 6, 2) := by decide +kernel
theorem dX9_act_76 : decode cX9_act 76 = .ok (.if_icmp .ne 5, 3) := by decide +kernel
theorem dX9_act_79 : decode cX9_act 79 = .ok (.iconst (-1), 1) := by decide +kernel
theorem dX9_act_80 : decode cX9_act 80 = .ok (.ireturn, 1) := by decide +kernel
theorem dX9_act_81 : decode cX9_act 81 = .ok (.aload_n 0, 1) := by decide +kernel
theorem dX9_act_82 : decode cX9_act 82 = .ok (.getfield 69, 3) := by decide +kernel
theorem dX9_act_85 : decode cX9_act 85 = .ok (.aload_n 0, 1) := by decide +kernel
theorem dX9_act_86 : decode cX9_act 86 = .ok (.getfield 196, 3) := by decide +kernel
theorem dX9_act_89 : decode cX9_act 89 = .ok (.iconst 2, 1) := by decide +kernel
theorem dX9_act_90 : decode cX9_act 90 = .ok (.iload_n 1, 1) := by decide +kernel
theorem dX9_act_91 : decode cX9_act 91 = .ok (.imul, 1) := by decide +kernel
theorem dX9_act_92 : decode cX9_act 92 = .ok (.iload_n 2, 1) := by decide +kernel
theorem dX9_act_93 : decode cX9_act 93 = .ok (.ifCond .eq 7, 3) := by decide +kernel
theorem dX9_act_96 : decode cX9_act 96 = .ok (.iconst 1, 1) := by decide +kernel
theorem dX9_act_97 : decode cX9_act 97 = .ok (.goto 4, 3) := by decide +kernel
theorem dX9_act_100 : decode cX9_act 100 = .ok (.iconst 0, 1) := by decide +kernel
theorem dX9_act_101 : decode cX9_act 101 = .ok (.iadd, 1) := by decide +kernel
theorem dX9_act_102 : decode cX9_act 102 = .ok (.iastore, 1) := by decide +kernel
theorem dX9_act_103 : decode cX9_act 103 = .ok (.aload_n 0, 1) := by decide +kernel
theorem dX9_act_104 : decode cX9_act 104 = .ok (.getfield 72, 3) := by decide +kernel
theorem dX9_act_107 : decode cX9_act 107 = .ok (.aload_n 0, 1) := by decide +kernel
theorem dX9_act_108 : decode cX9_act 108 = .ok (.getfield 196, 3) := by decide +kernel
theorem dX9_act_111 : decode cX9_act 111 = .ok (.iload_n 3, 1) := by decide +kernel
theorem dX9_act_112 : decode cX9_act 112 = .ok (.iastore, 1) := by decide +kernel
theorem dX9_act_113 : decode cX9_act 113 = .ok (.aload_n 0, 1) := by decide +kernel
theorem dX9_act_114 : decode cX9_act 114 = .ok (.getfield 75, 3) := by decide +kernel
theorem dX9_act_117 : decode cX9_act 117 = .ok (.aload_n 0, 1) := by decide +kernel
theorem dX9_act_118 : decode cX9_act 118 = .ok (.getfield 196, 3) := by decide +kernel
theorem dX9_act_121 : decode cX9_act 121 = .ok (.iload 4, 2) := by decide +kernel
theorem dX9_act_123 : decode cX9_act 123 = .ok (.iastore, 1) := by decide +kernel
theorem dX9_act_124 : decode cX9_act 124 = .ok (.aload_n 0, 1) := by decide +kernel
theorem dX9_act_125 : decode cX9_act 125 = .ok (.dup, 1) := by decide +kernel
theorem dX9_act_126 : decode cX9_act 126 = .ok (.getfield 196, 3) := by decide +kernel
theorem dX9_act_129 : decode cX9_act 129 = .ok (.iconst 1, 1) := by decide +kernel
theorem dX9_act_130 : decode cX9_act 130 = .ok (.iadd, 1) := by decide +kernel
theorem dX9_act_131 : decode cX9_act 131 = .ok (.putfield 196, 3) := by decide +kernel
theorem dX9_act_134 : decode cX9_act 134 = .ok (.aload_n 0, 1) := by decide +kernel
theorem dX9_act_135 : decode cX9_act 135 = .ok (.getfield 196, 3) := by decide +kernel
theorem dX9_act_138 : decode cX9_act 138 = .ok (.iconst 1, 1) := by decide +kernel
theorem dX9_act_139 : decode cX9_act 139 = .ok (.isub, 1) := by decide +kernel
theorem dX9_act_140 : decode cX9_act 140 = .ok (.ireturn, 1) := by decide +kernel
def w_X9_act_101 (Q : Int32 → gS → Prop) (x3 : Int32) (x4 : Int32) (v0 : Int32) (v1 : Int32) (v2 : Int32) (σ : gS) : Prop :=
    vp_in v2 6 ∧ ∀ s2 : gS, s2 = gu σ 87 v2.toNatClampNeg (v1 + v0) → vp_in (s2 90 0) 6 ∧ ∀ s4 : gS, s4 = gu s2 88 (s2 90 0).toNatClampNeg x3 → vp_in (s4 90 0) 6 ∧ ∀ s6 : gS, s6 = gu s4 89 (s4 90 0).toNatClampNeg x4 → ∀ s7 : gS, s7 = gu s6 90 0 ((s6 90 0) + 1) → Q ((s7 90 0) - 1) s7
def w_X9_act_61 (Q : Int32 → gS → Prop) (x1 : Int32) (x2 : Int32) (x3 : Int32) (x4 : Int32) (v0 : Int32) (σ : gS) : Prop :=
    w_X9_throwsIf  (fun (r9 : Int32) (s8 : gS) => (r9 = 0 → (¬ (s8 90 0) = 6 → (x2 = 0 → w_X9_act_101 Q x3 x4 0 (2 * x1) (s8 90 0) s8) ∧ (¬ x2 = 0 → w_X9_act_101 Q x3 x4 1 (2 * x1) (s8 90 0) s8)) ∧ ((s8 90 0) = 6 → Q (-1) s8)) ∧ (¬ r9 = 0 → Q 0 s8)) σ v0 2
def w_X9_act_25 (Q : Int32 → gS → Prop) (x1 : Int32) (x2 : Int32) (x3 : Int32) (x4 : Int32) (v0 : Int32) (σ : gS) : Prop :=
    w_X9_throwsIf  (fun (r14 : Int32) (s13 : gS) => (¬ r14 = 0 → Q 0 s13) ∧ (r14 = 0 → w_X9_in  (fun (r17 : Int32) (s16 : gS) => (r17 = 0 → w_X9_act_61 Q x1 x2 x3 x4 1 s16) ∧ (¬ r17 = 0 → w_X9_in  (fun (r20 : Int32) (s19 : gS) => (¬ r20 = 0 → w_X9_act_61 Q x1 x2 x3 x4 0 s19) ∧ (r20 = 0 → w_X9_act_61 Q x1 x2 x3 x4 1 s19)) s16 x4 0 1000)) s13 x3 0 1000)) σ v0 1
def w_X9_act (Q : Int32 → gS → Prop) (σ : gS) (a1 : Int32) (a2 : Int32) (a3 : Int32) (a4 : Int32) : Prop :=
    ∀ s22 : gS, s22 = gu σ 63 0 0 → w_X9_in  (fun (r24 : Int32) (s23 : gS) => (¬ r24 = 0 → w_X9_act_25 Q a1 a2 a3 a4 0 s23) ∧ (r24 = 0 → w_X9_act_25 Q a1 a2 a3 a4 1 s23)) s22 a1 0 ((s22 76 0) - 1)
abbrev ws_X9_act : List Cond := Cond.code yX9_act cX9_act 5 (some .int) :: gG
abbrev rm_X9_act : Room := { frames := 1, cells := 0, slots := 0, locals := 22 }
theorem k_X9_act : gCV yX9_act RX9 cX9_act 5 (some .int) 4 := ⟨gw_5_196, gw_5_197, gw_1_11, gw_5_198, rfl, by decide +kernel⟩
set_option maxHeartbeats 4000000 in
set_option maxRecDepth 100000 in
theorem c_X9_act (l : Launch) (D : va_G) (cy : Nat → ClassId) (ad : Nat → Nat) (A : Nat → Prop) (Q : Int32 → gS → Prop) (σ : gS) (a1 : Int32) (a2 : Int32) (a3 : Int32) (a4 : Int32) (h : w_X9_act Q σ a1 a2 a3 a4) : Met l yX9_act ws_X9_act rm_X9_act (va_Pc [.ref (ad 10), .int a1, .int a2, .int a3, .int a4] (gB D cy ad A σ)) (va_Qi Q (gB D cy ad A) A) 0 0 A := by
  refine Met.ofW (cc := cX9_act) (maxL := 5) (ret := (some .int)) (by decide) rfl ?_
  intro p e s m args below meth c s₁ B hml hv
  obtain ⟨rfl, hB⟩ := hv
  have hC : gC p c cX9_act s m ([.ref (ad 10), .int a1, .int a2, .int a3, .int a4] : List Value).toArray RX9 D cy ad A := g_start B hB
  have hI := g_first hB
  have hx := hC.1
  have hb := hC.2.1
  have hr := B.returns
  have hlocks := B.notSynchronized
  clear B hB
  have J101 : ∀ (x3 : Int32) (x4 : Int32) (v0 : Int32) (v1 : Int32) (v2 : Int32) (σ : gS) (H : Heap) (locs : List Loc) (ls : Array Slot), w_X9_act_101 Q x3 x4 v0 v1 v2 σ → gI D cy ad A s.heap σ H locs → lv_has ls 5 [(0, .ref (ad 10)), (3, .int x3), (4, .int x4)] → W p l e (headSpec ws_X9_act rm_X9_act).room s m ([.ref (ad 10), .int a1, .int a2, .int a3, .int a4] : List Value).toArray below meth c H locs 0 0 (MQ below (va_Qi Q (gB D cy ad A) A) ([.ref (ad 10), .int a1, .int a2, .int a3, .int a4] : List Value).toArray s 0 0 A) (F0 m 101 ls [.int v0, .int v1, .int v2, .ref (ad 69)]) := by
    intro x3 x4 v0 v1 v2 σ H locs ls h hI hl
    unfold w_X9_act_101 at h
    refine lv_iadd hx hb dX9_act_101 ?_
    obtain ⟨hi1, h⟩ := h
    refine gs_69 hC hI hi1 dX9_act_102 (fun s2 H locs es2 hI => ?_)
    have h := h s2 es2
    refine lv_aload_n hx hb dX9_act_103 rfl (lv_at hl 0 rfl) ?_
    refine gg_X9_ends hC hI gw_4_213 dX9_act_104 ?_
    refine lv_aload_n hx hb dX9_act_107 rfl (lv_at hl 0 rfl) ?_
    refine gg_X9_acts hC hI gw_4_215 dX9_act_108 ?_
    refine lv_iload_n hx hb dX9_act_111 rfl (lv_at hl 1 rfl) ?_
    obtain ⟨hi3, h⟩ := h
    refine gs_70 hC hI hi3 dX9_act_112 (fun s4 H locs es4 hI => ?_)
    have h := h s4 es4
    refine lv_aload_n hx hb dX9_act_113 rfl (lv_at hl 0 rfl) ?_
    refine gg_X9_people hC hI gw_4_214 dX9_act_114 ?_
    refine lv_aload_n hx hb dX9_act_117 rfl (lv_at hl 0 rfl) ?_
    refine gg_X9_acts hC hI gw_4_215 dX9_act_118 ?_
    refine lv_iload hx hb dX9_act_121 (lv_at hl 2 rfl) ?_
    obtain ⟨hi5, h⟩ := h
    refine gs_71 hC hI hi5 dX9_act_123 (fun s6 H locs es6 hI => ?_)
    have h := h s6 es6
    refine lv_aload_n hx hb dX9_act_124 rfl (lv_at hl 0 rfl) ?_
    refine lv_dup hx hb dX9_act_125 rfl ?_
    refine gg_X9_acts hC hI gw_4_215 dX9_act_126 ?_
    refine lv_iconst (v := 1) hx hb dX9_act_129 (by decide) ?_
    refine lv_iadd hx hb dX9_act_130 ?_
    refine gp_X9_acts hC hI gw_4_215 dX9_act_131 (fun s7 H locs es7 hI => ?_)
    have h := h s7 es7
    refine lv_aload_n hx hb dX9_act_134 rfl (lv_at hl 0 rfl) ?_
    refine gg_X9_acts hC hI gw_4_215 dX9_act_135 ?_
    refine lv_iconst (v := 1) hx hb dX9_act_138 (by decide) ?_
    refine lv_isub hx hb dX9_act_139 ?_
    exact g_iret hC hr hlocks hI h dX9_act_140
  have J61 : ∀ (x1 : Int32) (x2 : Int32) (x3 : Int32) (x4 : Int32) (v0 : Int32) (σ : gS) (H : Heap) (locs : List Loc) (ls : Array Slot), w_X9_act_61 Q x1 x2 x3 x4 v0 σ → gI D cy ad A s.heap σ H locs → lv_has ls 5 [(0, .ref (ad 10)), (1, .int x1), (2, .int x2), (3, .int x3), (4, .int x4)] → W p l e (headSpec ws_X9_act rm_X9_act).room s m ([.ref (ad 10), .int a1, .int a2, .int a3, .int a4] : List Value).toArray below meth c H locs 0 0 (MQ below (va_Qi Q (gB D cy ad A) A) ([.ref (ad 10), .int a1, .int a2, .int a3, .int a4] : List Value).toArray s 0 0 A) (F0 m 61 ls [.int v0, .ref (ad 10)]) := by
    intro x1 x2 x3 x4 v0 σ H locs ls h hI hl
    unfold w_X9_act_61 at h
    refine lv_iconst (v := 2) hx hb dX9_act_61 (by decide) ?_
    refine g_backi hI (g_runV (As := [.int v0, .int 2]) (rest := []) hC hml hI (c_X9_throwsIf l D cy ad A _  _ _ _ h) k_X9_throwsIf gw_5_100 ⟨rfl, rfl⟩ ⟨Nat.le_of_ble_eq_true rfl, Nat.le_of_ble_eq_true rfl⟩ (grv_10 hC hI) rfl hl.1 rfl (Nat.le_of_ble_eq_true rfl) dX9_act_62 ⟨Nat.le_of_ble_eq_true rfl, Nat.le_of_ble_eq_true rfl⟩) (fun r9 s8 H locs h hI => ?_)
    refine lv_if_eq (tgt := 70) hx hb dX9_act_65 (by decide) (fun c10 => ?_) (fun c10 => ?_)
    · have h := h.1 c10
      refine lv_aload_n hx hb dX9_act_70 rfl (lv_at hl 0 rfl) ?_
      refine gg_X9_acts hC hI gw_4_215 dX9_act_71 ?_
      refine lv_bipush (v := 6) hx hb dX9_act_74 (by decide) ?_
      refine lv_icmp_ne (tgt := 81) hx hb dX9_act_76 (by decide) (fun c11 => ?_) (fun c11 => ?_)
      · have h := h.1 c11
        refine lv_aload_n hx hb dX9_act_81 rfl (lv_at hl 0 rfl) ?_
        refine gg_X9_actWay hC hI gw_4_212 dX9_act_82 ?_
        refine lv_aload_n hx hb dX9_act_85 rfl (lv_at hl 0 rfl) ?_
        refine gg_X9_acts hC hI gw_4_215 dX9_act_86 ?_
        refine lv_iconst (v := 2) hx hb dX9_act_89 (by decide) ?_
        refine lv_iload_n hx hb dX9_act_90 rfl (lv_at hl 1 rfl) ?_
        refine lv_imul hx hb dX9_act_91 ?_
        refine lv_iload_n hx hb dX9_act_92 rfl (lv_at hl 2 rfl) ?_
        refine lv_if_eq (tgt := 100) hx hb dX9_act_93 (by decide) (fun c12 => ?_) (fun c12 => ?_)
        · have h := h.1 c12
          refine lv_iconst (v := 0) hx hb dX9_act_100 (by decide) ?_
          exact J101 _ _ _ _ _ _ _ _ _ h hI (lv_sub hl [0, 3, 4] rfl)
        · have h := h.2 c12
          refine lv_iconst (v := 1) hx hb dX9_act_96 (by decide) ?_
          refine lv_goto (tgt := 101) hx hb dX9_act_97 (by decide) ?_
          exact J101 _ _ _ _ _ _ _ _ _ h hI (lv_sub hl [0, 3, 4] rfl)
      · have h := h.2 c11
        refine lv_iconst (v := (-1)) hx hb dX9_act_79 (by decide) ?_
        exact g_iret hC hr hlocks hI h dX9_act_80
    · have h := h.2 c10
      refine lv_iconst (v := 0) hx hb dX9_act_68 (by decide) ?_
      exact g_iret hC hr hlocks hI h dX9_act_69
  have J25 : ∀ (x1 : Int32) (x2 : Int32) (x3 : Int32) (x4 : Int32) (v0 : Int32) (σ : gS) (H : Heap) (locs : List Loc) (ls : Array Slot), w_X9_act_25 Q x1 x2 x3 x4 v0 σ → gI D cy ad A s.heap σ H locs → lv_has ls 5 [(0, .ref (ad 10)), (1, .int x1), (2, .int x2), (3, .int x3), (4, .int x4)] → W p l e (headSpec ws_X9_act rm_X9_act).room s m ([.ref (ad 10), .int a1, .int a2, .int a3, .int a4] : List Value).toArray below meth c H locs 0 0 (MQ below (va_Qi Q (gB D cy ad A) A) ([.ref (ad 10), .int a1, .int a2, .int a3, .int a4] : List Value).toArray s 0 0 A) (F0 m 25 ls [.int v0, .ref (ad 10)]) := by
    intro x1 x2 x3 x4 v0 σ H locs ls h hI hl
    unfold w_X9_act_25 at h
    refine lv_iconst (v := 1) hx hb dX9_act_25 (by decide) ?_
    refine g_backi hI (g_runV (As := [.int v0, .int 1]) (rest := []) hC hml hI (c_X9_throwsIf l D cy ad A _  _ _ _ h) k_X9_throwsIf gw_5_100 ⟨rfl, rfl⟩ ⟨Nat.le_of_ble_eq_true rfl, Nat.le_of_ble_eq_true rfl⟩ (grv_10 hC hI) rfl hl.1 rfl (Nat.le_of_ble_eq_true rfl) dX9_act_26 ⟨Nat.le_of_ble_eq_true rfl, Nat.le_of_ble_eq_true rfl⟩) (fun r14 s13 H locs h hI => ?_)
    refine lv_if_ne (tgt := 68) hx hb dX9_act_29 (by decide) (fun c15 => ?_) (fun c15 => ?_)
    · have h := h.1 c15
      refine lv_iconst (v := 0) hx hb dX9_act_68 (by decide) ?_
      exact g_iret hC hr hlocks hI h dX9_act_69
    · have h := h.2 c15
      refine lv_aload_n hx hb dX9_act_32 rfl (lv_at hl 0 rfl) ?_
      refine lv_iload_n hx hb dX9_act_33 rfl (lv_at hl 3 rfl) ?_
      refine lv_iconst (v := 0) hx hb dX9_act_34 (by decide) ?_
      refine lv_sipush (v := 1000) hx hb dX9_act_35 (by decide) ?_
      refine g_backi hI (g_runS (As := [.int x3, .int 0, .int 1000]) (rest := [.ref (ad 10)]) hC hml hI (c_X9_in l D cy ad A _  _ _ _ _ h) k_X9_in gw_5_97 ⟨rfl, rfl⟩ ⟨Nat.le_of_ble_eq_true rfl, Nat.le_of_ble_eq_true rfl⟩ rfl hl.1 rfl (Nat.le_of_ble_eq_true rfl) dX9_act_38 ⟨Nat.le_of_ble_eq_true rfl, Nat.le_of_ble_eq_true rfl⟩) (fun r17 s16 H locs h hI => ?_)
      refine lv_if_eq (tgt := 56) hx hb dX9_act_41 (by decide) (fun c18 => ?_) (fun c18 => ?_)
      · have h := h.1 c18
        refine lv_iconst (v := 1) hx hb dX9_act_56 (by decide) ?_
        refine lv_goto (tgt := 61) hx hb dX9_act_57 (by decide) ?_
        exact J61 _ _ _ _ _ _ _ _ _ h hI (lv_sub hl [0, 1, 2, 3, 4] rfl)
      · have h := h.2 c18
        refine lv_iload hx hb dX9_act_44 (lv_at hl 4 rfl) ?_
        refine lv_iconst (v := 0) hx hb dX9_act_46 (by decide) ?_
        refine lv_sipush (v := 1000) hx hb dX9_act_47 (by decide) ?_
        refine g_backi hI (g_runS (As := [.int x4, .int 0, .int 1000]) (rest := [.ref (ad 10)]) hC hml hI (c_X9_in l D cy ad A _  _ _ _ _ h) k_X9_in gw_5_97 ⟨rfl, rfl⟩ ⟨Nat.le_of_ble_eq_true rfl, Nat.le_of_ble_eq_true rfl⟩ rfl hl.1 rfl (Nat.le_of_ble_eq_true rfl) dX9_act_50 ⟨Nat.le_of_ble_eq_true rfl, Nat.le_of_ble_eq_true rfl⟩) (fun r20 s19 H locs h hI => ?_)
        refine lv_if_ne (tgt := 60) hx hb dX9_act_53 (by decide) (fun c21 => ?_) (fun c21 => ?_)
        · have h := h.1 c21
          refine lv_iconst (v := 0) hx hb dX9_act_60 (by decide) ?_
          exact J61 _ _ _ _ _ _ _ _ _ h hI (lv_sub hl [0, 1, 2, 3, 4] rfl)
        · have h := h.2 c21
          refine lv_iconst (v := 1) hx hb dX9_act_56 (by decide) ?_
          refine lv_goto (tgt := 61) hx hb dX9_act_57 (by decide) ?_
          exact J61 _ _ _ _ _ _ _ _ _ h hI (lv_sub hl [0, 1, 2, 3, 4] rfl)
  have hl := lv_entry ([.ref (ad 10), .int a1, .int a2, .int a3, .int a4]) (n := 5) (Nat.le_of_ble_eq_true rfl)
  rw [lg_entry_eq]
  generalize (lg_sl ([.ref (ad 10), .int a1, .int a2, .int a3, .int a4]) ++ List.replicate (5 - (lg_sl ([.ref (ad 10), .int a1, .int a2, .int a3, .int a4])).length) Slot.unset).toArray = ls at hl ⊢
  have hl : lv_has ls 5 [(0, .ref (ad 10)), (1, .int a1), (2, .int a2), (3, .int a3), (4, .int a4)] := hl
  unfold w_X9_act at h
  refine lv_aload_n hx hb dX9_act_0 rfl (lv_at hl 0 rfl) ?_
  refine lv_iconst (v := 0) hx hb dX9_act_1 (by decide) ?_
  refine gp_X9_thrown hC hI gw_4_188 dX9_act_2 (fun s22 H locs es22 hI => ?_)
  have h := h s22 es22
  refine lv_aload_n hx hb dX9_act_5 rfl (lv_at hl 0 rfl) ?_
  refine lv_iload_n hx hb dX9_act_6 rfl (lv_at hl 1 rfl) ?_
  refine lv_iconst (v := 0) hx hb dX9_act_7 (by decide) ?_
  refine lv_aload_n hx hb dX9_act_8 rfl (lv_at hl 0 rfl) ?_
  refine gg_X9_ways hC hI gw_4_201 dX9_act_9 ?_
  refine lv_iconst (v := 1) hx hb dX9_act_12 (by decide) ?_
  refine lv_isub hx hb dX9_act_13 ?_
  refine g_backi hI (g_runS (As := [.int a1, .int 0, .int ((s22 76 0) - 1)]) (rest := [.ref (ad 10)]) hC hml hI (c_X9_in l D cy ad A _  _ _ _ _ h) k_X9_in gw_5_97 ⟨rfl, rfl⟩ ⟨Nat.le_of_ble_eq_true rfl, Nat.le_of_ble_eq_true rfl⟩ rfl hl.1 rfl (Nat.le_of_ble_eq_true rfl) dX9_act_14 ⟨Nat.le_of_ble_eq_true rfl, Nat.le_of_ble_eq_true rfl⟩) (fun r24 s23 H locs h hI => ?_)
  refine lv_if_ne (tgt := 24) hx hb dX9_act_17 (by decide) (fun c25 => ?_) (fun c25 => ?_)
  · have h := h.1 c25
    refine lv_iconst (v := 0) hx hb dX9_act_24 (by decide) ?_
    exact J25 _ _ _ _ _ _ _ _ _ h hI (lv_sub hl [0, 1, 2, 3, 4] rfl)
  · have h := h.2 c25
    refine lv_iconst (v := 1) hx hb dX9_act_20 (by decide) ?_
    refine lv_goto (tgt := 25) hx hb dX9_act_21 (by decide) ?_
    exact J25 _ _ _ _ _ _ _ _ _ h hI (lv_sub hl [0, 1, 2, 3, 4] rfl)

theorem dX9_above_0 : decode cX9_above 0 = .ok (.iconst 0, 1) := by decide +kernel
theorem dX9_above_1 : decode cX9_above 1 = .ok (.istore_n 3, 1) := by decide +kernel
theorem dX9_above_2 : decode cX9_above 2 = .ok (.iconst 0, 1) := by decide +kernel
theorem dX9_above_3 : decode cX9_above 3 = .ok (.istore 4, 2) := by decide +kernel
theorem dX9_above_5 : decode cX9_above 5 = .ok (.iload 4, 2) := by decide +kernel
theorem dX9_above_7 : decode cX9_above 7 = .ok (.aload_n 0, 1) := by decide +kernel
theorem dX9_above_8 : decode cX9_above 8 = .ok (.getfield 196, 3) := by decide +kernel
theorem dX9_above_11 : decode cX9_above 11 = .ok (.if_icmp .ge 86, 3) := by decide +kernel
theorem dX9_above_14 : decode cX9_above 14 = .ok (.aload_n 0, 1) := by decide +kernel
theorem dX9_above_15 : decode cX9_above 15 = .ok (.getfield 69, 3) := by decide +kernel
theorem dX9_above_18 : decode cX9_above 18 = .ok (.iload 4, 2) := by decide +kernel
theorem dX9_above_20 : decode cX9_above 20 = .ok (.iaload, 1) := by decide +kernel
theorem dX9_above_21 : decode cX9_above 21 = .ok (.aload_n 0, 1) := by decide +kernel
theorem dX9_above_22 : decode cX9_above 22 = .ok (.getfield 69, 3) := by decide +kernel
theorem dX9_above_25 : decode cX9_above 25 = .ok (.iload_n 1, 1) := by decide +kernel
theorem dX9_above_26 : decode cX9_above 26 = .ok (.iaload, 1) := by decide +kernel
theorem dX9_above_27 : decode cX9_above 27 = .ok (.if_icmp .ne 64, 3) := by decide +kernel
theorem dX9_above_30 : decode cX9_above 30 = .ok (.iload_n 2, 1) := by decide +kernel
theorem dX9_above_31 : decode cX9_above 31 = .ok (.aload_n 0, 1) := by decide +kernel
theorem dX9_above_32 : decode cX9_above 32 = .ok (.getfield 72, 3) := by decide +kernel
theorem dX9_above_35 : decode cX9_above 35 = .ok (.iload 4, 2) := by decide +kernel
theorem dX9_above_37 : decode cX9_above 37 = .ok (.iaload, 1) := by decide +kernel
theorem dX9_above_38 : decode cX9_above 38 = .ok (.aload_n 0, 1) := by decide +kernel
theorem dX9_above_39 : decode cX9_above 39 = .ok (.getfield 78, 3) := by decide +kernel
theorem dX9_above_42 : decode cX9_above 42 = .ok (.iload 4, 2) := by decide +kernel
theorem dX9_above_44 : decode cX9_above 44 = .ok (.iaload, 1) := by decide +kernel
theorem dX9_above_45 : decode cX9_above 45 = .ok (.iadd, 1) := by decide +kernel
theorem dX9_above_46 : decode cX9_above 46 = .ok (.aload_n 0, 1) := by decide +kernel
theorem dX9_above_47 : decode cX9_above 47 = .ok (.getfield 72, 3) := by decide +kernel
theorem dX9_above_50 : decode cX9_above 50 = .ok (.iload 4, 2) := by decide +kernel
theorem dX9_above_52 : decode cX9_above 52 = .ok (.iaload, 1) := by decide +kernel
theorem dX9_above_53 : decode cX9_above 53 = .ok (.aload_n 0, 1) := by decide +kernel
theorem dX9_above_54 : decode cX9_above 54 = .ok (.getfield 78, 3) := by decide +kernel
theorem dX9_above_57 : decode cX9_above 57 = .ok (.iload 4, 2) := by decide +kernel
theorem dX9_above_59 : decode cX9_above 59 = .ok (.iaload, 1) := by decide +kernel
theorem dX9_above_60 : decode cX9_above 60 = .ok (.iadd, 1) := by decide +kernel
theorem dX9_above_61 : decode cX9_above 61 = .ok (.bipush 9, 2) := by decide +kernel
theorem dX9_above_63 : decode cX9_above 63 = .ok (.iadd, 1) := by decide +kernel
theorem dX9_above_64 : decode cX9_above 64 = .ok (.invokestatic 115, 3) := by decide +kernel
theorem dX9_above_67 : decode cX9_above 67 = .ok (.ifCond .ne 6, 3) := by decide +kernel
theorem dX9_above_70 : decode cX9_above 70 = .ok (.goto 21, 3) := by decide +kernel
theorem dX9_above_73 : decode cX9_above 73 = .ok (.iload 4, 2) := by decide +kernel
theorem dX9_above_75 : decode cX9_above 75 = .ok (.iload_n 1, 1) := by decide +kernel
theorem dX9_above_76 : decode cX9_above 76 = .ok (.if_icmp .ge 5, 3) := by decide +kernel
theorem dX9_above_79 : decode cX9_above 79 = .ok (.iconst 0, 1) := by decide +kernel
theorem dX9_above_80 : decode cX9_above 80 = .ok (.ireturn, 1) := by decide +kernel
theorem dX9_above_81 : decode cX9_above 81 = .ok (.iload_n 3, 1) := by decide +kernel
theorem dX9_above_82 : decode cX9_above 82 = .ok (.aload_n 0, 1) := by decide +kernel
theorem dX9_above_83 : decode cX9_above 83 = .ok (.getfield 75, 3) := by decide +kernel
theorem dX9_above_86 : decode cX9_above 86 = .ok (.iload 4, 2) := by decide +kernel
theorem dX9_above_88 : decode cX9_above 88 = .ok (.iaload, 1) := by decide +kernel
theorem dX9_above_89 : decode cX9_above 89 = .ok (.iadd, 1) := by decide +kernel
theorem dX9_above_90 : decode cX9_above 90 = .ok (.istore_n 3, 1) := by decide +kernel
theorem dX9_above_91 : decode cX9_above 91 = .ok (.iinc 4 1, 3) := by decide +kernel
theorem dX9_above_94 : decode cX9_above 94 = .ok (.goto (-89), 3) := by decide +kernel
theorem dX9_above_97 : decode cX9_above 97 = .ok (.iconst 0, 1) := by decide +kernel
theorem dX9_above_98 : decode cX9_above 98 = .ok (.iload_n 3, 1) := by decide +kernel
theorem dX9_above_99 : decode cX9_above 99 = .ok (.aload_n 0, 1) := by decide +kernel
theorem dX9_above_100 : decode cX9_above 100 = .ok (.getfield 39, 3) := by decide +kernel
theorem dX9_above_103 : decode cX9_above 103 = .ok (.aload_n 0, 1) := by decide +kernel
theorem dX9_above_104 : decode cX9_above 104 = .ok (.getfield 69, 3) := by decide +kernel
theorem dX9_above_107 : decode cX9_above 107 = .ok (.iload_n 1, 1) := by decide +kernel
theorem dX9_above_108 : decode cX9_above 108 = .ok (.iaload, 1) := by decide +kernel
theorem dX9_above_109 : decode cX9_above 109 = .ok (.iaload, 1) := by decide +kernel
theorem dX9_above_110 : decode cX9_above 110 = .ok (.isub, 1) := by decide +kernel
theorem dX9_above_111 : decode cX9_above 111 = .ok (.invokestatic 189, 3) := by decide +kernel
theorem dX9_above_114 : decode cX9_above 114 = .ok (.ireturn, 1) := by decide +kernel
def w_X9_above_5 (Q : Int32 → gS → Prop) : Nat → Int32 → Int32 → Int32 → Int32 → gS → Prop
  | 0, _, _, _, _, _ => False
  | n5 + 1, x1, x2, x3, x4, σ =>
    ((σ 90 0) ≤ x4 → vp_in x1 6 ∧ vp_in (σ 87 x1.toNatClampNeg) 28 ∧ Q (if 0 < (x3 - (σ 75 (σ 87 x1.toNatClampNeg).toNatClampNeg)) then (x3 - (σ 75 (σ 87 x1.toNatClampNeg).toNatClampNeg)) else 0) σ) ∧ (¬ (σ 90 0) ≤ x4 → vp_in x4 6 ∧ vp_in x1 6 ∧ (¬ (σ 87 x4.toNatClampNeg) = (σ 87 x1.toNatClampNeg) → ∀ y16 : Int32, y16 = x4 + 1 → w_X9_above_5 Q n5 x1 x2 x3 y16 σ) ∧ ((σ 87 x4.toNatClampNeg) = (σ 87 x1.toNatClampNeg) → vp_in x4 6 ∧ vp_in x4 6 ∧ vp_in x4 6 ∧ vp_in x4 6 ∧ w_X9_in  (fun (r22 : Int32) (s21 : gS) => (¬ r22 = 0 → (x1 ≤ x4 → vp_in x4 6 ∧ ∀ y26 : Int32, y26 = (x3 + (s21 89 x4.toNatClampNeg)) → ∀ y27 : Int32, y27 = x4 + 1 → w_X9_above_5 Q n5 x1 x2 y26 y27 s21) ∧ (¬ x1 ≤ x4 → Q 0 s21)) ∧ (r22 = 0 → ∀ y28 : Int32, y28 = x4 + 1 → w_X9_above_5 Q n5 x1 x2 x3 y28 s21)) σ x2 ((σ 88 x4.toNatClampNeg) + (σ 91 x4.toNatClampNeg)) (((σ 88 x4.toNatClampNeg) + (σ 91 x4.toNatClampNeg)) + 9)))
def w_X9_above (Q : Int32 → gS → Prop) (σ : gS) (a1 : Int32) (a2 : Int32) : Prop :=
    ∃ n5, w_X9_above_5 Q n5 a1 a2 0 0 σ
abbrev ws_X9_above : List Cond := Cond.code yX9_above cX9_above 5 (some .int) :: gG
abbrev rm_X9_above : Room := { frames := 1, cells := 0, slots := 0, locals := 22 }
theorem k_X9_above : gCV yX9_above RX9 cX9_above 5 (some .int) 2 := ⟨gw_5_213, gwp_48, gw_1_11, gw_5_214, rfl, by decide +kernel⟩
set_option maxHeartbeats 4000000 in
set_option maxRecDepth 100000 in
theorem c_X9_above (l : Launch) (D : va_G) (cy : Nat → ClassId) (ad : Nat → Nat) (A : Nat → Prop) (Q : Int32 → gS → Prop) (σ : gS) (a1 : Int32) (a2 : Int32) (h : w_X9_above Q σ a1 a2) : Met l yX9_above ws_X9_above rm_X9_above (va_Pc [.ref (ad 10), .int a1, .int a2] (gB D cy ad A σ)) (va_Qi Q (gB D cy ad A) A) 0 0 A := by
  refine Met.ofW (cc := cX9_above) (maxL := 5) (ret := (some .int)) (by decide) rfl ?_
  intro p e s m args below meth c s₁ B hml hv
  obtain ⟨rfl, hB⟩ := hv
  have hC : gC p c cX9_above s m ([.ref (ad 10), .int a1, .int a2] : List Value).toArray RX9 D cy ad A := g_start B hB
  have hI := g_first hB
  have hx := hC.1
  have hb := hC.2.1
  have hr := B.returns
  have hlocks := B.notSynchronized
  clear B hB
  have J5 : ∀ (n5 : Nat) (x1 : Int32) (x2 : Int32) (x3 : Int32) (x4 : Int32) (σ : gS) (H : Heap) (locs : List Loc) (ls : Array Slot), w_X9_above_5 Q n5 x1 x2 x3 x4 σ → gI D cy ad A s.heap σ H locs → lv_has ls 5 [(0, .ref (ad 10)), (1, .int x1), (2, .int x2), (3, .int x3), (4, .int x4)] → W p l e (headSpec ws_X9_above rm_X9_above).room s m ([.ref (ad 10), .int a1, .int a2] : List Value).toArray below meth c H locs 0 0 (MQ below (va_Qi Q (gB D cy ad A) A) ([.ref (ad 10), .int a1, .int a2] : List Value).toArray s 0 0 A) (F0 m 5 ls []) := by
    intro n5
    induction n5 with
    | zero => intro x1 x2 x3 x4 σ H locs ls h; exact absurd h (fun h => h)
    | succ n5 ih5 =>
      intro x1 x2 x3 x4 σ H locs ls h hI hl
      unfold w_X9_above_5 at h
      refine lv_iload hx hb dX9_above_5 (lv_at hl 4 rfl) ?_
      refine lv_aload_n hx hb dX9_above_7 rfl (lv_at hl 0 rfl) ?_
      refine gg_X9_acts hC hI gw_4_215 dX9_above_8 ?_
      refine lv_icmp_ge (tgt := 97) hx hb dX9_above_11 (by decide) (fun c10 => ?_) (fun c10 => ?_)
      · have h := h.1 c10
        refine lv_iconst (v := 0) hx hb dX9_above_97 (by decide) ?_
        refine lv_iload_n hx hb dX9_above_98 rfl (lv_at hl 3 rfl) ?_
        refine lv_aload_n hx hb dX9_above_99 rfl (lv_at hl 0 rfl) ?_
        refine gg_X9_wide hC hI gw_4_200 dX9_above_100 ?_
        refine lv_aload_n hx hb dX9_above_103 rfl (lv_at hl 0 rfl) ?_
        refine gg_X9_actWay hC hI gw_4_212 dX9_above_104 ?_
        refine lv_iload_n hx hb dX9_above_107 rfl (lv_at hl 1 rfl) ?_
        obtain ⟨hi11, h⟩ := h
        refine ga_69 hC hI hi11 dX9_above_108 ?_
        obtain ⟨hi12, h⟩ := h
        refine ga_59 hC hI hi12 dX9_above_109 ?_
        refine lv_isub hx hb dX9_above_110 ?_
        refine va_mmax hx hb (by rw [hml]; exact hl.1.symm) hC.2.2.2.1 (hC.2.2.1 _ gw_5_194) (hC.2.2.1 _ gw_2_156) (hC.2.2.1 _ gw_1_18) (hC.2.2.1 _ gw_2_157) (Nat.le_of_ble_eq_true rfl) (Nat.le_of_ble_eq_true rfl) (Nat.le_of_ble_eq_true rfl) (Nat.le_of_ble_eq_true rfl) dX9_above_111 ?_
        exact g_iret hC hr hlocks hI h dX9_above_114
      · have h := h.2 c10
        refine lv_aload_n hx hb dX9_above_14 rfl (lv_at hl 0 rfl) ?_
        refine gg_X9_actWay hC hI gw_4_212 dX9_above_15 ?_
        refine lv_iload hx hb dX9_above_18 (lv_at hl 4 rfl) ?_
        obtain ⟨hi13, h⟩ := h
        refine ga_69 hC hI hi13 dX9_above_20 ?_
        refine lv_aload_n hx hb dX9_above_21 rfl (lv_at hl 0 rfl) ?_
        refine gg_X9_actWay hC hI gw_4_212 dX9_above_22 ?_
        refine lv_iload_n hx hb dX9_above_25 rfl (lv_at hl 1 rfl) ?_
        obtain ⟨hi14, h⟩ := h
        refine ga_69 hC hI hi14 dX9_above_26 ?_
        refine lv_icmp_ne (tgt := 91) hx hb dX9_above_27 (by decide) (fun c15 => ?_) (fun c15 => ?_)
        · have h := h.1 c15
          obtain ⟨y16, ey16⟩ : ∃ y : Int32, y = x4 + 1 := ⟨_, rfl⟩
          have h := h y16 ey16
          refine lv_iinc (v := y16) (lv' := [(4, .int y16), (0, .ref (ad 10)), (1, .int x1), (2, .int x2), (3, .int x3)]) hx hb dX9_above_91 hl (k := 4) rfl (by rw [ey16]; rfl) (by decide) rfl (fun ls hl => ?_)
          refine lv_goto (tgt := 5) hx hb dX9_above_94 (by decide) ?_
          exact ih5 _ _ _ _ _ _ _ _ h hI (lv_sub hl [1, 2, 3, 4, 0] rfl)
        · have h := h.2 c15
          refine lv_iload_n hx hb dX9_above_30 rfl (lv_at hl 2 rfl) ?_
          refine lv_aload_n hx hb dX9_above_31 rfl (lv_at hl 0 rfl) ?_
          refine gg_X9_ends hC hI gw_4_213 dX9_above_32 ?_
          refine lv_iload hx hb dX9_above_35 (lv_at hl 4 rfl) ?_
          obtain ⟨hi17, h⟩ := h
          refine ga_70 hC hI hi17 dX9_above_37 ?_
          refine lv_aload_n hx hb dX9_above_38 rfl (lv_at hl 0 rfl) ?_
          refine gg_X9_shift hC hI gw_4_216 dX9_above_39 ?_
          refine lv_iload hx hb dX9_above_42 (lv_at hl 4 rfl) ?_
          obtain ⟨hi18, h⟩ := h
          refine ga_72 hC hI hi18 dX9_above_44 ?_
          refine lv_iadd hx hb dX9_above_45 ?_
          refine lv_aload_n hx hb dX9_above_46 rfl (lv_at hl 0 rfl) ?_
          refine gg_X9_ends hC hI gw_4_213 dX9_above_47 ?_
          refine lv_iload hx hb dX9_above_50 (lv_at hl 4 rfl) ?_
          obtain ⟨hi19, h⟩ := h
          refine ga_70 hC hI hi19 dX9_above_52 ?_
          refine lv_aload_n hx hb dX9_above_53 rfl (lv_at hl 0 rfl) ?_
          refine gg_X9_shift hC hI gw_4_216 dX9_above_54 ?_
          refine lv_iload hx hb dX9_above_57 (lv_at hl 4 rfl) ?_
          obtain ⟨hi20, h⟩ := h
          refine ga_72 hC hI hi20 dX9_above_59 ?_
          refine lv_iadd hx hb dX9_above_60 ?_
          refine lv_bipush (v := 9) hx hb dX9_above_61 (by decide) ?_
          refine lv_iadd hx hb dX9_above_63 ?_
          refine g_backi hI (g_runS (As := [.int x2, .int ((σ 88 x4.toNatClampNeg) + (σ 91 x4.toNatClampNeg)), .int (((σ 88 x4.toNatClampNeg) + (σ 91 x4.toNatClampNeg)) + 9)]) (rest := []) hC hml hI (c_X9_in l D cy ad A _  _ _ _ _ h) k_X9_in gw_5_97 ⟨rfl, rfl⟩ ⟨Nat.le_of_ble_eq_true rfl, Nat.le_of_ble_eq_true rfl⟩ rfl hl.1 rfl (Nat.le_of_ble_eq_true rfl) dX9_above_64 ⟨Nat.le_of_ble_eq_true rfl, Nat.le_of_ble_eq_true rfl⟩) (fun r22 s21 H locs h hI => ?_)
          refine lv_if_ne (tgt := 73) hx hb dX9_above_67 (by decide) (fun c23 => ?_) (fun c23 => ?_)
          · have h := h.1 c23
            refine lv_iload hx hb dX9_above_73 (lv_at hl 4 rfl) ?_
            refine lv_iload_n hx hb dX9_above_75 rfl (lv_at hl 1 rfl) ?_
            refine lv_icmp_ge (tgt := 81) hx hb dX9_above_76 (by decide) (fun c24 => ?_) (fun c24 => ?_)
            · have h := h.1 c24
              refine lv_iload_n hx hb dX9_above_81 rfl (lv_at hl 3 rfl) ?_
              refine lv_aload_n hx hb dX9_above_82 rfl (lv_at hl 0 rfl) ?_
              refine gg_X9_people hC hI gw_4_214 dX9_above_83 ?_
              refine lv_iload hx hb dX9_above_86 (lv_at hl 4 rfl) ?_
              obtain ⟨hi25, h⟩ := h
              refine ga_71 hC hI hi25 dX9_above_88 ?_
              refine lv_iadd hx hb dX9_above_89 ?_
              refine lv_topi (fun y26 ey26 => ?_)
              have h := h y26 ey26
              refine lv_istore_n (lv' := [(3, .int y26), (0, .ref (ad 10)), (1, .int x1), (2, .int x2), (4, .int x4)]) hx hb dX9_above_90 rfl hl (by decide) rfl (fun ls hl => ?_)
              obtain ⟨y27, ey27⟩ : ∃ y : Int32, y = x4 + 1 := ⟨_, rfl⟩
              have h := h y27 ey27
              refine lv_iinc (v := y27) (lv' := [(4, .int y27), (3, .int y26), (0, .ref (ad 10)), (1, .int x1), (2, .int x2)]) hx hb dX9_above_91 hl (k := 4) rfl (by rw [ey27]; rfl) (by decide) rfl (fun ls hl => ?_)
              refine lv_goto (tgt := 5) hx hb dX9_above_94 (by decide) ?_
              exact ih5 _ _ _ _ _ _ _ _ h hI (lv_sub hl [2, 3, 4, 1, 0] rfl)
            · have h := h.2 c24
              refine lv_iconst (v := 0) hx hb dX9_above_79 (by decide) ?_
              exact g_iret hC hr hlocks hI h dX9_above_80
          · have h := h.2 c23
            refine lv_goto (tgt := 91) hx hb dX9_above_70 (by decide) ?_
            obtain ⟨y28, ey28⟩ : ∃ y : Int32, y = x4 + 1 := ⟨_, rfl⟩
            have h := h y28 ey28
            refine lv_iinc (v := y28) (lv' := [(4, .int y28), (0, .ref (ad 10)), (1, .int x1), (2, .int x2), (3, .int x3)]) hx hb dX9_above_91 hl (k := 4) rfl (by rw [ey28]; rfl) (by decide) rfl (fun ls hl => ?_)
            refine lv_goto (tgt := 5) hx hb dX9_above_94 (by decide) ?_
            exact ih5 _ _ _ _ _ _ _ _ h hI (lv_sub hl [1, 2, 3, 4, 0] rfl)
  have hl := lv_entry ([.ref (ad 10), .int a1, .int a2]) (n := 5) (Nat.le_of_ble_eq_true rfl)
  rw [lg_entry_eq]
  generalize (lg_sl ([.ref (ad 10), .int a1, .int a2]) ++ List.replicate (5 - (lg_sl ([.ref (ad 10), .int a1, .int a2])).length) Slot.unset).toArray = ls at hl ⊢
  have hl : lv_has ls 5 [(0, .ref (ad 10)), (1, .int a1), (2, .int a2)] := hl
  unfold w_X9_above at h
  refine lv_iconst (v := 0) hx hb dX9_above_0 (by decide) ?_
  refine lv_istore_n (lv' := [(3, .int 0), (0, .ref (ad 10)), (1, .int a1), (2, .int a2)]) hx hb dX9_above_1 rfl hl (by decide) rfl (fun ls hl => ?_)
  refine lv_iconst (v := 0) hx hb dX9_above_2 (by decide) ?_
  refine lv_istore (lv' := [(4, .int 0), (3, .int 0), (0, .ref (ad 10)), (1, .int a1), (2, .int a2)]) hx hb dX9_above_3 hl (by decide) rfl (fun ls hl => ?_)
  obtain ⟨n9, h⟩ := h
  exact J5 n9 _ _ _ _ _ _ _ _ h hI (lv_sub hl [2, 3, 4, 1, 0] rfl)

theorem dX9_aboveOfAll_0 : decode cX9_aboveOfAll 0 = .ok (.iconst 0, 1) := by decide +kernel
theorem dX9_aboveOfAll_1 : decode cX9_aboveOfAll 1 = .ok (.istore_n 1, 1) := by decide +kernel
theorem dX9_aboveOfAll_2 : decode cX9_aboveOfAll 2 = .ok (.iconst 0, 1) := by decide +kernel
theorem dX9_aboveOfAll_3 : decode cX9_aboveOfAll 3 = .ok (.istore_n 2, 1) := by decide +kernel
theorem dX9_aboveOfAll_4 : decode cX9_aboveOfAll 4 = .ok (.iload_n 2, 1) := by decide +kernel
theorem dX9_aboveOfAll_5 : decode cX9_aboveOfAll 5 = .ok (.aload_n 0, 1) := by decide +kernel
theorem dX9_aboveOfAll_6 : decode cX9_aboveOfAll 6 = .ok (.getfield 196, 3) := by decide +kernel
theorem dX9_aboveOfAll_9 : decode cX9_aboveOfAll 9 = .ok (.if_icmp .ge 46, 3) := by decide +kernel
theorem dX9_aboveOfAll_12 : decode cX9_aboveOfAll 12 = .ok (.iconst 0, 1) := by decide +kernel
theorem dX9_aboveOfAll_13 : decode cX9_aboveOfAll 13 = .ok (.istore_n 3, 1) := by decide +kernel
theorem dX9_aboveOfAll_14 : decode cX9_aboveOfAll 14 = .ok (.iload_n 3, 1) := by decide +kernel
theorem dX9_aboveOfAll_15 : decode cX9_aboveOfAll 15 = .ok (.bipush 10, 2) := by decide +kernel
theorem dX9_aboveOfAll_17 : decode cX9_aboveOfAll 17 = .ok (.if_icmp .ge 32, 3) := by decide +kernel
theorem dX9_aboveOfAll_20 : decode cX9_aboveOfAll 20 = .ok (.iload_n 1, 1) := by decide +kernel
theorem dX9_aboveOfAll_21 : decode cX9_aboveOfAll 21 = .ok (.aload_n 0, 1) := by decide +kernel
theorem dX9_aboveOfAll_22 : decode cX9_aboveOfAll 22 = .ok (.iload_n 2, 1) := by decide +kernel
theorem dX9_aboveOfAll_23 : decode cX9_aboveOfAll 23 = .ok (.aload_n 0, 1) := by decide +kernel
theorem dX9_aboveOfAll_24 : decode cX9_aboveOfAll 24 = .ok (.getfield 72, 3) := by decide +kernel
theorem dX9_aboveOfAll_27 : decode cX9_aboveOfAll 27 = .ok (.iload_n 2, 1) := by decide +kernel
theorem dX9_aboveOfAll_28 : decode cX9_aboveOfAll 28 = .ok (.iaload, 1) := by decide +kernel
theorem dX9_aboveOfAll_29 : decode cX9_aboveOfAll 29 = .ok (.aload_n 0, 1) := by decide +kernel
theorem dX9_aboveOfAll_30 : decode cX9_aboveOfAll 30 = .ok (.getfield 78, 3) := by decide +kernel
theorem dX9_aboveOfAll_33 : decode cX9_aboveOfAll 33 = .ok (.iload_n 2, 1) := by decide +kernel
theorem dX9_aboveOfAll_34 : decode cX9_aboveOfAll 34 = .ok (.iaload, 1) := by decide +kernel
theorem dX9_aboveOfAll_35 : decode cX9_aboveOfAll 35 = .ok (.iadd, 1) := by decide +kernel
theorem dX9_aboveOfAll_36 : decode cX9_aboveOfAll 36 = .ok (.iload_n 3, 1) := by decide +kernel
theorem dX9_aboveOfAll_37 : decode cX9_aboveOfAll 37 = .ok (.iadd, 1) := by decide +kernel
theorem dX9_aboveOfAll_38 : decode cX9_aboveOfAll 38 = .ok (.invokevirtual 199, 3) := by decide +kernel
theorem dX9_aboveOfAll_41 : decode cX9_aboveOfAll 41 = .ok (.iadd, 1) := by decide +kernel
theorem dX9_aboveOfAll_42 : decode cX9_aboveOfAll 42 = .ok (.istore_n 1, 1) := by decide +kernel
theorem dX9_aboveOfAll_43 : decode cX9_aboveOfAll 43 = .ok (.iinc 3 1, 3) := by decide +kernel
theorem dX9_aboveOfAll_46 : decode cX9_aboveOfAll 46 = .ok (.goto (-32), 3) := by decide +kernel
theorem dX9_aboveOfAll_49 : decode cX9_aboveOfAll 49 = .ok (.iinc 2 1, 3) := by decide +kernel
theorem dX9_aboveOfAll_52 : decode cX9_aboveOfAll 52 = .ok (.goto (-48), 3) := by decide +kernel
theorem dX9_aboveOfAll_55 : decode cX9_aboveOfAll 55 = .ok (.iload_n 1, 1) := by decide +kernel
theorem dX9_aboveOfAll_56 : decode cX9_aboveOfAll 56 = .ok (.ireturn, 1) := by decide +kernel
def w_X9_aboveOfAll_14 (Q : Int32 → gS → Prop) (k4 : Int32 → Int32 → gS → Prop) : Nat → Int32 → Int32 → Int32 → gS → Prop
  | 0, _, _, _, _ => False
  | n14 + 1, x1, x2, x3, σ =>
    (10 ≤ x3 → ∀ y4 : Int32, y4 = x2 + 1 → k4 x1 y4 σ) ∧ (¬ 10 ≤ x3 → vp_in x2 6 ∧ vp_in x2 6 ∧ w_X9_above  (fun (r8 : Int32) (s7 : gS) => ∀ y9 : Int32, y9 = (x1 + r8) → ∀ y10 : Int32, y10 = x3 + 1 → w_X9_aboveOfAll_14 Q k4 n14 y9 x2 y10 s7) σ x2 (((σ 88 x2.toNatClampNeg) + (σ 91 x2.toNatClampNeg)) + x3))
def w_X9_aboveOfAll_4 (Q : Int32 → gS → Prop) : Nat → Int32 → Int32 → gS → Prop
  | 0, _, _, _ => False
  | n4 + 1, x1, x2, σ =>
    ((σ 90 0) ≤ x2 → Q x1 σ) ∧ (¬ (σ 90 0) ≤ x2 → ∃ n14, w_X9_aboveOfAll_14 Q (w_X9_aboveOfAll_4 Q n4) n14 x1 x2 0 σ)
def w_X9_aboveOfAll (Q : Int32 → gS → Prop) (σ : gS) : Prop :=
    ∃ n4, w_X9_aboveOfAll_4 Q n4 0 0 σ
abbrev ws_X9_aboveOfAll : List Cond := Cond.code yX9_aboveOfAll cX9_aboveOfAll 4 (some .int) :: gG
abbrev rm_X9_aboveOfAll : Room := { frames := 2, cells := 0, slots := 0, locals := 46 }
theorem k_X9_aboveOfAll : gCV yX9_aboveOfAll RX9 cX9_aboveOfAll 4 (some .int) 0 := ⟨gw_5_209, gwp_47, gw_1_11, gw_5_210, rfl, by decide +kernel⟩
set_option maxHeartbeats 4000000 in
set_option maxRecDepth 100000 in
theorem c_X9_aboveOfAll (l : Launch) (D : va_G) (cy : Nat → ClassId) (ad : Nat → Nat) (A : Nat → Prop) (Q : Int32 → gS → Prop) (σ : gS) (h : w_X9_aboveOfAll Q σ) : Met l yX9_aboveOfAll ws_X9_aboveOfAll rm_X9_aboveOfAll (va_Pc [.ref (ad 10)] (gB D cy ad A σ)) (va_Qi Q (gB D cy ad A) A) 0 0 A := by
  refine Met.ofW (cc := cX9_aboveOfAll) (maxL := 4) (ret := (some .int)) (by decide) rfl ?_
  intro p e s m args below meth c s₁ B hml hv
  obtain ⟨rfl, hB⟩ := hv
  have hC : gC p c cX9_aboveOfAll s m ([.ref (ad 10)] : List Value).toArray RX9 D cy ad A := g_start B hB
  have hI := g_first hB
  have hx := hC.1
  have hb := hC.2.1
  have hr := B.returns
  have hlocks := B.notSynchronized
  clear B hB
  have J4 : ∀ (n4 : Nat) (x1 : Int32) (x2 : Int32) (σ : gS) (H : Heap) (locs : List Loc) (ls : Array Slot), w_X9_aboveOfAll_4 Q n4 x1 x2 σ → gI D cy ad A s.heap σ H locs → lv_has ls 4 [(0, .ref (ad 10)), (1, .int x1), (2, .int x2)] → W p l e (headSpec ws_X9_aboveOfAll rm_X9_aboveOfAll).room s m ([.ref (ad 10)] : List Value).toArray below meth c H locs 0 0 (MQ below (va_Qi Q (gB D cy ad A) A) ([.ref (ad 10)] : List Value).toArray s 0 0 A) (F0 m 4 ls []) := by
    intro n4
    induction n4 with
    | zero => intro x1 x2 σ H locs ls h; exact absurd h (fun h => h)
    | succ n4 ih4 =>
      have J14 : ∀ (n14 : Nat) (x1 : Int32) (x2 : Int32) (x3 : Int32) (σ : gS) (H : Heap) (locs : List Loc) (ls : Array Slot), w_X9_aboveOfAll_14 Q (w_X9_aboveOfAll_4 Q n4) n14 x1 x2 x3 σ → gI D cy ad A s.heap σ H locs → lv_has ls 4 [(0, .ref (ad 10)), (1, .int x1), (2, .int x2), (3, .int x3)] → W p l e (headSpec ws_X9_aboveOfAll rm_X9_aboveOfAll).room s m ([.ref (ad 10)] : List Value).toArray below meth c H locs 0 0 (MQ below (va_Qi Q (gB D cy ad A) A) ([.ref (ad 10)] : List Value).toArray s 0 0 A) (F0 m 14 ls []) := by
        intro n14
        induction n14 with
        | zero => intro x1 x2 x3 σ H locs ls h; exact absurd h (fun h => h)
        | succ n14 ih14 =>
          intro x1 x2 x3 σ H locs ls h hI hl
          unfold w_X9_aboveOfAll_14 at h
          refine lv_iload_n hx hb dX9_aboveOfAll_14 rfl (lv_at hl 3 rfl) ?_
          refine lv_bipush (v := 10) hx hb dX9_aboveOfAll_15 (by decide) ?_
          refine lv_icmp_ge (tgt := 49) hx hb dX9_aboveOfAll_17 (by decide) (fun c3 => ?_) (fun c3 => ?_)
          · have h := h.1 c3
            obtain ⟨y4, ey4⟩ : ∃ y : Int32, y = x2 + 1 := ⟨_, rfl⟩
            have h := h y4 ey4
            refine lv_iinc (v := y4) (lv' := [(2, .int y4), (0, .ref (ad 10)), (1, .int x1), (3, .int x3)]) hx hb dX9_aboveOfAll_49 hl (k := 2) rfl (by rw [ey4]; rfl) (by decide) rfl (fun ls hl => ?_)
            refine lv_goto (tgt := 4) hx hb dX9_aboveOfAll_52 (by decide) ?_
            exact ih4 _ _ _ _ _ _ h hI (lv_sub hl [1, 2, 0] rfl)
          · have h := h.2 c3
            refine lv_iload_n hx hb dX9_aboveOfAll_20 rfl (lv_at hl 1 rfl) ?_
            refine lv_aload_n hx hb dX9_aboveOfAll_21 rfl (lv_at hl 0 rfl) ?_
            refine lv_iload_n hx hb dX9_aboveOfAll_22 rfl (lv_at hl 2 rfl) ?_
            refine lv_aload_n hx hb dX9_aboveOfAll_23 rfl (lv_at hl 0 rfl) ?_
            refine gg_X9_ends hC hI gw_4_213 dX9_aboveOfAll_24 ?_
            refine lv_iload_n hx hb dX9_aboveOfAll_27 rfl (lv_at hl 2 rfl) ?_
            obtain ⟨hi5, h⟩ := h
            refine ga_70 hC hI hi5 dX9_aboveOfAll_28 ?_
            refine lv_aload_n hx hb dX9_aboveOfAll_29 rfl (lv_at hl 0 rfl) ?_
            refine gg_X9_shift hC hI gw_4_216 dX9_aboveOfAll_30 ?_
            refine lv_iload_n hx hb dX9_aboveOfAll_33 rfl (lv_at hl 2 rfl) ?_
            obtain ⟨hi6, h⟩ := h
            refine ga_72 hC hI hi6 dX9_aboveOfAll_34 ?_
            refine lv_iadd hx hb dX9_aboveOfAll_35 ?_
            refine lv_iload_n hx hb dX9_aboveOfAll_36 rfl (lv_at hl 3 rfl) ?_
            refine lv_iadd hx hb dX9_aboveOfAll_37 ?_
            refine g_backi hI (g_runV (As := [.int x2, .int (((σ 88 x2.toNatClampNeg) + (σ 91 x2.toNatClampNeg)) + x3)]) (rest := [.int x1]) hC hml hI (c_X9_above l D cy ad A _  _ _ _ h) k_X9_above gw_5_211 ⟨rfl, rfl⟩ ⟨Nat.le_of_ble_eq_true rfl, Nat.le_of_ble_eq_true rfl⟩ (grv_10 hC hI) rfl hl.1 rfl (Nat.le_of_ble_eq_true rfl) dX9_aboveOfAll_38 ⟨Nat.le_of_ble_eq_true rfl, Nat.le_of_ble_eq_true rfl⟩) (fun r8 s7 H locs h hI => ?_)
            refine lv_iadd hx hb dX9_aboveOfAll_41 ?_
            refine lv_topi (fun y9 ey9 => ?_)
            have h := h y9 ey9
            refine lv_istore_n (lv' := [(1, .int y9), (0, .ref (ad 10)), (2, .int x2), (3, .int x3)]) hx hb dX9_aboveOfAll_42 rfl hl (by decide) rfl (fun ls hl => ?_)
            obtain ⟨y10, ey10⟩ : ∃ y : Int32, y = x3 + 1 := ⟨_, rfl⟩
            have h := h y10 ey10
            refine lv_iinc (v := y10) (lv' := [(3, .int y10), (1, .int y9), (0, .ref (ad 10)), (2, .int x2)]) hx hb dX9_aboveOfAll_43 hl (k := 3) rfl (by rw [ey10]; rfl) (by decide) rfl (fun ls hl => ?_)
            refine lv_goto (tgt := 14) hx hb dX9_aboveOfAll_46 (by decide) ?_
            exact ih14 _ _ _ _ _ _ _ h hI (lv_sub hl [2, 1, 3, 0] rfl)
      intro x1 x2 σ H locs ls h hI hl
      unfold w_X9_aboveOfAll_4 at h
      refine lv_iload_n hx hb dX9_aboveOfAll_4 rfl (lv_at hl 2 rfl) ?_
      refine lv_aload_n hx hb dX9_aboveOfAll_5 rfl (lv_at hl 0 rfl) ?_
      refine gg_X9_acts hC hI gw_4_215 dX9_aboveOfAll_6 ?_
      refine lv_icmp_ge (tgt := 55) hx hb dX9_aboveOfAll_9 (by decide) (fun c11 => ?_) (fun c11 => ?_)
      · have h := h.1 c11
        refine lv_iload_n hx hb dX9_aboveOfAll_55 rfl (lv_at hl 1 rfl) ?_
        exact g_iret hC hr hlocks hI h dX9_aboveOfAll_56
      · have h := h.2 c11
        refine lv_iconst (v := 0) hx hb dX9_aboveOfAll_12 (by decide) ?_
        refine lv_istore_n (lv' := [(3, .int 0), (0, .ref (ad 10)), (1, .int x1), (2, .int x2)]) hx hb dX9_aboveOfAll_13 rfl hl (by decide) rfl (fun ls hl => ?_)
        obtain ⟨n9, h⟩ := h
        exact J14 n9 _ _ _ _ _ _ _ h hI (lv_sub hl [1, 2, 3, 0] rfl)
  have hl := lv_entry ([.ref (ad 10)]) (n := 4) (Nat.le_of_ble_eq_true rfl)
  rw [lg_entry_eq]
  generalize (lg_sl ([.ref (ad 10)]) ++ List.replicate (4 - (lg_sl ([.ref (ad 10)])).length) Slot.unset).toArray = ls at hl ⊢
  have hl : lv_has ls 4 [(0, .ref (ad 10))] := hl
  unfold w_X9_aboveOfAll at h
  refine lv_iconst (v := 0) hx hb dX9_aboveOfAll_0 (by decide) ?_
  refine lv_istore_n (lv' := [(1, .int 0), (0, .ref (ad 10))]) hx hb dX9_aboveOfAll_1 rfl hl (by decide) rfl (fun ls hl => ?_)
  refine lv_iconst (v := 0) hx hb dX9_aboveOfAll_2 (by decide) ?_
  refine lv_istore_n (lv' := [(2, .int 0), (1, .int 0), (0, .ref (ad 10))]) hx hb dX9_aboveOfAll_3 rfl hl (by decide) rfl (fun ls hl => ?_)
  obtain ⟨n9, h⟩ := h
  exact J4 n9 _ _ _ _ _ _ h hI (lv_sub hl [2, 1, 0] rfl)

theorem dX9_seeks_0 : decode cX9_seeks 0 = .ok (.iconst (-1), 1) := by decide +kernel
theorem dX9_seeks_1 : decode cX9_seeks 1 = .ok (.istore_n 1, 1) := by decide +kernel
theorem dX9_seeks_2 : decode cX9_seeks 2 = .ok (.iconst 0, 1) := by decide +kernel
theorem dX9_seeks_3 : decode cX9_seeks 3 = .ok (.istore_n 2, 1) := by decide +kernel
theorem dX9_seeks_4 : decode cX9_seeks 4 = .ok (.iconst 0, 1) := by decide +kernel
theorem dX9_seeks_5 : decode cX9_seeks 5 = .ok (.istore_n 3, 1) := by decide +kernel
theorem dX9_seeks_6 : decode cX9_seeks 6 = .ok (.iload_n 3, 1) := by decide +kernel
theorem dX9_seeks_7 : decode cX9_seeks 7 = .ok (.aload_n 0, 1) := by decide +kernel
theorem dX9_seeks_8 : decode cX9_seeks 8 = .ok (.getfield 196, 3) := by decide +kernel
theorem dX9_seeks_11 : decode cX9_seeks 11 = .ok (.if_icmp .ge 16, 3) := by decide +kernel
theorem dX9_seeks_14 : decode cX9_seeks 14 = .ok (.aload_n 0, 1) := by decide +kernel
theorem dX9_seeks_15 : decode cX9_seeks 15 = .ok (.getfield 78, 3) := by decide +kernel
theorem dX9_seeks_18 : decode cX9_seeks 18 = .ok (.iload_n 3, 1) := by decide +kernel
theorem dX9_seeks_19 : decode cX9_seeks 19 = .ok (.iconst 0, 1) := by decide +kernel
theorem dX9_seeks_20 : decode cX9_seeks 20 = .ok (.iastore, 1) := by decide +kernel
theorem dX9_seeks_21 : decode cX9_seeks 21 = .ok (.iinc 3 1, 3) := by decide +kernel
theorem dX9_seeks_24 : decode cX9_seeks 24 = .ok (.goto (-18), 3) := by decide +kernel
theorem dX9_seeks_27 : decode cX9_seeks 27 = .ok (.aload_n 0, 1) := by decide +kernel
theorem dX9_seeks_28 : decode cX9_seeks 28 = .ok (.invokevirtual 202, 3) := by decide +kernel
theorem dX9_seeks_31 : decode cX9_seeks 31 = .ok (.istore_n 3, 1) := by decide +kernel
theorem dX9_seeks_32 : decode cX9_seeks 32 = .ok (.iconst 0, 1) := by decide +kernel
theorem dX9_seeks_33 : decode cX9_seeks 33 = .ok (.istore 4, 2) := by decide +kernel
theorem dX9_seeks_35 : decode cX9_seeks 35 = .ok (.iconst 0, 1) := by decide +kernel
theorem dX9_seeks_36 : decode cX9_seeks 36 = .ok (.istore 5, 2) := by decide +kernel
theorem dX9_seeks_38 : decode cX9_seeks 38 = .ok (.iload 5, 2) := by decide +kernel
theorem dX9_seeks_40 : decode cX9_seeks 40 = .ok (.aload_n 0, 1) := by decide +kernel
theorem dX9_seeks_41 : decode cX9_seeks 41 = .ok (.getfield 196, 3) := by decide +kernel
theorem dX9_seeks_44 : decode cX9_seeks 44 = .ok (.if_icmp .ge 21, 3) := by decide +kernel
theorem dX9_seeks_47 : decode cX9_seeks 47 = .ok (.iload 4, 2) := by decide +kernel
theorem dX9_seeks_49 : decode cX9_seeks 49 = .ok (.aload_n 0, 1) := by decide +kernel
theorem dX9_seeks_50 : decode cX9_seeks 50 = .ok (.getfield 78, 3) := by decide +kernel
theorem dX9_seeks_53 : decode cX9_seeks 53 = .ok (.iload 5, 2) := by decide +kernel
theorem dX9_seeks_55 : decode cX9_seeks 55 = .ok (.iaload, 1) := by decide +kernel
theorem dX9_seeks_56 : decode cX9_seeks 56 = .ok (.iadd, 1) := by decide +kernel
theorem dX9_seeks_57 : decode cX9_seeks 57 = .ok (.istore 4, 2) := by decide +kernel
theorem dX9_seeks_59 : decode cX9_seeks 59 = .ok (.iinc 5 1, 3) := by decide +kernel
theorem dX9_seeks_62 : decode cX9_seeks 62 = .ok (.goto (-24), 3) := by decide +kernel
theorem dX9_seeks_65 : decode cX9_seeks 65 = .ok (.iload_n 1, 1) := by decide +kernel
theorem dX9_seeks_66 : decode cX9_seeks 66 = .ok (.ifCond .lt 19, 3) := by decide +kernel
theorem dX9_seeks_69 : decode cX9_seeks 69 = .ok (.iload_n 3, 1) := by decide +kernel
theorem dX9_seeks_70 : decode cX9_seeks 70 = .ok (.iload_n 1, 1) := by decide +kernel
theorem dX9_seeks_71 : decode cX9_seeks 71 = .ok (.if_icmp .lt 14, 3) := by decide +kernel
theorem dX9_seeks_74 : decode cX9_seeks 74 = .ok (.iload_n 3, 1) := by decide +kernel
theorem dX9_seeks_75 : decode cX9_seeks 75 = .ok (.iload_n 1, 1) := by decide +kernel
theorem dX9_seeks_76 : decode cX9_seeks 76 = .ok (.if_icmp .ne 46, 3) := by decide +kernel
theorem dX9_seeks_79 : decode cX9_seeks 79 = .ok (.iload 4, 2) := by decide +kernel
theorem dX9_seeks_81 : decode cX9_seeks 81 = .ok (.iload_n 2, 1) := by decide +kernel
theorem dX9_seeks_82 : decode cX9_seeks 82 = .ok (.if_icmp .ge 40, 3) := by decide +kernel
theorem dX9_seeks_85 : decode cX9_seeks 85 = .ok (.iload_n 3, 1) := by decide +kernel
theorem dX9_seeks_86 : decode cX9_seeks 86 = .ok (.istore_n 1, 1) := by decide +kernel
theorem dX9_seeks_87 : decode cX9_seeks 87 = .ok (.iload 4, 2) := by decide +kernel
theorem dX9_seeks_89 : decode cX9_seeks 89 = .ok (.istore_n 2, 1) := by decide +kernel
theorem dX9_seeks_90 : decode cX9_seeks 90 = .ok (.iconst 0, 1) := by decide +kernel
theorem dX9_seeks_91 : decode cX9_seeks 91 = .ok (.istore 5, 2) := by decide +kernel
theorem dX9_seeks_93 : decode cX9_seeks 93 = .ok (.iload 5, 2) := by decide +kernel
theorem dX9_seeks_95 : decode cX9_seeks 95 = .ok (.aload_n 0, 1) := by decide +kernel
theorem dX9_seeks_96 : decode cX9_seeks 96 = .ok (.getfield 196, 3) := by decide +kernel
theorem dX9_seeks_99 : decode cX9_seeks 99 = .ok (.if_icmp .ge 23, 3) := by decide +kernel
theorem dX9_seeks_102 : decode cX9_seeks 102 = .ok (.aload_n 0, 1) := by decide +kernel
theorem dX9_seeks_103 : decode cX9_seeks 103 = .ok (.getfield 81, 3) := by decide +kernel
theorem dX9_seeks_106 : decode cX9_seeks 106 = .ok (.iload 5, 2) := by decide +kernel
theorem dX9_seeks_108 : decode cX9_seeks 108 = .ok (.aload_n 0, 1) := by decide +kernel
theorem dX9_seeks_109 : decode cX9_seeks 109 = .ok (.getfield 78, 3) := by decide +kernel
theorem dX9_seeks_112 : decode cX9_seeks 112 = .ok (.iload 5, 2) := by decide +kernel
theorem dX9_seeks_114 : decode cX9_seeks 114 = .ok (.iaload, 1) := by decide +kernel
theorem dX9_seeks_115 : decode cX9_seeks 115 = .ok (.iastore, 1) := by decide +kernel
theorem dX9_seeks_116 : decode cX9_seeks 116 = .ok (.iinc 5 1, 3) := by decide +kernel
theorem dX9_seeks_119 : decode cX9_seeks 119 = .ok (.goto (-26), 3) := by decide +kernel
theorem dX9_seeks_122 : decode cX9_seeks 122 = .ok (.aload_n 0, 1) := by decide +kernel
theorem dX9_seeks_123 : decode cX9_seeks 123 = .ok (.getfield 196, 3) := by decide +kernel
theorem dX9_seeks_126 : decode cX9_seeks 126 = .ok (.iconst 1, 1) := by decide +kernel
theorem dX9_seeks_127 : decode cX9_seeks 127 = .ok (.isub, 1) := by decide +kernel
theorem dX9_seeks_128 : decode cX9_seeks 128 = .ok (.istore 5, 2) := by decide +kernel
theorem dX9_seeks_130 : decode cX9_seeks 130 = .ok (.iload 5, 2) := by decide +kernel
theorem dX9_seeks_132 : decode cX9_seeks 132 = .ok (.ifCond .lt 29, 3) := by decide +kernel
theorem dX9_seeks_135 : decode cX9_seeks 135 = .ok (.aload_n 0, 1) := by decide +kernel
theorem dX9_seeks_136 : decode cX9_seeks 136 = .ok (.getfield 78, 3) := by decide +kernel
theorem dX9_seeks_139 : decode cX9_seeks 139 = .ok (.iload 5, 2) := by decide +kernel
theorem dX9_seeks_141 : decode cX9_seeks 141 = .ok (.iaload, 1) := by decide +kernel
theorem dX9_seeks_142 : decode cX9_seeks 142 = .ok (.bipush 20, 2) := by decide +kernel
theorem dX9_seeks_144 : decode cX9_seeks 144 = .ok (.if_icmp .ne 17, 3) := by decide +kernel
theorem dX9_seeks_147 : decode cX9_seeks 147 = .ok (.aload_n 0, 1) := by decide +kernel
theorem dX9_seeks_148 : decode cX9_seeks 148 = .ok (.getfield 78, 3) := by decide +kernel
theorem dX9_seeks_151 : decode cX9_seeks 151 = .ok (.iload 5, 2) := by decide +kernel
theorem dX9_seeks_153 : decode cX9_seeks 153 = .ok (.iconst 0, 1) := by decide +kernel
theorem dX9_seeks_154 : decode cX9_seeks 154 = .ok (.iastore, 1) := by decide +kernel
theorem dX9_seeks_155 : decode cX9_seeks 155 = .ok (.iinc 5 (-1), 3) := by decide +kernel
theorem dX9_seeks_158 : decode cX9_seeks 158 = .ok (.goto (-28), 3) := by decide +kernel
theorem dX9_seeks_161 : decode cX9_seeks 161 = .ok (.iload 5, 2) := by decide +kernel
theorem dX9_seeks_163 : decode cX9_seeks 163 = .ok (.ifCond .ge 5, 3) := by decide +kernel
theorem dX9_seeks_166 : decode cX9_seeks 166 = .ok (.iload_n 1, 1) := by decide +kernel
theorem dX9_seeks_167 : decode cX9_seeks 167 = .ok (.ireturn, 1) := by decide +kernel
theorem dX9_seeks_168 : decode cX9_seeks 168 = .ok (.aload_n 0, 1) := by decide +kernel
theorem dX9_seeks_169 : decode cX9_seeks 169 = .ok (.getfield 78, 3) := by decide +kernel
theorem dX9_seeks_172 : decode cX9_seeks 172 = .ok (.iload 5, 2) := by decide +kernel
theorem dX9_seeks_174 : decode cX9_seeks 174 = .ok (.dup2, 1) := by decide +kernel
theorem dX9_seeks_175 : decode cX9_seeks 175 = .ok (.iaload, 1) := by decide +kernel
theorem dX9_seeks_176 : decode cX9_seeks 176 = .ok (.bipush 10, 2) := by decide +kernel
theorem dX9_seeks_178 : decode cX9_seeks 178 = .ok (.iadd, 1) := by decide +kernel
theorem dX9_seeks_179 : decode cX9_seeks 179 = .ok (.iastore, 1) := by decide +kernel
theorem dX9_seeks_180 : decode cX9_seeks 180 = .ok (.goto (-153), 3) := by decide +kernel
def w_X9_seeks_161 (Q : Int32 → gS → Prop) (k27 : Int32 → Int32 → gS → Prop) (x1 : Int32) (x2 : Int32) (x5 : Int32) (σ : gS) : Prop :=
    (0 ≤ x5 → vp_in x5 6 ∧ vp_in x5 6 ∧ ∀ s8 : gS, s8 = gu σ 91 x5.toNatClampNeg ((σ 91 x5.toNatClampNeg) + 10) → k27 x1 x2 s8) ∧ (¬ 0 ≤ x5 → Q x1 σ)
def w_X9_seeks_130 (Q : Int32 → gS → Prop) (k27 : Int32 → Int32 → gS → Prop) : Nat → Int32 → Int32 → Int32 → gS → Prop
  | 0, _, _, _, _ => False
  | n130 + 1, x1, x2, x5, σ =>
    (x5 < 0 → w_X9_seeks_161 Q k27 x1 x2 x5 σ) ∧ (¬ x5 < 0 → vp_in x5 6 ∧ (¬ (σ 91 x5.toNatClampNeg) = 20 → w_X9_seeks_161 Q k27 x1 x2 x5 σ) ∧ ((σ 91 x5.toNatClampNeg) = 20 → vp_in x5 6 ∧ ∀ s13 : gS, s13 = gu σ 91 x5.toNatClampNeg 0 → ∀ y14 : Int32, y14 = x5 + (-1) → w_X9_seeks_130 Q k27 n130 x1 x2 y14 s13))
def w_X9_seeks_122 (Q : Int32 → gS → Prop) (k27 : Int32 → Int32 → gS → Prop) (x1 : Int32) (x2 : Int32) (σ : gS) : Prop :=
    ∀ y15 : Int32, y15 = ((σ 90 0) - 1) → ∃ n130, w_X9_seeks_130 Q k27 n130 x1 x2 y15 σ
def w_X9_seeks_93 (Q : Int32 → gS → Prop) (k27 : Int32 → Int32 → gS → Prop) : Nat → Int32 → Int32 → Int32 → gS → Prop
  | 0, _, _, _, _ => False
  | n93 + 1, x1, x2, x5, σ =>
    ((σ 90 0) ≤ x5 → w_X9_seeks_122 Q k27 x1 x2 σ) ∧ (¬ (σ 90 0) ≤ x5 → vp_in x5 6 ∧ vp_in x5 6 ∧ ∀ s19 : gS, s19 = gu σ 92 x5.toNatClampNeg (σ 91 x5.toNatClampNeg) → ∀ y20 : Int32, y20 = x5 + 1 → w_X9_seeks_93 Q k27 n93 x1 x2 y20 s19)
def w_X9_seeks_85 (Q : Int32 → gS → Prop) (k27 : Int32 → Int32 → gS → Prop) (x3 : Int32) (x4 : Int32) (σ : gS) : Prop :=
    ∃ n93, w_X9_seeks_93 Q k27 n93 x3 x4 0 σ
def w_X9_seeks_38 (Q : Int32 → gS → Prop) (k27 : Int32 → Int32 → gS → Prop) : Nat → Int32 → Int32 → Int32 → Int32 → Int32 → gS → Prop
  | 0, _, _, _, _, _, _ => False
  | n38 + 1, x1, x2, x3, x4, x5, σ =>
    ((σ 90 0) ≤ x5 → (x1 < 0 → w_X9_seeks_85 Q k27 x3 x4 σ) ∧ (¬ x1 < 0 → (x3 < x1 → w_X9_seeks_85 Q k27 x3 x4 σ) ∧ (¬ x3 < x1 → (¬ x3 = x1 → w_X9_seeks_122 Q k27 x1 x2 σ) ∧ (x3 = x1 → (x2 ≤ x4 → w_X9_seeks_122 Q k27 x1 x2 σ) ∧ (¬ x2 ≤ x4 → w_X9_seeks_85 Q k27 x3 x4 σ))))) ∧ (¬ (σ 90 0) ≤ x5 → vp_in x5 6 ∧ ∀ y27 : Int32, y27 = (x4 + (σ 91 x5.toNatClampNeg)) → ∀ y28 : Int32, y28 = x5 + 1 → w_X9_seeks_38 Q k27 n38 x1 x2 x3 y27 y28 σ)
def w_X9_seeks_27 (Q : Int32 → gS → Prop) : Nat → Int32 → Int32 → gS → Prop
  | 0, _, _, _ => False
  | n27 + 1, x1, x2, σ =>
    w_X9_aboveOfAll  (fun (r30 : Int32) (s29 : gS) => ∃ n38, w_X9_seeks_38 Q (w_X9_seeks_27 Q n27) n38 x1 x2 r30 0 0 s29) σ
def w_X9_seeks_6 (Q : Int32 → gS → Prop) : Nat → Int32 → Int32 → Int32 → gS → Prop
  | 0, _, _, _, _ => False
  | n6 + 1, x1, x2, x3, σ =>
    ((σ 90 0) ≤ x3 → ∃ n27, w_X9_seeks_27 Q n27 x1 x2 σ) ∧ (¬ (σ 90 0) ≤ x3 → vp_in x3 6 ∧ ∀ s33 : gS, s33 = gu σ 91 x3.toNatClampNeg 0 → ∀ y34 : Int32, y34 = x3 + 1 → w_X9_seeks_6 Q n6 x1 x2 y34 s33)
def w_X9_seeks (Q : Int32 → gS → Prop) (σ : gS) : Prop :=
    ∃ n6, w_X9_seeks_6 Q n6 (-1) 0 0 σ
abbrev ws_X9_seeks : List Cond := Cond.code yX9_seeks cX9_seeks 6 (some .int) :: gG
abbrev rm_X9_seeks : Room := { frames := 3, cells := 0, slots := 0, locals := 69 }
theorem k_X9_seeks : gCV yX9_seeks RX9 cX9_seeks 6 (some .int) 0 := ⟨gw_5_205, gwp_46, gw_1_11, gw_5_206, rfl, by decide +kernel⟩
set_option maxHeartbeats 4000000 in
set_option maxRecDepth 100000 in
theorem c_X9_seeks (l : Launch) (D : va_G) (cy : Nat → ClassId) (ad : Nat → Nat) (A : Nat → Prop) (Q : Int32 → gS → Prop) (σ : gS) (h : w_X9_seeks Q σ) : Met l yX9_seeks ws_X9_seeks rm_X9_seeks (va_Pc [.ref (ad 10)] (gB D cy ad A σ)) (va_Qi Q (gB D cy ad A) A) 0 0 A := by
  refine Met.ofW (cc := cX9_seeks) (maxL := 6) (ret := (some .int)) (by decide) rfl ?_
  intro p e s m args below meth c s₁ B hml hv
  obtain ⟨rfl, hB⟩ := hv
  have hC : gC p c cX9_seeks s m ([.ref (ad 10)] : List Value).toArray RX9 D cy ad A := g_start B hB
  have hI := g_first hB
  have hx := hC.1
  have hb := hC.2.1
  have hr := B.returns
  have hlocks := B.notSynchronized
  clear B hB
  have J27 : ∀ (n27 : Nat) (x1 : Int32) (x2 : Int32) (σ : gS) (H : Heap) (locs : List Loc) (ls : Array Slot), w_X9_seeks_27 Q n27 x1 x2 σ → gI D cy ad A s.heap σ H locs → lv_has ls 6 [(0, .ref (ad 10)), (1, .int x1), (2, .int x2)] → W p l e (headSpec ws_X9_seeks rm_X9_seeks).room s m ([.ref (ad 10)] : List Value).toArray below meth c H locs 0 0 (MQ below (va_Qi Q (gB D cy ad A) A) ([.ref (ad 10)] : List Value).toArray s 0 0 A) (F0 m 27 ls []) := by
    intro n27
    induction n27 with
    | zero => intro x1 x2 σ H locs ls h; exact absurd h (fun h => h)
    | succ n27 ih27 =>
      have J161 : ∀ (x1 : Int32) (x2 : Int32) (x5 : Int32) (σ : gS) (H : Heap) (locs : List Loc) (ls : Array Slot), w_X9_seeks_161 Q (w_X9_seeks_27 Q n27) x1 x2 x5 σ → gI D cy ad A s.heap σ H locs → lv_has ls 6 [(0, .ref (ad 10)), (1, .int x1), (2, .int x2), (5, .int x5)] → W p l e (headSpec ws_X9_seeks rm_X9_seeks).room s m ([.ref (ad 10)] : List Value).toArray below meth c H locs 0 0 (MQ below (va_Qi Q (gB D cy ad A) A) ([.ref (ad 10)] : List Value).toArray s 0 0 A) (F0 m 161 ls []) := by
        intro x1 x2 x5 σ H locs ls h hI hl
        unfold w_X9_seeks_161 at h
        refine lv_iload hx hb dX9_seeks_161 (lv_at hl 3 rfl) ?_
        refine lv_if_ge (tgt := 168) hx hb dX9_seeks_163 (by decide) (fun c5 => ?_) (fun c5 => ?_)
        · have h := h.1 c5
          refine lv_aload_n hx hb dX9_seeks_168 rfl (lv_at hl 0 rfl) ?_
          refine gg_X9_shift hC hI gw_4_216 dX9_seeks_169 ?_
          refine lv_iload hx hb dX9_seeks_172 (lv_at hl 3 rfl) ?_
          refine lv_dup2_11 hx hb dX9_seeks_174 rfl rfl ?_
          obtain ⟨hi6, h⟩ := h
          refine ga_72 hC hI hi6 dX9_seeks_175 ?_
          refine lv_bipush (v := 10) hx hb dX9_seeks_176 (by decide) ?_
          refine lv_iadd hx hb dX9_seeks_178 ?_
          obtain ⟨hi7, h⟩ := h
          refine gs_72 hC hI hi7 dX9_seeks_179 (fun s8 H locs es8 hI => ?_)
          have h := h s8 es8
          refine lv_goto (tgt := 27) hx hb dX9_seeks_180 (by decide) ?_
          exact ih27 _ _ _ _ _ _ h hI (lv_sub hl [0, 1, 2] rfl)
        · have h := h.2 c5
          refine lv_iload_n hx hb dX9_seeks_166 rfl (lv_at hl 1 rfl) ?_
          exact g_iret hC hr hlocks hI h dX9_seeks_167
      have J130 : ∀ (n130 : Nat) (x1 : Int32) (x2 : Int32) (x5 : Int32) (σ : gS) (H : Heap) (locs : List Loc) (ls : Array Slot), w_X9_seeks_130 Q (w_X9_seeks_27 Q n27) n130 x1 x2 x5 σ → gI D cy ad A s.heap σ H locs → lv_has ls 6 [(0, .ref (ad 10)), (1, .int x1), (2, .int x2), (5, .int x5)] → W p l e (headSpec ws_X9_seeks rm_X9_seeks).room s m ([.ref (ad 10)] : List Value).toArray below meth c H locs 0 0 (MQ below (va_Qi Q (gB D cy ad A) A) ([.ref (ad 10)] : List Value).toArray s 0 0 A) (F0 m 130 ls []) := by
        intro n130
        induction n130 with
        | zero => intro x1 x2 x5 σ H locs ls h; exact absurd h (fun h => h)
        | succ n130 ih130 =>
          intro x1 x2 x5 σ H locs ls h hI hl
          unfold w_X9_seeks_130 at h
          refine lv_iload hx hb dX9_seeks_130 (lv_at hl 3 rfl) ?_
          refine lv_if_lt (tgt := 161) hx hb dX9_seeks_132 (by decide) (fun c9 => ?_) (fun c9 => ?_)
          · have h := h.1 c9
            exact J161 _ _ _ _ _ _ _ h hI (lv_sub hl [0, 1, 2, 3] rfl)
          · have h := h.2 c9
            refine lv_aload_n hx hb dX9_seeks_135 rfl (lv_at hl 0 rfl) ?_
            refine gg_X9_shift hC hI gw_4_216 dX9_seeks_136 ?_
            refine lv_iload hx hb dX9_seeks_139 (lv_at hl 3 rfl) ?_
            obtain ⟨hi10, h⟩ := h
            refine ga_72 hC hI hi10 dX9_seeks_141 ?_
            refine lv_bipush (v := 20) hx hb dX9_seeks_142 (by decide) ?_
            refine lv_icmp_ne (tgt := 161) hx hb dX9_seeks_144 (by decide) (fun c11 => ?_) (fun c11 => ?_)
            · have h := h.1 c11
              exact J161 _ _ _ _ _ _ _ h hI (lv_sub hl [0, 1, 2, 3] rfl)
            · have h := h.2 c11
              refine lv_aload_n hx hb dX9_seeks_147 rfl (lv_at hl 0 rfl) ?_
              refine gg_X9_shift hC hI gw_4_216 dX9_seeks_148 ?_
              refine lv_iload hx hb dX9_seeks_151 (lv_at hl 3 rfl) ?_
              refine lv_iconst (v := 0) hx hb dX9_seeks_153 (by decide) ?_
              obtain ⟨hi12, h⟩ := h
              refine gs_72 hC hI hi12 dX9_seeks_154 (fun s13 H locs es13 hI => ?_)
              have h := h s13 es13
              obtain ⟨y14, ey14⟩ : ∃ y : Int32, y = x5 + (-1) := ⟨_, rfl⟩
              have h := h y14 ey14
              refine lv_iinc (v := y14) (lv' := [(5, .int y14), (0, .ref (ad 10)), (1, .int x1), (2, .int x2)]) hx hb dX9_seeks_155 hl (k := 3) rfl (by rw [ey14]; rfl) (by decide) rfl (fun ls hl => ?_)
              refine lv_goto (tgt := 130) hx hb dX9_seeks_158 (by decide) ?_
              exact ih130 _ _ _ _ _ _ _ h hI (lv_sub hl [1, 2, 3, 0] rfl)
      have J122 : ∀ (x1 : Int32) (x2 : Int32) (σ : gS) (H : Heap) (locs : List Loc) (ls : Array Slot), w_X9_seeks_122 Q (w_X9_seeks_27 Q n27) x1 x2 σ → gI D cy ad A s.heap σ H locs → lv_has ls 6 [(0, .ref (ad 10)), (1, .int x1), (2, .int x2)] → W p l e (headSpec ws_X9_seeks rm_X9_seeks).room s m ([.ref (ad 10)] : List Value).toArray below meth c H locs 0 0 (MQ below (va_Qi Q (gB D cy ad A) A) ([.ref (ad 10)] : List Value).toArray s 0 0 A) (F0 m 122 ls []) := by
        intro x1 x2 σ H locs ls h hI hl
        unfold w_X9_seeks_122 at h
        refine lv_aload_n hx hb dX9_seeks_122 rfl (lv_at hl 0 rfl) ?_
        refine gg_X9_acts hC hI gw_4_215 dX9_seeks_123 ?_
        refine lv_iconst (v := 1) hx hb dX9_seeks_126 (by decide) ?_
        refine lv_isub hx hb dX9_seeks_127 ?_
        refine lv_topi (fun y15 ey15 => ?_)
        have h := h y15 ey15
        refine lv_istore (lv' := [(5, .int y15), (0, .ref (ad 10)), (1, .int x1), (2, .int x2)]) hx hb dX9_seeks_128 hl (by decide) rfl (fun ls hl => ?_)
        obtain ⟨n9, h⟩ := h
        exact J130 n9 _ _ _ _ _ _ _ h hI (lv_sub hl [1, 2, 3, 0] rfl)
      have J93 : ∀ (n93 : Nat) (x1 : Int32) (x2 : Int32) (x5 : Int32) (σ : gS) (H : Heap) (locs : List Loc) (ls : Array Slot), w_X9_seeks_93 Q (w_X9_seeks_27 Q n27) n93 x1 x2 x5 σ → gI D cy ad A s.heap σ H locs → lv_has ls 6 [(0, .ref (ad 10)), (1, .int x1), (2, .int x2), (5, .int x5)] → W p l e (headSpec ws_X9_seeks rm_X9_seeks).room s m ([.ref (ad 10)] : List Value).toArray below meth c H locs 0 0 (MQ below (va_Qi Q (gB D cy ad A) A) ([.ref (ad 10)] : List Value).toArray s 0 0 A) (F0 m 93 ls []) := by
        intro n93
        induction n93 with
        | zero => intro x1 x2 x5 σ H locs ls h; exact absurd h (fun h => h)
        | succ n93 ih93 =>
          intro x1 x2 x5 σ H locs ls h hI hl
          unfold w_X9_seeks_93 at h
          refine lv_iload hx hb dX9_seeks_93 (lv_at hl 3 rfl) ?_
          refine lv_aload_n hx hb dX9_seeks_95 rfl (lv_at hl 0 rfl) ?_
          refine gg_X9_acts hC hI gw_4_215 dX9_seeks_96 ?_
          refine lv_icmp_ge (tgt := 122) hx hb dX9_seeks_99 (by decide) (fun c16 => ?_) (fun c16 => ?_)
          · have h := h.1 c16
            exact J122 _ _ _ _ _ _ h hI (lv_sub hl [0, 1, 2] rfl)
          · have h := h.2 c16
            refine lv_aload_n hx hb dX9_seeks_102 rfl (lv_at hl 0 rfl) ?_
            refine gg_X9_best hC hI gw_4_217 dX9_seeks_103 ?_
            refine lv_iload hx hb dX9_seeks_106 (lv_at hl 3 rfl) ?_
            refine lv_aload_n hx hb dX9_seeks_108 rfl (lv_at hl 0 rfl) ?_
            refine gg_X9_shift hC hI gw_4_216 dX9_seeks_109 ?_
            refine lv_iload hx hb dX9_seeks_112 (lv_at hl 3 rfl) ?_
            obtain ⟨hi17, h⟩ := h
            refine ga_72 hC hI hi17 dX9_seeks_114 ?_
            obtain ⟨hi18, h⟩ := h
            refine gs_73 hC hI hi18 dX9_seeks_115 (fun s19 H locs es19 hI => ?_)
            have h := h s19 es19
            obtain ⟨y20, ey20⟩ : ∃ y : Int32, y = x5 + 1 := ⟨_, rfl⟩
            have h := h y20 ey20
            refine lv_iinc (v := y20) (lv' := [(5, .int y20), (0, .ref (ad 10)), (1, .int x1), (2, .int x2)]) hx hb dX9_seeks_116 hl (k := 3) rfl (by rw [ey20]; rfl) (by decide) rfl (fun ls hl => ?_)
            refine lv_goto (tgt := 93) hx hb dX9_seeks_119 (by decide) ?_
            exact ih93 _ _ _ _ _ _ _ h hI (lv_sub hl [1, 2, 3, 0] rfl)
      have J85 : ∀ (x3 : Int32) (x4 : Int32) (σ : gS) (H : Heap) (locs : List Loc) (ls : Array Slot), w_X9_seeks_85 Q (w_X9_seeks_27 Q n27) x3 x4 σ → gI D cy ad A s.heap σ H locs → lv_has ls 6 [(0, .ref (ad 10)), (3, .int x3), (4, .int x4)] → W p l e (headSpec ws_X9_seeks rm_X9_seeks).room s m ([.ref (ad 10)] : List Value).toArray below meth c H locs 0 0 (MQ below (va_Qi Q (gB D cy ad A) A) ([.ref (ad 10)] : List Value).toArray s 0 0 A) (F0 m 85 ls []) := by
        intro x3 x4 σ H locs ls h hI hl
        unfold w_X9_seeks_85 at h
        refine lv_iload_n hx hb dX9_seeks_85 rfl (lv_at hl 1 rfl) ?_
        refine lv_istore_n (lv' := [(1, .int x3), (0, .ref (ad 10)), (3, .int x3), (4, .int x4)]) hx hb dX9_seeks_86 rfl hl (by decide) rfl (fun ls hl => ?_)
        refine lv_iload hx hb dX9_seeks_87 (lv_at hl 3 rfl) ?_
        refine lv_istore_n (lv' := [(2, .int x4), (1, .int x3), (0, .ref (ad 10)), (3, .int x3), (4, .int x4)]) hx hb dX9_seeks_89 rfl hl (by decide) rfl (fun ls hl => ?_)
        refine lv_iconst (v := 0) hx hb dX9_seeks_90 (by decide) ?_
        refine lv_istore (lv' := [(5, .int 0), (2, .int x4), (1, .int x3), (0, .ref (ad 10)), (3, .int x3), (4, .int x4)]) hx hb dX9_seeks_91 hl (by decide) rfl (fun ls hl => ?_)
        obtain ⟨n9, h⟩ := h
        exact J93 n9 _ _ _ _ _ _ _ h hI (lv_sub hl [3, 2, 1, 0] rfl)
      have J38 : ∀ (n38 : Nat) (x1 : Int32) (x2 : Int32) (x3 : Int32) (x4 : Int32) (x5 : Int32) (σ : gS) (H : Heap) (locs : List Loc) (ls : Array Slot), w_X9_seeks_38 Q (w_X9_seeks_27 Q n27) n38 x1 x2 x3 x4 x5 σ → gI D cy ad A s.heap σ H locs → lv_has ls 6 [(0, .ref (ad 10)), (1, .int x1), (2, .int x2), (3, .int x3), (4, .int x4), (5, .int x5)] → W p l e (headSpec ws_X9_seeks rm_X9_seeks).room s m ([.ref (ad 10)] : List Value).toArray below meth c H locs 0 0 (MQ below (va_Qi Q (gB D cy ad A) A) ([.ref (ad 10)] : List Value).toArray s 0 0 A) (F0 m 38 ls []) := by
        intro n38
        induction n38 with
        | zero => intro x1 x2 x3 x4 x5 σ H locs ls h; exact absurd h (fun h => h)
        | succ n38 ih38 =>
          intro x1 x2 x3 x4 x5 σ H locs ls h hI hl
          unfold w_X9_seeks_38 at h
          refine lv_iload hx hb dX9_seeks_38 (lv_at hl 5 rfl) ?_
          refine lv_aload_n hx hb dX9_seeks_40 rfl (lv_at hl 0 rfl) ?_
          refine gg_X9_acts hC hI gw_4_215 dX9_seeks_41 ?_
          refine lv_icmp_ge (tgt := 65) hx hb dX9_seeks_44 (by decide) (fun c21 => ?_) (fun c21 => ?_)
          · have h := h.1 c21
            refine lv_iload_n hx hb dX9_seeks_65 rfl (lv_at hl 1 rfl) ?_
            refine lv_if_lt (tgt := 85) hx hb dX9_seeks_66 (by decide) (fun c22 => ?_) (fun c22 => ?_)
            · have h := h.1 c22
              exact J85 _ _ _ _ _ _ h hI (lv_sub hl [0, 3, 4] rfl)
            · have h := h.2 c22
              refine lv_iload_n hx hb dX9_seeks_69 rfl (lv_at hl 3 rfl) ?_
              refine lv_iload_n hx hb dX9_seeks_70 rfl (lv_at hl 1 rfl) ?_
              refine lv_icmp_lt (tgt := 85) hx hb dX9_seeks_71 (by decide) (fun c23 => ?_) (fun c23 => ?_)
              · have h := h.1 c23
                exact J85 _ _ _ _ _ _ h hI (lv_sub hl [0, 3, 4] rfl)
              · have h := h.2 c23
                refine lv_iload_n hx hb dX9_seeks_74 rfl (lv_at hl 3 rfl) ?_
                refine lv_iload_n hx hb dX9_seeks_75 rfl (lv_at hl 1 rfl) ?_
                refine lv_icmp_ne (tgt := 122) hx hb dX9_seeks_76 (by decide) (fun c24 => ?_) (fun c24 => ?_)
                · have h := h.1 c24
                  exact J122 _ _ _ _ _ _ h hI (lv_sub hl [0, 1, 2] rfl)
                · have h := h.2 c24
                  refine lv_iload hx hb dX9_seeks_79 (lv_at hl 4 rfl) ?_
                  refine lv_iload_n hx hb dX9_seeks_81 rfl (lv_at hl 2 rfl) ?_
                  refine lv_icmp_ge (tgt := 122) hx hb dX9_seeks_82 (by decide) (fun c25 => ?_) (fun c25 => ?_)
                  · have h := h.1 c25
                    exact J122 _ _ _ _ _ _ h hI (lv_sub hl [0, 1, 2] rfl)
                  · have h := h.2 c25
                    exact J85 _ _ _ _ _ _ h hI (lv_sub hl [0, 3, 4] rfl)
          · have h := h.2 c21
            refine lv_iload hx hb dX9_seeks_47 (lv_at hl 4 rfl) ?_
            refine lv_aload_n hx hb dX9_seeks_49 rfl (lv_at hl 0 rfl) ?_
            refine gg_X9_shift hC hI gw_4_216 dX9_seeks_50 ?_
            refine lv_iload hx hb dX9_seeks_53 (lv_at hl 5 rfl) ?_
            obtain ⟨hi26, h⟩ := h
            refine ga_72 hC hI hi26 dX9_seeks_55 ?_
            refine lv_iadd hx hb dX9_seeks_56 ?_
            refine lv_topi (fun y27 ey27 => ?_)
            have h := h y27 ey27
            refine lv_istore (lv' := [(4, .int y27), (0, .ref (ad 10)), (1, .int x1), (2, .int x2), (3, .int x3), (5, .int x5)]) hx hb dX9_seeks_57 hl (by decide) rfl (fun ls hl => ?_)
            obtain ⟨y28, ey28⟩ : ∃ y : Int32, y = x5 + 1 := ⟨_, rfl⟩
            have h := h y28 ey28
            refine lv_iinc (v := y28) (lv' := [(5, .int y28), (4, .int y27), (0, .ref (ad 10)), (1, .int x1), (2, .int x2), (3, .int x3)]) hx hb dX9_seeks_59 hl (k := 5) rfl (by rw [ey28]; rfl) (by decide) rfl (fun ls hl => ?_)
            refine lv_goto (tgt := 38) hx hb dX9_seeks_62 (by decide) ?_
            exact ih38 _ _ _ _ _ _ _ _ _ h hI (lv_sub hl [2, 3, 4, 5, 1, 0] rfl)
      intro x1 x2 σ H locs ls h hI hl
      unfold w_X9_seeks_27 at h
      refine lv_aload_n hx hb dX9_seeks_27 rfl (lv_at hl 0 rfl) ?_
      refine g_backi hI (g_runV (As := []) (rest := []) hC hml hI (c_X9_aboveOfAll l D cy ad A _  _ h) k_X9_aboveOfAll gw_5_207 ⟨rfl, rfl⟩ ⟨Nat.le_of_ble_eq_true rfl, Nat.le_of_ble_eq_true rfl⟩ (grv_10 hC hI) rfl hl.1 rfl (Nat.le_of_ble_eq_true rfl) dX9_seeks_28 ⟨Nat.le_of_ble_eq_true rfl, Nat.le_of_ble_eq_true rfl⟩) (fun r30 s29 H locs h hI => ?_)
      refine lv_istore_n (lv' := [(3, .int r30), (0, .ref (ad 10)), (1, .int x1), (2, .int x2)]) hx hb dX9_seeks_31 rfl hl (by decide) rfl (fun ls hl => ?_)
      refine lv_iconst (v := 0) hx hb dX9_seeks_32 (by decide) ?_
      refine lv_istore (lv' := [(4, .int 0), (3, .int r30), (0, .ref (ad 10)), (1, .int x1), (2, .int x2)]) hx hb dX9_seeks_33 hl (by decide) rfl (fun ls hl => ?_)
      refine lv_iconst (v := 0) hx hb dX9_seeks_35 (by decide) ?_
      refine lv_istore (lv' := [(5, .int 0), (4, .int 0), (3, .int r30), (0, .ref (ad 10)), (1, .int x1), (2, .int x2)]) hx hb dX9_seeks_36 hl (by decide) rfl (fun ls hl => ?_)
      obtain ⟨n9, h⟩ := h
      exact J38 n9 _ _ _ _ _ _ _ _ _ h hI (lv_sub hl [3, 4, 5, 2, 1, 0] rfl)
  have J6 : ∀ (n6 : Nat) (x1 : Int32) (x2 : Int32) (x3 : Int32) (σ : gS) (H : Heap) (locs : List Loc) (ls : Array Slot), w_X9_seeks_6 Q n6 x1 x2 x3 σ → gI D cy ad A s.heap σ H locs → lv_has ls 6 [(0, .ref (ad 10)), (1, .int x1), (2, .int x2), (3, .int x3)] → W p l e (headSpec ws_X9_seeks rm_X9_seeks).room s m ([.ref (ad 10)] : List Value).toArray below meth c H locs 0 0 (MQ below (va_Qi Q (gB D cy ad A) A) ([.ref (ad 10)] : List Value).toArray s 0 0 A) (F0 m 6 ls []) := by
    intro n6
    induction n6 with
    | zero => intro x1 x2 x3 σ H locs ls h; exact absurd h (fun h => h)
    | succ n6 ih6 =>
      intro x1 x2 x3 σ H locs ls h hI hl
      unfold w_X9_seeks_6 at h
      refine lv_iload_n hx hb dX9_seeks_6 rfl (lv_at hl 3 rfl) ?_
      refine lv_aload_n hx hb dX9_seeks_7 rfl (lv_at hl 0 rfl) ?_
      refine gg_X9_acts hC hI gw_4_215 dX9_seeks_8 ?_
      refine lv_icmp_ge (tgt := 27) hx hb dX9_seeks_11 (by decide) (fun c31 => ?_) (fun c31 => ?_)
      · have h := h.1 c31
        obtain ⟨n9, h⟩ := h
        exact J27 n9 _ _ _ _ _ _ h hI (lv_sub hl [0, 1, 2] rfl)
      · have h := h.2 c31
        refine lv_aload_n hx hb dX9_seeks_14 rfl (lv_at hl 0 rfl) ?_
        refine gg_X9_shift hC hI gw_4_216 dX9_seeks_15 ?_
        refine lv_iload_n hx hb dX9_seeks_18 rfl (lv_at hl 3 rfl) ?_
        refine lv_iconst (v := 0) hx hb dX9_seeks_19 (by decide) ?_
        obtain ⟨hi32, h⟩ := h
        refine gs_72 hC hI hi32 dX9_seeks_20 (fun s33 H locs es33 hI => ?_)
        have h := h s33 es33
        obtain ⟨y34, ey34⟩ : ∃ y : Int32, y = x3 + 1 := ⟨_, rfl⟩
        have h := h y34 ey34
        refine lv_iinc (v := y34) (lv' := [(3, .int y34), (0, .ref (ad 10)), (1, .int x1), (2, .int x2)]) hx hb dX9_seeks_21 hl (k := 3) rfl (by rw [ey34]; rfl) (by decide) rfl (fun ls hl => ?_)
        refine lv_goto (tgt := 6) hx hb dX9_seeks_24 (by decide) ?_
        exact ih6 _ _ _ _ _ _ _ h hI (lv_sub hl [1, 2, 3, 0] rfl)
  have hl := lv_entry ([.ref (ad 10)]) (n := 6) (Nat.le_of_ble_eq_true rfl)
  rw [lg_entry_eq]
  generalize (lg_sl ([.ref (ad 10)]) ++ List.replicate (6 - (lg_sl ([.ref (ad 10)])).length) Slot.unset).toArray = ls at hl ⊢
  have hl : lv_has ls 6 [(0, .ref (ad 10))] := hl
  unfold w_X9_seeks at h
  refine lv_iconst (v := (-1)) hx hb dX9_seeks_0 (by decide) ?_
  refine lv_istore_n (lv' := [(1, .int (-1)), (0, .ref (ad 10))]) hx hb dX9_seeks_1 rfl hl (by decide) rfl (fun ls hl => ?_)
  refine lv_iconst (v := 0) hx hb dX9_seeks_2 (by decide) ?_
  refine lv_istore_n (lv' := [(2, .int 0), (1, .int (-1)), (0, .ref (ad 10))]) hx hb dX9_seeks_3 rfl hl (by decide) rfl (fun ls hl => ?_)
  refine lv_iconst (v := 0) hx hb dX9_seeks_4 (by decide) ?_
  refine lv_istore_n (lv' := [(3, .int 0), (2, .int 0), (1, .int (-1)), (0, .ref (ad 10))]) hx hb dX9_seeks_5 rfl hl (by decide) rfl (fun ls hl => ?_)
  obtain ⟨n9, h⟩ := h
  exact J6 n9 _ _ _ _ _ _ _ h hI (lv_sub hl [3, 2, 1, 0] rfl)

theorem dX9_tooMany_0 : decode cX9_tooMany 0 = .ok (.aload_n 0, 1) := by decide +kernel
theorem dX9_tooMany_1 : decode cX9_tooMany 1 = .ok (.iconst 0, 1) := by decide +kernel
theorem dX9_tooMany_2 : decode cX9_tooMany 2 = .ok (.putfield 3, 3) := by decide +kernel
theorem dX9_tooMany_5 : decode cX9_tooMany 5 = .ok (.aload_n 0, 1) := by decide +kernel
theorem dX9_tooMany_6 : decode cX9_tooMany 6 = .ok (.invokevirtual 205, 3) := by decide +kernel
theorem dX9_tooMany_9 : decode cX9_tooMany 9 = .ok (.ireturn, 1) := by decide +kernel
def w_X9_tooMany (Q : Int32 → gS → Prop) (σ : gS) : Prop :=
    ∀ s1 : gS, s1 = gu σ 63 0 0 → w_X9_seeks  (fun (r3 : Int32) (s2 : gS) => Q r3 s2) s1
abbrev ws_X9_tooMany : List Cond := Cond.code yX9_tooMany cX9_tooMany 1 (some .int) :: gG
abbrev rm_X9_tooMany : Room := { frames := 4, cells := 0, slots := 0, locals := 94 }
theorem k_X9_tooMany : gCV yX9_tooMany RX9 cX9_tooMany 1 (some .int) 0 := ⟨gw_5_200, gw_5_201, gw_1_11, gw_5_202, rfl, by decide +kernel⟩
set_option maxHeartbeats 4000000 in
set_option maxRecDepth 100000 in
theorem c_X9_tooMany (l : Launch) (D : va_G) (cy : Nat → ClassId) (ad : Nat → Nat) (A : Nat → Prop) (Q : Int32 → gS → Prop) (σ : gS) (h : w_X9_tooMany Q σ) : Met l yX9_tooMany ws_X9_tooMany rm_X9_tooMany (va_Pc [.ref (ad 10)] (gB D cy ad A σ)) (va_Qi Q (gB D cy ad A) A) 0 0 A := by
  refine Met.ofW (cc := cX9_tooMany) (maxL := 1) (ret := (some .int)) (by decide) rfl ?_
  intro p e s m args below meth c s₁ B hml hv
  obtain ⟨rfl, hB⟩ := hv
  have hC : gC p c cX9_tooMany s m ([.ref (ad 10)] : List Value).toArray RX9 D cy ad A := g_start B hB
  have hI := g_first hB
  have hx := hC.1
  have hb := hC.2.1
  have hr := B.returns
  have hlocks := B.notSynchronized
  clear B hB
  have hl := lv_entry ([.ref (ad 10)]) (n := 1) (Nat.le_of_ble_eq_true rfl)
  rw [lg_entry_eq]
  generalize (lg_sl ([.ref (ad 10)]) ++ List.replicate (1 - (lg_sl ([.ref (ad 10)])).length) Slot.unset).toArray = ls at hl ⊢
  have hl : lv_has ls 1 [(0, .ref (ad 10))] := hl
  unfold w_X9_tooMany at h
  refine lv_aload_n hx hb dX9_tooMany_0 rfl (lv_at hl 0 rfl) ?_
  refine lv_iconst (v := 0) hx hb dX9_tooMany_1 (by decide) ?_
  refine gp_X9_thrown hC hI gw_4_188 dX9_tooMany_2 (fun s1 H locs es1 hI => ?_)
  have h := h s1 es1
  refine lv_aload_n hx hb dX9_tooMany_5 rfl (lv_at hl 0 rfl) ?_
  refine g_backi hI (g_runV (As := []) (rest := []) hC hml hI (c_X9_seeks l D cy ad A _  _ h) k_X9_seeks gw_5_203 ⟨rfl, rfl⟩ ⟨Nat.le_of_ble_eq_true rfl, Nat.le_of_ble_eq_true rfl⟩ (grv_10 hC hI) rfl hl.1 rfl (Nat.le_of_ble_eq_true rfl) dX9_tooMany_6 ⟨Nat.le_of_ble_eq_true rfl, Nat.le_of_ble_eq_true rfl⟩) (fun r3 s2 H locs h hI => ?_)
  exact g_iret hC hr hlocks hI h dX9_tooMany_9

theorem dX9_shift_0 : decode cX9_shift 0 = .ok (.aload_n 0, 1) := by decide +kernel
theorem dX9_shift_1 : decode cX9_shift 1 = .ok (.iconst 0, 1) := by decide +kernel
theorem dX9_shift_2 : decode cX9_shift 2 = .ok (.putfield 3, 3) := by decide +kernel
theorem dX9_shift_5 : decode cX9_shift 5 = .ok (.aload_n 0, 1) := by decide +kernel
theorem dX9_shift_6 : decode cX9_shift 6 = .ok (.iload_n 1, 1) := by decide +kernel
theorem dX9_shift_7 : decode cX9_shift 7 = .ok (.iconst 0, 1) := by decide +kernel
theorem dX9_shift_8 : decode cX9_shift 8 = .ok (.aload_n 0, 1) := by decide +kernel
theorem dX9_shift_9 : decode cX9_shift 9 = .ok (.getfield 196, 3) := by decide +kernel
theorem dX9_shift_12 : decode cX9_shift 12 = .ok (.iconst 1, 1) := by decide +kernel
theorem dX9_shift_13 : decode cX9_shift 13 = .ok (.isub, 1) := by decide +kernel
theorem dX9_shift_14 : decode cX9_shift 14 = .ok (.invokestatic 115, 3) := by decide +kernel
theorem dX9_shift_17 : decode cX9_shift 17 = .ok (.ifCond .ne 7, 3) := by decide +kernel
theorem dX9_shift_20 : decode cX9_shift 20 = .ok (.iconst 1, 1) := by decide +kernel
theorem dX9_shift_21 : decode cX9_shift 21 = .ok (.goto 4, 3) := by decide +kernel
theorem dX9_shift_24 : decode cX9_shift 24 = .ok (.iconst 0, 1) := by decide +kernel
theorem dX9_shift_25 : decode cX9_shift 25 = .ok (.iconst 1, 1) := by decide +kernel
theorem dX9_shift_26 : decode cX9_shift 26 = .ok (.invokevirtual 123, 3) := by decide +kernel
theorem dX9_shift_29 : decode cX9_shift 29 = .ok (.ifCond .eq 5, 3) := by decide +kernel
theorem dX9_shift_32 : decode cX9_shift 32 = .ok (.iconst 0, 1) := by decide +kernel
theorem dX9_shift_33 : decode cX9_shift 33 = .ok (.ireturn, 1) := by decide +kernel
theorem dX9_shift_34 : decode cX9_shift 34 = .ok (.aload_n 0, 1) := by decide +kernel
theorem dX9_shift_35 : decode cX9_shift 35 = .ok (.invokevirtual 205, 3) := by decide +kernel
theorem dX9_shift_38 : decode cX9_shift 38 = .ok (.istore_n 2, 1) := by decide +kernel
theorem dX9_shift_39 : decode cX9_shift 39 = .ok (.aload_n 0, 1) := by decide +kernel
theorem dX9_shift_40 : decode cX9_shift 40 = .ok (.getfield 81, 3) := by decide +kernel
theorem dX9_shift_43 : decode cX9_shift 43 = .ok (.iload_n 1, 1) := by decide +kernel
theorem dX9_shift_44 : decode cX9_shift 44 = .ok (.iaload, 1) := by decide +kernel
theorem dX9_shift_45 : decode cX9_shift 45 = .ok (.ireturn, 1) := by decide +kernel
def w_X9_shift_25 (Q : Int32 → gS → Prop) (x1 : Int32) (v0 : Int32) (σ : gS) : Prop :=
    w_X9_throwsIf  (fun (r3 : Int32) (s2 : gS) => (r3 = 0 → w_X9_seeks  (fun (r6 : Int32) (s5 : gS) => vp_in x1 6 ∧ Q (s5 92 x1.toNatClampNeg) s5) s2) ∧ (¬ r3 = 0 → Q 0 s2)) σ v0 1
def w_X9_shift (Q : Int32 → gS → Prop) (σ : gS) (a1 : Int32) : Prop :=
    ∀ s8 : gS, s8 = gu σ 63 0 0 → w_X9_in  (fun (r10 : Int32) (s9 : gS) => (¬ r10 = 0 → w_X9_shift_25 Q a1 0 s9) ∧ (r10 = 0 → w_X9_shift_25 Q a1 1 s9)) s8 a1 0 ((s8 90 0) - 1)
abbrev ws_X9_shift : List Cond := Cond.code yX9_shift cX9_shift 3 (some .int) :: gG
abbrev rm_X9_shift : Room := { frames := 4, cells := 0, slots := 0, locals := 94 }
theorem k_X9_shift : gCV yX9_shift RX9 cX9_shift 3 (some .int) 1 := ⟨gw_5_216, gw_5_217, gw_1_11, gw_5_218, rfl, by decide +kernel⟩
set_option maxHeartbeats 4000000 in
set_option maxRecDepth 100000 in
theorem c_X9_shift (l : Launch) (D : va_G) (cy : Nat → ClassId) (ad : Nat → Nat) (A : Nat → Prop) (Q : Int32 → gS → Prop) (σ : gS) (a1 : Int32) (h : w_X9_shift Q σ a1) : Met l yX9_shift ws_X9_shift rm_X9_shift (va_Pc [.ref (ad 10), .int a1] (gB D cy ad A σ)) (va_Qi Q (gB D cy ad A) A) 0 0 A := by
  refine Met.ofW (cc := cX9_shift) (maxL := 3) (ret := (some .int)) (by decide) rfl ?_
  intro p e s m args below meth c s₁ B hml hv
  obtain ⟨rfl, hB⟩ := hv
  have hC : gC p c cX9_shift s m ([.ref (ad 10), .int a1] : List Value).toArray RX9 D cy ad A := g_start B hB
  have hI := g_first hB
  have hx := hC.1
  have hb := hC.2.1
  have hr := B.returns
  have hlocks := B.notSynchronized
  clear B hB
  have J25 : ∀ (x1 : Int32) (v0 : Int32) (σ : gS) (H : Heap) (locs : List Loc) (ls : Array Slot), w_X9_shift_25 Q x1 v0 σ → gI D cy ad A s.heap σ H locs → lv_has ls 3 [(0, .ref (ad 10)), (1, .int x1)] → W p l e (headSpec ws_X9_shift rm_X9_shift).room s m ([.ref (ad 10), .int a1] : List Value).toArray below meth c H locs 0 0 (MQ below (va_Qi Q (gB D cy ad A) A) ([.ref (ad 10), .int a1] : List Value).toArray s 0 0 A) (F0 m 25 ls [.int v0, .ref (ad 10)]) := by
    intro x1 v0 σ H locs ls h hI hl
    unfold w_X9_shift_25 at h
    refine lv_iconst (v := 1) hx hb dX9_shift_25 (by decide) ?_
    refine g_backi hI (g_runV (As := [.int v0, .int 1]) (rest := []) hC hml hI (c_X9_throwsIf l D cy ad A _  _ _ _ h) k_X9_throwsIf gw_5_100 ⟨rfl, rfl⟩ ⟨Nat.le_of_ble_eq_true rfl, Nat.le_of_ble_eq_true rfl⟩ (grv_10 hC hI) rfl hl.1 rfl (Nat.le_of_ble_eq_true rfl) dX9_shift_26 ⟨Nat.le_of_ble_eq_true rfl, Nat.le_of_ble_eq_true rfl⟩) (fun r3 s2 H locs h hI => ?_)
    refine lv_if_eq (tgt := 34) hx hb dX9_shift_29 (by decide) (fun c4 => ?_) (fun c4 => ?_)
    · have h := h.1 c4
      refine lv_aload_n hx hb dX9_shift_34 rfl (lv_at hl 0 rfl) ?_
      refine g_backi hI (g_runV (As := []) (rest := []) hC hml hI (c_X9_seeks l D cy ad A _  _ h) k_X9_seeks gw_5_203 ⟨rfl, rfl⟩ ⟨Nat.le_of_ble_eq_true rfl, Nat.le_of_ble_eq_true rfl⟩ (grv_10 hC hI) rfl hl.1 rfl (Nat.le_of_ble_eq_true rfl) dX9_shift_35 ⟨Nat.le_of_ble_eq_true rfl, Nat.le_of_ble_eq_true rfl⟩) (fun r6 s5 H locs h hI => ?_)
      refine lv_istore_n (lv' := [(2, .int r6), (0, .ref (ad 10)), (1, .int x1)]) hx hb dX9_shift_38 rfl hl (by decide) rfl (fun ls hl => ?_)
      refine lv_aload_n hx hb dX9_shift_39 rfl (lv_at hl 1 rfl) ?_
      refine gg_X9_best hC hI gw_4_217 dX9_shift_40 ?_
      refine lv_iload_n hx hb dX9_shift_43 rfl (lv_at hl 2 rfl) ?_
      obtain ⟨hi7, h⟩ := h
      refine ga_73 hC hI hi7 dX9_shift_44 ?_
      exact g_iret hC hr hlocks hI h dX9_shift_45
    · have h := h.2 c4
      refine lv_iconst (v := 0) hx hb dX9_shift_32 (by decide) ?_
      exact g_iret hC hr hlocks hI h dX9_shift_33
  have hl := lv_entry ([.ref (ad 10), .int a1]) (n := 3) (Nat.le_of_ble_eq_true rfl)
  rw [lg_entry_eq]
  generalize (lg_sl ([.ref (ad 10), .int a1]) ++ List.replicate (3 - (lg_sl ([.ref (ad 10), .int a1])).length) Slot.unset).toArray = ls at hl ⊢
  have hl : lv_has ls 3 [(0, .ref (ad 10)), (1, .int a1)] := hl
  unfold w_X9_shift at h
  refine lv_aload_n hx hb dX9_shift_0 rfl (lv_at hl 0 rfl) ?_
  refine lv_iconst (v := 0) hx hb dX9_shift_1 (by decide) ?_
  refine gp_X9_thrown hC hI gw_4_188 dX9_shift_2 (fun s8 H locs es8 hI => ?_)
  have h := h s8 es8
  refine lv_aload_n hx hb dX9_shift_5 rfl (lv_at hl 0 rfl) ?_
  refine lv_iload_n hx hb dX9_shift_6 rfl (lv_at hl 1 rfl) ?_
  refine lv_iconst (v := 0) hx hb dX9_shift_7 (by decide) ?_
  refine lv_aload_n hx hb dX9_shift_8 rfl (lv_at hl 0 rfl) ?_
  refine gg_X9_acts hC hI gw_4_215 dX9_shift_9 ?_
  refine lv_iconst (v := 1) hx hb dX9_shift_12 (by decide) ?_
  refine lv_isub hx hb dX9_shift_13 ?_
  refine g_backi hI (g_runS (As := [.int a1, .int 0, .int ((s8 90 0) - 1)]) (rest := [.ref (ad 10)]) hC hml hI (c_X9_in l D cy ad A _  _ _ _ _ h) k_X9_in gw_5_97 ⟨rfl, rfl⟩ ⟨Nat.le_of_ble_eq_true rfl, Nat.le_of_ble_eq_true rfl⟩ rfl hl.1 rfl (Nat.le_of_ble_eq_true rfl) dX9_shift_14 ⟨Nat.le_of_ble_eq_true rfl, Nat.le_of_ble_eq_true rfl⟩) (fun r10 s9 H locs h hI => ?_)
  refine lv_if_ne (tgt := 24) hx hb dX9_shift_17 (by decide) (fun c11 => ?_) (fun c11 => ?_)
  · have h := h.1 c11
    refine lv_iconst (v := 0) hx hb dX9_shift_24 (by decide) ?_
    exact J25 _ _ _ _ _ _ h hI (lv_sub hl [0, 1] rfl)
  · have h := h.2 c11
    refine lv_iconst (v := 1) hx hb dX9_shift_20 (by decide) ?_
    refine lv_goto (tgt := 25) hx hb dX9_shift_21 (by decide) ?_
    exact J25 _ _ _ _ _ _ h hI (lv_sub hl [0, 1] rfl)

theorem dX9_forget_0 : decode cX9_forget 0 = .ok (.aload_n 0, 1) := by decide +kernel
theorem dX9_forget_1 : decode cX9_forget 1 = .ok (.iconst 0, 1) := by decide +kernel
theorem dX9_forget_2 : decode cX9_forget 2 = .ok (.putfield 3, 3) := by decide +kernel
theorem dX9_forget_5 : decode cX9_forget 5 = .ok (.aload_n 0, 1) := by decide +kernel
theorem dX9_forget_6 : decode cX9_forget 6 = .ok (.getfield 196, 3) := by decide +kernel
theorem dX9_forget_9 : decode cX9_forget 9 = .ok (.istore_n 1, 1) := by decide +kernel
theorem dX9_forget_10 : decode cX9_forget 10 = .ok (.aload_n 0, 1) := by decide +kernel
theorem dX9_forget_11 : decode cX9_forget 11 = .ok (.iconst 0, 1) := by decide +kernel
theorem dX9_forget_12 : decode cX9_forget 12 = .ok (.putfield 196, 3) := by decide +kernel
theorem dX9_forget_15 : decode cX9_forget 15 = .ok (.iload_n 1, 1) := by decide +kernel
theorem dX9_forget_16 : decode cX9_forget 16 = .ok (.ireturn, 1) := by decide +kernel
def w_X9_forget (Q : Int32 → gS → Prop) (σ : gS) : Prop :=
    ∀ s1 : gS, s1 = gu σ 63 0 0 → ∀ y2 : Int32, y2 = (s1 90 0) → ∀ s3 : gS, s3 = gu s1 90 0 0 → Q y2 s3
abbrev ws_X9_forget : List Cond := Cond.code yX9_forget cX9_forget 2 (some .int) :: gG
abbrev rm_X9_forget : Room := { frames := 0, cells := 0, slots := 0, locals := 0 }
theorem k_X9_forget : gCV yX9_forget RX9 cX9_forget 2 (some .int) 0 := ⟨gw_5_220, gw_5_221, gw_1_11, gw_5_222, rfl, by decide +kernel⟩
set_option maxHeartbeats 4000000 in
set_option maxRecDepth 100000 in
theorem c_X9_forget (l : Launch) (D : va_G) (cy : Nat → ClassId) (ad : Nat → Nat) (A : Nat → Prop) (Q : Int32 → gS → Prop) (σ : gS) (h : w_X9_forget Q σ) : Met l yX9_forget ws_X9_forget rm_X9_forget (va_Pc [.ref (ad 10)] (gB D cy ad A σ)) (va_Qi Q (gB D cy ad A) A) 0 0 A := by
  refine Met.ofW (cc := cX9_forget) (maxL := 2) (ret := (some .int)) (by decide) rfl ?_
  intro p e s m args below meth c s₁ B hml hv
  obtain ⟨rfl, hB⟩ := hv
  have hC : gC p c cX9_forget s m ([.ref (ad 10)] : List Value).toArray RX9 D cy ad A := g_start B hB
  have hI := g_first hB
  have hx := hC.1
  have hb := hC.2.1
  have hr := B.returns
  have hlocks := B.notSynchronized
  clear B hB
  have hl := lv_entry ([.ref (ad 10)]) (n := 2) (Nat.le_of_ble_eq_true rfl)
  rw [lg_entry_eq]
  generalize (lg_sl ([.ref (ad 10)]) ++ List.replicate (2 - (lg_sl ([.ref (ad 10)])).length) Slot.unset).toArray = ls at hl ⊢
  have hl : lv_has ls 2 [(0, .ref (ad 10))] := hl
  unfold w_X9_forget at h
  refine lv_aload_n hx hb dX9_forget_0 rfl (lv_at hl 0 rfl) ?_
  refine lv_iconst (v := 0) hx hb dX9_forget_1 (by decide) ?_
  refine gp_X9_thrown hC hI gw_4_188 dX9_forget_2 (fun s1 H locs es1 hI => ?_)
  have h := h s1 es1
  refine lv_aload_n hx hb dX9_forget_5 rfl (lv_at hl 0 rfl) ?_
  refine gg_X9_acts hC hI gw_4_215 dX9_forget_6 ?_
  refine lv_topi (fun y2 ey2 => ?_)
  have h := h y2 ey2
  refine lv_istore_n (lv' := [(1, .int y2), (0, .ref (ad 10))]) hx hb dX9_forget_9 rfl hl (by decide) rfl (fun ls hl => ?_)
  refine lv_aload_n hx hb dX9_forget_10 rfl (lv_at hl 1 rfl) ?_
  refine lv_iconst (v := 0) hx hb dX9_forget_11 (by decide) ?_
  refine gp_X9_acts hC hI gw_4_215 dX9_forget_12 (fun s3 H locs es3 hI => ?_)
  have h := h s3 es3
  refine lv_iload_n hx hb dX9_forget_15 rfl (lv_at hl 0 rfl) ?_
  exact g_iret hC hr hlocks hI h dX9_forget_16

theorem dX9_minutes_0 : decode cX9_minutes 0 = .ok (.aload_n 0, 1) := by decide +kernel
theorem dX9_minutes_1 : decode cX9_minutes 1 = .ok (.iconst 0, 1) := by decide +kernel
theorem dX9_minutes_2 : decode cX9_minutes 2 = .ok (.putfield 3, 3) := by decide +kernel
theorem dX9_minutes_5 : decode cX9_minutes 5 = .ok (.aload_n 0, 1) := by decide +kernel
theorem dX9_minutes_6 : decode cX9_minutes 6 = .ok (.iload_n 1, 1) := by decide +kernel
theorem dX9_minutes_7 : decode cX9_minutes 7 = .ok (.iconst 0, 1) := by decide +kernel
theorem dX9_minutes_8 : decode cX9_minutes 8 = .ok (.sipush 2000, 3) := by decide +kernel
theorem dX9_minutes_11 : decode cX9_minutes 11 = .ok (.invokestatic 115, 3) := by decide +kernel
theorem dX9_minutes_14 : decode cX9_minutes 14 = .ok (.ifCond .ne 7, 3) := by decide +kernel
theorem dX9_minutes_17 : decode cX9_minutes 17 = .ok (.iconst 1, 1) := by decide +kernel
theorem dX9_minutes_18 : decode cX9_minutes 18 = .ok (.goto 4, 3) := by decide +kernel
theorem dX9_minutes_21 : decode cX9_minutes 21 = .ok (.iconst 0, 1) := by decide +kernel
theorem dX9_minutes_22 : decode cX9_minutes 22 = .ok (.iconst 1, 1) := by decide +kernel
theorem dX9_minutes_23 : decode cX9_minutes 23 = .ok (.invokevirtual 123, 3) := by decide +kernel
theorem dX9_minutes_26 : decode cX9_minutes 26 = .ok (.ifCond .eq 5, 3) := by decide +kernel
theorem dX9_minutes_29 : decode cX9_minutes 29 = .ok (.iconst 0, 1) := by decide +kernel
theorem dX9_minutes_30 : decode cX9_minutes 30 = .ok (.ireturn, 1) := by decide +kernel
theorem dX9_minutes_31 : decode cX9_minutes 31 = .ok (.aload_n 0, 1) := by decide +kernel
theorem dX9_minutes_32 : decode cX9_minutes 32 = .ok (.sipush 10000, 3) := by decide +kernel
theorem dX9_minutes_35 : decode cX9_minutes 35 = .ok (.aload_n 0, 1) := by decide +kernel
theorem dX9_minutes_36 : decode cX9_minutes 36 = .ok (.getfield 208, 3) := by decide +kernel
theorem dX9_minutes_39 : decode cX9_minutes 39 = .ok (.iload_n 1, 1) := by decide +kernel
theorem dX9_minutes_40 : decode cX9_minutes 40 = .ok (.iadd, 1) := by decide +kernel
theorem dX9_minutes_41 : decode cX9_minutes 41 = .ok (.invokestatic 177, 3) := by decide +kernel
theorem dX9_minutes_44 : decode cX9_minutes 44 = .ok (.putfield 208, 3) := by decide +kernel
theorem dX9_minutes_47 : decode cX9_minutes 47 = .ok (.aload_n 0, 1) := by decide +kernel
theorem dX9_minutes_48 : decode cX9_minutes 48 = .ok (.getfield 208, 3) := by decide +kernel
theorem dX9_minutes_51 : decode cX9_minutes 51 = .ok (.ireturn, 1) := by decide +kernel
def w_X9_minutes_22 (Q : Int32 → gS → Prop) (x1 : Int32) (v0 : Int32) (σ : gS) : Prop :=
    w_X9_throwsIf  (fun (r2 : Int32) (s1 : gS) => (r2 = 0 → ∀ s4 : gS, s4 = gu s1 93 0 (if ((s1 93 0) + x1) < 10000 then ((s1 93 0) + x1) else 10000) → Q (s4 93 0) s4) ∧ (¬ r2 = 0 → Q 0 s1)) σ v0 1
def w_X9_minutes (Q : Int32 → gS → Prop) (σ : gS) (a1 : Int32) : Prop :=
    ∀ s5 : gS, s5 = gu σ 63 0 0 → w_X9_in  (fun (r7 : Int32) (s6 : gS) => (¬ r7 = 0 → w_X9_minutes_22 Q a1 0 s6) ∧ (r7 = 0 → w_X9_minutes_22 Q a1 1 s6)) s5 a1 0 2000
abbrev ws_X9_minutes : List Cond := Cond.code yX9_minutes cX9_minutes 2 (some .int) :: gG
abbrev rm_X9_minutes : Room := { frames := 1, cells := 0, slots := 0, locals := 22 }
theorem k_X9_minutes : gCV yX9_minutes RX9 cX9_minutes 2 (some .int) 1 := ⟨gw_5_224, gw_5_225, gw_1_11, gw_5_226, rfl, by decide +kernel⟩
set_option maxHeartbeats 4000000 in
set_option maxRecDepth 100000 in
theorem c_X9_minutes (l : Launch) (D : va_G) (cy : Nat → ClassId) (ad : Nat → Nat) (A : Nat → Prop) (Q : Int32 → gS → Prop) (σ : gS) (a1 : Int32) (h : w_X9_minutes Q σ a1) : Met l yX9_minutes ws_X9_minutes rm_X9_minutes (va_Pc [.ref (ad 10), .int a1] (gB D cy ad A σ)) (va_Qi Q (gB D cy ad A) A) 0 0 A := by
  refine Met.ofW (cc := cX9_minutes) (maxL := 2) (ret := (some .int)) (by decide) rfl ?_
  intro p e s m args below meth c s₁ B hml hv
  obtain ⟨rfl, hB⟩ := hv
  have hC : gC p c cX9_minutes s m ([.ref (ad 10), .int a1] : List Value).toArray RX9 D cy ad A := g_start B hB
  have hI := g_first hB
  have hx := hC.1
  have hb := hC.2.1
  have hr := B.returns
  have hlocks := B.notSynchronized
  clear B hB
  have J22 : ∀ (x1 : Int32) (v0 : Int32) (σ : gS) (H : Heap) (locs : List Loc) (ls : Array Slot), w_X9_minutes_22 Q x1 v0 σ → gI D cy ad A s.heap σ H locs → lv_has ls 2 [(0, .ref (ad 10)), (1, .int x1)] → W p l e (headSpec ws_X9_minutes rm_X9_minutes).room s m ([.ref (ad 10), .int a1] : List Value).toArray below meth c H locs 0 0 (MQ below (va_Qi Q (gB D cy ad A) A) ([.ref (ad 10), .int a1] : List Value).toArray s 0 0 A) (F0 m 22 ls [.int v0, .ref (ad 10)]) := by
    intro x1 v0 σ H locs ls h hI hl
    unfold w_X9_minutes_22 at h
    refine lv_iconst (v := 1) hx hb dX9_minutes_22 (by decide) ?_
    refine g_backi hI (g_runV (As := [.int v0, .int 1]) (rest := []) hC hml hI (c_X9_throwsIf l D cy ad A _  _ _ _ h) k_X9_throwsIf gw_5_100 ⟨rfl, rfl⟩ ⟨Nat.le_of_ble_eq_true rfl, Nat.le_of_ble_eq_true rfl⟩ (grv_10 hC hI) rfl hl.1 rfl (Nat.le_of_ble_eq_true rfl) dX9_minutes_23 ⟨Nat.le_of_ble_eq_true rfl, Nat.le_of_ble_eq_true rfl⟩) (fun r2 s1 H locs h hI => ?_)
    refine lv_if_eq (tgt := 31) hx hb dX9_minutes_26 (by decide) (fun c3 => ?_) (fun c3 => ?_)
    · have h := h.1 c3
      refine lv_aload_n hx hb dX9_minutes_31 rfl (lv_at hl 0 rfl) ?_
      refine lv_sipush (v := 10000) hx hb dX9_minutes_32 (by decide) ?_
      refine lv_aload_n hx hb dX9_minutes_35 rfl (lv_at hl 0 rfl) ?_
      refine gg_X9_now hC hI gw_4_218 dX9_minutes_36 ?_
      refine lv_iload_n hx hb dX9_minutes_39 rfl (lv_at hl 1 rfl) ?_
      refine lv_iadd hx hb dX9_minutes_40 ?_
      refine va_mmin hx hb (by rw [hml]; exact hl.1.symm) hC.2.2.2.1 (hC.2.2.1 _ gw_5_177) (hC.2.2.1 _ gw_2_141) (hC.2.2.1 _ gw_1_18) (hC.2.2.1 _ gw_2_142) (Nat.le_of_ble_eq_true rfl) (Nat.le_of_ble_eq_true rfl) (Nat.le_of_ble_eq_true rfl) (Nat.le_of_ble_eq_true rfl) dX9_minutes_41 ?_
      refine gp_X9_now hC hI gw_4_218 dX9_minutes_44 (fun s4 H locs es4 hI => ?_)
      have h := h s4 es4
      refine lv_aload_n hx hb dX9_minutes_47 rfl (lv_at hl 0 rfl) ?_
      refine gg_X9_now hC hI gw_4_218 dX9_minutes_48 ?_
      exact g_iret hC hr hlocks hI h dX9_minutes_51
    · have h := h.2 c3
      refine lv_iconst (v := 0) hx hb dX9_minutes_29 (by decide) ?_
      exact g_iret hC hr hlocks hI h dX9_minutes_30
  have hl := lv_entry ([.ref (ad 10), .int a1]) (n := 2) (Nat.le_of_ble_eq_true rfl)
  rw [lg_entry_eq]
  generalize (lg_sl ([.ref (ad 10), .int a1]) ++ List.replicate (2 - (lg_sl ([.ref (ad 10), .int a1])).length) Slot.unset).toArray = ls at hl ⊢
  have hl : lv_has ls 2 [(0, .ref (ad 10)), (1, .int a1)] := hl
  unfold w_X9_minutes at h
  refine lv_aload_n hx hb dX9_minutes_0 rfl (lv_at hl 0 rfl) ?_
  refine lv_iconst (v := 0) hx hb dX9_minutes_1 (by decide) ?_
  refine gp_X9_thrown hC hI gw_4_188 dX9_minutes_2 (fun s5 H locs es5 hI => ?_)
  have h := h s5 es5
  refine lv_aload_n hx hb dX9_minutes_5 rfl (lv_at hl 0 rfl) ?_
  refine lv_iload_n hx hb dX9_minutes_6 rfl (lv_at hl 1 rfl) ?_
  refine lv_iconst (v := 0) hx hb dX9_minutes_7 (by decide) ?_
  refine lv_sipush (v := 2000) hx hb dX9_minutes_8 (by decide) ?_
  refine g_backi hI (g_runS (As := [.int a1, .int 0, .int 2000]) (rest := [.ref (ad 10)]) hC hml hI (c_X9_in l D cy ad A _  _ _ _ _ h) k_X9_in gw_5_97 ⟨rfl, rfl⟩ ⟨Nat.le_of_ble_eq_true rfl, Nat.le_of_ble_eq_true rfl⟩ rfl hl.1 rfl (Nat.le_of_ble_eq_true rfl) dX9_minutes_11 ⟨Nat.le_of_ble_eq_true rfl, Nat.le_of_ble_eq_true rfl⟩) (fun r7 s6 H locs h hI => ?_)
  refine lv_if_ne (tgt := 21) hx hb dX9_minutes_14 (by decide) (fun c8 => ?_) (fun c8 => ?_)
  · have h := h.1 c8
    refine lv_iconst (v := 0) hx hb dX9_minutes_21 (by decide) ?_
    exact J22 _ _ _ _ _ _ h hI (lv_sub hl [0, 1] rfl)
  · have h := h.2 c8
    refine lv_iconst (v := 1) hx hb dX9_minutes_17 (by decide) ?_
    refine lv_goto (tgt := 22) hx hb dX9_minutes_18 (by decide) ?_
    exact J22 _ _ _ _ _ _ h hI (lv_sub hl [0, 1] rfl)

theorem dX9_noBand_0 : decode cX9_noBand 0 = .ok (.iload_n 0, 1) := by decide +kernel
theorem dX9_noBand_1 : decode cX9_noBand 1 = .ok (.iconst 0, 1) := by decide +kernel
theorem dX9_noBand_2 : decode cX9_noBand 2 = .ok (.sipush 299, 3) := by decide +kernel
theorem dX9_noBand_5 : decode cX9_noBand 5 = .ok (.invokestatic 115, 3) := by decide +kernel
theorem dX9_noBand_8 : decode cX9_noBand 8 = .ok (.ifCond .ne 7, 3) := by decide +kernel
theorem dX9_noBand_11 : decode cX9_noBand 11 = .ok (.iconst 1, 1) := by decide +kernel
theorem dX9_noBand_12 : decode cX9_noBand 12 = .ok (.goto 4, 3) := by decide +kernel
theorem dX9_noBand_15 : decode cX9_noBand 15 = .ok (.iconst 0, 1) := by decide +kernel
theorem dX9_noBand_16 : decode cX9_noBand 16 = .ok (.ireturn, 1) := by decide +kernel
def w_X9_noBand (Q : Int32 → gS → Prop) (σ : gS) (a0 : Int32) : Prop :=
    w_X9_in  (fun (r2 : Int32) (s1 : gS) => (¬ r2 = 0 → Q 0 s1) ∧ (r2 = 0 → Q 1 s1)) σ a0 0 299
abbrev ws_X9_noBand : List Cond := Cond.code yX9_noBand cX9_noBand 1 (some .boolean) :: gG
abbrev rm_X9_noBand : Room := { frames := 1, cells := 0, slots := 0, locals := 22 }
theorem k_X9_noBand : gCS yX9_noBand cX9_noBand 1 (some .boolean) 1 := ⟨gw_5_232, gw_1_11, gw_5_233, by decide +kernel⟩
set_option maxHeartbeats 4000000 in
set_option maxRecDepth 100000 in
theorem c_X9_noBand (l : Launch) (D : va_G) (cy : Nat → ClassId) (ad : Nat → Nat) (A : Nat → Prop) (Q : Int32 → gS → Prop) (σ : gS) (a0 : Int32) (h : w_X9_noBand Q σ a0) : Met l yX9_noBand ws_X9_noBand rm_X9_noBand (va_Pc [.int a0] (gB D cy ad A σ)) (va_Qi Q (gB D cy ad A) A) 0 0 A := by
  refine Met.ofW (cc := cX9_noBand) (maxL := 1) (ret := (some .boolean)) (by decide) rfl ?_
  intro p e s m args below meth c s₁ B hml hv
  obtain ⟨rfl, hB⟩ := hv
  have hC : gC p c cX9_noBand s m ([.int a0] : List Value).toArray RX9 D cy ad A := g_start B hB
  have hI := g_first hB
  have hx := hC.1
  have hb := hC.2.1
  have hr := B.returns
  have hlocks := B.notSynchronized
  clear B hB
  have hl := lv_entry ([.int a0]) (n := 1) (Nat.le_of_ble_eq_true rfl)
  rw [lg_entry_eq]
  generalize (lg_sl ([.int a0]) ++ List.replicate (1 - (lg_sl ([.int a0])).length) Slot.unset).toArray = ls at hl ⊢
  have hl : lv_has ls 1 [(0, .int a0)] := hl
  unfold w_X9_noBand at h
  refine lv_iload_n hx hb dX9_noBand_0 rfl (lv_at hl 0 rfl) ?_
  refine lv_iconst (v := 0) hx hb dX9_noBand_1 (by decide) ?_
  refine lv_sipush (v := 299) hx hb dX9_noBand_2 (by decide) ?_
  refine g_backi hI (g_runS (As := [.int a0, .int 0, .int 299]) (rest := []) hC hml hI (c_X9_in l D cy ad A _  _ _ _ _ h) k_X9_in gw_5_97 ⟨rfl, rfl⟩ ⟨Nat.le_of_ble_eq_true rfl, Nat.le_of_ble_eq_true rfl⟩ rfl hl.1 rfl (Nat.le_of_ble_eq_true rfl) dX9_noBand_5 ⟨Nat.le_of_ble_eq_true rfl, Nat.le_of_ble_eq_true rfl⟩) (fun r2 s1 H locs h hI => ?_)
  refine lv_if_ne (tgt := 15) hx hb dX9_noBand_8 (by decide) (fun c3 => ?_) (fun c3 => ?_)
  · have h := h.1 c3
    refine lv_iconst (v := 0) hx hb dX9_noBand_15 (by decide) ?_
    exact g_zret hC hr hlocks rfl hI h dX9_noBand_16
  · have h := h.2 c3
    refine lv_iconst (v := 1) hx hb dX9_noBand_11 (by decide) ?_
    refine lv_goto (tgt := 16) hx hb dX9_noBand_12 (by decide) ?_
    exact g_zret hC hr hlocks rfl hI h dX9_noBand_16

theorem dX9_pass_0 : decode cX9_pass 0 = .ok (.aload_n 0, 1) := by decide +kernel
theorem dX9_pass_1 : decode cX9_pass 1 = .ok (.iconst 0, 1) := by decide +kernel
theorem dX9_pass_2 : decode cX9_pass 2 = .ok (.putfield 3, 3) := by decide +kernel
theorem dX9_pass_5 : decode cX9_pass 5 = .ok (.aload_n 0, 1) := by decide +kernel
theorem dX9_pass_6 : decode cX9_pass 6 = .ok (.iload_n 1, 1) := by decide +kernel
theorem dX9_pass_7 : decode cX9_pass 7 = .ok (.invokestatic 211, 3) := by decide +kernel
theorem dX9_pass_10 : decode cX9_pass 10 = .ok (.iconst 1, 1) := by decide +kernel
theorem dX9_pass_11 : decode cX9_pass 11 = .ok (.invokevirtual 123, 3) := by decide +kernel
theorem dX9_pass_14 : decode cX9_pass 14 = .ok (.ifCond .ne 28, 3) := by decide +kernel
theorem dX9_pass_17 : decode cX9_pass 17 = .ok (.aload_n 0, 1) := by decide +kernel
theorem dX9_pass_18 : decode cX9_pass 18 = .ok (.iload_n 3, 1) := by decide +kernel
theorem dX9_pass_19 : decode cX9_pass 19 = .ok (.iconst 0, 1) := by decide +kernel
theorem dX9_pass_20 : decode cX9_pass 20 = .ok (.aload_n 0, 1) := by decide +kernel
theorem dX9_pass_21 : decode cX9_pass 21 = .ok (.getfield 208, 3) := by decide +kernel
theorem dX9_pass_24 : decode cX9_pass 24 = .ok (.invokestatic 115, 3) := by decide +kernel
theorem dX9_pass_27 : decode cX9_pass 27 = .ok (.ifCond .ne 7, 3) := by decide +kernel
theorem dX9_pass_30 : decode cX9_pass 30 = .ok (.iconst 1, 1) := by decide +kernel
theorem dX9_pass_31 : decode cX9_pass 31 = .ok (.goto 4, 3) := by decide +kernel
theorem dX9_pass_34 : decode cX9_pass 34 = .ok (.iconst 0, 1) := by decide +kernel
theorem dX9_pass_35 : decode cX9_pass 35 = .ok (.iconst 2, 1) := by decide +kernel
theorem dX9_pass_36 : decode cX9_pass 36 = .ok (.invokevirtual 123, 3) := by decide +kernel
theorem dX9_pass_39 : decode cX9_pass 39 = .ok (.ifCond .eq 5, 3) := by decide +kernel
theorem dX9_pass_42 : decode cX9_pass 42 = .ok (.iconst 0, 1) := by decide +kernel
theorem dX9_pass_43 : decode cX9_pass 43 = .ok (.ireturn, 1) := by decide +kernel
theorem dX9_pass_44 : decode cX9_pass 44 = .ok (.aload_n 0, 1) := by decide +kernel
theorem dX9_pass_45 : decode cX9_pass 45 = .ok (.getfield 214, 3) := by decide +kernel
theorem dX9_pass_48 : decode cX9_pass 48 = .ok (.sipush 200, 3) := by decide +kernel
theorem dX9_pass_51 : decode cX9_pass 51 = .ok (.if_icmp .ne 5, 3) := by decide +kernel
theorem dX9_pass_54 : decode cX9_pass 54 = .ok (.iconst (-1), 1) := by decide +kernel
theorem dX9_pass_55 : decode cX9_pass 55 = .ok (.ireturn, 1) := by decide +kernel
theorem dX9_pass_56 : decode cX9_pass 56 = .ok (.aload_n 0, 1) := by decide +kernel
theorem dX9_pass_57 : decode cX9_pass 57 = .ok (.getfield 84, 3) := by decide +kernel
theorem dX9_pass_60 : decode cX9_pass 60 = .ok (.aload_n 0, 1) := by decide +kernel
theorem dX9_pass_61 : decode cX9_pass 61 = .ok (.getfield 214, 3) := by decide +kernel
theorem dX9_pass_64 : decode cX9_pass 64 = .ok (.iload_n 1, 1) := by decide +kernel
theorem dX9_pass_65 : decode cX9_pass 65 = .ok (.iastore, 1) := by decide +kernel
theorem dX9_pass_66 : decode cX9_pass 66 = .ok (.aload_n 0, 1) := by decide +kernel
theorem dX9_pass_67 : decode cX9_pass 67 = .ok (.getfield 87, 3) := by decide +kernel
theorem dX9_pass_70 : decode cX9_pass 70 = .ok (.aload_n 0, 1) := by decide +kernel
theorem dX9_pass_71 : decode cX9_pass 71 = .ok (.getfield 214, 3) := by decide +kernel
theorem dX9_pass_74 : decode cX9_pass 74 = .ok (.iload_n 2, 1) := by decide +kernel
theorem dX9_pass_75 : decode cX9_pass 75 = .ok (.bastore, 1) := by decide +kernel
theorem dX9_pass_76 : decode cX9_pass 76 = .ok (.aload_n 0, 1) := by decide +kernel
theorem dX9_pass_77 : decode cX9_pass 77 = .ok (.getfield 90, 3) := by decide +kernel
theorem dX9_pass_80 : decode cX9_pass 80 = .ok (.aload_n 0, 1) := by decide +kernel
theorem dX9_pass_81 : decode cX9_pass 81 = .ok (.getfield 214, 3) := by decide +kernel
theorem dX9_pass_84 : decode cX9_pass 84 = .ok (.iload_n 3, 1) := by decide +kernel
theorem dX9_pass_85 : decode cX9_pass 85 = .ok (.iastore, 1) := by decide +kernel
theorem dX9_pass_86 : decode cX9_pass 86 = .ok (.aload_n 0, 1) := by decide +kernel
theorem dX9_pass_87 : decode cX9_pass 87 = .ok (.getfield 93, 3) := by decide +kernel
theorem dX9_pass_90 : decode cX9_pass 90 = .ok (.aload_n 0, 1) := by decide +kernel
theorem dX9_pass_91 : decode cX9_pass 91 = .ok (.getfield 214, 3) := by decide +kernel
theorem dX9_pass_94 : decode cX9_pass 94 = .ok (.aload_n 0, 1) := by decide +kernel
theorem dX9_pass_95 : decode cX9_pass 95 = .ok (.getfield 208, 3) := by decide +kernel
theorem dX9_pass_98 : decode cX9_pass 98 = .ok (.iastore, 1) := by decide +kernel
theorem dX9_pass_99 : decode cX9_pass 99 = .ok (.aload_n 0, 1) := by decide +kernel
theorem dX9_pass_100 : decode cX9_pass 100 = .ok (.dup, 1) := by decide +kernel
theorem dX9_pass_101 : decode cX9_pass 101 = .ok (.getfield 214, 3) := by decide +kernel
theorem dX9_pass_104 : decode cX9_pass 104 = .ok (.iconst 1, 1) := by decide +kernel
theorem dX9_pass_105 : decode cX9_pass 105 = .ok (.iadd, 1) := by decide +kernel
theorem dX9_pass_106 : decode cX9_pass 106 = .ok (.putfield 214, 3) := by decide +kernel
theorem dX9_pass_109 : decode cX9_pass 109 = .ok (.aload_n 0, 1) := by decide +kernel
theorem dX9_pass_110 : decode cX9_pass 110 = .ok (.getfield 214, 3) := by decide +kernel
theorem dX9_pass_113 : decode cX9_pass 113 = .ok (.iconst 1, 1) := by decide +kernel
theorem dX9_pass_114 : decode cX9_pass 114 = .ok (.isub, 1) := by decide +kernel
theorem dX9_pass_115 : decode cX9_pass 115 = .ok (.ireturn, 1) := by decide +kernel
def w_X9_pass_35 (Q : Int32 → gS → Prop) (x1 : Int32) (x2 : Int32) (x3 : Int32) (v0 : Int32) (σ : gS) : Prop :=
    w_X9_throwsIf  (fun (r2 : Int32) (s1 : gS) => (r2 = 0 → (¬ (s1 98 0) = 200 → vp_in (s1 98 0) 200 ∧ ∀ s6 : gS, s6 = gu s1 94 (s1 98 0).toNatClampNeg x1 → vp_in (s6 98 0) 200 ∧ ∀ s8 : gS, s8 = gu s6 95 (s6 98 0).toNatClampNeg (vp_nar .boolean x2) → vp_in (s8 98 0) 200 ∧ ∀ s10 : gS, s10 = gu s8 96 (s8 98 0).toNatClampNeg x3 → vp_in (s10 98 0) 200 ∧ ∀ s12 : gS, s12 = gu s10 97 (s10 98 0).toNatClampNeg (s10 93 0) → ∀ s13 : gS, s13 = gu s12 98 0 ((s12 98 0) + 1) → Q ((s13 98 0) - 1) s13) ∧ ((s1 98 0) = 200 → Q (-1) s1)) ∧ (¬ r2 = 0 → Q 0 s1)) σ v0 2
def w_X9_pass (Q : Int32 → gS → Prop) (σ : gS) (a1 : Int32) (a2 : Int32) (a3 : Int32) : Prop :=
    ∀ s14 : gS, s14 = gu σ 63 0 0 → w_X9_noBand  (fun (r16 : Int32) (s15 : gS) => w_X9_throwsIf  (fun (r18 : Int32) (s17 : gS) => (¬ r18 = 0 → Q 0 s17) ∧ (r18 = 0 → w_X9_in  (fun (r21 : Int32) (s20 : gS) => (¬ r21 = 0 → w_X9_pass_35 Q a1 a2 a3 0 s20) ∧ (r21 = 0 → w_X9_pass_35 Q a1 a2 a3 1 s20)) s17 a3 0 (s17 93 0))) s15 r16 1) s14 a1
abbrev ws_X9_pass : List Cond := Cond.code yX9_pass cX9_pass 4 (some .int) :: gG
abbrev rm_X9_pass : Room := { frames := 2, cells := 0, slots := 0, locals := 42 }
theorem k_X9_pass : gCV yX9_pass RX9 cX9_pass 4 (some .int) 3 := ⟨gw_5_228, gw_5_229, gw_1_11, gw_5_230, rfl, by decide +kernel⟩
set_option maxHeartbeats 4000000 in
set_option maxRecDepth 100000 in
theorem c_X9_pass (l : Launch) (D : va_G) (cy : Nat → ClassId) (ad : Nat → Nat) (A : Nat → Prop) (Q : Int32 → gS → Prop) (σ : gS) (a1 : Int32) (a2 : Int32) (a3 : Int32) (h : w_X9_pass Q σ a1 a2 a3) : Met l yX9_pass ws_X9_pass rm_X9_pass (va_Pc [.ref (ad 10), .int a1, .int a2, .int a3] (gB D cy ad A σ)) (va_Qi Q (gB D cy ad A) A) 0 0 A := by
  refine Met.ofW (cc := cX9_pass) (maxL := 4) (ret := (some .int)) (by decide) rfl ?_
  intro p e s m args below meth c s₁ B hml hv
  obtain ⟨rfl, hB⟩ := hv
  have hC : gC p c cX9_pass s m ([.ref (ad 10), .int a1, .int a2, .int a3] : List Value).toArray RX9 D cy ad A := g_start B hB
  have hI := g_first hB
  have hx := hC.1
  have hb := hC.2.1
  have hr := B.returns
  have hlocks := B.notSynchronized
  clear B hB
  have J35 : ∀ (x1 : Int32) (x2 : Int32) (x3 : Int32) (v0 : Int32) (σ : gS) (H : Heap) (locs : List Loc) (ls : Array Slot), w_X9_pass_35 Q x1 x2 x3 v0 σ → gI D cy ad A s.heap σ H locs → lv_has ls 4 [(0, .ref (ad 10)), (1, .int x1), (2, .int x2), (3, .int x3)] → W p l e (headSpec ws_X9_pass rm_X9_pass).room s m ([.ref (ad 10), .int a1, .int a2, .int a3] : List Value).toArray below meth c H locs 0 0 (MQ below (va_Qi Q (gB D cy ad A) A) ([.ref (ad 10), .int a1, .int a2, .int a3] : List Value).toArray s 0 0 A) (F0 m 35 ls [.int v0, .ref (ad 10)]) := by
    intro x1 x2 x3 v0 σ H locs ls h hI hl
    unfold w_X9_pass_35 at h
    refine lv_iconst (v := 2) hx hb dX9_pass_35 (by decide) ?_
    refine g_backi hI (g_runV (As := [.int v0, .int 2]) (rest := []) hC hml hI (c_X9_throwsIf l D cy ad A _  _ _ _ h) k_X9_throwsIf gw_5_100 ⟨rfl, rfl⟩ ⟨Nat.le_of_ble_eq_true rfl, Nat.le_of_ble_eq_true rfl⟩ (grv_10 hC hI) rfl hl.1 rfl (Nat.le_of_ble_eq_true rfl) dX9_pass_36 ⟨Nat.le_of_ble_eq_true rfl, Nat.le_of_ble_eq_true rfl⟩) (fun r2 s1 H locs h hI => ?_)
    refine lv_if_eq (tgt := 44) hx hb dX9_pass_39 (by decide) (fun c3 => ?_) (fun c3 => ?_)
    · have h := h.1 c3
      refine lv_aload_n hx hb dX9_pass_44 rfl (lv_at hl 0 rfl) ?_
      refine gg_X9_passes hC hI gw_4_223 dX9_pass_45 ?_
      refine lv_sipush (v := 200) hx hb dX9_pass_48 (by decide) ?_
      refine lv_icmp_ne (tgt := 56) hx hb dX9_pass_51 (by decide) (fun c4 => ?_) (fun c4 => ?_)
      · have h := h.1 c4
        refine lv_aload_n hx hb dX9_pass_56 rfl (lv_at hl 0 rfl) ?_
        refine gg_X9_pBand hC hI gw_4_219 dX9_pass_57 ?_
        refine lv_aload_n hx hb dX9_pass_60 rfl (lv_at hl 0 rfl) ?_
        refine gg_X9_passes hC hI gw_4_223 dX9_pass_61 ?_
        refine lv_iload_n hx hb dX9_pass_64 rfl (lv_at hl 1 rfl) ?_
        obtain ⟨hi5, h⟩ := h
        refine gs_74 hC hI hi5 dX9_pass_65 (fun s6 H locs es6 hI => ?_)
        have h := h s6 es6
        refine lv_aload_n hx hb dX9_pass_66 rfl (lv_at hl 0 rfl) ?_
        refine gg_X9_pIn hC hI gw_4_220 dX9_pass_67 ?_
        refine lv_aload_n hx hb dX9_pass_70 rfl (lv_at hl 0 rfl) ?_
        refine gg_X9_passes hC hI gw_4_223 dX9_pass_71 ?_
        refine lv_iload_n hx hb dX9_pass_74 rfl (lv_at hl 2 rfl) ?_
        obtain ⟨hi7, h⟩ := h
        refine gs_75 hC hI hi7 dX9_pass_75 (fun s8 H locs es8 hI => ?_)
        have h := h s8 es8
        refine lv_aload_n hx hb dX9_pass_76 rfl (lv_at hl 0 rfl) ?_
        refine gg_X9_pMinute hC hI gw_4_221 dX9_pass_77 ?_
        refine lv_aload_n hx hb dX9_pass_80 rfl (lv_at hl 0 rfl) ?_
        refine gg_X9_passes hC hI gw_4_223 dX9_pass_81 ?_
        refine lv_iload_n hx hb dX9_pass_84 rfl (lv_at hl 3 rfl) ?_
        obtain ⟨hi9, h⟩ := h
        refine gs_76 hC hI hi9 dX9_pass_85 (fun s10 H locs es10 hI => ?_)
        have h := h s10 es10
        refine lv_aload_n hx hb dX9_pass_86 rfl (lv_at hl 0 rfl) ?_
        refine gg_X9_pTold hC hI gw_4_222 dX9_pass_87 ?_
        refine lv_aload_n hx hb dX9_pass_90 rfl (lv_at hl 0 rfl) ?_
        refine gg_X9_passes hC hI gw_4_223 dX9_pass_91 ?_
        refine lv_aload_n hx hb dX9_pass_94 rfl (lv_at hl 0 rfl) ?_
        refine gg_X9_now hC hI gw_4_218 dX9_pass_95 ?_
        obtain ⟨hi11, h⟩ := h
        refine gs_77 hC hI hi11 dX9_pass_98 (fun s12 H locs es12 hI => ?_)
        have h := h s12 es12
        refine lv_aload_n hx hb dX9_pass_99 rfl (lv_at hl 0 rfl) ?_
        refine lv_dup hx hb dX9_pass_100 rfl ?_
        refine gg_X9_passes hC hI gw_4_223 dX9_pass_101 ?_
        refine lv_iconst (v := 1) hx hb dX9_pass_104 (by decide) ?_
        refine lv_iadd hx hb dX9_pass_105 ?_
        refine gp_X9_passes hC hI gw_4_223 dX9_pass_106 (fun s13 H locs es13 hI => ?_)
        have h := h s13 es13
        refine lv_aload_n hx hb dX9_pass_109 rfl (lv_at hl 0 rfl) ?_
        refine gg_X9_passes hC hI gw_4_223 dX9_pass_110 ?_
        refine lv_iconst (v := 1) hx hb dX9_pass_113 (by decide) ?_
        refine lv_isub hx hb dX9_pass_114 ?_
        exact g_iret hC hr hlocks hI h dX9_pass_115
      · have h := h.2 c4
        refine lv_iconst (v := (-1)) hx hb dX9_pass_54 (by decide) ?_
        exact g_iret hC hr hlocks hI h dX9_pass_55
    · have h := h.2 c3
      refine lv_iconst (v := 0) hx hb dX9_pass_42 (by decide) ?_
      exact g_iret hC hr hlocks hI h dX9_pass_43
  have hl := lv_entry ([.ref (ad 10), .int a1, .int a2, .int a3]) (n := 4) (Nat.le_of_ble_eq_true rfl)
  rw [lg_entry_eq]
  generalize (lg_sl ([.ref (ad 10), .int a1, .int a2, .int a3]) ++ List.replicate (4 - (lg_sl ([.ref (ad 10), .int a1, .int a2, .int a3])).length) Slot.unset).toArray = ls at hl ⊢
  have hl : lv_has ls 4 [(0, .ref (ad 10)), (1, .int a1), (2, .int a2), (3, .int a3)] := hl
  unfold w_X9_pass at h
  refine lv_aload_n hx hb dX9_pass_0 rfl (lv_at hl 0 rfl) ?_
  refine lv_iconst (v := 0) hx hb dX9_pass_1 (by decide) ?_
  refine gp_X9_thrown hC hI gw_4_188 dX9_pass_2 (fun s14 H locs es14 hI => ?_)
  have h := h s14 es14
  refine lv_aload_n hx hb dX9_pass_5 rfl (lv_at hl 0 rfl) ?_
  refine lv_iload_n hx hb dX9_pass_6 rfl (lv_at hl 1 rfl) ?_
  refine g_backi hI (g_runS (As := [.int a1]) (rest := [.ref (ad 10)]) hC hml hI (c_X9_noBand l D cy ad A _  _ _ h) k_X9_noBand gw_5_231 ⟨rfl, rfl⟩ ⟨Nat.le_of_ble_eq_true rfl, Nat.le_of_ble_eq_true rfl⟩ rfl hl.1 rfl (Nat.le_of_ble_eq_true rfl) dX9_pass_7 ⟨Nat.le_of_ble_eq_true rfl, Nat.le_of_ble_eq_true rfl⟩) (fun r16 s15 H locs h hI => ?_)
  refine lv_iconst (v := 1) hx hb dX9_pass_10 (by decide) ?_
  refine g_backi hI (g_runV (As := [.int r16, .int 1]) (rest := []) hC hml hI (c_X9_throwsIf l D cy ad A _  _ _ _ h) k_X9_throwsIf gw_5_100 ⟨rfl, rfl⟩ ⟨Nat.le_of_ble_eq_true rfl, Nat.le_of_ble_eq_true rfl⟩ (grv_10 hC hI) rfl hl.1 rfl (Nat.le_of_ble_eq_true rfl) dX9_pass_11 ⟨Nat.le_of_ble_eq_true rfl, Nat.le_of_ble_eq_true rfl⟩) (fun r18 s17 H locs h hI => ?_)
  refine lv_if_ne (tgt := 42) hx hb dX9_pass_14 (by decide) (fun c19 => ?_) (fun c19 => ?_)
  · have h := h.1 c19
    refine lv_iconst (v := 0) hx hb dX9_pass_42 (by decide) ?_
    exact g_iret hC hr hlocks hI h dX9_pass_43
  · have h := h.2 c19
    refine lv_aload_n hx hb dX9_pass_17 rfl (lv_at hl 0 rfl) ?_
    refine lv_iload_n hx hb dX9_pass_18 rfl (lv_at hl 3 rfl) ?_
    refine lv_iconst (v := 0) hx hb dX9_pass_19 (by decide) ?_
    refine lv_aload_n hx hb dX9_pass_20 rfl (lv_at hl 0 rfl) ?_
    refine gg_X9_now hC hI gw_4_218 dX9_pass_21 ?_
    refine g_backi hI (g_runS (As := [.int a3, .int 0, .int (s17 93 0)]) (rest := [.ref (ad 10)]) hC hml hI (c_X9_in l D cy ad A _  _ _ _ _ h) k_X9_in gw_5_97 ⟨rfl, rfl⟩ ⟨Nat.le_of_ble_eq_true rfl, Nat.le_of_ble_eq_true rfl⟩ rfl hl.1 rfl (Nat.le_of_ble_eq_true rfl) dX9_pass_24 ⟨Nat.le_of_ble_eq_true rfl, Nat.le_of_ble_eq_true rfl⟩) (fun r21 s20 H locs h hI => ?_)
    refine lv_if_ne (tgt := 34) hx hb dX9_pass_27 (by decide) (fun c22 => ?_) (fun c22 => ?_)
    · have h := h.1 c22
      refine lv_iconst (v := 0) hx hb dX9_pass_34 (by decide) ?_
      exact J35 _ _ _ _ _ _ _ _ h hI (lv_sub hl [0, 1, 2, 3] rfl)
    · have h := h.2 c22
      refine lv_iconst (v := 1) hx hb dX9_pass_30 (by decide) ?_
      refine lv_goto (tgt := 35) hx hb dX9_pass_31 (by decide) ?_
      exact J35 _ _ _ _ _ _ _ _ h hI (lv_sub hl [0, 1, 2, 3] rfl)

theorem dX9_lastOf_0 : decode cX9_lastOf 0 = .ok (.iconst (-1), 1) := by decide +kernel
theorem dX9_lastOf_1 : decode cX9_lastOf 1 = .ok (.istore 5, 2) := by decide +kernel
theorem dX9_lastOf_3 : decode cX9_lastOf 3 = .ok (.iconst 0, 1) := by decide +kernel
theorem dX9_lastOf_4 : decode cX9_lastOf 4 = .ok (.istore 6, 2) := by decide +kernel
theorem dX9_lastOf_6 : decode cX9_lastOf 6 = .ok (.iload 6, 2) := by decide +kernel
theorem dX9_lastOf_8 : decode cX9_lastOf 8 = .ok (.aload_n 0, 1) := by decide +kernel
theorem dX9_lastOf_9 : decode cX9_lastOf 9 = .ok (.getfield 214, 3) := by decide +kernel
theorem dX9_lastOf_12 : decode cX9_lastOf 12 = .ok (.if_icmp .ge 120, 3) := by decide +kernel
theorem dX9_lastOf_15 : decode cX9_lastOf 15 = .ok (.aload_n 0, 1) := by decide +kernel
theorem dX9_lastOf_16 : decode cX9_lastOf 16 = .ok (.getfield 84, 3) := by decide +kernel
theorem dX9_lastOf_19 : decode cX9_lastOf 19 = .ok (.iload 6, 2) := by decide +kernel
theorem dX9_lastOf_21 : decode cX9_lastOf 21 = .ok (.iaload, 1) := by decide +kernel
theorem dX9_lastOf_22 : decode cX9_lastOf 22 = .ok (.iload_n 1, 1) := by decide +kernel
theorem dX9_lastOf_23 : decode cX9_lastOf 23 = .ok (.if_icmp .ne 103, 3) := by decide +kernel
theorem dX9_lastOf_26 : decode cX9_lastOf 26 = .ok (.aload_n 0, 1) := by decide +kernel
theorem dX9_lastOf_27 : decode cX9_lastOf 27 = .ok (.getfield 93, 3) := by decide +kernel
theorem dX9_lastOf_30 : decode cX9_lastOf 30 = .ok (.iload 6, 2) := by decide +kernel
theorem dX9_lastOf_32 : decode cX9_lastOf 32 = .ok (.iaload, 1) := by decide +kernel
theorem dX9_lastOf_33 : decode cX9_lastOf 33 = .ok (.iload_n 3, 1) := by decide +kernel
theorem dX9_lastOf_34 : decode cX9_lastOf 34 = .ok (.if_icmp .gt 92, 3) := by decide +kernel
theorem dX9_lastOf_37 : decode cX9_lastOf 37 = .ok (.aload_n 0, 1) := by decide +kernel
theorem dX9_lastOf_38 : decode cX9_lastOf 38 = .ok (.getfield 90, 3) := by decide +kernel
theorem dX9_lastOf_41 : decode cX9_lastOf 41 = .ok (.iload 6, 2) := by decide +kernel
theorem dX9_lastOf_43 : decode cX9_lastOf 43 = .ok (.iaload, 1) := by decide +kernel
theorem dX9_lastOf_44 : decode cX9_lastOf 44 = .ok (.iload_n 2, 1) := by decide +kernel
theorem dX9_lastOf_45 : decode cX9_lastOf 45 = .ok (.if_icmp .le 6, 3) := by decide +kernel
theorem dX9_lastOf_48 : decode cX9_lastOf 48 = .ok (.goto 78, 3) := by decide +kernel
theorem dX9_lastOf_51 : decode cX9_lastOf 51 = .ok (.iload 4, 2) := by decide +kernel
theorem dX9_lastOf_53 : decode cX9_lastOf 53 = .ok (.ifCond .lt 47, 3) := by decide +kernel
theorem dX9_lastOf_56 : decode cX9_lastOf 56 = .ok (.aload_n 0, 1) := by decide +kernel
theorem dX9_lastOf_57 : decode cX9_lastOf 57 = .ok (.getfield 90, 3) := by decide +kernel
theorem dX9_lastOf_60 : decode cX9_lastOf 60 = .ok (.iload 6, 2) := by decide +kernel
theorem dX9_lastOf_62 : decode cX9_lastOf 62 = .ok (.iaload, 1) := by decide +kernel
theorem dX9_lastOf_63 : decode cX9_lastOf 63 = .ok (.aload_n 0, 1) := by decide +kernel
theorem dX9_lastOf_64 : decode cX9_lastOf 64 = .ok (.getfield 90, 3) := by decide +kernel
theorem dX9_lastOf_67 : decode cX9_lastOf 67 = .ok (.iload 4, 2) := by decide +kernel
theorem dX9_lastOf_69 : decode cX9_lastOf 69 = .ok (.iaload, 1) := by decide +kernel
theorem dX9_lastOf_70 : decode cX9_lastOf 70 = .ok (.if_icmp .gt 56, 3) := by decide +kernel
theorem dX9_lastOf_73 : decode cX9_lastOf 73 = .ok (.aload_n 0, 1) := by decide +kernel
theorem dX9_lastOf_74 : decode cX9_lastOf 74 = .ok (.getfield 90, 3) := by decide +kernel
theorem dX9_lastOf_77 : decode cX9_lastOf 77 = .ok (.iload 6, 2) := by decide +kernel
theorem dX9_lastOf_79 : decode cX9_lastOf 79 = .ok (.iaload, 1) := by decide +kernel
theorem dX9_lastOf_80 : decode cX9_lastOf 80 = .ok (.aload_n 0, 1) := by decide +kernel
theorem dX9_lastOf_81 : decode cX9_lastOf 81 = .ok (.getfield 90, 3) := by decide +kernel
theorem dX9_lastOf_84 : decode cX9_lastOf 84 = .ok (.iload 4, 2) := by decide +kernel
theorem dX9_lastOf_86 : decode cX9_lastOf 86 = .ok (.iaload, 1) := by decide +kernel
theorem dX9_lastOf_87 : decode cX9_lastOf 87 = .ok (.if_icmp .ne 13, 3) := by decide +kernel
theorem dX9_lastOf_90 : decode cX9_lastOf 90 = .ok (.iload 6, 2) := by decide +kernel
theorem dX9_lastOf_92 : decode cX9_lastOf 92 = .ok (.iload 4, 2) := by decide +kernel
theorem dX9_lastOf_94 : decode cX9_lastOf 94 = .ok (.if_icmp .lt 6, 3) := by decide +kernel
theorem dX9_lastOf_97 : decode cX9_lastOf 97 = .ok (.goto 29, 3) := by decide +kernel
theorem dX9_lastOf_100 : decode cX9_lastOf 100 = .ok (.iload 5, 2) := by decide +kernel
theorem dX9_lastOf_102 : decode cX9_lastOf 102 = .ok (.ifCond .lt 20, 3) := by decide +kernel
theorem dX9_lastOf_105 : decode cX9_lastOf 105 = .ok (.aload_n 0, 1) := by decide +kernel
theorem dX9_lastOf_106 : decode cX9_lastOf 106 = .ok (.getfield 90, 3) := by decide +kernel
theorem dX9_lastOf_109 : decode cX9_lastOf 109 = .ok (.iload 6, 2) := by decide +kernel
theorem dX9_lastOf_111 : decode cX9_lastOf 111 = .ok (.iaload, 1) := by decide +kernel
theorem dX9_lastOf_112 : decode cX9_lastOf 112 = .ok (.aload_n 0, 1) := by decide +kernel
theorem dX9_lastOf_113 : decode cX9_lastOf 113 = .ok (.getfield 90, 3) := by decide +kernel
theorem dX9_lastOf_116 : decode cX9_lastOf 116 = .ok (.iload 5, 2) := by decide +kernel
theorem dX9_lastOf_118 : decode cX9_lastOf 118 = .ok (.iaload, 1) := by decide +kernel
theorem dX9_lastOf_119 : decode cX9_lastOf 119 = .ok (.if_icmp .lt 7, 3) := by decide +kernel
theorem dX9_lastOf_122 : decode cX9_lastOf 122 = .ok (.iload 6, 2) := by decide +kernel
theorem dX9_lastOf_124 : decode cX9_lastOf 124 = .ok (.istore 5, 2) := by decide +kernel
theorem dX9_lastOf_126 : decode cX9_lastOf 126 = .ok (.iinc 6 1, 3) := by decide +kernel
theorem dX9_lastOf_129 : decode cX9_lastOf 129 = .ok (.goto (-123), 3) := by decide +kernel
theorem dX9_lastOf_132 : decode cX9_lastOf 132 = .ok (.iload 5, 2) := by decide +kernel
theorem dX9_lastOf_134 : decode cX9_lastOf 134 = .ok (.ireturn, 1) := by decide +kernel
def w_X9_lastOf_122 (Q : Int32 → gS → Prop) (k6 : Int32 → Int32 → Int32 → Int32 → Int32 → Int32 → gS → Prop) (x1 : Int32) (x2 : Int32) (x3 : Int32) (x4 : Int32) (x6 : Int32) (σ : gS) : Prop :=
    ∀ y10 : Int32, y10 = x6 + 1 → k6 x1 x2 x3 x4 x6 y10 σ
def w_X9_lastOf_100 (Q : Int32 → gS → Prop) (k6 : Int32 → Int32 → Int32 → Int32 → Int32 → Int32 → gS → Prop) (x1 : Int32) (x2 : Int32) (x3 : Int32) (x4 : Int32) (x5 : Int32) (x6 : Int32) (σ : gS) : Prop :=
    (x5 < 0 → w_X9_lastOf_122 Q k6 x1 x2 x3 x4 x6 σ) ∧ (¬ x5 < 0 → vp_in x6 200 ∧ vp_in x5 200 ∧ ((σ 96 x6.toNatClampNeg) < (σ 96 x5.toNatClampNeg) → ∀ y15 : Int32, y15 = x6 + 1 → k6 x1 x2 x3 x4 x5 y15 σ) ∧ (¬ (σ 96 x6.toNatClampNeg) < (σ 96 x5.toNatClampNeg) → w_X9_lastOf_122 Q k6 x1 x2 x3 x4 x6 σ))
def w_X9_lastOf_6 (Q : Int32 → gS → Prop) : Nat → Int32 → Int32 → Int32 → Int32 → Int32 → Int32 → gS → Prop
  | 0, _, _, _, _, _, _, _ => False
  | n6 + 1, x1, x2, x3, x4, x5, x6, σ =>
    ((σ 98 0) ≤ x6 → Q x5 σ) ∧ (¬ (σ 98 0) ≤ x6 → vp_in x6 200 ∧ (¬ (σ 94 x6.toNatClampNeg) = x1 → ∀ y19 : Int32, y19 = x6 + 1 → w_X9_lastOf_6 Q n6 x1 x2 x3 x4 x5 y19 σ) ∧ ((σ 94 x6.toNatClampNeg) = x1 → vp_in x6 200 ∧ (x3 < (σ 97 x6.toNatClampNeg) → ∀ y22 : Int32, y22 = x6 + 1 → w_X9_lastOf_6 Q n6 x1 x2 x3 x4 x5 y22 σ) ∧ (¬ x3 < (σ 97 x6.toNatClampNeg) → vp_in x6 200 ∧ ((σ 96 x6.toNatClampNeg) ≤ x2 → (x4 < 0 → w_X9_lastOf_100 Q (w_X9_lastOf_6 Q n6) x1 x2 x3 x4 x5 x6 σ) ∧ (¬ x4 < 0 → vp_in x6 200 ∧ vp_in x4 200 ∧ ((σ 96 x4.toNatClampNeg) < (σ 96 x6.toNatClampNeg) → ∀ y29 : Int32, y29 = x6 + 1 → w_X9_lastOf_6 Q n6 x1 x2 x3 x4 x5 y29 σ) ∧ (¬ (σ 96 x4.toNatClampNeg) < (σ 96 x6.toNatClampNeg) → vp_in x6 200 ∧ vp_in x4 200 ∧ (¬ (σ 96 x6.toNatClampNeg) = (σ 96 x4.toNatClampNeg) → w_X9_lastOf_100 Q (w_X9_lastOf_6 Q n6) x1 x2 x3 x4 x5 x6 σ) ∧ ((σ 96 x6.toNatClampNeg) = (σ 96 x4.toNatClampNeg) → (x6 < x4 → w_X9_lastOf_100 Q (w_X9_lastOf_6 Q n6) x1 x2 x3 x4 x5 x6 σ) ∧ (¬ x6 < x4 → ∀ y34 : Int32, y34 = x6 + 1 → w_X9_lastOf_6 Q n6 x1 x2 x3 x4 x5 y34 σ))))) ∧ (¬ (σ 96 x6.toNatClampNeg) ≤ x2 → ∀ y35 : Int32, y35 = x6 + 1 → w_X9_lastOf_6 Q n6 x1 x2 x3 x4 x5 y35 σ))))
def w_X9_lastOf (Q : Int32 → gS → Prop) (σ : gS) (a1 : Int32) (a2 : Int32) (a3 : Int32) (a4 : Int32) : Prop :=
    ∃ n6, w_X9_lastOf_6 Q n6 a1 a2 a3 a4 (-1) 0 σ
abbrev ws_X9_lastOf : List Cond := Cond.code yX9_lastOf cX9_lastOf 7 (some .int) :: gG
abbrev rm_X9_lastOf : Room := { frames := 0, cells := 0, slots := 0, locals := 0 }
theorem k_X9_lastOf : gCV yX9_lastOf RX9 cX9_lastOf 7 (some .int) 4 := ⟨gw_6_4, gwp_50, gw_1_11, gw_6_5, rfl, by decide +kernel⟩
set_option maxHeartbeats 4000000 in
set_option maxRecDepth 100000 in
theorem c_X9_lastOf (l : Launch) (D : va_G) (cy : Nat → ClassId) (ad : Nat → Nat) (A : Nat → Prop) (Q : Int32 → gS → Prop) (σ : gS) (a1 : Int32) (a2 : Int32) (a3 : Int32) (a4 : Int32) (h : w_X9_lastOf Q σ a1 a2 a3 a4) : Met l yX9_lastOf ws_X9_lastOf rm_X9_lastOf (va_Pc [.ref (ad 10), .int a1, .int a2, .int a3, .int a4] (gB D cy ad A σ)) (va_Qi Q (gB D cy ad A) A) 0 0 A := by
  refine Met.ofW (cc := cX9_lastOf) (maxL := 7) (ret := (some .int)) (by decide) rfl ?_
  intro p e s m args below meth c s₁ B hml hv
  obtain ⟨rfl, hB⟩ := hv
  have hC : gC p c cX9_lastOf s m ([.ref (ad 10), .int a1, .int a2, .int a3, .int a4] : List Value).toArray RX9 D cy ad A := g_start B hB
  have hI := g_first hB
  have hx := hC.1
  have hb := hC.2.1
  have hr := B.returns
  have hlocks := B.notSynchronized
  clear B hB
  have J6 : ∀ (n6 : Nat) (x1 : Int32) (x2 : Int32) (x3 : Int32) (x4 : Int32) (x5 : Int32) (x6 : Int32) (σ : gS) (H : Heap) (locs : List Loc) (ls : Array Slot), w_X9_lastOf_6 Q n6 x1 x2 x3 x4 x5 x6 σ → gI D cy ad A s.heap σ H locs → lv_has ls 7 [(0, .ref (ad 10)), (1, .int x1), (2, .int x2), (3, .int x3), (4, .int x4), (5, .int x5), (6, .int x6)] → W p l e (headSpec ws_X9_lastOf rm_X9_lastOf).room s m ([.ref (ad 10), .int a1, .int a2, .int a3, .int a4] : List Value).toArray below meth c H locs 0 0 (MQ below (va_Qi Q (gB D cy ad A) A) ([.ref (ad 10), .int a1, .int a2, .int a3, .int a4] : List Value).toArray s 0 0 A) (F0 m 6 ls []) := by
    intro n6
    induction n6 with
    | zero => intro x1 x2 x3 x4 x5 x6 σ H locs ls h; exact absurd h (fun h => h)
    | succ n6 ih6 =>
      have J122 : ∀ (x1 : Int32) (x2 : Int32) (x3 : Int32) (x4 : Int32) (x6 : Int32) (σ : gS) (H : Heap) (locs : List Loc) (ls : Array Slot), w_X9_lastOf_122 Q (w_X9_lastOf_6 Q n6) x1 x2 x3 x4 x6 σ → gI D cy ad A s.heap σ H locs → lv_has ls 7 [(0, .ref (ad 10)), (1, .int x1), (2, .int x2), (3, .int x3), (4, .int x4), (6, .int x6)] → W p l e (headSpec ws_X9_lastOf rm_X9_lastOf).room s m ([.ref (ad 10), .int a1, .int a2, .int a3, .int a4] : List Value).toArray below meth c H locs 0 0 (MQ below (va_Qi Q (gB D cy ad A) A) ([.ref (ad 10), .int a1, .int a2, .int a3, .int a4] : List Value).toArray s 0 0 A) (F0 m 122 ls []) := by
        intro x1 x2 x3 x4 x6 σ H locs ls h hI hl
        unfold w_X9_lastOf_122 at h
        refine lv_iload hx hb dX9_lastOf_122 (lv_at hl 5 rfl) ?_
        refine lv_istore (lv' := [(5, .int x6), (0, .ref (ad 10)), (1, .int x1), (2, .int x2), (3, .int x3), (4, .int x4), (6, .int x6)]) hx hb dX9_lastOf_124 hl (by decide) rfl (fun ls hl => ?_)
        obtain ⟨y10, ey10⟩ : ∃ y : Int32, y = x6 + 1 := ⟨_, rfl⟩
        have h := h y10 ey10
        refine lv_iinc (v := y10) (lv' := [(6, .int y10), (5, .int x6), (0, .ref (ad 10)), (1, .int x1), (2, .int x2), (3, .int x3), (4, .int x4)]) hx hb dX9_lastOf_126 hl (k := 6) rfl (by rw [ey10]; rfl) (by decide) rfl (fun ls hl => ?_)
        refine lv_goto (tgt := 6) hx hb dX9_lastOf_129 (by decide) ?_
        exact ih6 _ _ _ _ _ _ _ _ _ _ h hI (lv_sub hl [2, 3, 4, 5, 6, 1, 0] rfl)
      have J100 : ∀ (x1 : Int32) (x2 : Int32) (x3 : Int32) (x4 : Int32) (x5 : Int32) (x6 : Int32) (σ : gS) (H : Heap) (locs : List Loc) (ls : Array Slot), w_X9_lastOf_100 Q (w_X9_lastOf_6 Q n6) x1 x2 x3 x4 x5 x6 σ → gI D cy ad A s.heap σ H locs → lv_has ls 7 [(0, .ref (ad 10)), (1, .int x1), (2, .int x2), (3, .int x3), (4, .int x4), (5, .int x5), (6, .int x6)] → W p l e (headSpec ws_X9_lastOf rm_X9_lastOf).room s m ([.ref (ad 10), .int a1, .int a2, .int a3, .int a4] : List Value).toArray below meth c H locs 0 0 (MQ below (va_Qi Q (gB D cy ad A) A) ([.ref (ad 10), .int a1, .int a2, .int a3, .int a4] : List Value).toArray s 0 0 A) (F0 m 100 ls []) := by
        intro x1 x2 x3 x4 x5 x6 σ H locs ls h hI hl
        unfold w_X9_lastOf_100 at h
        refine lv_iload hx hb dX9_lastOf_100 (lv_at hl 5 rfl) ?_
        refine lv_if_lt (tgt := 122) hx hb dX9_lastOf_102 (by decide) (fun c11 => ?_) (fun c11 => ?_)
        · have h := h.1 c11
          exact J122 _ _ _ _ _ _ _ _ _ h hI (lv_sub hl [0, 1, 2, 3, 4, 6] rfl)
        · have h := h.2 c11
          refine lv_aload_n hx hb dX9_lastOf_105 rfl (lv_at hl 0 rfl) ?_
          refine gg_X9_pMinute hC hI gw_4_221 dX9_lastOf_106 ?_
          refine lv_iload hx hb dX9_lastOf_109 (lv_at hl 6 rfl) ?_
          obtain ⟨hi12, h⟩ := h
          refine ga_76 hC hI hi12 dX9_lastOf_111 ?_
          refine lv_aload_n hx hb dX9_lastOf_112 rfl (lv_at hl 0 rfl) ?_
          refine gg_X9_pMinute hC hI gw_4_221 dX9_lastOf_113 ?_
          refine lv_iload hx hb dX9_lastOf_116 (lv_at hl 5 rfl) ?_
          obtain ⟨hi13, h⟩ := h
          refine ga_76 hC hI hi13 dX9_lastOf_118 ?_
          refine lv_icmp_lt (tgt := 126) hx hb dX9_lastOf_119 (by decide) (fun c14 => ?_) (fun c14 => ?_)
          · have h := h.1 c14
            obtain ⟨y15, ey15⟩ : ∃ y : Int32, y = x6 + 1 := ⟨_, rfl⟩
            have h := h y15 ey15
            refine lv_iinc (v := y15) (lv' := [(6, .int y15), (0, .ref (ad 10)), (1, .int x1), (2, .int x2), (3, .int x3), (4, .int x4), (5, .int x5)]) hx hb dX9_lastOf_126 hl (k := 6) rfl (by rw [ey15]; rfl) (by decide) rfl (fun ls hl => ?_)
            refine lv_goto (tgt := 6) hx hb dX9_lastOf_129 (by decide) ?_
            exact ih6 _ _ _ _ _ _ _ _ _ _ h hI (lv_sub hl [1, 2, 3, 4, 5, 6, 0] rfl)
          · have h := h.2 c14
            exact J122 _ _ _ _ _ _ _ _ _ h hI (lv_sub hl [0, 1, 2, 3, 4, 6] rfl)
      intro x1 x2 x3 x4 x5 x6 σ H locs ls h hI hl
      unfold w_X9_lastOf_6 at h
      refine lv_iload hx hb dX9_lastOf_6 (lv_at hl 6 rfl) ?_
      refine lv_aload_n hx hb dX9_lastOf_8 rfl (lv_at hl 0 rfl) ?_
      refine gg_X9_passes hC hI gw_4_223 dX9_lastOf_9 ?_
      refine lv_icmp_ge (tgt := 132) hx hb dX9_lastOf_12 (by decide) (fun c16 => ?_) (fun c16 => ?_)
      · have h := h.1 c16
        refine lv_iload hx hb dX9_lastOf_132 (lv_at hl 5 rfl) ?_
        exact g_iret hC hr hlocks hI h dX9_lastOf_134
      · have h := h.2 c16
        refine lv_aload_n hx hb dX9_lastOf_15 rfl (lv_at hl 0 rfl) ?_
        refine gg_X9_pBand hC hI gw_4_219 dX9_lastOf_16 ?_
        refine lv_iload hx hb dX9_lastOf_19 (lv_at hl 6 rfl) ?_
        obtain ⟨hi17, h⟩ := h
        refine ga_74 hC hI hi17 dX9_lastOf_21 ?_
        refine lv_iload_n hx hb dX9_lastOf_22 rfl (lv_at hl 1 rfl) ?_
        refine lv_icmp_ne (tgt := 126) hx hb dX9_lastOf_23 (by decide) (fun c18 => ?_) (fun c18 => ?_)
        · have h := h.1 c18
          obtain ⟨y19, ey19⟩ : ∃ y : Int32, y = x6 + 1 := ⟨_, rfl⟩
          have h := h y19 ey19
          refine lv_iinc (v := y19) (lv' := [(6, .int y19), (0, .ref (ad 10)), (1, .int x1), (2, .int x2), (3, .int x3), (4, .int x4), (5, .int x5)]) hx hb dX9_lastOf_126 hl (k := 6) rfl (by rw [ey19]; rfl) (by decide) rfl (fun ls hl => ?_)
          refine lv_goto (tgt := 6) hx hb dX9_lastOf_129 (by decide) ?_
          exact ih6 _ _ _ _ _ _ _ _ _ _ h hI (lv_sub hl [1, 2, 3, 4, 5, 6, 0] rfl)
        · have h := h.2 c18
          refine lv_aload_n hx hb dX9_lastOf_26 rfl (lv_at hl 0 rfl) ?_
          refine gg_X9_pTold hC hI gw_4_222 dX9_lastOf_27 ?_
          refine lv_iload hx hb dX9_lastOf_30 (lv_at hl 6 rfl) ?_
          obtain ⟨hi20, h⟩ := h
          refine ga_77 hC hI hi20 dX9_lastOf_32 ?_
          refine lv_iload_n hx hb dX9_lastOf_33 rfl (lv_at hl 3 rfl) ?_
          refine lv_icmp_gt (tgt := 126) hx hb dX9_lastOf_34 (by decide) (fun c21 => ?_) (fun c21 => ?_)
          · have h := h.1 c21
            obtain ⟨y22, ey22⟩ : ∃ y : Int32, y = x6 + 1 := ⟨_, rfl⟩
            have h := h y22 ey22
            refine lv_iinc (v := y22) (lv' := [(6, .int y22), (0, .ref (ad 10)), (1, .int x1), (2, .int x2), (3, .int x3), (4, .int x4), (5, .int x5)]) hx hb dX9_lastOf_126 hl (k := 6) rfl (by rw [ey22]; rfl) (by decide) rfl (fun ls hl => ?_)
            refine lv_goto (tgt := 6) hx hb dX9_lastOf_129 (by decide) ?_
            exact ih6 _ _ _ _ _ _ _ _ _ _ h hI (lv_sub hl [1, 2, 3, 4, 5, 6, 0] rfl)
          · have h := h.2 c21
            refine lv_aload_n hx hb dX9_lastOf_37 rfl (lv_at hl 0 rfl) ?_
            refine gg_X9_pMinute hC hI gw_4_221 dX9_lastOf_38 ?_
            refine lv_iload hx hb dX9_lastOf_41 (lv_at hl 6 rfl) ?_
            obtain ⟨hi23, h⟩ := h
            refine ga_76 hC hI hi23 dX9_lastOf_43 ?_
            refine lv_iload_n hx hb dX9_lastOf_44 rfl (lv_at hl 2 rfl) ?_
            refine lv_icmp_le (tgt := 51) hx hb dX9_lastOf_45 (by decide) (fun c24 => ?_) (fun c24 => ?_)
            · have h := h.1 c24
              refine lv_iload hx hb dX9_lastOf_51 (lv_at hl 4 rfl) ?_
              refine lv_if_lt (tgt := 100) hx hb dX9_lastOf_53 (by decide) (fun c25 => ?_) (fun c25 => ?_)
              · have h := h.1 c25
                exact J100 _ _ _ _ _ _ _ _ _ _ h hI (lv_sub hl [0, 1, 2, 3, 4, 5, 6] rfl)
              · have h := h.2 c25
                refine lv_aload_n hx hb dX9_lastOf_56 rfl (lv_at hl 0 rfl) ?_
                refine gg_X9_pMinute hC hI gw_4_221 dX9_lastOf_57 ?_
                refine lv_iload hx hb dX9_lastOf_60 (lv_at hl 6 rfl) ?_
                obtain ⟨hi26, h⟩ := h
                refine ga_76 hC hI hi26 dX9_lastOf_62 ?_
                refine lv_aload_n hx hb dX9_lastOf_63 rfl (lv_at hl 0 rfl) ?_
                refine gg_X9_pMinute hC hI gw_4_221 dX9_lastOf_64 ?_
                refine lv_iload hx hb dX9_lastOf_67 (lv_at hl 4 rfl) ?_
                obtain ⟨hi27, h⟩ := h
                refine ga_76 hC hI hi27 dX9_lastOf_69 ?_
                refine lv_icmp_gt (tgt := 126) hx hb dX9_lastOf_70 (by decide) (fun c28 => ?_) (fun c28 => ?_)
                · have h := h.1 c28
                  obtain ⟨y29, ey29⟩ : ∃ y : Int32, y = x6 + 1 := ⟨_, rfl⟩
                  have h := h y29 ey29
                  refine lv_iinc (v := y29) (lv' := [(6, .int y29), (0, .ref (ad 10)), (1, .int x1), (2, .int x2), (3, .int x3), (4, .int x4), (5, .int x5)]) hx hb dX9_lastOf_126 hl (k := 6) rfl (by rw [ey29]; rfl) (by decide) rfl (fun ls hl => ?_)
                  refine lv_goto (tgt := 6) hx hb dX9_lastOf_129 (by decide) ?_
                  exact ih6 _ _ _ _ _ _ _ _ _ _ h hI (lv_sub hl [1, 2, 3, 4, 5, 6, 0] rfl)
                · have h := h.2 c28
                  refine lv_aload_n hx hb dX9_lastOf_73 rfl (lv_at hl 0 rfl) ?_
                  refine gg_X9_pMinute hC hI gw_4_221 dX9_lastOf_74 ?_
                  refine lv_iload hx hb dX9_lastOf_77 (lv_at hl 6 rfl) ?_
                  obtain ⟨hi30, h⟩ := h
                  refine ga_76 hC hI hi30 dX9_lastOf_79 ?_
                  refine lv_aload_n hx hb dX9_lastOf_80 rfl (lv_at hl 0 rfl) ?_
                  refine gg_X9_pMinute hC hI gw_4_221 dX9_lastOf_81 ?_
                  refine lv_iload hx hb dX9_lastOf_84 (lv_at hl 4 rfl) ?_
                  obtain ⟨hi31, h⟩ := h
                  refine ga_76 hC hI hi31 dX9_lastOf_86 ?_
                  refine lv_icmp_ne (tgt := 100) hx hb dX9_lastOf_87 (by decide) (fun c32 => ?_) (fun c32 => ?_)
                  · have h := h.1 c32
                    exact J100 _ _ _ _ _ _ _ _ _ _ h hI (lv_sub hl [0, 1, 2, 3, 4, 5, 6] rfl)
                  · have h := h.2 c32
                    refine lv_iload hx hb dX9_lastOf_90 (lv_at hl 6 rfl) ?_
                    refine lv_iload hx hb dX9_lastOf_92 (lv_at hl 4 rfl) ?_
                    refine lv_icmp_lt (tgt := 100) hx hb dX9_lastOf_94 (by decide) (fun c33 => ?_) (fun c33 => ?_)
                    · have h := h.1 c33
                      exact J100 _ _ _ _ _ _ _ _ _ _ h hI (lv_sub hl [0, 1, 2, 3, 4, 5, 6] rfl)
                    · have h := h.2 c33
                      refine lv_goto (tgt := 126) hx hb dX9_lastOf_97 (by decide) ?_
                      obtain ⟨y34, ey34⟩ : ∃ y : Int32, y = x6 + 1 := ⟨_, rfl⟩
                      have h := h y34 ey34
                      refine lv_iinc (v := y34) (lv' := [(6, .int y34), (0, .ref (ad 10)), (1, .int x1), (2, .int x2), (3, .int x3), (4, .int x4), (5, .int x5)]) hx hb dX9_lastOf_126 hl (k := 6) rfl (by rw [ey34]; rfl) (by decide) rfl (fun ls hl => ?_)
                      refine lv_goto (tgt := 6) hx hb dX9_lastOf_129 (by decide) ?_
                      exact ih6 _ _ _ _ _ _ _ _ _ _ h hI (lv_sub hl [1, 2, 3, 4, 5, 6, 0] rfl)
            · have h := h.2 c24
              refine lv_goto (tgt := 126) hx hb dX9_lastOf_48 (by decide) ?_
              obtain ⟨y35, ey35⟩ : ∃ y : Int32, y = x6 + 1 := ⟨_, rfl⟩
              have h := h y35 ey35
              refine lv_iinc (v := y35) (lv' := [(6, .int y35), (0, .ref (ad 10)), (1, .int x1), (2, .int x2), (3, .int x3), (4, .int x4), (5, .int x5)]) hx hb dX9_lastOf_126 hl (k := 6) rfl (by rw [ey35]; rfl) (by decide) rfl (fun ls hl => ?_)
              refine lv_goto (tgt := 6) hx hb dX9_lastOf_129 (by decide) ?_
              exact ih6 _ _ _ _ _ _ _ _ _ _ h hI (lv_sub hl [1, 2, 3, 4, 5, 6, 0] rfl)
  have hl := lv_entry ([.ref (ad 10), .int a1, .int a2, .int a3, .int a4]) (n := 7) (Nat.le_of_ble_eq_true rfl)
  rw [lg_entry_eq]
  generalize (lg_sl ([.ref (ad 10), .int a1, .int a2, .int a3, .int a4]) ++ List.replicate (7 - (lg_sl ([.ref (ad 10), .int a1, .int a2, .int a3, .int a4])).length) Slot.unset).toArray = ls at hl ⊢
  have hl : lv_has ls 7 [(0, .ref (ad 10)), (1, .int a1), (2, .int a2), (3, .int a3), (4, .int a4)] := hl
  unfold w_X9_lastOf at h
  refine lv_iconst (v := (-1)) hx hb dX9_lastOf_0 (by decide) ?_
  refine lv_istore (lv' := [(5, .int (-1)), (0, .ref (ad 10)), (1, .int a1), (2, .int a2), (3, .int a3), (4, .int a4)]) hx hb dX9_lastOf_1 hl (by decide) rfl (fun ls hl => ?_)
  refine lv_iconst (v := 0) hx hb dX9_lastOf_3 (by decide) ?_
  refine lv_istore (lv' := [(6, .int 0), (5, .int (-1)), (0, .ref (ad 10)), (1, .int a1), (2, .int a2), (3, .int a3), (4, .int a4)]) hx hb dX9_lastOf_4 hl (by decide) rfl (fun ls hl => ?_)
  obtain ⟨n9, h⟩ := h
  exact J6 n9 _ _ _ _ _ _ _ _ _ _ h hI (lv_sub hl [2, 3, 4, 5, 6, 1, 0] rfl)

theorem dX9_isInside_0 : decode cX9_isInside 0 = .ok (.aload_n 0, 1) := by decide +kernel
theorem dX9_isInside_1 : decode cX9_isInside 1 = .ok (.iload_n 1, 1) := by decide +kernel
theorem dX9_isInside_2 : decode cX9_isInside 2 = .ok (.iload_n 2, 1) := by decide +kernel
theorem dX9_isInside_3 : decode cX9_isInside 3 = .ok (.iload_n 3, 1) := by decide +kernel
theorem dX9_isInside_4 : decode cX9_isInside 4 = .ok (.iconst (-1), 1) := by decide +kernel
theorem dX9_isInside_5 : decode cX9_isInside 5 = .ok (.invokevirtual 217, 3) := by decide +kernel
theorem dX9_isInside_8 : decode cX9_isInside 8 = .ok (.istore 4, 2) := by decide +kernel
theorem dX9_isInside_10 : decode cX9_isInside 10 = .ok (.iload 4, 2) := by decide +kernel
theorem dX9_isInside_12 : decode cX9_isInside 12 = .ok (.ifCond .lt 17, 3) := by decide +kernel
theorem dX9_isInside_15 : decode cX9_isInside 15 = .ok (.aload_n 0, 1) := by decide +kernel
theorem dX9_isInside_16 : decode cX9_isInside 16 = .ok (.getfield 87, 3) := by decide +kernel
theorem dX9_isInside_19 : decode cX9_isInside 19 = .ok (.iload 4, 2) := by decide +kernel
theorem dX9_isInside_21 : decode cX9_isInside 21 = .ok (.baload, 1) := by decide +kernel
theorem dX9_isInside_22 : decode cX9_isInside 22 = .ok (.ifCond .eq 7, 3) := by decide +kernel
theorem dX9_isInside_25 : decode cX9_isInside 25 = .ok (.iconst 1, 1) := by decide +kernel
theorem dX9_isInside_26 : decode cX9_isInside 26 = .ok (.goto 4, 3) := by decide +kernel
theorem dX9_isInside_29 : decode cX9_isInside 29 = .ok (.iconst 0, 1) := by decide +kernel
theorem dX9_isInside_30 : decode cX9_isInside 30 = .ok (.ireturn, 1) := by decide +kernel
def w_X9_isInside_29 (Q : Int32 → gS → Prop) (σ : gS) : Prop :=
    Q 0 σ
def w_X9_isInside (Q : Int32 → gS → Prop) (σ : gS) (a1 : Int32) (a2 : Int32) (a3 : Int32) : Prop :=
    w_X9_lastOf  (fun (r3 : Int32) (s2 : gS) => (r3 < 0 → w_X9_isInside_29 Q s2) ∧ (¬ r3 < 0 → vp_in r3 200 ∧ ((s2 95 r3.toNatClampNeg) = 0 → w_X9_isInside_29 Q s2) ∧ (¬ (s2 95 r3.toNatClampNeg) = 0 → Q 1 s2))) σ a1 a2 a3 (-1)
abbrev ws_X9_isInside : List Cond := Cond.code yX9_isInside cX9_isInside 5 (some .boolean) :: gG
abbrev rm_X9_isInside : Room := { frames := 1, cells := 0, slots := 0, locals := 26 }
theorem k_X9_isInside : gCV yX9_isInside RX9 cX9_isInside 5 (some .boolean) 3 := ⟨gw_6_0, gwp_49, gw_1_11, gw_6_1, rfl, by decide +kernel⟩
set_option maxHeartbeats 4000000 in
set_option maxRecDepth 100000 in
theorem c_X9_isInside (l : Launch) (D : va_G) (cy : Nat → ClassId) (ad : Nat → Nat) (A : Nat → Prop) (Q : Int32 → gS → Prop) (σ : gS) (a1 : Int32) (a2 : Int32) (a3 : Int32) (h : w_X9_isInside Q σ a1 a2 a3) : Met l yX9_isInside ws_X9_isInside rm_X9_isInside (va_Pc [.ref (ad 10), .int a1, .int a2, .int a3] (gB D cy ad A σ)) (va_Qi Q (gB D cy ad A) A) 0 0 A := by
  refine Met.ofW (cc := cX9_isInside) (maxL := 5) (ret := (some .boolean)) (by decide) rfl ?_
  intro p e s m args below meth c s₁ B hml hv
  obtain ⟨rfl, hB⟩ := hv
  have hC : gC p c cX9_isInside s m ([.ref (ad 10), .int a1, .int a2, .int a3] : List Value).toArray RX9 D cy ad A := g_start B hB
  have hI := g_first hB
  have hx := hC.1
  have hb := hC.2.1
  have hr := B.returns
  have hlocks := B.notSynchronized
  clear B hB
  have J29 : ∀ (σ : gS) (H : Heap) (locs : List Loc) (ls : Array Slot), w_X9_isInside_29 Q σ → gI D cy ad A s.heap σ H locs → lv_has ls 5 [] → W p l e (headSpec ws_X9_isInside rm_X9_isInside).room s m ([.ref (ad 10), .int a1, .int a2, .int a3] : List Value).toArray below meth c H locs 0 0 (MQ below (va_Qi Q (gB D cy ad A) A) ([.ref (ad 10), .int a1, .int a2, .int a3] : List Value).toArray s 0 0 A) (F0 m 29 ls []) := by
    intro σ H locs ls h hI hl
    unfold w_X9_isInside_29 at h
    refine lv_iconst (v := 0) hx hb dX9_isInside_29 (by decide) ?_
    exact g_zret hC hr hlocks rfl hI h dX9_isInside_30
  have hl := lv_entry ([.ref (ad 10), .int a1, .int a2, .int a3]) (n := 5) (Nat.le_of_ble_eq_true rfl)
  rw [lg_entry_eq]
  generalize (lg_sl ([.ref (ad 10), .int a1, .int a2, .int a3]) ++ List.replicate (5 - (lg_sl ([.ref (ad 10), .int a1, .int a2, .int a3])).length) Slot.unset).toArray = ls at hl ⊢
  have hl : lv_has ls 5 [(0, .ref (ad 10)), (1, .int a1), (2, .int a2), (3, .int a3)] := hl
  unfold w_X9_isInside at h
  refine lv_aload_n hx hb dX9_isInside_0 rfl (lv_at hl 0 rfl) ?_
  refine lv_iload_n hx hb dX9_isInside_1 rfl (lv_at hl 1 rfl) ?_
  refine lv_iload_n hx hb dX9_isInside_2 rfl (lv_at hl 2 rfl) ?_
  refine lv_iload_n hx hb dX9_isInside_3 rfl (lv_at hl 3 rfl) ?_
  refine lv_iconst (v := (-1)) hx hb dX9_isInside_4 (by decide) ?_
  refine g_backi hI (g_runV (As := [.int a1, .int a2, .int a3, .int (-1)]) (rest := []) hC hml hI (c_X9_lastOf l D cy ad A _  _ _ _ _ _ h) k_X9_lastOf gw_6_2 ⟨rfl, rfl⟩ ⟨Nat.le_of_ble_eq_true rfl, Nat.le_of_ble_eq_true rfl⟩ (grv_10 hC hI) rfl hl.1 rfl (Nat.le_of_ble_eq_true rfl) dX9_isInside_5 ⟨Nat.le_of_ble_eq_true rfl, Nat.le_of_ble_eq_true rfl⟩) (fun r3 s2 H locs h hI => ?_)
  refine lv_istore (lv' := [(4, .int r3), (0, .ref (ad 10)), (1, .int a1), (2, .int a2), (3, .int a3)]) hx hb dX9_isInside_8 hl (by decide) rfl (fun ls hl => ?_)
  refine lv_iload hx hb dX9_isInside_10 (lv_at hl 0 rfl) ?_
  refine lv_if_lt (tgt := 29) hx hb dX9_isInside_12 (by decide) (fun c4 => ?_) (fun c4 => ?_)
  · have h := h.1 c4
    exact J29 _ _ _ _ h hI (lv_sub hl [] rfl)
  · have h := h.2 c4
    refine lv_aload_n hx hb dX9_isInside_15 rfl (lv_at hl 1 rfl) ?_
    refine gg_X9_pIn hC hI gw_4_220 dX9_isInside_16 ?_
    refine lv_iload hx hb dX9_isInside_19 (lv_at hl 0 rfl) ?_
    obtain ⟨hi5, h⟩ := h
    refine ga_75 hC hI hi5 dX9_isInside_21 ?_
    refine lv_if_eq (tgt := 29) hx hb dX9_isInside_22 (by decide) (fun c6 => ?_) (fun c6 => ?_)
    · have h := h.1 c6
      exact J29 _ _ _ _ h hI (lv_sub hl [] rfl)
    · have h := h.2 c6
      refine lv_iconst (v := 1) hx hb dX9_isInside_25 (by decide) ?_
      refine lv_goto (tgt := 30) hx hb dX9_isInside_26 (by decide) ?_
      exact g_zret hC hr hlocks rfl hI h dX9_isInside_30

theorem dX9_inside_0 : decode cX9_inside 0 = .ok (.aload_n 0, 1) := by decide +kernel
theorem dX9_inside_1 : decode cX9_inside 1 = .ok (.iconst 0, 1) := by decide +kernel
theorem dX9_inside_2 : decode cX9_inside 2 = .ok (.putfield 3, 3) := by decide +kernel
theorem dX9_inside_5 : decode cX9_inside 5 = .ok (.aload_n 0, 1) := by decide +kernel
theorem dX9_inside_6 : decode cX9_inside 6 = .ok (.iload_n 1, 1) := by decide +kernel
theorem dX9_inside_7 : decode cX9_inside 7 = .ok (.invokestatic 211, 3) := by decide +kernel
theorem dX9_inside_10 : decode cX9_inside 10 = .ok (.iconst 1, 1) := by decide +kernel
theorem dX9_inside_11 : decode cX9_inside 11 = .ok (.invokevirtual 123, 3) := by decide +kernel
theorem dX9_inside_14 : decode cX9_inside 14 = .ok (.ifCond .ne 17, 3) := by decide +kernel
theorem dX9_inside_17 : decode cX9_inside 17 = .ok (.aload_n 0, 1) := by decide +kernel
theorem dX9_inside_18 : decode cX9_inside 18 = .ok (.iload_n 1, 1) := by decide +kernel
theorem dX9_inside_19 : decode cX9_inside 19 = .ok (.iload_n 2, 1) := by decide +kernel
theorem dX9_inside_20 : decode cX9_inside 20 = .ok (.iload_n 3, 1) := by decide +kernel
theorem dX9_inside_21 : decode cX9_inside 21 = .ok (.invokevirtual 221, 3) := by decide +kernel
theorem dX9_inside_24 : decode cX9_inside 24 = .ok (.ifCond .eq 7, 3) := by decide +kernel
theorem dX9_inside_27 : decode cX9_inside 27 = .ok (.iconst 1, 1) := by decide +kernel
theorem dX9_inside_28 : decode cX9_inside 28 = .ok (.goto 4, 3) := by decide +kernel
theorem dX9_inside_31 : decode cX9_inside 31 = .ok (.iconst 0, 1) := by decide +kernel
theorem dX9_inside_32 : decode cX9_inside 32 = .ok (.ireturn, 1) := by decide +kernel
def w_X9_inside_31 (Q : Int32 → gS → Prop) (σ : gS) : Prop :=
    Q 0 σ
def w_X9_inside (Q : Int32 → gS → Prop) (σ : gS) (a1 : Int32) (a2 : Int32) (a3 : Int32) : Prop :=
    ∀ s1 : gS, s1 = gu σ 63 0 0 → w_X9_noBand  (fun (r3 : Int32) (s2 : gS) => w_X9_throwsIf  (fun (r5 : Int32) (s4 : gS) => (¬ r5 = 0 → w_X9_inside_31 Q s4) ∧ (r5 = 0 → w_X9_isInside  (fun (r8 : Int32) (s7 : gS) => (r8 = 0 → w_X9_inside_31 Q s7) ∧ (¬ r8 = 0 → Q 1 s7)) s4 a1 a2 a3)) s2 r3 1) s1 a1
abbrev ws_X9_inside : List Cond := Cond.code yX9_inside cX9_inside 4 (some .boolean) :: gG
abbrev rm_X9_inside : Room := { frames := 2, cells := 0, slots := 0, locals := 50 }
theorem k_X9_inside : gCV yX9_inside RX9 cX9_inside 4 (some .boolean) 3 := ⟨gw_5_235, gw_5_236, gw_1_11, gw_5_237, rfl, by decide +kernel⟩
set_option maxHeartbeats 4000000 in
set_option maxRecDepth 100000 in
theorem c_X9_inside (l : Launch) (D : va_G) (cy : Nat → ClassId) (ad : Nat → Nat) (A : Nat → Prop) (Q : Int32 → gS → Prop) (σ : gS) (a1 : Int32) (a2 : Int32) (a3 : Int32) (h : w_X9_inside Q σ a1 a2 a3) : Met l yX9_inside ws_X9_inside rm_X9_inside (va_Pc [.ref (ad 10), .int a1, .int a2, .int a3] (gB D cy ad A σ)) (va_Qi Q (gB D cy ad A) A) 0 0 A := by
  refine Met.ofW (cc := cX9_inside) (maxL := 4) (ret := (some .boolean)) (by decide) rfl ?_
  intro p e s m args below meth c s₁ B hml hv
  obtain ⟨rfl, hB⟩ := hv
  have hC : gC p c cX9_inside s m ([.ref (ad 10), .int a1, .int a2, .int a3] : List Value).toArray RX9 D cy ad A := g_start B hB
  have hI := g_first hB
  have hx := hC.1
  have hb := hC.2.1
  have hr := B.returns
  have hlocks := B.notSynchronized
  clear B hB
  have J31 : ∀ (σ : gS) (H : Heap) (locs : List Loc) (ls : Array Slot), w_X9_inside_31 Q σ → gI D cy ad A s.heap σ H locs → lv_has ls 4 [] → W p l e (headSpec ws_X9_inside rm_X9_inside).room s m ([.ref (ad 10), .int a1, .int a2, .int a3] : List Value).toArray below meth c H locs 0 0 (MQ below (va_Qi Q (gB D cy ad A) A) ([.ref (ad 10), .int a1, .int a2, .int a3] : List Value).toArray s 0 0 A) (F0 m 31 ls []) := by
    intro σ H locs ls h hI hl
    unfold w_X9_inside_31 at h
    refine lv_iconst (v := 0) hx hb dX9_inside_31 (by decide) ?_
    exact g_zret hC hr hlocks rfl hI h dX9_inside_32
  have hl := lv_entry ([.ref (ad 10), .int a1, .int a2, .int a3]) (n := 4) (Nat.le_of_ble_eq_true rfl)
  rw [lg_entry_eq]
  generalize (lg_sl ([.ref (ad 10), .int a1, .int a2, .int a3]) ++ List.replicate (4 - (lg_sl ([.ref (ad 10), .int a1, .int a2, .int a3])).length) Slot.unset).toArray = ls at hl ⊢
  have hl : lv_has ls 4 [(0, .ref (ad 10)), (1, .int a1), (2, .int a2), (3, .int a3)] := hl
  unfold w_X9_inside at h
  refine lv_aload_n hx hb dX9_inside_0 rfl (lv_at hl 0 rfl) ?_
  refine lv_iconst (v := 0) hx hb dX9_inside_1 (by decide) ?_
  refine gp_X9_thrown hC hI gw_4_188 dX9_inside_2 (fun s1 H locs es1 hI => ?_)
  have h := h s1 es1
  refine lv_aload_n hx hb dX9_inside_5 rfl (lv_at hl 0 rfl) ?_
  refine lv_iload_n hx hb dX9_inside_6 rfl (lv_at hl 1 rfl) ?_
  refine g_backi hI (g_runS (As := [.int a1]) (rest := [.ref (ad 10)]) hC hml hI (c_X9_noBand l D cy ad A _  _ _ h) k_X9_noBand gw_5_231 ⟨rfl, rfl⟩ ⟨Nat.le_of_ble_eq_true rfl, Nat.le_of_ble_eq_true rfl⟩ rfl hl.1 rfl (Nat.le_of_ble_eq_true rfl) dX9_inside_7 ⟨Nat.le_of_ble_eq_true rfl, Nat.le_of_ble_eq_true rfl⟩) (fun r3 s2 H locs h hI => ?_)
  refine lv_iconst (v := 1) hx hb dX9_inside_10 (by decide) ?_
  refine g_backi hI (g_runV (As := [.int r3, .int 1]) (rest := []) hC hml hI (c_X9_throwsIf l D cy ad A _  _ _ _ h) k_X9_throwsIf gw_5_100 ⟨rfl, rfl⟩ ⟨Nat.le_of_ble_eq_true rfl, Nat.le_of_ble_eq_true rfl⟩ (grv_10 hC hI) rfl hl.1 rfl (Nat.le_of_ble_eq_true rfl) dX9_inside_11 ⟨Nat.le_of_ble_eq_true rfl, Nat.le_of_ble_eq_true rfl⟩) (fun r5 s4 H locs h hI => ?_)
  refine lv_if_ne (tgt := 31) hx hb dX9_inside_14 (by decide) (fun c6 => ?_) (fun c6 => ?_)
  · have h := h.1 c6
    exact J31 _ _ _ _ h hI (lv_sub hl [] rfl)
  · have h := h.2 c6
    refine lv_aload_n hx hb dX9_inside_17 rfl (lv_at hl 0 rfl) ?_
    refine lv_iload_n hx hb dX9_inside_18 rfl (lv_at hl 1 rfl) ?_
    refine lv_iload_n hx hb dX9_inside_19 rfl (lv_at hl 2 rfl) ?_
    refine lv_iload_n hx hb dX9_inside_20 rfl (lv_at hl 3 rfl) ?_
    refine g_backi hI (g_runV (As := [.int a1, .int a2, .int a3]) (rest := []) hC hml hI (c_X9_isInside l D cy ad A _  _ _ _ _ h) k_X9_isInside gw_5_238 ⟨rfl, rfl⟩ ⟨Nat.le_of_ble_eq_true rfl, Nat.le_of_ble_eq_true rfl⟩ (grv_10 hC hI) rfl hl.1 rfl (Nat.le_of_ble_eq_true rfl) dX9_inside_21 ⟨Nat.le_of_ble_eq_true rfl, Nat.le_of_ble_eq_true rfl⟩) (fun r8 s7 H locs h hI => ?_)
    refine lv_if_eq (tgt := 31) hx hb dX9_inside_24 (by decide) (fun c9 => ?_) (fun c9 => ?_)
    · have h := h.1 c9
      exact J31 _ _ _ _ h hI (lv_sub hl [] rfl)
    · have h := h.2 c9
      refine lv_iconst (v := 1) hx hb dX9_inside_27 (by decide) ?_
      refine lv_goto (tgt := 32) hx hb dX9_inside_28 (by decide) ?_
      exact g_zret hC hr hlocks rfl hI h dX9_inside_32

theorem dX9_within_0 : decode cX9_within 0 = .ok (.aload_n 0, 1) := by decide +kernel
theorem dX9_within_1 : decode cX9_within 1 = .ok (.iconst 0, 1) := by decide +kernel
theorem dX9_within_2 : decode cX9_within 2 = .ok (.putfield 3, 3) := by decide +kernel
theorem dX9_within_5 : decode cX9_within 5 = .ok (.iconst 0, 1) := by decide +kernel
theorem dX9_within_6 : decode cX9_within 6 = .ok (.istore 4, 2) := by decide +kernel
theorem dX9_within_8 : decode cX9_within 8 = .ok (.iload_n 1, 1) := by decide +kernel
theorem dX9_within_9 : decode cX9_within 9 = .ok (.ifCond .ne 44, 3) := by decide +kernel
theorem dX9_within_12 : decode cX9_within 12 = .ok (.iconst 0, 1) := by decide +kernel
theorem dX9_within_13 : decode cX9_within 13 = .ok (.istore 5, 2) := by decide +kernel
theorem dX9_within_15 : decode cX9_within 15 = .ok (.iload 5, 2) := by decide +kernel
theorem dX9_within_17 : decode cX9_within 17 = .ok (.sipush 300, 3) := by decide +kernel
theorem dX9_within_20 : decode cX9_within 20 = .ok (.if_icmp .ge 30, 3) := by decide +kernel
theorem dX9_within_23 : decode cX9_within 23 = .ok (.iload 4, 2) := by decide +kernel
theorem dX9_within_25 : decode cX9_within 25 = .ok (.aload_n 0, 1) := by decide +kernel
theorem dX9_within_26 : decode cX9_within 26 = .ok (.iload 5, 2) := by decide +kernel
theorem dX9_within_28 : decode cX9_within 28 = .ok (.iload_n 2, 1) := by decide +kernel
theorem dX9_within_29 : decode cX9_within 29 = .ok (.iload_n 3, 1) := by decide +kernel
theorem dX9_within_30 : decode cX9_within 30 = .ok (.invokevirtual 221, 3) := by decide +kernel
theorem dX9_within_33 : decode cX9_within 33 = .ok (.ifCond .eq 7, 3) := by decide +kernel
theorem dX9_within_36 : decode cX9_within 36 = .ok (.iconst 1, 1) := by decide +kernel
theorem dX9_within_37 : decode cX9_within 37 = .ok (.goto 4, 3) := by decide +kernel
theorem dX9_within_40 : decode cX9_within 40 = .ok (.iconst 0, 1) := by decide +kernel
theorem dX9_within_41 : decode cX9_within 41 = .ok (.iadd, 1) := by decide +kernel
theorem dX9_within_42 : decode cX9_within 42 = .ok (.istore 4, 2) := by decide +kernel
theorem dX9_within_44 : decode cX9_within 44 = .ok (.iinc 5 1, 3) := by decide +kernel
theorem dX9_within_47 : decode cX9_within 47 = .ok (.goto (-32), 3) := by decide +kernel
theorem dX9_within_50 : decode cX9_within 50 = .ok (.iload 4, 2) := by decide +kernel
theorem dX9_within_52 : decode cX9_within 52 = .ok (.ireturn, 1) := by decide +kernel
theorem dX9_within_53 : decode cX9_within 53 = .ok (.iconst 0, 1) := by decide +kernel
theorem dX9_within_54 : decode cX9_within 54 = .ok (.istore 5, 2) := by decide +kernel
theorem dX9_within_56 : decode cX9_within 56 = .ok (.iload 5, 2) := by decide +kernel
theorem dX9_within_58 : decode cX9_within 58 = .ok (.aload_n 0, 1) := by decide +kernel
theorem dX9_within_59 : decode cX9_within 59 = .ok (.getfield 214, 3) := by decide +kernel
theorem dX9_within_62 : decode cX9_within 62 = .ok (.if_icmp .ge 86, 3) := by decide +kernel
theorem dX9_within_65 : decode cX9_within 65 = .ok (.aload_n 0, 1) := by decide +kernel
theorem dX9_within_66 : decode cX9_within 66 = .ok (.getfield 93, 3) := by decide +kernel
theorem dX9_within_69 : decode cX9_within 69 = .ok (.iload 5, 2) := by decide +kernel
theorem dX9_within_71 : decode cX9_within 71 = .ok (.iaload, 1) := by decide +kernel
theorem dX9_within_72 : decode cX9_within 72 = .ok (.iload_n 3, 1) := by decide +kernel
theorem dX9_within_73 : decode cX9_within 73 = .ok (.if_icmp .le 6, 3) := by decide +kernel
theorem dX9_within_76 : decode cX9_within 76 = .ok (.goto 66, 3) := by decide +kernel
theorem dX9_within_79 : decode cX9_within 79 = .ok (.aload_n 0, 1) := by decide +kernel
theorem dX9_within_80 : decode cX9_within 80 = .ok (.aload_n 0, 1) := by decide +kernel
theorem dX9_within_81 : decode cX9_within 81 = .ok (.getfield 84, 3) := by decide +kernel
theorem dX9_within_84 : decode cX9_within 84 = .ok (.iload 5, 2) := by decide +kernel
theorem dX9_within_86 : decode cX9_within 86 = .ok (.iaload, 1) := by decide +kernel
theorem dX9_within_87 : decode cX9_within 87 = .ok (.sipush 10000, 3) := by decide +kernel
theorem dX9_within_90 : decode cX9_within 90 = .ok (.iload_n 3, 1) := by decide +kernel
theorem dX9_within_91 : decode cX9_within 91 = .ok (.iload 5, 2) := by decide +kernel
theorem dX9_within_93 : decode cX9_within 93 = .ok (.invokevirtual 217, 3) := by decide +kernel
theorem dX9_within_96 : decode cX9_within 96 = .ok (.istore 6, 2) := by decide +kernel
theorem dX9_within_98 : decode cX9_within 98 = .ok (.iload 6, 2) := by decide +kernel
theorem dX9_within_100 : decode cX9_within 100 = .ok (.ifCond .lt 17, 3) := by decide +kernel
theorem dX9_within_103 : decode cX9_within 103 = .ok (.aload_n 0, 1) := by decide +kernel
theorem dX9_within_104 : decode cX9_within 104 = .ok (.getfield 87, 3) := by decide +kernel
theorem dX9_within_107 : decode cX9_within 107 = .ok (.iload 6, 2) := by decide +kernel
theorem dX9_within_109 : decode cX9_within 109 = .ok (.baload, 1) := by decide +kernel
theorem dX9_within_110 : decode cX9_within 110 = .ok (.ifCond .eq 7, 3) := by decide +kernel
theorem dX9_within_113 : decode cX9_within 113 = .ok (.iconst 1, 1) := by decide +kernel
theorem dX9_within_114 : decode cX9_within 114 = .ok (.goto 4, 3) := by decide +kernel
theorem dX9_within_117 : decode cX9_within 117 = .ok (.iconst 0, 1) := by decide +kernel
theorem dX9_within_118 : decode cX9_within 118 = .ok (.istore 7, 2) := by decide +kernel
theorem dX9_within_120 : decode cX9_within 120 = .ok (.iload 4, 2) := by decide +kernel
theorem dX9_within_122 : decode cX9_within 122 = .ok (.iload 7, 2) := by decide +kernel
theorem dX9_within_124 : decode cX9_within 124 = .ok (.aload_n 0, 1) := by decide +kernel
theorem dX9_within_125 : decode cX9_within 125 = .ok (.getfield 87, 3) := by decide +kernel
theorem dX9_within_128 : decode cX9_within 128 = .ok (.iload 5, 2) := by decide +kernel
theorem dX9_within_130 : decode cX9_within 130 = .ok (.baload, 1) := by decide +kernel
theorem dX9_within_131 : decode cX9_within 131 = .ok (.if_icmp .ne 7, 3) := by decide +kernel
theorem dX9_within_134 : decode cX9_within 134 = .ok (.iconst 1, 1) := by decide +kernel
theorem dX9_within_135 : decode cX9_within 135 = .ok (.goto 4, 3) := by decide +kernel
theorem dX9_within_138 : decode cX9_within 138 = .ok (.iconst 0, 1) := by decide +kernel
theorem dX9_within_139 : decode cX9_within 139 = .ok (.iadd, 1) := by decide +kernel
theorem dX9_within_140 : decode cX9_within 140 = .ok (.istore 4, 2) := by decide +kernel
theorem dX9_within_142 : decode cX9_within 142 = .ok (.iinc 5 1, 3) := by decide +kernel
theorem dX9_within_145 : decode cX9_within 145 = .ok (.goto (-89), 3) := by decide +kernel
theorem dX9_within_148 : decode cX9_within 148 = .ok (.iload 4, 2) := by decide +kernel
theorem dX9_within_150 : decode cX9_within 150 = .ok (.ireturn, 1) := by decide +kernel
def w_X9_within_41 (Q : Int32 → gS → Prop) (k15 : Int32 → Int32 → Int32 → Int32 → gS → Prop) (x2 : Int32) (x3 : Int32) (x5 : Int32) (v0 : Int32) (v1 : Int32) (σ : gS) : Prop :=
    ∀ y5 : Int32, y5 = (v1 + v0) → ∀ y6 : Int32, y6 = x5 + 1 → k15 x2 x3 y5 y6 σ
def w_X9_within_15 (Q : Int32 → gS → Prop) : Nat → Int32 → Int32 → Int32 → Int32 → gS → Prop
  | 0, _, _, _, _, _ => False
  | n15 + 1, x2, x3, x4, x5, σ =>
    (300 ≤ x5 → Q x4 σ) ∧ (¬ 300 ≤ x5 → w_X9_isInside  (fun (r9 : Int32) (s8 : gS) => (r9 = 0 → w_X9_within_41 Q (w_X9_within_15 Q n15) x2 x3 x5 0 x4 s8) ∧ (¬ r9 = 0 → w_X9_within_41 Q (w_X9_within_15 Q n15) x2 x3 x5 1 x4 s8)) σ x5 x2 x3)
def w_X9_within_139 (Q : Int32 → gS → Prop) (k56 : Int32 → Int32 → Int32 → gS → Prop) (x3 : Int32) (x5 : Int32) (v0 : Int32) (v1 : Int32) (σ : gS) : Prop :=
    ∀ y11 : Int32, y11 = (v1 + v0) → ∀ y12 : Int32, y12 = x5 + 1 → k56 x3 y11 y12 σ
def w_X9_within_118 (Q : Int32 → gS → Prop) (k56 : Int32 → Int32 → Int32 → gS → Prop) (x3 : Int32) (x4 : Int32) (x5 : Int32) (v0 : Int32) (σ : gS) : Prop :=
    vp_in x5 200 ∧ (¬ v0 = (σ 95 x5.toNatClampNeg) → w_X9_within_139 Q k56 x3 x5 0 x4 σ) ∧ (v0 = (σ 95 x5.toNatClampNeg) → w_X9_within_139 Q k56 x3 x5 1 x4 σ)
def w_X9_within_117 (Q : Int32 → gS → Prop) (k56 : Int32 → Int32 → Int32 → gS → Prop) (x3 : Int32) (x4 : Int32) (x5 : Int32) (σ : gS) : Prop :=
    w_X9_within_118 Q k56 x3 x4 x5 0 σ
def w_X9_within_56 (Q : Int32 → gS → Prop) : Nat → Int32 → Int32 → Int32 → gS → Prop
  | 0, _, _, _, _ => False
  | n56 + 1, x3, x4, x5, σ =>
    ((σ 98 0) ≤ x5 → Q x4 σ) ∧ (¬ (σ 98 0) ≤ x5 → vp_in x5 200 ∧ ((σ 97 x5.toNatClampNeg) ≤ x3 → vp_in x5 200 ∧ w_X9_lastOf  (fun (r20 : Int32) (s19 : gS) => (r20 < 0 → w_X9_within_117 Q (w_X9_within_56 Q n56) x3 x4 x5 s19) ∧ (¬ r20 < 0 → vp_in r20 200 ∧ ((s19 95 r20.toNatClampNeg) = 0 → w_X9_within_117 Q (w_X9_within_56 Q n56) x3 x4 x5 s19) ∧ (¬ (s19 95 r20.toNatClampNeg) = 0 → w_X9_within_118 Q (w_X9_within_56 Q n56) x3 x4 x5 1 s19))) σ (σ 94 x5.toNatClampNeg) 10000 x3 x5) ∧ (¬ (σ 97 x5.toNatClampNeg) ≤ x3 → ∀ y24 : Int32, y24 = x5 + 1 → w_X9_within_56 Q n56 x3 x4 y24 σ))
def w_X9_within (Q : Int32 → gS → Prop) (σ : gS) (a1 : Int32) (a2 : Int32) (a3 : Int32) : Prop :=
    ∀ s25 : gS, s25 = gu σ 63 0 0 → (¬ a1 = 0 → ∃ n56, w_X9_within_56 Q n56 a3 0 0 s25) ∧ (a1 = 0 → ∃ n15, w_X9_within_15 Q n15 a2 a3 0 0 s25)
abbrev ws_X9_within : List Cond := Cond.code yX9_within cX9_within 8 (some .int) :: gG
abbrev rm_X9_within : Room := { frames := 2, cells := 0, slots := 0, locals := 50 }
theorem k_X9_within : gCV yX9_within RX9 cX9_within 8 (some .int) 3 := ⟨gw_6_7, gw_6_8, gw_1_11, gw_6_9, rfl, by decide +kernel⟩
set_option maxHeartbeats 4000000 in
set_option maxRecDepth 100000 in
theorem c_X9_within (l : Launch) (D : va_G) (cy : Nat → ClassId) (ad : Nat → Nat) (A : Nat → Prop) (Q : Int32 → gS → Prop) (σ : gS) (a1 : Int32) (a2 : Int32) (a3 : Int32) (h : w_X9_within Q σ a1 a2 a3) : Met l yX9_within ws_X9_within rm_X9_within (va_Pc [.ref (ad 10), .int a1, .int a2, .int a3] (gB D cy ad A σ)) (va_Qi Q (gB D cy ad A) A) 0 0 A := by
  refine Met.ofW (cc := cX9_within) (maxL := 8) (ret := (some .int)) (by decide) rfl ?_
  intro p e s m args below meth c s₁ B hml hv
  obtain ⟨rfl, hB⟩ := hv
  have hC : gC p c cX9_within s m ([.ref (ad 10), .int a1, .int a2, .int a3] : List Value).toArray RX9 D cy ad A := g_start B hB
  have hI := g_first hB
  have hx := hC.1
  have hb := hC.2.1
  have hr := B.returns
  have hlocks := B.notSynchronized
  clear B hB
  have J15 : ∀ (n15 : Nat) (x2 : Int32) (x3 : Int32) (x4 : Int32) (x5 : Int32) (σ : gS) (H : Heap) (locs : List Loc) (ls : Array Slot), w_X9_within_15 Q n15 x2 x3 x4 x5 σ → gI D cy ad A s.heap σ H locs → lv_has ls 8 [(0, .ref (ad 10)), (2, .int x2), (3, .int x3), (4, .int x4), (5, .int x5)] → W p l e (headSpec ws_X9_within rm_X9_within).room s m ([.ref (ad 10), .int a1, .int a2, .int a3] : List Value).toArray below meth c H locs 0 0 (MQ below (va_Qi Q (gB D cy ad A) A) ([.ref (ad 10), .int a1, .int a2, .int a3] : List Value).toArray s 0 0 A) (F0 m 15 ls []) := by
    intro n15
    induction n15 with
    | zero => intro x2 x3 x4 x5 σ H locs ls h; exact absurd h (fun h => h)
    | succ n15 ih15 =>
      have J41 : ∀ (x2 : Int32) (x3 : Int32) (x5 : Int32) (v0 : Int32) (v1 : Int32) (σ : gS) (H : Heap) (locs : List Loc) (ls : Array Slot), w_X9_within_41 Q (w_X9_within_15 Q n15) x2 x3 x5 v0 v1 σ → gI D cy ad A s.heap σ H locs → lv_has ls 8 [(0, .ref (ad 10)), (2, .int x2), (3, .int x3), (5, .int x5)] → W p l e (headSpec ws_X9_within rm_X9_within).room s m ([.ref (ad 10), .int a1, .int a2, .int a3] : List Value).toArray below meth c H locs 0 0 (MQ below (va_Qi Q (gB D cy ad A) A) ([.ref (ad 10), .int a1, .int a2, .int a3] : List Value).toArray s 0 0 A) (F0 m 41 ls [.int v0, .int v1]) := by
        intro x2 x3 x5 v0 v1 σ H locs ls h hI hl
        unfold w_X9_within_41 at h
        refine lv_iadd hx hb dX9_within_41 ?_
        refine lv_topi (fun y5 ey5 => ?_)
        have h := h y5 ey5
        refine lv_istore (lv' := [(4, .int y5), (0, .ref (ad 10)), (2, .int x2), (3, .int x3), (5, .int x5)]) hx hb dX9_within_42 hl (by decide) rfl (fun ls hl => ?_)
        obtain ⟨y6, ey6⟩ : ∃ y : Int32, y = x5 + 1 := ⟨_, rfl⟩
        have h := h y6 ey6
        refine lv_iinc (v := y6) (lv' := [(5, .int y6), (4, .int y5), (0, .ref (ad 10)), (2, .int x2), (3, .int x3)]) hx hb dX9_within_44 hl (k := 4) rfl (by rw [ey6]; rfl) (by decide) rfl (fun ls hl => ?_)
        refine lv_goto (tgt := 15) hx hb dX9_within_47 (by decide) ?_
        exact ih15 _ _ _ _ _ _ _ _ h hI (lv_sub hl [2, 3, 4, 1, 0] rfl)
      intro x2 x3 x4 x5 σ H locs ls h hI hl
      unfold w_X9_within_15 at h
      refine lv_iload hx hb dX9_within_15 (lv_at hl 4 rfl) ?_
      refine lv_sipush (v := 300) hx hb dX9_within_17 (by decide) ?_
      refine lv_icmp_ge (tgt := 50) hx hb dX9_within_20 (by decide) (fun c7 => ?_) (fun c7 => ?_)
      · have h := h.1 c7
        refine lv_iload hx hb dX9_within_50 (lv_at hl 3 rfl) ?_
        exact g_iret hC hr hlocks hI h dX9_within_52
      · have h := h.2 c7
        refine lv_iload hx hb dX9_within_23 (lv_at hl 3 rfl) ?_
        refine lv_aload_n hx hb dX9_within_25 rfl (lv_at hl 0 rfl) ?_
        refine lv_iload hx hb dX9_within_26 (lv_at hl 4 rfl) ?_
        refine lv_iload_n hx hb dX9_within_28 rfl (lv_at hl 1 rfl) ?_
        refine lv_iload_n hx hb dX9_within_29 rfl (lv_at hl 2 rfl) ?_
        refine g_backi hI (g_runV (As := [.int x5, .int x2, .int x3]) (rest := [.int x4]) hC hml hI (c_X9_isInside l D cy ad A _  _ _ _ _ h) k_X9_isInside gw_5_238 ⟨rfl, rfl⟩ ⟨Nat.le_of_ble_eq_true rfl, Nat.le_of_ble_eq_true rfl⟩ (grv_10 hC hI) rfl hl.1 rfl (Nat.le_of_ble_eq_true rfl) dX9_within_30 ⟨Nat.le_of_ble_eq_true rfl, Nat.le_of_ble_eq_true rfl⟩) (fun r9 s8 H locs h hI => ?_)
        refine lv_if_eq (tgt := 40) hx hb dX9_within_33 (by decide) (fun c10 => ?_) (fun c10 => ?_)
        · have h := h.1 c10
          refine lv_iconst (v := 0) hx hb dX9_within_40 (by decide) ?_
          exact J41 _ _ _ _ _ _ _ _ _ h hI (lv_sub hl [0, 1, 2, 4] rfl)
        · have h := h.2 c10
          refine lv_iconst (v := 1) hx hb dX9_within_36 (by decide) ?_
          refine lv_goto (tgt := 41) hx hb dX9_within_37 (by decide) ?_
          exact J41 _ _ _ _ _ _ _ _ _ h hI (lv_sub hl [0, 1, 2, 4] rfl)
  have J56 : ∀ (n56 : Nat) (x3 : Int32) (x4 : Int32) (x5 : Int32) (σ : gS) (H : Heap) (locs : List Loc) (ls : Array Slot), w_X9_within_56 Q n56 x3 x4 x5 σ → gI D cy ad A s.heap σ H locs → lv_has ls 8 [(0, .ref (ad 10)), (3, .int x3), (4, .int x4), (5, .int x5)] → W p l e (headSpec ws_X9_within rm_X9_within).room s m ([.ref (ad 10), .int a1, .int a2, .int a3] : List Value).toArray below meth c H locs 0 0 (MQ below (va_Qi Q (gB D cy ad A) A) ([.ref (ad 10), .int a1, .int a2, .int a3] : List Value).toArray s 0 0 A) (F0 m 56 ls []) := by
    intro n56
    induction n56 with
    | zero => intro x3 x4 x5 σ H locs ls h; exact absurd h (fun h => h)
    | succ n56 ih56 =>
      have J139 : ∀ (x3 : Int32) (x5 : Int32) (v0 : Int32) (v1 : Int32) (σ : gS) (H : Heap) (locs : List Loc) (ls : Array Slot), w_X9_within_139 Q (w_X9_within_56 Q n56) x3 x5 v0 v1 σ → gI D cy ad A s.heap σ H locs → lv_has ls 8 [(0, .ref (ad 10)), (3, .int x3), (5, .int x5)] → W p l e (headSpec ws_X9_within rm_X9_within).room s m ([.ref (ad 10), .int a1, .int a2, .int a3] : List Value).toArray below meth c H locs 0 0 (MQ below (va_Qi Q (gB D cy ad A) A) ([.ref (ad 10), .int a1, .int a2, .int a3] : List Value).toArray s 0 0 A) (F0 m 139 ls [.int v0, .int v1]) := by
        intro x3 x5 v0 v1 σ H locs ls h hI hl
        unfold w_X9_within_139 at h
        refine lv_iadd hx hb dX9_within_139 ?_
        refine lv_topi (fun y11 ey11 => ?_)
        have h := h y11 ey11
        refine lv_istore (lv' := [(4, .int y11), (0, .ref (ad 10)), (3, .int x3), (5, .int x5)]) hx hb dX9_within_140 hl (by decide) rfl (fun ls hl => ?_)
        obtain ⟨y12, ey12⟩ : ∃ y : Int32, y = x5 + 1 := ⟨_, rfl⟩
        have h := h y12 ey12
        refine lv_iinc (v := y12) (lv' := [(5, .int y12), (4, .int y11), (0, .ref (ad 10)), (3, .int x3)]) hx hb dX9_within_142 hl (k := 3) rfl (by rw [ey12]; rfl) (by decide) rfl (fun ls hl => ?_)
        refine lv_goto (tgt := 56) hx hb dX9_within_145 (by decide) ?_
        exact ih56 _ _ _ _ _ _ _ h hI (lv_sub hl [2, 3, 1, 0] rfl)
      have J118 : ∀ (x3 : Int32) (x4 : Int32) (x5 : Int32) (v0 : Int32) (σ : gS) (H : Heap) (locs : List Loc) (ls : Array Slot), w_X9_within_118 Q (w_X9_within_56 Q n56) x3 x4 x5 v0 σ → gI D cy ad A s.heap σ H locs → lv_has ls 8 [(0, .ref (ad 10)), (3, .int x3), (4, .int x4), (5, .int x5)] → W p l e (headSpec ws_X9_within rm_X9_within).room s m ([.ref (ad 10), .int a1, .int a2, .int a3] : List Value).toArray below meth c H locs 0 0 (MQ below (va_Qi Q (gB D cy ad A) A) ([.ref (ad 10), .int a1, .int a2, .int a3] : List Value).toArray s 0 0 A) (F0 m 118 ls [.int v0]) := by
        intro x3 x4 x5 v0 σ H locs ls h hI hl
        unfold w_X9_within_118 at h
        refine lv_istore (lv' := [(7, .int v0), (0, .ref (ad 10)), (3, .int x3), (4, .int x4), (5, .int x5)]) hx hb dX9_within_118 hl (by decide) rfl (fun ls hl => ?_)
        refine lv_iload hx hb dX9_within_120 (lv_at hl 3 rfl) ?_
        refine lv_iload hx hb dX9_within_122 (lv_at hl 0 rfl) ?_
        refine lv_aload_n hx hb dX9_within_124 rfl (lv_at hl 1 rfl) ?_
        refine gg_X9_pIn hC hI gw_4_220 dX9_within_125 ?_
        refine lv_iload hx hb dX9_within_128 (lv_at hl 4 rfl) ?_
        obtain ⟨hi13, h⟩ := h
        refine ga_75 hC hI hi13 dX9_within_130 ?_
        refine lv_icmp_ne (tgt := 138) hx hb dX9_within_131 (by decide) (fun c14 => ?_) (fun c14 => ?_)
        · have h := h.1 c14
          refine lv_iconst (v := 0) hx hb dX9_within_138 (by decide) ?_
          exact J139 _ _ _ _ _ _ _ _ h hI (lv_sub hl [1, 2, 4] rfl)
        · have h := h.2 c14
          refine lv_iconst (v := 1) hx hb dX9_within_134 (by decide) ?_
          refine lv_goto (tgt := 139) hx hb dX9_within_135 (by decide) ?_
          exact J139 _ _ _ _ _ _ _ _ h hI (lv_sub hl [1, 2, 4] rfl)
      have J117 : ∀ (x3 : Int32) (x4 : Int32) (x5 : Int32) (σ : gS) (H : Heap) (locs : List Loc) (ls : Array Slot), w_X9_within_117 Q (w_X9_within_56 Q n56) x3 x4 x5 σ → gI D cy ad A s.heap σ H locs → lv_has ls 8 [(0, .ref (ad 10)), (3, .int x3), (4, .int x4), (5, .int x5)] → W p l e (headSpec ws_X9_within rm_X9_within).room s m ([.ref (ad 10), .int a1, .int a2, .int a3] : List Value).toArray below meth c H locs 0 0 (MQ below (va_Qi Q (gB D cy ad A) A) ([.ref (ad 10), .int a1, .int a2, .int a3] : List Value).toArray s 0 0 A) (F0 m 117 ls []) := by
        intro x3 x4 x5 σ H locs ls h hI hl
        unfold w_X9_within_117 at h
        refine lv_iconst (v := 0) hx hb dX9_within_117 (by decide) ?_
        exact J118 _ _ _ _ _ _ _ _ h hI (lv_sub hl [0, 1, 2, 3] rfl)
      intro x3 x4 x5 σ H locs ls h hI hl
      unfold w_X9_within_56 at h
      refine lv_iload hx hb dX9_within_56 (lv_at hl 3 rfl) ?_
      refine lv_aload_n hx hb dX9_within_58 rfl (lv_at hl 0 rfl) ?_
      refine gg_X9_passes hC hI gw_4_223 dX9_within_59 ?_
      refine lv_icmp_ge (tgt := 148) hx hb dX9_within_62 (by decide) (fun c15 => ?_) (fun c15 => ?_)
      · have h := h.1 c15
        refine lv_iload hx hb dX9_within_148 (lv_at hl 2 rfl) ?_
        exact g_iret hC hr hlocks hI h dX9_within_150
      · have h := h.2 c15
        refine lv_aload_n hx hb dX9_within_65 rfl (lv_at hl 0 rfl) ?_
        refine gg_X9_pTold hC hI gw_4_222 dX9_within_66 ?_
        refine lv_iload hx hb dX9_within_69 (lv_at hl 3 rfl) ?_
        obtain ⟨hi16, h⟩ := h
        refine ga_77 hC hI hi16 dX9_within_71 ?_
        refine lv_iload_n hx hb dX9_within_72 rfl (lv_at hl 1 rfl) ?_
        refine lv_icmp_le (tgt := 79) hx hb dX9_within_73 (by decide) (fun c17 => ?_) (fun c17 => ?_)
        · have h := h.1 c17
          refine lv_aload_n hx hb dX9_within_79 rfl (lv_at hl 0 rfl) ?_
          refine lv_aload_n hx hb dX9_within_80 rfl (lv_at hl 0 rfl) ?_
          refine gg_X9_pBand hC hI gw_4_219 dX9_within_81 ?_
          refine lv_iload hx hb dX9_within_84 (lv_at hl 3 rfl) ?_
          obtain ⟨hi18, h⟩ := h
          refine ga_74 hC hI hi18 dX9_within_86 ?_
          refine lv_sipush (v := 10000) hx hb dX9_within_87 (by decide) ?_
          refine lv_iload_n hx hb dX9_within_90 rfl (lv_at hl 1 rfl) ?_
          refine lv_iload hx hb dX9_within_91 (lv_at hl 3 rfl) ?_
          refine g_backi hI (g_runV (As := [.int (σ 94 x5.toNatClampNeg), .int 10000, .int x3, .int x5]) (rest := []) hC hml hI (c_X9_lastOf l D cy ad A _  _ _ _ _ _ h) k_X9_lastOf gw_6_2 ⟨rfl, rfl⟩ ⟨Nat.le_of_ble_eq_true rfl, Nat.le_of_ble_eq_true rfl⟩ (grv_10 hC hI) rfl hl.1 rfl (Nat.le_of_ble_eq_true rfl) dX9_within_93 ⟨Nat.le_of_ble_eq_true rfl, Nat.le_of_ble_eq_true rfl⟩) (fun r20 s19 H locs h hI => ?_)
          refine lv_istore (lv' := [(6, .int r20), (0, .ref (ad 10)), (3, .int x3), (4, .int x4), (5, .int x5)]) hx hb dX9_within_96 hl (by decide) rfl (fun ls hl => ?_)
          refine lv_iload hx hb dX9_within_98 (lv_at hl 0 rfl) ?_
          refine lv_if_lt (tgt := 117) hx hb dX9_within_100 (by decide) (fun c21 => ?_) (fun c21 => ?_)
          · have h := h.1 c21
            exact J117 _ _ _ _ _ _ _ h hI (lv_sub hl [1, 2, 3, 4] rfl)
          · have h := h.2 c21
            refine lv_aload_n hx hb dX9_within_103 rfl (lv_at hl 1 rfl) ?_
            refine gg_X9_pIn hC hI gw_4_220 dX9_within_104 ?_
            refine lv_iload hx hb dX9_within_107 (lv_at hl 0 rfl) ?_
            obtain ⟨hi22, h⟩ := h
            refine ga_75 hC hI hi22 dX9_within_109 ?_
            refine lv_if_eq (tgt := 117) hx hb dX9_within_110 (by decide) (fun c23 => ?_) (fun c23 => ?_)
            · have h := h.1 c23
              exact J117 _ _ _ _ _ _ _ h hI (lv_sub hl [1, 2, 3, 4] rfl)
            · have h := h.2 c23
              refine lv_iconst (v := 1) hx hb dX9_within_113 (by decide) ?_
              refine lv_goto (tgt := 118) hx hb dX9_within_114 (by decide) ?_
              exact J118 _ _ _ _ _ _ _ _ h hI (lv_sub hl [1, 2, 3, 4] rfl)
        · have h := h.2 c17
          refine lv_goto (tgt := 142) hx hb dX9_within_76 (by decide) ?_
          obtain ⟨y24, ey24⟩ : ∃ y : Int32, y = x5 + 1 := ⟨_, rfl⟩
          have h := h y24 ey24
          refine lv_iinc (v := y24) (lv' := [(5, .int y24), (0, .ref (ad 10)), (3, .int x3), (4, .int x4)]) hx hb dX9_within_142 hl (k := 3) rfl (by rw [ey24]; rfl) (by decide) rfl (fun ls hl => ?_)
          refine lv_goto (tgt := 56) hx hb dX9_within_145 (by decide) ?_
          exact ih56 _ _ _ _ _ _ _ h hI (lv_sub hl [1, 2, 3, 0] rfl)
  have hl := lv_entry ([.ref (ad 10), .int a1, .int a2, .int a3]) (n := 8) (Nat.le_of_ble_eq_true rfl)
  rw [lg_entry_eq]
  generalize (lg_sl ([.ref (ad 10), .int a1, .int a2, .int a3]) ++ List.replicate (8 - (lg_sl ([.ref (ad 10), .int a1, .int a2, .int a3])).length) Slot.unset).toArray = ls at hl ⊢
  have hl : lv_has ls 8 [(0, .ref (ad 10)), (1, .int a1), (2, .int a2), (3, .int a3)] := hl
  unfold w_X9_within at h
  refine lv_aload_n hx hb dX9_within_0 rfl (lv_at hl 0 rfl) ?_
  refine lv_iconst (v := 0) hx hb dX9_within_1 (by decide) ?_
  refine gp_X9_thrown hC hI gw_4_188 dX9_within_2 (fun s25 H locs es25 hI => ?_)
  have h := h s25 es25
  refine lv_iconst (v := 0) hx hb dX9_within_5 (by decide) ?_
  refine lv_istore (lv' := [(4, .int 0), (0, .ref (ad 10)), (1, .int a1), (2, .int a2), (3, .int a3)]) hx hb dX9_within_6 hl (by decide) rfl (fun ls hl => ?_)
  refine lv_iload_n hx hb dX9_within_8 rfl (lv_at hl 2 rfl) ?_
  refine lv_if_ne (tgt := 53) hx hb dX9_within_9 (by decide) (fun c26 => ?_) (fun c26 => ?_)
  · have h := h.1 c26
    refine lv_iconst (v := 0) hx hb dX9_within_53 (by decide) ?_
    refine lv_istore (lv' := [(5, .int 0), (4, .int 0), (0, .ref (ad 10)), (1, .int a1), (2, .int a2), (3, .int a3)]) hx hb dX9_within_54 hl (by decide) rfl (fun ls hl => ?_)
    obtain ⟨n9, h⟩ := h
    exact J56 n9 _ _ _ _ _ _ _ h hI (lv_sub hl [2, 5, 1, 0] rfl)
  · have h := h.2 c26
    refine lv_iconst (v := 0) hx hb dX9_within_12 (by decide) ?_
    refine lv_istore (lv' := [(5, .int 0), (4, .int 0), (0, .ref (ad 10)), (1, .int a1), (2, .int a2), (3, .int a3)]) hx hb dX9_within_13 hl (by decide) rfl (fun ls hl => ?_)
    obtain ⟨n9, h⟩ := h
    exact J15 n9 _ _ _ _ _ _ _ _ h hI (lv_sub hl [2, 4, 5, 1, 0] rfl)

theorem dX9_feed_0 : decode cX9_feed 0 = .ok (.aload_n 0, 1) := by decide +kernel
theorem dX9_feed_1 : decode cX9_feed 1 = .ok (.iconst 0, 1) := by decide +kernel
theorem dX9_feed_2 : decode cX9_feed 2 = .ok (.putfield 3, 3) := by decide +kernel
theorem dX9_feed_5 : decode cX9_feed 5 = .ok (.aload_n 0, 1) := by decide +kernel
theorem dX9_feed_6 : decode cX9_feed 6 = .ok (.getfield 224, 3) := by decide +kernel
theorem dX9_feed_9 : decode cX9_feed 9 = .ok (.bipush 20, 2) := by decide +kernel
theorem dX9_feed_11 : decode cX9_feed 11 = .ok (.iadd, 1) := by decide +kernel
theorem dX9_feed_12 : decode cX9_feed 12 = .ok (.sipush 400, 3) := by decide +kernel
theorem dX9_feed_15 : decode cX9_feed 15 = .ok (.if_icmp .le 5, 3) := by decide +kernel
theorem dX9_feed_18 : decode cX9_feed 18 = .ok (.iconst (-1), 1) := by decide +kernel
theorem dX9_feed_19 : decode cX9_feed 19 = .ok (.ireturn, 1) := by decide +kernel
theorem dX9_feed_20 : decode cX9_feed 20 = .ok (.aload_n 0, 1) := by decide +kernel
theorem dX9_feed_21 : decode cX9_feed 21 = .ok (.getfield 112, 3) := by decide +kernel
theorem dX9_feed_24 : decode cX9_feed 24 = .ok (.iconst 0, 1) := by decide +kernel
theorem dX9_feed_25 : decode cX9_feed 25 = .ok (.iload_n 1, 1) := by decide +kernel
theorem dX9_feed_26 : decode cX9_feed 26 = .ok (.iastore, 1) := by decide +kernel
theorem dX9_feed_27 : decode cX9_feed 27 = .ok (.aload_n 0, 1) := by decide +kernel
theorem dX9_feed_28 : decode cX9_feed 28 = .ok (.getfield 112, 3) := by decide +kernel
theorem dX9_feed_31 : decode cX9_feed 31 = .ok (.iconst 1, 1) := by decide +kernel
theorem dX9_feed_32 : decode cX9_feed 32 = .ok (.iload_n 2, 1) := by decide +kernel
theorem dX9_feed_33 : decode cX9_feed 33 = .ok (.iastore, 1) := by decide +kernel
theorem dX9_feed_34 : decode cX9_feed 34 = .ok (.aload_n 0, 1) := by decide +kernel
theorem dX9_feed_35 : decode cX9_feed 35 = .ok (.getfield 112, 3) := by decide +kernel
theorem dX9_feed_38 : decode cX9_feed 38 = .ok (.iconst 2, 1) := by decide +kernel
theorem dX9_feed_39 : decode cX9_feed 39 = .ok (.iload_n 3, 1) := by decide +kernel
theorem dX9_feed_40 : decode cX9_feed 40 = .ok (.iastore, 1) := by decide +kernel
theorem dX9_feed_41 : decode cX9_feed 41 = .ok (.aload_n 0, 1) := by decide +kernel
theorem dX9_feed_42 : decode cX9_feed 42 = .ok (.getfield 112, 3) := by decide +kernel
theorem dX9_feed_45 : decode cX9_feed 45 = .ok (.iconst 3, 1) := by decide +kernel
theorem dX9_feed_46 : decode cX9_feed 46 = .ok (.iload 4, 2) := by decide +kernel
theorem dX9_feed_48 : decode cX9_feed 48 = .ok (.iastore, 1) := by decide +kernel
theorem dX9_feed_49 : decode cX9_feed 49 = .ok (.aload_n 0, 1) := by decide +kernel
theorem dX9_feed_50 : decode cX9_feed 50 = .ok (.getfield 112, 3) := by decide +kernel
theorem dX9_feed_53 : decode cX9_feed 53 = .ok (.iconst 4, 1) := by decide +kernel
theorem dX9_feed_54 : decode cX9_feed 54 = .ok (.iload 5, 2) := by decide +kernel
theorem dX9_feed_56 : decode cX9_feed 56 = .ok (.iastore, 1) := by decide +kernel
theorem dX9_feed_57 : decode cX9_feed 57 = .ok (.iconst 0, 1) := by decide +kernel
theorem dX9_feed_58 : decode cX9_feed 58 = .ok (.istore 6, 2) := by decide +kernel
theorem dX9_feed_60 : decode cX9_feed 60 = .ok (.iload 6, 2) := by decide +kernel
theorem dX9_feed_62 : decode cX9_feed 62 = .ok (.bipush 20, 2) := by decide +kernel
theorem dX9_feed_64 : decode cX9_feed 64 = .ok (.if_icmp .ge 42, 3) := by decide +kernel
theorem dX9_feed_67 : decode cX9_feed 67 = .ok (.aload_n 0, 1) := by decide +kernel
theorem dX9_feed_68 : decode cX9_feed 68 = .ok (.getfield 105, 3) := by decide +kernel
theorem dX9_feed_71 : decode cX9_feed 71 = .ok (.aload_n 0, 1) := by decide +kernel
theorem dX9_feed_72 : decode cX9_feed 72 = .ok (.getfield 224, 3) := by decide +kernel
theorem dX9_feed_75 : decode cX9_feed 75 = .ok (.iload 6, 2) := by decide +kernel
theorem dX9_feed_77 : decode cX9_feed 77 = .ok (.iadd, 1) := by decide +kernel
theorem dX9_feed_78 : decode cX9_feed 78 = .ok (.aload_n 0, 1) := by decide +kernel
theorem dX9_feed_79 : decode cX9_feed 79 = .ok (.getfield 112, 3) := by decide +kernel
theorem dX9_feed_82 : decode cX9_feed 82 = .ok (.iload 6, 2) := by decide +kernel
theorem dX9_feed_84 : decode cX9_feed 84 = .ok (.iconst 4, 1) := by decide +kernel
theorem dX9_feed_85 : decode cX9_feed 85 = .ok (.idiv, 1) := by decide +kernel
theorem dX9_feed_86 : decode cX9_feed 86 = .ok (.iaload, 1) := by decide +kernel
theorem dX9_feed_87 : decode cX9_feed 87 = .ok (.bipush 24, 2) := by decide +kernel
theorem dX9_feed_89 : decode cX9_feed 89 = .ok (.bipush 8, 2) := by decide +kernel
theorem dX9_feed_91 : decode cX9_feed 91 = .ok (.iload 6, 2) := by decide +kernel
theorem dX9_feed_93 : decode cX9_feed 93 = .ok (.iconst 4, 1) := by decide +kernel
theorem dX9_feed_94 : decode cX9_feed 94 = .ok (.irem, 1) := by decide +kernel
theorem dX9_feed_95 : decode cX9_feed 95 = .ok (.imul, 1) := by decide +kernel
theorem dX9_feed_96 : decode cX9_feed 96 = .ok (.isub, 1) := by decide +kernel
theorem dX9_feed_97 : decode cX9_feed 97 = .ok (.ishr, 1) := by decide +kernel
theorem dX9_feed_98 : decode cX9_feed 98 = .ok (.i2b, 1) := by decide +kernel
theorem dX9_feed_99 : decode cX9_feed 99 = .ok (.bastore, 1) := by decide +kernel
theorem dX9_feed_100 : decode cX9_feed 100 = .ok (.iinc 6 1, 3) := by decide +kernel
theorem dX9_feed_103 : decode cX9_feed 103 = .ok (.goto (-43), 3) := by decide +kernel
theorem dX9_feed_106 : decode cX9_feed 106 = .ok (.aload_n 0, 1) := by decide +kernel
theorem dX9_feed_107 : decode cX9_feed 107 = .ok (.dup, 1) := by decide +kernel
theorem dX9_feed_108 : decode cX9_feed 108 = .ok (.getfield 224, 3) := by decide +kernel
theorem dX9_feed_111 : decode cX9_feed 111 = .ok (.bipush 20, 2) := by decide +kernel
theorem dX9_feed_113 : decode cX9_feed 113 = .ok (.iadd, 1) := by decide +kernel
theorem dX9_feed_114 : decode cX9_feed 114 = .ok (.putfield 224, 3) := by decide +kernel
theorem dX9_feed_117 : decode cX9_feed 117 = .ok (.aload_n 0, 1) := by decide +kernel
theorem dX9_feed_118 : decode cX9_feed 118 = .ok (.getfield 224, 3) := by decide +kernel
theorem dX9_feed_121 : decode cX9_feed 121 = .ok (.ireturn, 1) := by decide +kernel
def w_X9_feed_60 (Q : Int32 → gS → Prop) : Nat → Int32 → gS → Prop
  | 0, _, _ => False
  | n60 + 1, x6, σ =>
    (20 ≤ x6 → ∀ s3 : gS, s3 = gu σ 104 0 ((σ 104 0) + 20) → Q (s3 104 0) s3) ∧ (¬ 20 ≤ x6 → vp_in (x6 / 4) 5 ∧ vp_in ((σ 104 0) + x6) 400 ∧ ∀ s6 : gS, s6 = gu σ 103 ((σ 104 0) + x6).toNatClampNeg (vp_nar .byte (((σ 109 (x6 / 4).toNatClampNeg) >>> ((24 - (8 * (x6 - x6 / 4 * 4))) &&& 31)).toInt8.toInt32)) → ∀ y7 : Int32, y7 = x6 + 1 → w_X9_feed_60 Q n60 y7 s6)
def w_X9_feed (Q : Int32 → gS → Prop) (σ : gS) (a1 : Int32) (a2 : Int32) (a3 : Int32) (a4 : Int32) (a5 : Int32) : Prop :=
    ∀ s8 : gS, s8 = gu σ 63 0 0 → (((s8 104 0) + 20) ≤ 400 → ∀ s11 : gS, s11 = gu s8 109 (0 : Int32).toNatClampNeg a1 → ∀ s13 : gS, s13 = gu s11 109 (1 : Int32).toNatClampNeg a2 → ∀ s15 : gS, s15 = gu s13 109 (2 : Int32).toNatClampNeg a3 → ∀ s17 : gS, s17 = gu s15 109 (3 : Int32).toNatClampNeg a4 → ∀ s19 : gS, s19 = gu s17 109 (4 : Int32).toNatClampNeg a5 → ∃ n60, w_X9_feed_60 Q n60 0 s19) ∧ (¬ ((s8 104 0) + 20) ≤ 400 → Q (-1) s8)
abbrev ws_X9_feed : List Cond := Cond.code yX9_feed cX9_feed 7 (some .int) :: gG
abbrev rm_X9_feed : Room := { frames := 0, cells := 0, slots := 0, locals := 0 }
theorem k_X9_feed : gCV yX9_feed RX9 cX9_feed 7 (some .int) 5 := ⟨gw_6_11, gw_6_12, gw_1_11, gw_6_13, rfl, by decide +kernel⟩
set_option maxHeartbeats 4000000 in
set_option maxRecDepth 100000 in
theorem c_X9_feed (l : Launch) (D : va_G) (cy : Nat → ClassId) (ad : Nat → Nat) (A : Nat → Prop) (Q : Int32 → gS → Prop) (σ : gS) (a1 : Int32) (a2 : Int32) (a3 : Int32) (a4 : Int32) (a5 : Int32) (h : w_X9_feed Q σ a1 a2 a3 a4 a5) : Met l yX9_feed ws_X9_feed rm_X9_feed (va_Pc [.ref (ad 10), .int a1, .int a2, .int a3, .int a4, .int a5] (gB D cy ad A σ)) (va_Qi Q (gB D cy ad A) A) 0 0 A := by
  refine Met.ofW (cc := cX9_feed) (maxL := 7) (ret := (some .int)) (by decide) rfl ?_
  intro p e s m args below meth c s₁ B hml hv
  obtain ⟨rfl, hB⟩ := hv
  have hC : gC p c cX9_feed s m ([.ref (ad 10), .int a1, .int a2, .int a3, .int a4, .int a5] : List Value).toArray RX9 D cy ad A := g_start B hB
  have hI := g_first hB
  have hx := hC.1
  have hb := hC.2.1
  have hr := B.returns
  have hlocks := B.notSynchronized
  clear B hB
  have J60 : ∀ (n60 : Nat) (x6 : Int32) (σ : gS) (H : Heap) (locs : List Loc) (ls : Array Slot), w_X9_feed_60 Q n60 x6 σ → gI D cy ad A s.heap σ H locs → lv_has ls 7 [(0, .ref (ad 10)), (6, .int x6)] → W p l e (headSpec ws_X9_feed rm_X9_feed).room s m ([.ref (ad 10), .int a1, .int a2, .int a3, .int a4, .int a5] : List Value).toArray below meth c H locs 0 0 (MQ below (va_Qi Q (gB D cy ad A) A) ([.ref (ad 10), .int a1, .int a2, .int a3, .int a4, .int a5] : List Value).toArray s 0 0 A) (F0 m 60 ls []) := by
    intro n60
    induction n60 with
    | zero => intro x6 σ H locs ls h; exact absurd h (fun h => h)
    | succ n60 ih60 =>
      intro x6 σ H locs ls h hI hl
      unfold w_X9_feed_60 at h
      refine lv_iload hx hb dX9_feed_60 (lv_at hl 1 rfl) ?_
      refine lv_bipush (v := 20) hx hb dX9_feed_62 (by decide) ?_
      refine lv_icmp_ge (tgt := 106) hx hb dX9_feed_64 (by decide) (fun c2 => ?_) (fun c2 => ?_)
      · have h := h.1 c2
        refine lv_aload_n hx hb dX9_feed_106 rfl (lv_at hl 0 rfl) ?_
        refine lv_dup hx hb dX9_feed_107 rfl ?_
        refine gg_X9_taped hC hI gw_4_229 dX9_feed_108 ?_
        refine lv_bipush (v := 20) hx hb dX9_feed_111 (by decide) ?_
        refine lv_iadd hx hb dX9_feed_113 ?_
        refine gp_X9_taped hC hI gw_4_229 dX9_feed_114 (fun s3 H locs es3 hI => ?_)
        have h := h s3 es3
        refine lv_aload_n hx hb dX9_feed_117 rfl (lv_at hl 0 rfl) ?_
        refine gg_X9_taped hC hI gw_4_229 dX9_feed_118 ?_
        exact g_iret hC hr hlocks hI h dX9_feed_121
      · have h := h.2 c2
        refine lv_aload_n hx hb dX9_feed_67 rfl (lv_at hl 0 rfl) ?_
        refine gg_X9_tape hC hI gw_4_228 dX9_feed_68 ?_
        refine lv_aload_n hx hb dX9_feed_71 rfl (lv_at hl 0 rfl) ?_
        refine gg_X9_taped hC hI gw_4_229 dX9_feed_72 ?_
        refine lv_iload hx hb dX9_feed_75 (lv_at hl 1 rfl) ?_
        refine lv_iadd hx hb dX9_feed_77 ?_
        refine lv_aload_n hx hb dX9_feed_78 rfl (lv_at hl 0 rfl) ?_
        refine gg_X9_five hC hI gw_4_234 dX9_feed_79 ?_
        refine lv_iload hx hb dX9_feed_82 (lv_at hl 1 rfl) ?_
        refine lv_iconst (v := 4) hx hb dX9_feed_84 (by decide) ?_
        refine lv_idiv hx hb dX9_feed_85 (by decide) ?_
        obtain ⟨hi4, h⟩ := h
        refine ga_82 hC hI hi4 dX9_feed_86 ?_
        refine lv_bipush (v := 24) hx hb dX9_feed_87 (by decide) ?_
        refine lv_bipush (v := 8) hx hb dX9_feed_89 (by decide) ?_
        refine lv_iload hx hb dX9_feed_91 (lv_at hl 1 rfl) ?_
        refine lv_iconst (v := 4) hx hb dX9_feed_93 (by decide) ?_
        refine lv_irem hx hb dX9_feed_94 (by decide) ?_
        refine lv_imul hx hb dX9_feed_95 ?_
        refine lv_isub hx hb dX9_feed_96 ?_
        refine lv_ishr hx hb dX9_feed_97 ?_
        refine lv_i2b hx hb dX9_feed_98 rfl ?_
        obtain ⟨hi5, h⟩ := h
        refine gs_81 hC hI hi5 dX9_feed_99 (fun s6 H locs es6 hI => ?_)
        have h := h s6 es6
        obtain ⟨y7, ey7⟩ : ∃ y : Int32, y = x6 + 1 := ⟨_, rfl⟩
        have h := h y7 ey7
        refine lv_iinc (v := y7) (lv' := [(6, .int y7), (0, .ref (ad 10))]) hx hb dX9_feed_100 hl (k := 1) rfl (by rw [ey7]; rfl) (by decide) rfl (fun ls hl => ?_)
        refine lv_goto (tgt := 60) hx hb dX9_feed_103 (by decide) ?_
        exact ih60 _ _ _ _ _ h hI (lv_sub hl [1, 0] rfl)
  have hl := lv_entry ([.ref (ad 10), .int a1, .int a2, .int a3, .int a4, .int a5]) (n := 7) (Nat.le_of_ble_eq_true rfl)
  rw [lg_entry_eq]
  generalize (lg_sl ([.ref (ad 10), .int a1, .int a2, .int a3, .int a4, .int a5]) ++ List.replicate (7 - (lg_sl ([.ref (ad 10), .int a1, .int a2, .int a3, .int a4, .int a5])).length) Slot.unset).toArray = ls at hl ⊢
  have hl : lv_has ls 7 [(0, .ref (ad 10)), (1, .int a1), (2, .int a2), (3, .int a3), (4, .int a4), (5, .int a5)] := hl
  unfold w_X9_feed at h
  refine lv_aload_n hx hb dX9_feed_0 rfl (lv_at hl 0 rfl) ?_
  refine lv_iconst (v := 0) hx hb dX9_feed_1 (by decide) ?_
  refine gp_X9_thrown hC hI gw_4_188 dX9_feed_2 (fun s8 H locs es8 hI => ?_)
  have h := h s8 es8
  refine lv_aload_n hx hb dX9_feed_5 rfl (lv_at hl 0 rfl) ?_
  refine gg_X9_taped hC hI gw_4_229 dX9_feed_6 ?_
  refine lv_bipush (v := 20) hx hb dX9_feed_9 (by decide) ?_
  refine lv_iadd hx hb dX9_feed_11 ?_
  refine lv_sipush (v := 400) hx hb dX9_feed_12 (by decide) ?_
  refine lv_icmp_le (tgt := 20) hx hb dX9_feed_15 (by decide) (fun c9 => ?_) (fun c9 => ?_)
  · have h := h.1 c9
    refine lv_aload_n hx hb dX9_feed_20 rfl (lv_at hl 0 rfl) ?_
    refine gg_X9_five hC hI gw_4_234 dX9_feed_21 ?_
    refine lv_iconst (v := 0) hx hb dX9_feed_24 (by decide) ?_
    refine lv_iload_n hx hb dX9_feed_25 rfl (lv_at hl 1 rfl) ?_
    refine gs_82 hC hI (by unfold vp_in; decide) dX9_feed_26 (fun s11 H locs es11 hI => ?_)
    have h := h s11 es11
    refine lv_aload_n hx hb dX9_feed_27 rfl (lv_at hl 0 rfl) ?_
    refine gg_X9_five hC hI gw_4_234 dX9_feed_28 ?_
    refine lv_iconst (v := 1) hx hb dX9_feed_31 (by decide) ?_
    refine lv_iload_n hx hb dX9_feed_32 rfl (lv_at hl 2 rfl) ?_
    refine gs_82 hC hI (by unfold vp_in; decide) dX9_feed_33 (fun s13 H locs es13 hI => ?_)
    have h := h s13 es13
    refine lv_aload_n hx hb dX9_feed_34 rfl (lv_at hl 0 rfl) ?_
    refine gg_X9_five hC hI gw_4_234 dX9_feed_35 ?_
    refine lv_iconst (v := 2) hx hb dX9_feed_38 (by decide) ?_
    refine lv_iload_n hx hb dX9_feed_39 rfl (lv_at hl 3 rfl) ?_
    refine gs_82 hC hI (by unfold vp_in; decide) dX9_feed_40 (fun s15 H locs es15 hI => ?_)
    have h := h s15 es15
    refine lv_aload_n hx hb dX9_feed_41 rfl (lv_at hl 0 rfl) ?_
    refine gg_X9_five hC hI gw_4_234 dX9_feed_42 ?_
    refine lv_iconst (v := 3) hx hb dX9_feed_45 (by decide) ?_
    refine lv_iload hx hb dX9_feed_46 (lv_at hl 4 rfl) ?_
    refine gs_82 hC hI (by unfold vp_in; decide) dX9_feed_48 (fun s17 H locs es17 hI => ?_)
    have h := h s17 es17
    refine lv_aload_n hx hb dX9_feed_49 rfl (lv_at hl 0 rfl) ?_
    refine gg_X9_five hC hI gw_4_234 dX9_feed_50 ?_
    refine lv_iconst (v := 4) hx hb dX9_feed_53 (by decide) ?_
    refine lv_iload hx hb dX9_feed_54 (lv_at hl 5 rfl) ?_
    refine gs_82 hC hI (by unfold vp_in; decide) dX9_feed_56 (fun s19 H locs es19 hI => ?_)
    have h := h s19 es19
    refine lv_iconst (v := 0) hx hb dX9_feed_57 (by decide) ?_
    refine lv_istore (lv' := [(6, .int 0), (0, .ref (ad 10)), (1, .int a1), (2, .int a2), (3, .int a3), (4, .int a4), (5, .int a5)]) hx hb dX9_feed_58 hl (by decide) rfl (fun ls hl => ?_)
    obtain ⟨n9, h⟩ := h
    exact J60 n9 _ _ _ _ _ h hI (lv_sub hl [1, 0] rfl)
  · have h := h.2 c9
    refine lv_iconst (v := (-1)) hx hb dX9_feed_18 (by decide) ?_
    exact g_iret hC hr hlocks hI h dX9_feed_19

theorem dX9_end_0 : decode cX9_end 0 = .ok (.aload_n 0, 1) := by decide +kernel
theorem dX9_end_1 : decode cX9_end 1 = .ok (.iconst 0, 1) := by decide +kernel
theorem dX9_end_2 : decode cX9_end 2 = .ok (.putfield 3, 3) := by decide +kernel
theorem dX9_end_5 : decode cX9_end 5 = .ok (.iload_n 1, 1) := by decide +kernel
theorem dX9_end_6 : decode cX9_end 6 = .ok (.ifCond .lt 11, 3) := by decide +kernel
theorem dX9_end_9 : decode cX9_end 9 = .ok (.iload_n 1, 1) := by decide +kernel
theorem dX9_end_10 : decode cX9_end 10 = .ok (.aload_n 0, 1) := by decide +kernel
theorem dX9_end_11 : decode cX9_end 11 = .ok (.getfield 224, 3) := by decide +kernel
theorem dX9_end_14 : decode cX9_end 14 = .ok (.if_icmp .le 5, 3) := by decide +kernel
theorem dX9_end_17 : decode cX9_end 17 = .ok (.iconst 0, 1) := by decide +kernel
theorem dX9_end_18 : decode cX9_end 18 = .ok (.ireturn, 1) := by decide +kernel
theorem dX9_end_19 : decode cX9_end 19 = .ok (.aload_n 0, 1) := by decide +kernel
theorem dX9_end_20 : decode cX9_end 20 = .ok (.iload_n 1, 1) := by decide +kernel
theorem dX9_end_21 : decode cX9_end 21 = .ok (.putfield 224, 3) := by decide +kernel
theorem dX9_end_24 : decode cX9_end 24 = .ok (.iconst 1, 1) := by decide +kernel
theorem dX9_end_25 : decode cX9_end 25 = .ok (.ireturn, 1) := by decide +kernel
def w_X9_end (Q : Int32 → gS → Prop) (σ : gS) (a1 : Int32) : Prop :=
    ∀ s1 : gS, s1 = gu σ 63 0 0 → (a1 < 0 → Q 0 s1) ∧ (¬ a1 < 0 → (a1 ≤ (s1 104 0) → ∀ s4 : gS, s4 = gu s1 104 0 a1 → Q 1 s4) ∧ (¬ a1 ≤ (s1 104 0) → Q 0 s1))
abbrev ws_X9_end : List Cond := Cond.code yX9_end cX9_end 2 (some .boolean) :: gG
abbrev rm_X9_end : Room := { frames := 0, cells := 0, slots := 0, locals := 0 }
theorem k_X9_end : gCV yX9_end RX9 cX9_end 2 (some .boolean) 1 := ⟨gw_6_15, gw_6_16, gw_1_11, gw_6_17, rfl, by decide +kernel⟩
set_option maxHeartbeats 4000000 in
set_option maxRecDepth 100000 in
theorem c_X9_end (l : Launch) (D : va_G) (cy : Nat → ClassId) (ad : Nat → Nat) (A : Nat → Prop) (Q : Int32 → gS → Prop) (σ : gS) (a1 : Int32) (h : w_X9_end Q σ a1) : Met l yX9_end ws_X9_end rm_X9_end (va_Pc [.ref (ad 10), .int a1] (gB D cy ad A σ)) (va_Qi Q (gB D cy ad A) A) 0 0 A := by
  refine Met.ofW (cc := cX9_end) (maxL := 2) (ret := (some .boolean)) (by decide) rfl ?_
  intro p e s m args below meth c s₁ B hml hv
  obtain ⟨rfl, hB⟩ := hv
  have hC : gC p c cX9_end s m ([.ref (ad 10), .int a1] : List Value).toArray RX9 D cy ad A := g_start B hB
  have hI := g_first hB
  have hx := hC.1
  have hb := hC.2.1
  have hr := B.returns
  have hlocks := B.notSynchronized
  clear B hB
  have hl := lv_entry ([.ref (ad 10), .int a1]) (n := 2) (Nat.le_of_ble_eq_true rfl)
  rw [lg_entry_eq]
  generalize (lg_sl ([.ref (ad 10), .int a1]) ++ List.replicate (2 - (lg_sl ([.ref (ad 10), .int a1])).length) Slot.unset).toArray = ls at hl ⊢
  have hl : lv_has ls 2 [(0, .ref (ad 10)), (1, .int a1)] := hl
  unfold w_X9_end at h
  refine lv_aload_n hx hb dX9_end_0 rfl (lv_at hl 0 rfl) ?_
  refine lv_iconst (v := 0) hx hb dX9_end_1 (by decide) ?_
  refine gp_X9_thrown hC hI gw_4_188 dX9_end_2 (fun s1 H locs es1 hI => ?_)
  have h := h s1 es1
  refine lv_iload_n hx hb dX9_end_5 rfl (lv_at hl 1 rfl) ?_
  refine lv_if_lt (tgt := 17) hx hb dX9_end_6 (by decide) (fun c2 => ?_) (fun c2 => ?_)
  · have h := h.1 c2
    refine lv_iconst (v := 0) hx hb dX9_end_17 (by decide) ?_
    exact g_zret hC hr hlocks rfl hI h dX9_end_18
  · have h := h.2 c2
    refine lv_iload_n hx hb dX9_end_9 rfl (lv_at hl 1 rfl) ?_
    refine lv_aload_n hx hb dX9_end_10 rfl (lv_at hl 0 rfl) ?_
    refine gg_X9_taped hC hI gw_4_229 dX9_end_11 ?_
    refine lv_icmp_le (tgt := 19) hx hb dX9_end_14 (by decide) (fun c3 => ?_) (fun c3 => ?_)
    · have h := h.1 c3
      refine lv_aload_n hx hb dX9_end_19 rfl (lv_at hl 0 rfl) ?_
      refine lv_iload_n hx hb dX9_end_20 rfl (lv_at hl 1 rfl) ?_
      refine gp_X9_taped hC hI gw_4_229 dX9_end_21 (fun s4 H locs es4 hI => ?_)
      have h := h s4 es4
      refine lv_iconst (v := 1) hx hb dX9_end_24 (by decide) ?_
      exact g_zret hC hr hlocks rfl hI h dX9_end_25
    · have h := h.2 c3
      refine lv_iconst (v := 0) hx hb dX9_end_17 (by decide) ?_
      exact g_zret hC hr hlocks rfl hI h dX9_end_18

theorem dX9_noise_0 : decode cX9_noise 0 = .ok (.aload_n 0, 1) := by decide +kernel
theorem dX9_noise_1 : decode cX9_noise 1 = .ok (.iconst 0, 1) := by decide +kernel
theorem dX9_noise_2 : decode cX9_noise 2 = .ok (.putfield 3, 3) := by decide +kernel
theorem dX9_noise_5 : decode cX9_noise 5 = .ok (.aload_n 0, 1) := by decide +kernel
theorem dX9_noise_6 : decode cX9_noise 6 = .ok (.iload_n 1, 1) := by decide +kernel
theorem dX9_noise_7 : decode cX9_noise 7 = .ok (.iconst 0, 1) := by decide +kernel
theorem dX9_noise_8 : decode cX9_noise 8 = .ok (.bipush 23, 2) := by decide +kernel
theorem dX9_noise_10 : decode cX9_noise 10 = .ok (.invokestatic 115, 3) := by decide +kernel
theorem dX9_noise_13 : decode cX9_noise 13 = .ok (.ifCond .eq 14, 3) := by decide +kernel
theorem dX9_noise_16 : decode cX9_noise 16 = .ok (.iload_n 2, 1) := by decide +kernel
theorem dX9_noise_17 : decode cX9_noise 17 = .ok (.iconst 0, 1) := by decide +kernel
theorem dX9_noise_18 : decode cX9_noise 18 = .ok (.sipush 200, 3) := by decide +kernel
theorem dX9_noise_21 : decode cX9_noise 21 = .ok (.invokestatic 115, 3) := by decide +kernel
theorem dX9_noise_24 : decode cX9_noise 24 = .ok (.ifCond .ne 7, 3) := by decide +kernel
theorem dX9_noise_27 : decode cX9_noise 27 = .ok (.iconst 1, 1) := by decide +kernel
theorem dX9_noise_28 : decode cX9_noise 28 = .ok (.goto 4, 3) := by decide +kernel
theorem dX9_noise_31 : decode cX9_noise 31 = .ok (.iconst 0, 1) := by decide +kernel
theorem dX9_noise_32 : decode cX9_noise 32 = .ok (.iconst 1, 1) := by decide +kernel
theorem dX9_noise_33 : decode cX9_noise 33 = .ok (.invokevirtual 123, 3) := by decide +kernel
theorem dX9_noise_36 : decode cX9_noise 36 = .ok (.ifCond .eq 4, 3) := by decide +kernel
theorem dX9_noise_39 : decode cX9_noise 39 = .ok (.return_, 1) := by decide +kernel
theorem dX9_noise_40 : decode cX9_noise 40 = .ok (.aload_n 0, 1) := by decide +kernel
theorem dX9_noise_41 : decode cX9_noise 41 = .ok (.getfield 102, 3) := by decide +kernel
theorem dX9_noise_44 : decode cX9_noise 44 = .ok (.iload_n 1, 1) := by decide +kernel
theorem dX9_noise_45 : decode cX9_noise 45 = .ok (.iload_n 2, 1) := by decide +kernel
theorem dX9_noise_46 : decode cX9_noise 46 = .ok (.iastore, 1) := by decide +kernel
theorem dX9_noise_47 : decode cX9_noise 47 = .ok (.return_, 1) := by decide +kernel
def w_X9_noise_32 (Q : gS → Prop) (x1 : Int32) (x2 : Int32) (v0 : Int32) (σ : gS) : Prop :=
    w_X9_throwsIf  (fun (r2 : Int32) (s1 : gS) => (r2 = 0 → vp_in x1 24 ∧ ∀ s5 : gS, s5 = gu s1 102 x1.toNatClampNeg x2 → Q s5) ∧ (¬ r2 = 0 → Q s1)) σ v0 1
def w_X9_noise (Q : gS → Prop) (σ : gS) (a1 : Int32) (a2 : Int32) : Prop :=
    ∀ s6 : gS, s6 = gu σ 63 0 0 → w_X9_in  (fun (r8 : Int32) (s7 : gS) => (r8 = 0 → w_X9_noise_32 Q a1 a2 1 s7) ∧ (¬ r8 = 0 → w_X9_in  (fun (r11 : Int32) (s10 : gS) => (¬ r11 = 0 → w_X9_noise_32 Q a1 a2 0 s10) ∧ (r11 = 0 → w_X9_noise_32 Q a1 a2 1 s10)) s7 a2 0 200)) s6 a1 0 23
abbrev ws_X9_noise : List Cond := Cond.code yX9_noise cX9_noise 3 none :: gG
abbrev rm_X9_noise : Room := { frames := 1, cells := 0, slots := 0, locals := 22 }
theorem k_X9_noise : gCV yX9_noise RX9 cX9_noise 3 none 2 := ⟨gw_6_19, gw_6_20, gw_1_11, gw_6_21, rfl, by decide +kernel⟩
set_option maxHeartbeats 4000000 in
set_option maxRecDepth 100000 in
theorem c_X9_noise (l : Launch) (D : va_G) (cy : Nat → ClassId) (ad : Nat → Nat) (A : Nat → Prop) (Q : gS → Prop) (σ : gS) (a1 : Int32) (a2 : Int32) (h : w_X9_noise Q σ a1 a2) : Met l yX9_noise ws_X9_noise rm_X9_noise (va_Pc [.ref (ad 10), .int a1, .int a2] (gB D cy ad A σ)) (va_Qv Q (gB D cy ad A) A) 0 0 A := by
  refine Met.ofW (cc := cX9_noise) (maxL := 3) (ret := none) (by decide) rfl ?_
  intro p e s m args below meth c s₁ B hml hv
  obtain ⟨rfl, hB⟩ := hv
  have hC : gC p c cX9_noise s m ([.ref (ad 10), .int a1, .int a2] : List Value).toArray RX9 D cy ad A := g_start B hB
  have hI := g_first hB
  have hx := hC.1
  have hb := hC.2.1
  have hr := B.returns
  have hlocks := B.notSynchronized
  clear B hB
  have J32 : ∀ (x1 : Int32) (x2 : Int32) (v0 : Int32) (σ : gS) (H : Heap) (locs : List Loc) (ls : Array Slot), w_X9_noise_32 Q x1 x2 v0 σ → gI D cy ad A s.heap σ H locs → lv_has ls 3 [(0, .ref (ad 10)), (1, .int x1), (2, .int x2)] → W p l e (headSpec ws_X9_noise rm_X9_noise).room s m ([.ref (ad 10), .int a1, .int a2] : List Value).toArray below meth c H locs 0 0 (MQ below (va_Qv Q (gB D cy ad A) A) ([.ref (ad 10), .int a1, .int a2] : List Value).toArray s 0 0 A) (F0 m 32 ls [.int v0, .ref (ad 10)]) := by
    intro x1 x2 v0 σ H locs ls h hI hl
    unfold w_X9_noise_32 at h
    refine lv_iconst (v := 1) hx hb dX9_noise_32 (by decide) ?_
    refine g_backi hI (g_runV (As := [.int v0, .int 1]) (rest := []) hC hml hI (c_X9_throwsIf l D cy ad A _  _ _ _ h) k_X9_throwsIf gw_5_100 ⟨rfl, rfl⟩ ⟨Nat.le_of_ble_eq_true rfl, Nat.le_of_ble_eq_true rfl⟩ (grv_10 hC hI) rfl hl.1 rfl (Nat.le_of_ble_eq_true rfl) dX9_noise_33 ⟨Nat.le_of_ble_eq_true rfl, Nat.le_of_ble_eq_true rfl⟩) (fun r2 s1 H locs h hI => ?_)
    refine lv_if_eq (tgt := 40) hx hb dX9_noise_36 (by decide) (fun c3 => ?_) (fun c3 => ?_)
    · have h := h.1 c3
      refine lv_aload_n hx hb dX9_noise_40 rfl (lv_at hl 0 rfl) ?_
      refine gg_X9_noise hC hI gw_4_227 dX9_noise_41 ?_
      refine lv_iload_n hx hb dX9_noise_44 rfl (lv_at hl 1 rfl) ?_
      refine lv_iload_n hx hb dX9_noise_45 rfl (lv_at hl 2 rfl) ?_
      obtain ⟨hi4, h⟩ := h
      refine gs_80 hC hI hi4 dX9_noise_46 (fun s5 H locs es5 hI => ?_)
      have h := h s5 es5
      exact g_vret hC hr hlocks hI h dX9_noise_47
    · have h := h.2 c3
      exact g_vret hC hr hlocks hI h dX9_noise_39
  have hl := lv_entry ([.ref (ad 10), .int a1, .int a2]) (n := 3) (Nat.le_of_ble_eq_true rfl)
  rw [lg_entry_eq]
  generalize (lg_sl ([.ref (ad 10), .int a1, .int a2]) ++ List.replicate (3 - (lg_sl ([.ref (ad 10), .int a1, .int a2])).length) Slot.unset).toArray = ls at hl ⊢
  have hl : lv_has ls 3 [(0, .ref (ad 10)), (1, .int a1), (2, .int a2)] := hl
  unfold w_X9_noise at h
  refine lv_aload_n hx hb dX9_noise_0 rfl (lv_at hl 0 rfl) ?_
  refine lv_iconst (v := 0) hx hb dX9_noise_1 (by decide) ?_
  refine gp_X9_thrown hC hI gw_4_188 dX9_noise_2 (fun s6 H locs es6 hI => ?_)
  have h := h s6 es6
  refine lv_aload_n hx hb dX9_noise_5 rfl (lv_at hl 0 rfl) ?_
  refine lv_iload_n hx hb dX9_noise_6 rfl (lv_at hl 1 rfl) ?_
  refine lv_iconst (v := 0) hx hb dX9_noise_7 (by decide) ?_
  refine lv_bipush (v := 23) hx hb dX9_noise_8 (by decide) ?_
  refine g_backi hI (g_runS (As := [.int a1, .int 0, .int 23]) (rest := [.ref (ad 10)]) hC hml hI (c_X9_in l D cy ad A _  _ _ _ _ h) k_X9_in gw_5_97 ⟨rfl, rfl⟩ ⟨Nat.le_of_ble_eq_true rfl, Nat.le_of_ble_eq_true rfl⟩ rfl hl.1 rfl (Nat.le_of_ble_eq_true rfl) dX9_noise_10 ⟨Nat.le_of_ble_eq_true rfl, Nat.le_of_ble_eq_true rfl⟩) (fun r8 s7 H locs h hI => ?_)
  refine lv_if_eq (tgt := 27) hx hb dX9_noise_13 (by decide) (fun c9 => ?_) (fun c9 => ?_)
  · have h := h.1 c9
    refine lv_iconst (v := 1) hx hb dX9_noise_27 (by decide) ?_
    refine lv_goto (tgt := 32) hx hb dX9_noise_28 (by decide) ?_
    exact J32 _ _ _ _ _ _ _ h hI (lv_sub hl [0, 1, 2] rfl)
  · have h := h.2 c9
    refine lv_iload_n hx hb dX9_noise_16 rfl (lv_at hl 2 rfl) ?_
    refine lv_iconst (v := 0) hx hb dX9_noise_17 (by decide) ?_
    refine lv_sipush (v := 200) hx hb dX9_noise_18 (by decide) ?_
    refine g_backi hI (g_runS (As := [.int a2, .int 0, .int 200]) (rest := [.ref (ad 10)]) hC hml hI (c_X9_in l D cy ad A _  _ _ _ _ h) k_X9_in gw_5_97 ⟨rfl, rfl⟩ ⟨Nat.le_of_ble_eq_true rfl, Nat.le_of_ble_eq_true rfl⟩ rfl hl.1 rfl (Nat.le_of_ble_eq_true rfl) dX9_noise_21 ⟨Nat.le_of_ble_eq_true rfl, Nat.le_of_ble_eq_true rfl⟩) (fun r11 s10 H locs h hI => ?_)
    refine lv_if_ne (tgt := 31) hx hb dX9_noise_24 (by decide) (fun c12 => ?_) (fun c12 => ?_)
    · have h := h.1 c12
      refine lv_iconst (v := 0) hx hb dX9_noise_31 (by decide) ?_
      exact J32 _ _ _ _ _ _ _ h hI (lv_sub hl [0, 1, 2] rfl)
    · have h := h.2 c12
      refine lv_iconst (v := 1) hx hb dX9_noise_27 (by decide) ?_
      refine lv_goto (tgt := 32) hx hb dX9_noise_28 (by decide) ?_
      exact J32 _ _ _ _ _ _ _ h hI (lv_sub hl [0, 1, 2] rfl)

theorem dX9_isAt_0 : decode cX9_isAt 0 = .ok (.aload_n 0, 1) := by decide +kernel
theorem dX9_isAt_1 : decode cX9_isAt 1 = .ok (.getfield 227, 3) := by decide +kernel
theorem dX9_isAt_4 : decode cX9_isAt 4 = .ok (.aload_n 0, 1) := by decide +kernel
theorem dX9_isAt_5 : decode cX9_isAt 5 = .ok (.getfield 230, 3) := by decide +kernel
theorem dX9_isAt_8 : decode cX9_isAt 8 = .ok (.if_icmp .ge 33, 3) := by decide +kernel
theorem dX9_isAt_11 : decode cX9_isAt 11 = .ok (.aload_n 0, 1) := by decide +kernel
theorem dX9_isAt_12 : decode cX9_isAt 12 = .ok (.getfield 105, 3) := by decide +kernel
theorem dX9_isAt_15 : decode cX9_isAt 15 = .ok (.aload_n 0, 1) := by decide +kernel
theorem dX9_isAt_16 : decode cX9_isAt 16 = .ok (.getfield 227, 3) := by decide +kernel
theorem dX9_isAt_19 : decode cX9_isAt 19 = .ok (.baload, 1) := by decide +kernel
theorem dX9_isAt_20 : decode cX9_isAt 20 = .ok (.iload_n 1, 1) := by decide +kernel
theorem dX9_isAt_21 : decode cX9_isAt 21 = .ok (.if_icmp .lt 20, 3) := by decide +kernel
theorem dX9_isAt_24 : decode cX9_isAt 24 = .ok (.aload_n 0, 1) := by decide +kernel
theorem dX9_isAt_25 : decode cX9_isAt 25 = .ok (.getfield 105, 3) := by decide +kernel
theorem dX9_isAt_28 : decode cX9_isAt 28 = .ok (.aload_n 0, 1) := by decide +kernel
theorem dX9_isAt_29 : decode cX9_isAt 29 = .ok (.getfield 227, 3) := by decide +kernel
theorem dX9_isAt_32 : decode cX9_isAt 32 = .ok (.baload, 1) := by decide +kernel
theorem dX9_isAt_33 : decode cX9_isAt 33 = .ok (.iload_n 2, 1) := by decide +kernel
theorem dX9_isAt_34 : decode cX9_isAt 34 = .ok (.if_icmp .gt 7, 3) := by decide +kernel
theorem dX9_isAt_37 : decode cX9_isAt 37 = .ok (.iconst 1, 1) := by decide +kernel
theorem dX9_isAt_38 : decode cX9_isAt 38 = .ok (.goto 4, 3) := by decide +kernel
theorem dX9_isAt_41 : decode cX9_isAt 41 = .ok (.iconst 0, 1) := by decide +kernel
theorem dX9_isAt_42 : decode cX9_isAt 42 = .ok (.ireturn, 1) := by decide +kernel
def w_X9_isAt_41 (Q : Int32 → gS → Prop) (σ : gS) : Prop :=
    Q 0 σ
def w_X9_isAt (Q : Int32 → gS → Prop) (σ : gS) (a1 : Int32) (a2 : Int32) : Prop :=
    ((σ 106 0) ≤ (σ 105 0) → w_X9_isAt_41 Q σ) ∧ (¬ (σ 106 0) ≤ (σ 105 0) → vp_in (σ 105 0) 400 ∧ ((σ 103 (σ 105 0).toNatClampNeg) < a1 → w_X9_isAt_41 Q σ) ∧ (¬ (σ 103 (σ 105 0).toNatClampNeg) < a1 → vp_in (σ 105 0) 400 ∧ (a2 < (σ 103 (σ 105 0).toNatClampNeg) → w_X9_isAt_41 Q σ) ∧ (¬ a2 < (σ 103 (σ 105 0).toNatClampNeg) → Q 1 σ)))
abbrev ws_X9_isAt : List Cond := Cond.code yX9_isAt cX9_isAt 3 (some .boolean) :: gG
abbrev rm_X9_isAt : Room := { frames := 0, cells := 0, slots := 0, locals := 0 }
theorem k_X9_isAt : gCV yX9_isAt RX9 cX9_isAt 3 (some .boolean) 2 := ⟨gw_6_44, gwp_55, gw_1_11, gw_6_45, rfl, by decide +kernel⟩
set_option maxHeartbeats 4000000 in
set_option maxRecDepth 100000 in
theorem c_X9_isAt (l : Launch) (D : va_G) (cy : Nat → ClassId) (ad : Nat → Nat) (A : Nat → Prop) (Q : Int32 → gS → Prop) (σ : gS) (a1 : Int32) (a2 : Int32) (h : w_X9_isAt Q σ a1 a2) : Met l yX9_isAt ws_X9_isAt rm_X9_isAt (va_Pc [.ref (ad 10), .int a1, .int a2] (gB D cy ad A σ)) (va_Qi Q (gB D cy ad A) A) 0 0 A := by
  refine Met.ofW (cc := cX9_isAt) (maxL := 3) (ret := (some .boolean)) (by decide) rfl ?_
  intro p e s m args below meth c s₁ B hml hv
  obtain ⟨rfl, hB⟩ := hv
  have hC : gC p c cX9_isAt s m ([.ref (ad 10), .int a1, .int a2] : List Value).toArray RX9 D cy ad A := g_start B hB
  have hI := g_first hB
  have hx := hC.1
  have hb := hC.2.1
  have hr := B.returns
  have hlocks := B.notSynchronized
  clear B hB
  have J41 : ∀ (σ : gS) (H : Heap) (locs : List Loc) (ls : Array Slot), w_X9_isAt_41 Q σ → gI D cy ad A s.heap σ H locs → lv_has ls 3 [] → W p l e (headSpec ws_X9_isAt rm_X9_isAt).room s m ([.ref (ad 10), .int a1, .int a2] : List Value).toArray below meth c H locs 0 0 (MQ below (va_Qi Q (gB D cy ad A) A) ([.ref (ad 10), .int a1, .int a2] : List Value).toArray s 0 0 A) (F0 m 41 ls []) := by
    intro σ H locs ls h hI hl
    unfold w_X9_isAt_41 at h
    refine lv_iconst (v := 0) hx hb dX9_isAt_41 (by decide) ?_
    exact g_zret hC hr hlocks rfl hI h dX9_isAt_42
  have hl := lv_entry ([.ref (ad 10), .int a1, .int a2]) (n := 3) (Nat.le_of_ble_eq_true rfl)
  rw [lg_entry_eq]
  generalize (lg_sl ([.ref (ad 10), .int a1, .int a2]) ++ List.replicate (3 - (lg_sl ([.ref (ad 10), .int a1, .int a2])).length) Slot.unset).toArray = ls at hl ⊢
  have hl : lv_has ls 3 [(0, .ref (ad 10)), (1, .int a1), (2, .int a2)] := hl
  unfold w_X9_isAt at h
  refine lv_aload_n hx hb dX9_isAt_0 rfl (lv_at hl 0 rfl) ?_
  refine gg_X9_point hC hI gw_4_230 dX9_isAt_1 ?_
  refine lv_aload_n hx hb dX9_isAt_4 rfl (lv_at hl 0 rfl) ?_
  refine gg_X9_end hC hI gw_4_231 dX9_isAt_5 ?_
  refine lv_icmp_ge (tgt := 41) hx hb dX9_isAt_8 (by decide) (fun c3 => ?_) (fun c3 => ?_)
  · have h := h.1 c3
    exact J41 _ _ _ _ h hI (lv_sub hl [] rfl)
  · have h := h.2 c3
    refine lv_aload_n hx hb dX9_isAt_11 rfl (lv_at hl 0 rfl) ?_
    refine gg_X9_tape hC hI gw_4_228 dX9_isAt_12 ?_
    refine lv_aload_n hx hb dX9_isAt_15 rfl (lv_at hl 0 rfl) ?_
    refine gg_X9_point hC hI gw_4_230 dX9_isAt_16 ?_
    obtain ⟨hi4, h⟩ := h
    refine ga_81 hC hI hi4 dX9_isAt_19 ?_
    refine lv_iload_n hx hb dX9_isAt_20 rfl (lv_at hl 1 rfl) ?_
    refine lv_icmp_lt (tgt := 41) hx hb dX9_isAt_21 (by decide) (fun c5 => ?_) (fun c5 => ?_)
    · have h := h.1 c5
      exact J41 _ _ _ _ h hI (lv_sub hl [] rfl)
    · have h := h.2 c5
      refine lv_aload_n hx hb dX9_isAt_24 rfl (lv_at hl 0 rfl) ?_
      refine gg_X9_tape hC hI gw_4_228 dX9_isAt_25 ?_
      refine lv_aload_n hx hb dX9_isAt_28 rfl (lv_at hl 0 rfl) ?_
      refine gg_X9_point hC hI gw_4_230 dX9_isAt_29 ?_
      obtain ⟨hi6, h⟩ := h
      refine ga_81 hC hI hi6 dX9_isAt_32 ?_
      refine lv_iload_n hx hb dX9_isAt_33 rfl (lv_at hl 2 rfl) ?_
      refine lv_icmp_gt (tgt := 41) hx hb dX9_isAt_34 (by decide) (fun c7 => ?_) (fun c7 => ?_)
      · have h := h.1 c7
        exact J41 _ _ _ _ h hI (lv_sub hl [] rfl)
      · have h := h.2 c7
        refine lv_iconst (v := 1) hx hb dX9_isAt_37 (by decide) ?_
        refine lv_goto (tgt := 42) hx hb dX9_isAt_38 (by decide) ?_
        exact g_zret hC hr hlocks rfl hI h dX9_isAt_42

theorem dX9_blanks_0 : decode cX9_blanks 0 = .ok (.aload_n 0, 1) := by decide +kernel
theorem dX9_blanks_1 : decode cX9_blanks 1 = .ok (.bipush 32, 2) := by decide +kernel
theorem dX9_blanks_3 : decode cX9_blanks 3 = .ok (.bipush 32, 2) := by decide +kernel
theorem dX9_blanks_5 : decode cX9_blanks 5 = .ok (.invokevirtual 233, 3) := by decide +kernel
theorem dX9_blanks_8 : decode cX9_blanks 8 = .ok (.ifCond .eq 16, 3) := by decide +kernel
theorem dX9_blanks_11 : decode cX9_blanks 11 = .ok (.aload_n 0, 1) := by decide +kernel
theorem dX9_blanks_12 : decode cX9_blanks 12 = .ok (.dup, 1) := by decide +kernel
theorem dX9_blanks_13 : decode cX9_blanks 13 = .ok (.getfield 227, 3) := by decide +kernel
theorem dX9_blanks_16 : decode cX9_blanks 16 = .ok (.iconst 1, 1) := by decide +kernel
theorem dX9_blanks_17 : decode cX9_blanks 17 = .ok (.iadd, 1) := by decide +kernel
theorem dX9_blanks_18 : decode cX9_blanks 18 = .ok (.putfield 227, 3) := by decide +kernel
theorem dX9_blanks_21 : decode cX9_blanks 21 = .ok (.goto (-21), 3) := by decide +kernel
theorem dX9_blanks_24 : decode cX9_blanks 24 = .ok (.aload_n 0, 1) := by decide +kernel
theorem dX9_blanks_25 : decode cX9_blanks 25 = .ok (.aload_n 0, 1) := by decide +kernel
theorem dX9_blanks_26 : decode cX9_blanks 26 = .ok (.getfield 227, 3) := by decide +kernel
theorem dX9_blanks_29 : decode cX9_blanks 29 = .ok (.putfield 237, 3) := by decide +kernel
theorem dX9_blanks_32 : decode cX9_blanks 32 = .ok (.return_, 1) := by decide +kernel
def w_X9_blanks_0 (Q : gS → Prop) : Nat → gS → Prop
  | 0, _ => False
  | n0 + 1, σ =>
    w_X9_isAt  (fun (r2 : Int32) (s1 : gS) => (r2 = 0 → ∀ s4 : gS, s4 = gu s1 107 0 (s1 105 0) → Q s4) ∧ (¬ r2 = 0 → ∀ s5 : gS, s5 = gu s1 105 0 ((s1 105 0) + 1) → w_X9_blanks_0 Q n0 s5)) σ 32 32
def w_X9_blanks (Q : gS → Prop) (σ : gS) : Prop :=
    ∃ n0, w_X9_blanks_0 Q n0 σ
abbrev ws_X9_blanks : List Cond := Cond.code yX9_blanks cX9_blanks 1 none :: gG
abbrev rm_X9_blanks : Room := { frames := 1, cells := 0, slots := 0, locals := 22 }
theorem k_X9_blanks : gCV yX9_blanks RX9 cX9_blanks 1 none 0 := ⟨gw_6_40, gwp_54, gw_1_11, gw_6_41, rfl, by decide +kernel⟩
set_option maxHeartbeats 4000000 in
set_option maxRecDepth 100000 in
theorem c_X9_blanks (l : Launch) (D : va_G) (cy : Nat → ClassId) (ad : Nat → Nat) (A : Nat → Prop) (Q : gS → Prop) (σ : gS) (h : w_X9_blanks Q σ) : Met l yX9_blanks ws_X9_blanks rm_X9_blanks (va_Pc [.ref (ad 10)] (gB D cy ad A σ)) (va_Qv Q (gB D cy ad A) A) 0 0 A := by
  refine Met.ofW (cc := cX9_blanks) (maxL := 1) (ret := none) (by decide) rfl ?_
  intro p e s m args below meth c s₁ B hml hv
  obtain ⟨rfl, hB⟩ := hv
  have hC : gC p c cX9_blanks s m ([.ref (ad 10)] : List Value).toArray RX9 D cy ad A := g_start B hB
  have hI := g_first hB
  have hx := hC.1
  have hb := hC.2.1
  have hr := B.returns
  have hlocks := B.notSynchronized
  clear B hB
  have J0 : ∀ (n0 : Nat) (σ : gS) (H : Heap) (locs : List Loc) (ls : Array Slot), w_X9_blanks_0 Q n0 σ → gI D cy ad A s.heap σ H locs → lv_has ls 1 [(0, .ref (ad 10))] → W p l e (headSpec ws_X9_blanks rm_X9_blanks).room s m ([.ref (ad 10)] : List Value).toArray below meth c H locs 0 0 (MQ below (va_Qv Q (gB D cy ad A) A) ([.ref (ad 10)] : List Value).toArray s 0 0 A) (F0 m 0 ls []) := by
    intro n0
    induction n0 with
    | zero => intro σ H locs ls h; exact absurd h (fun h => h)
    | succ n0 ih0 =>
      intro σ H locs ls h hI hl
      unfold w_X9_blanks_0 at h
      refine lv_aload_n hx hb dX9_blanks_0 rfl (lv_at hl 0 rfl) ?_
      refine lv_bipush (v := 32) hx hb dX9_blanks_1 (by decide) ?_
      refine lv_bipush (v := 32) hx hb dX9_blanks_3 (by decide) ?_
      refine g_backi hI (g_runV (As := [.int 32, .int 32]) (rest := []) hC hml hI (c_X9_isAt l D cy ad A _  _ _ _ h) k_X9_isAt gw_6_42 ⟨rfl, rfl⟩ ⟨Nat.le_of_ble_eq_true rfl, Nat.le_of_ble_eq_true rfl⟩ (grv_10 hC hI) rfl hl.1 rfl (Nat.le_of_ble_eq_true rfl) dX9_blanks_5 ⟨Nat.le_of_ble_eq_true rfl, Nat.le_of_ble_eq_true rfl⟩) (fun r2 s1 H locs h hI => ?_)
      refine lv_if_eq (tgt := 24) hx hb dX9_blanks_8 (by decide) (fun c3 => ?_) (fun c3 => ?_)
      · have h := h.1 c3
        refine lv_aload_n hx hb dX9_blanks_24 rfl (lv_at hl 0 rfl) ?_
        refine lv_aload_n hx hb dX9_blanks_25 rfl (lv_at hl 0 rfl) ?_
        refine gg_X9_point hC hI gw_4_230 dX9_blanks_26 ?_
        refine gp_X9_begin hC hI gw_4_232 dX9_blanks_29 (fun s4 H locs es4 hI => ?_)
        have h := h s4 es4
        exact g_vret hC hr hlocks hI h dX9_blanks_32
      · have h := h.2 c3
        refine lv_aload_n hx hb dX9_blanks_11 rfl (lv_at hl 0 rfl) ?_
        refine lv_dup hx hb dX9_blanks_12 rfl ?_
        refine gg_X9_point hC hI gw_4_230 dX9_blanks_13 ?_
        refine lv_iconst (v := 1) hx hb dX9_blanks_16 (by decide) ?_
        refine lv_iadd hx hb dX9_blanks_17 ?_
        refine gp_X9_point hC hI gw_4_230 dX9_blanks_18 (fun s5 H locs es5 hI => ?_)
        have h := h s5 es5
        refine lv_goto (tgt := 0) hx hb dX9_blanks_21 (by decide) ?_
        exact ih0 _ _ _ _ h hI (lv_sub hl [0] rfl)
  have hl := lv_entry ([.ref (ad 10)]) (n := 1) (Nat.le_of_ble_eq_true rfl)
  rw [lg_entry_eq]
  generalize (lg_sl ([.ref (ad 10)]) ++ List.replicate (1 - (lg_sl ([.ref (ad 10)])).length) Slot.unset).toArray = ls at hl ⊢
  have hl : lv_has ls 1 [(0, .ref (ad 10))] := hl
  unfold w_X9_blanks at h
  obtain ⟨n9, h⟩ := h
  exact J0 n9 _ _ _ _ h hI (lv_sub hl [0] rfl)

theorem dX9_word_0 : decode cX9_word 0 = .ok (.aload_n 0, 1) := by decide +kernel
theorem dX9_word_1 : decode cX9_word 1 = .ok (.invokevirtual 240, 3) := by decide +kernel
theorem dX9_word_4 : decode cX9_word 4 = .ok (.aload_n 0, 1) := by decide +kernel
theorem dX9_word_5 : decode cX9_word 5 = .ok (.bipush 97, 2) := by decide +kernel
theorem dX9_word_7 : decode cX9_word 7 = .ok (.bipush 122, 2) := by decide +kernel
theorem dX9_word_9 : decode cX9_word 9 = .ok (.invokevirtual 233, 3) := by decide +kernel
theorem dX9_word_12 : decode cX9_word 12 = .ok (.ifCond .eq 16, 3) := by decide +kernel
theorem dX9_word_15 : decode cX9_word 15 = .ok (.aload_n 0, 1) := by decide +kernel
theorem dX9_word_16 : decode cX9_word 16 = .ok (.dup, 1) := by decide +kernel
theorem dX9_word_17 : decode cX9_word 17 = .ok (.getfield 227, 3) := by decide +kernel
theorem dX9_word_20 : decode cX9_word 20 = .ok (.iconst 1, 1) := by decide +kernel
theorem dX9_word_21 : decode cX9_word 21 = .ok (.iadd, 1) := by decide +kernel
theorem dX9_word_22 : decode cX9_word 22 = .ok (.putfield 227, 3) := by decide +kernel
theorem dX9_word_25 : decode cX9_word 25 = .ok (.goto (-21), 3) := by decide +kernel
theorem dX9_word_28 : decode cX9_word 28 = .ok (.return_, 1) := by decide +kernel
def w_X9_word_4 (Q : gS → Prop) : Nat → gS → Prop
  | 0, _ => False
  | n4 + 1, σ =>
    w_X9_isAt  (fun (r2 : Int32) (s1 : gS) => (r2 = 0 → Q s1) ∧ (¬ r2 = 0 → ∀ s4 : gS, s4 = gu s1 105 0 ((s1 105 0) + 1) → w_X9_word_4 Q n4 s4)) σ 97 122
def w_X9_word (Q : gS → Prop) (σ : gS) : Prop :=
    w_X9_blanks  (fun (s5 : gS) => ∃ n4, w_X9_word_4 Q n4 s5) σ
abbrev ws_X9_word : List Cond := Cond.code yX9_word cX9_word 1 none :: gG
abbrev rm_X9_word : Room := { frames := 2, cells := 0, slots := 0, locals := 42 }
theorem k_X9_word : gCV yX9_word RX9 cX9_word 1 none 0 := ⟨gw_6_36, gwp_53, gw_1_11, gw_6_37, rfl, by decide +kernel⟩
set_option maxHeartbeats 4000000 in
set_option maxRecDepth 100000 in
theorem c_X9_word (l : Launch) (D : va_G) (cy : Nat → ClassId) (ad : Nat → Nat) (A : Nat → Prop) (Q : gS → Prop) (σ : gS) (h : w_X9_word Q σ) : Met l yX9_word ws_X9_word rm_X9_word (va_Pc [.ref (ad 10)] (gB D cy ad A σ)) (va_Qv Q (gB D cy ad A) A) 0 0 A := by
  refine Met.ofW (cc := cX9_word) (maxL := 1) (ret := none) (by decide) rfl ?_
  intro p e s m args below meth c s₁ B hml hv
  obtain ⟨rfl, hB⟩ := hv
  have hC : gC p c cX9_word s m ([.ref (ad 10)] : List Value).toArray RX9 D cy ad A := g_start B hB
  have hI := g_first hB
  have hx := hC.1
  have hb := hC.2.1
  have hr := B.returns
  have hlocks := B.notSynchronized
  clear B hB
  have J4 : ∀ (n4 : Nat) (σ : gS) (H : Heap) (locs : List Loc) (ls : Array Slot), w_X9_word_4 Q n4 σ → gI D cy ad A s.heap σ H locs → lv_has ls 1 [(0, .ref (ad 10))] → W p l e (headSpec ws_X9_word rm_X9_word).room s m ([.ref (ad 10)] : List Value).toArray below meth c H locs 0 0 (MQ below (va_Qv Q (gB D cy ad A) A) ([.ref (ad 10)] : List Value).toArray s 0 0 A) (F0 m 4 ls []) := by
    intro n4
    induction n4 with
    | zero => intro σ H locs ls h; exact absurd h (fun h => h)
    | succ n4 ih4 =>
      intro σ H locs ls h hI hl
      unfold w_X9_word_4 at h
      refine lv_aload_n hx hb dX9_word_4 rfl (lv_at hl 0 rfl) ?_
      refine lv_bipush (v := 97) hx hb dX9_word_5 (by decide) ?_
      refine lv_bipush (v := 122) hx hb dX9_word_7 (by decide) ?_
      refine g_backi hI (g_runV (As := [.int 97, .int 122]) (rest := []) hC hml hI (c_X9_isAt l D cy ad A _  _ _ _ h) k_X9_isAt gw_6_42 ⟨rfl, rfl⟩ ⟨Nat.le_of_ble_eq_true rfl, Nat.le_of_ble_eq_true rfl⟩ (grv_10 hC hI) rfl hl.1 rfl (Nat.le_of_ble_eq_true rfl) dX9_word_9 ⟨Nat.le_of_ble_eq_true rfl, Nat.le_of_ble_eq_true rfl⟩) (fun r2 s1 H locs h hI => ?_)
      refine lv_if_eq (tgt := 28) hx hb dX9_word_12 (by decide) (fun c3 => ?_) (fun c3 => ?_)
      · have h := h.1 c3
        exact g_vret hC hr hlocks hI h dX9_word_28
      · have h := h.2 c3
        refine lv_aload_n hx hb dX9_word_15 rfl (lv_at hl 0 rfl) ?_
        refine lv_dup hx hb dX9_word_16 rfl ?_
        refine gg_X9_point hC hI gw_4_230 dX9_word_17 ?_
        refine lv_iconst (v := 1) hx hb dX9_word_20 (by decide) ?_
        refine lv_iadd hx hb dX9_word_21 ?_
        refine gp_X9_point hC hI gw_4_230 dX9_word_22 (fun s4 H locs es4 hI => ?_)
        have h := h s4 es4
        refine lv_goto (tgt := 4) hx hb dX9_word_25 (by decide) ?_
        exact ih4 _ _ _ _ h hI (lv_sub hl [0] rfl)
  have hl := lv_entry ([.ref (ad 10)]) (n := 1) (Nat.le_of_ble_eq_true rfl)
  rw [lg_entry_eq]
  generalize (lg_sl ([.ref (ad 10)]) ++ List.replicate (1 - (lg_sl ([.ref (ad 10)])).length) Slot.unset).toArray = ls at hl ⊢
  have hl : lv_has ls 1 [(0, .ref (ad 10))] := hl
  unfold w_X9_word at h
  refine lv_aload_n hx hb dX9_word_0 rfl (lv_at hl 0 rfl) ?_
  refine g_backv hI (g_runV (As := []) (rest := []) hC hml hI (c_X9_blanks l D cy ad A _  _ h) k_X9_blanks gw_6_38 ⟨rfl, rfl⟩ ⟨Nat.le_of_ble_eq_true rfl, Nat.le_of_ble_eq_true rfl⟩ (grv_10 hC hI) rfl hl.1 rfl (Nat.le_of_ble_eq_true rfl) dX9_word_1 ⟨Nat.le_of_ble_eq_true rfl, Nat.le_of_ble_eq_true rfl⟩) (fun s5 H locs h hI => ?_)
  obtain ⟨n9, h⟩ := h
  exact J4 n9 _ _ _ _ h hI (lv_sub hl [0] rfl)

theorem dX9_number_0 : decode cX9_number 0 = .ok (.aload_n 0, 1) := by decide +kernel
theorem dX9_number_1 : decode cX9_number 1 = .ok (.invokevirtual 240, 3) := by decide +kernel
theorem dX9_number_4 : decode cX9_number 4 = .ok (.iconst 0, 1) := by decide +kernel
theorem dX9_number_5 : decode cX9_number 5 = .ok (.istore 4, 2) := by decide +kernel
theorem dX9_number_7 : decode cX9_number 7 = .ok (.aload_n 0, 1) := by decide +kernel
theorem dX9_number_8 : decode cX9_number 8 = .ok (.bipush 48, 2) := by decide +kernel
theorem dX9_number_10 : decode cX9_number 10 = .ok (.bipush 57, 2) := by decide +kernel
theorem dX9_number_12 : decode cX9_number 12 = .ok (.invokevirtual 233, 3) := by decide +kernel
theorem dX9_number_15 : decode cX9_number 15 = .ok (.ifCond .eq 55, 3) := by decide +kernel
theorem dX9_number_18 : decode cX9_number 18 = .ok (.aload_n 0, 1) := by decide +kernel
theorem dX9_number_19 : decode cX9_number 19 = .ok (.getfield 227, 3) := by decide +kernel
theorem dX9_number_22 : decode cX9_number 22 = .ok (.aload_n 0, 1) := by decide +kernel
theorem dX9_number_23 : decode cX9_number 23 = .ok (.getfield 237, 3) := by decide +kernel
theorem dX9_number_26 : decode cX9_number 26 = .ok (.isub, 1) := by decide +kernel
theorem dX9_number_27 : decode cX9_number 27 = .ok (.bipush 6, 2) := by decide +kernel
theorem dX9_number_29 : decode cX9_number 29 = .ok (.if_icmp .ge 24, 3) := by decide +kernel
theorem dX9_number_32 : decode cX9_number 32 = .ok (.bipush 10, 2) := by decide +kernel
theorem dX9_number_34 : decode cX9_number 34 = .ok (.iload 4, 2) := by decide +kernel
theorem dX9_number_36 : decode cX9_number 36 = .ok (.imul, 1) := by decide +kernel
theorem dX9_number_37 : decode cX9_number 37 = .ok (.aload_n 0, 1) := by decide +kernel
theorem dX9_number_38 : decode cX9_number 38 = .ok (.getfield 105, 3) := by decide +kernel
theorem dX9_number_41 : decode cX9_number 41 = .ok (.aload_n 0, 1) := by decide +kernel
theorem dX9_number_42 : decode cX9_number 42 = .ok (.getfield 227, 3) := by decide +kernel
theorem dX9_number_45 : decode cX9_number 45 = .ok (.baload, 1) := by decide +kernel
theorem dX9_number_46 : decode cX9_number 46 = .ok (.iadd, 1) := by decide +kernel
theorem dX9_number_47 : decode cX9_number 47 = .ok (.bipush 48, 2) := by decide +kernel
theorem dX9_number_49 : decode cX9_number 49 = .ok (.isub, 1) := by decide +kernel
theorem dX9_number_50 : decode cX9_number 50 = .ok (.goto 5, 3) := by decide +kernel
theorem dX9_number_53 : decode cX9_number 53 = .ok (.iload 4, 2) := by decide +kernel
theorem dX9_number_55 : decode cX9_number 55 = .ok (.istore 4, 2) := by decide +kernel
theorem dX9_number_57 : decode cX9_number 57 = .ok (.aload_n 0, 1) := by decide +kernel
theorem dX9_number_58 : decode cX9_number 58 = .ok (.dup, 1) := by decide +kernel
theorem dX9_number_59 : decode cX9_number 59 = .ok (.getfield 227, 3) := by decide +kernel
theorem dX9_number_62 : decode cX9_number 62 = .ok (.iconst 1, 1) := by decide +kernel
theorem dX9_number_63 : decode cX9_number 63 = .ok (.iadd, 1) := by decide +kernel
theorem dX9_number_64 : decode cX9_number 64 = .ok (.putfield 227, 3) := by decide +kernel
theorem dX9_number_67 : decode cX9_number 67 = .ok (.goto (-60), 3) := by decide +kernel
theorem dX9_number_70 : decode cX9_number 70 = .ok (.aload_n 0, 1) := by decide +kernel
theorem dX9_number_71 : decode cX9_number 71 = .ok (.getfield 99, 3) := by decide +kernel
theorem dX9_number_74 : decode cX9_number 74 = .ok (.iload_n 1, 1) := by decide +kernel
theorem dX9_number_75 : decode cX9_number 75 = .ok (.iload 4, 2) := by decide +kernel
theorem dX9_number_77 : decode cX9_number 77 = .ok (.iastore, 1) := by decide +kernel
theorem dX9_number_78 : decode cX9_number 78 = .ok (.aload_n 0, 1) := by decide +kernel
theorem dX9_number_79 : decode cX9_number 79 = .ok (.getfield 227, 3) := by decide +kernel
theorem dX9_number_82 : decode cX9_number 82 = .ok (.aload_n 0, 1) := by decide +kernel
theorem dX9_number_83 : decode cX9_number 83 = .ok (.getfield 237, 3) := by decide +kernel
theorem dX9_number_86 : decode cX9_number 86 = .ok (.if_icmp .le 33, 3) := by decide +kernel
theorem dX9_number_89 : decode cX9_number 89 = .ok (.aload_n 0, 1) := by decide +kernel
theorem dX9_number_90 : decode cX9_number 90 = .ok (.getfield 227, 3) := by decide +kernel
theorem dX9_number_93 : decode cX9_number 93 = .ok (.aload_n 0, 1) := by decide +kernel
theorem dX9_number_94 : decode cX9_number 94 = .ok (.getfield 237, 3) := by decide +kernel
theorem dX9_number_97 : decode cX9_number 97 = .ok (.isub, 1) := by decide +kernel
theorem dX9_number_98 : decode cX9_number 98 = .ok (.bipush 7, 2) := by decide +kernel
theorem dX9_number_100 : decode cX9_number 100 = .ok (.if_icmp .ge 19, 3) := by decide +kernel
theorem dX9_number_103 : decode cX9_number 103 = .ok (.iload 4, 2) := by decide +kernel
theorem dX9_number_105 : decode cX9_number 105 = .ok (.iload_n 2, 1) := by decide +kernel
theorem dX9_number_106 : decode cX9_number 106 = .ok (.if_icmp .lt 13, 3) := by decide +kernel
theorem dX9_number_109 : decode cX9_number 109 = .ok (.iload 4, 2) := by decide +kernel
theorem dX9_number_111 : decode cX9_number 111 = .ok (.iload_n 3, 1) := by decide +kernel
theorem dX9_number_112 : decode cX9_number 112 = .ok (.if_icmp .gt 7, 3) := by decide +kernel
theorem dX9_number_115 : decode cX9_number 115 = .ok (.iconst 1, 1) := by decide +kernel
theorem dX9_number_116 : decode cX9_number 116 = .ok (.goto 4, 3) := by decide +kernel
theorem dX9_number_119 : decode cX9_number 119 = .ok (.iconst 0, 1) := by decide +kernel
theorem dX9_number_120 : decode cX9_number 120 = .ok (.ireturn, 1) := by decide +kernel
def w_X9_number_119 (Q : Int32 → gS → Prop) (σ : gS) : Prop :=
    Q 0 σ
def w_X9_number_55 (Q : Int32 → gS → Prop) (k7 : Int32 → Int32 → Int32 → Int32 → gS → Prop) (x1 : Int32) (x2 : Int32) (x3 : Int32) (v0 : Int32) (σ : gS) : Prop :=
    ∀ s2 : gS, s2 = gu σ 105 0 ((σ 105 0) + 1) → k7 x1 x2 x3 v0 s2
def w_X9_number_7 (Q : Int32 → gS → Prop) : Nat → Int32 → Int32 → Int32 → Int32 → gS → Prop
  | 0, _, _, _, _, _ => False
  | n7 + 1, x1, x2, x3, x4, σ =>
    w_X9_isAt  (fun (r4 : Int32) (s3 : gS) => (r4 = 0 → vp_in x1 48 ∧ ∀ s7 : gS, s7 = gu s3 100 x1.toNatClampNeg x4 → ((s7 105 0) ≤ (s7 107 0) → w_X9_number_119 Q s7) ∧ (¬ (s7 105 0) ≤ (s7 107 0) → (7 ≤ ((s7 105 0) - (s7 107 0)) → w_X9_number_119 Q s7) ∧ (¬ 7 ≤ ((s7 105 0) - (s7 107 0)) → (x4 < x2 → w_X9_number_119 Q s7) ∧ (¬ x4 < x2 → (x3 < x4 → w_X9_number_119 Q s7) ∧ (¬ x3 < x4 → Q 1 s7))))) ∧ (¬ r4 = 0 → (6 ≤ ((s3 105 0) - (s3 107 0)) → w_X9_number_55 Q (w_X9_number_7 Q n7) x1 x2 x3 x4 s3) ∧ (¬ 6 ≤ ((s3 105 0) - (s3 107 0)) → vp_in (s3 105 0) 400 ∧ w_X9_number_55 Q (w_X9_number_7 Q n7) x1 x2 x3 (((10 * x4) + (s3 103 (s3 105 0).toNatClampNeg)) - 48) s3))) σ 48 57
def w_X9_number (Q : Int32 → gS → Prop) (σ : gS) (a1 : Int32) (a2 : Int32) (a3 : Int32) : Prop :=
    w_X9_blanks  (fun (s14 : gS) => ∃ n7, w_X9_number_7 Q n7 a1 a2 a3 0 s14) σ
abbrev ws_X9_number : List Cond := Cond.code yX9_number cX9_number 5 (some .boolean) :: gG
abbrev rm_X9_number : Room := { frames := 2, cells := 0, slots := 0, locals := 42 }
theorem k_X9_number : gCV yX9_number RX9 cX9_number 5 (some .boolean) 3 := ⟨gw_6_60, gwp_57, gw_1_11, gw_6_61, rfl, by decide +kernel⟩
set_option maxHeartbeats 4000000 in
set_option maxRecDepth 100000 in
theorem c_X9_number (l : Launch) (D : va_G) (cy : Nat → ClassId) (ad : Nat → Nat) (A : Nat → Prop) (Q : Int32 → gS → Prop) (σ : gS) (a1 : Int32) (a2 : Int32) (a3 : Int32) (h : w_X9_number Q σ a1 a2 a3) : Met l yX9_number ws_X9_number rm_X9_number (va_Pc [.ref (ad 10), .int a1, .int a2, .int a3] (gB D cy ad A σ)) (va_Qi Q (gB D cy ad A) A) 0 0 A := by
  refine Met.ofW (cc := cX9_number) (maxL := 5) (ret := (some .boolean)) (by decide) rfl ?_
  intro p e s m args below meth c s₁ B hml hv
  obtain ⟨rfl, hB⟩ := hv
  have hC : gC p c cX9_number s m ([.ref (ad 10), .int a1, .int a2, .int a3] : List Value).toArray RX9 D cy ad A := g_start B hB
  have hI := g_first hB
  have hx := hC.1
  have hb := hC.2.1
  have hr := B.returns
  have hlocks := B.notSynchronized
  clear B hB
  have J119 : ∀ (σ : gS) (H : Heap) (locs : List Loc) (ls : Array Slot), w_X9_number_119 Q σ → gI D cy ad A s.heap σ H locs → lv_has ls 5 [] → W p l e (headSpec ws_X9_number rm_X9_number).room s m ([.ref (ad 10), .int a1, .int a2, .int a3] : List Value).toArray below meth c H locs 0 0 (MQ below (va_Qi Q (gB D cy ad A) A) ([.ref (ad 10), .int a1, .int a2, .int a3] : List Value).toArray s 0 0 A) (F0 m 119 ls []) := by
    intro σ H locs ls h hI hl
    unfold w_X9_number_119 at h
    refine lv_iconst (v := 0) hx hb dX9_number_119 (by decide) ?_
    exact g_zret hC hr hlocks rfl hI h dX9_number_120
  have J7 : ∀ (n7 : Nat) (x1 : Int32) (x2 : Int32) (x3 : Int32) (x4 : Int32) (σ : gS) (H : Heap) (locs : List Loc) (ls : Array Slot), w_X9_number_7 Q n7 x1 x2 x3 x4 σ → gI D cy ad A s.heap σ H locs → lv_has ls 5 [(0, .ref (ad 10)), (1, .int x1), (2, .int x2), (3, .int x3), (4, .int x4)] → W p l e (headSpec ws_X9_number rm_X9_number).room s m ([.ref (ad 10), .int a1, .int a2, .int a3] : List Value).toArray below meth c H locs 0 0 (MQ below (va_Qi Q (gB D cy ad A) A) ([.ref (ad 10), .int a1, .int a2, .int a3] : List Value).toArray s 0 0 A) (F0 m 7 ls []) := by
    intro n7
    induction n7 with
    | zero => intro x1 x2 x3 x4 σ H locs ls h; exact absurd h (fun h => h)
    | succ n7 ih7 =>
      have J55 : ∀ (x1 : Int32) (x2 : Int32) (x3 : Int32) (v0 : Int32) (σ : gS) (H : Heap) (locs : List Loc) (ls : Array Slot), w_X9_number_55 Q (w_X9_number_7 Q n7) x1 x2 x3 v0 σ → gI D cy ad A s.heap σ H locs → lv_has ls 5 [(0, .ref (ad 10)), (1, .int x1), (2, .int x2), (3, .int x3)] → W p l e (headSpec ws_X9_number rm_X9_number).room s m ([.ref (ad 10), .int a1, .int a2, .int a3] : List Value).toArray below meth c H locs 0 0 (MQ below (va_Qi Q (gB D cy ad A) A) ([.ref (ad 10), .int a1, .int a2, .int a3] : List Value).toArray s 0 0 A) (F0 m 55 ls [.int v0]) := by
        intro x1 x2 x3 v0 σ H locs ls h hI hl
        unfold w_X9_number_55 at h
        refine lv_istore (lv' := [(4, .int v0), (0, .ref (ad 10)), (1, .int x1), (2, .int x2), (3, .int x3)]) hx hb dX9_number_55 hl (by decide) rfl (fun ls hl => ?_)
        refine lv_aload_n hx hb dX9_number_57 rfl (lv_at hl 1 rfl) ?_
        refine lv_dup hx hb dX9_number_58 rfl ?_
        refine gg_X9_point hC hI gw_4_230 dX9_number_59 ?_
        refine lv_iconst (v := 1) hx hb dX9_number_62 (by decide) ?_
        refine lv_iadd hx hb dX9_number_63 ?_
        refine gp_X9_point hC hI gw_4_230 dX9_number_64 (fun s2 H locs es2 hI => ?_)
        have h := h s2 es2
        refine lv_goto (tgt := 7) hx hb dX9_number_67 (by decide) ?_
        exact ih7 _ _ _ _ _ _ _ _ h hI (lv_sub hl [1, 2, 3, 4, 0] rfl)
      intro x1 x2 x3 x4 σ H locs ls h hI hl
      unfold w_X9_number_7 at h
      refine lv_aload_n hx hb dX9_number_7 rfl (lv_at hl 0 rfl) ?_
      refine lv_bipush (v := 48) hx hb dX9_number_8 (by decide) ?_
      refine lv_bipush (v := 57) hx hb dX9_number_10 (by decide) ?_
      refine g_backi hI (g_runV (As := [.int 48, .int 57]) (rest := []) hC hml hI (c_X9_isAt l D cy ad A _  _ _ _ h) k_X9_isAt gw_6_42 ⟨rfl, rfl⟩ ⟨Nat.le_of_ble_eq_true rfl, Nat.le_of_ble_eq_true rfl⟩ (grv_10 hC hI) rfl hl.1 rfl (Nat.le_of_ble_eq_true rfl) dX9_number_12 ⟨Nat.le_of_ble_eq_true rfl, Nat.le_of_ble_eq_true rfl⟩) (fun r4 s3 H locs h hI => ?_)
      refine lv_if_eq (tgt := 70) hx hb dX9_number_15 (by decide) (fun c5 => ?_) (fun c5 => ?_)
      · have h := h.1 c5
        refine lv_aload_n hx hb dX9_number_70 rfl (lv_at hl 0 rfl) ?_
        refine gg_X9_draft hC hI gw_4_225 dX9_number_71 ?_
        refine lv_iload_n hx hb dX9_number_74 rfl (lv_at hl 1 rfl) ?_
        refine lv_iload hx hb dX9_number_75 (lv_at hl 4 rfl) ?_
        obtain ⟨hi6, h⟩ := h
        refine gs_79 hC hI hi6 dX9_number_77 (fun s7 H locs es7 hI => ?_)
        have h := h s7 es7
        refine lv_aload_n hx hb dX9_number_78 rfl (lv_at hl 0 rfl) ?_
        refine gg_X9_point hC hI gw_4_230 dX9_number_79 ?_
        refine lv_aload_n hx hb dX9_number_82 rfl (lv_at hl 0 rfl) ?_
        refine gg_X9_begin hC hI gw_4_232 dX9_number_83 ?_
        refine lv_icmp_le (tgt := 119) hx hb dX9_number_86 (by decide) (fun c8 => ?_) (fun c8 => ?_)
        · have h := h.1 c8
          exact J119 _ _ _ _ h hI (lv_sub hl [] rfl)
        · have h := h.2 c8
          refine lv_aload_n hx hb dX9_number_89 rfl (lv_at hl 0 rfl) ?_
          refine gg_X9_point hC hI gw_4_230 dX9_number_90 ?_
          refine lv_aload_n hx hb dX9_number_93 rfl (lv_at hl 0 rfl) ?_
          refine gg_X9_begin hC hI gw_4_232 dX9_number_94 ?_
          refine lv_isub hx hb dX9_number_97 ?_
          refine lv_bipush (v := 7) hx hb dX9_number_98 (by decide) ?_
          refine lv_icmp_ge (tgt := 119) hx hb dX9_number_100 (by decide) (fun c9 => ?_) (fun c9 => ?_)
          · have h := h.1 c9
            exact J119 _ _ _ _ h hI (lv_sub hl [] rfl)
          · have h := h.2 c9
            refine lv_iload hx hb dX9_number_103 (lv_at hl 4 rfl) ?_
            refine lv_iload_n hx hb dX9_number_105 rfl (lv_at hl 2 rfl) ?_
            refine lv_icmp_lt (tgt := 119) hx hb dX9_number_106 (by decide) (fun c10 => ?_) (fun c10 => ?_)
            · have h := h.1 c10
              exact J119 _ _ _ _ h hI (lv_sub hl [] rfl)
            · have h := h.2 c10
              refine lv_iload hx hb dX9_number_109 (lv_at hl 4 rfl) ?_
              refine lv_iload_n hx hb dX9_number_111 rfl (lv_at hl 3 rfl) ?_
              refine lv_icmp_gt (tgt := 119) hx hb dX9_number_112 (by decide) (fun c11 => ?_) (fun c11 => ?_)
              · have h := h.1 c11
                exact J119 _ _ _ _ h hI (lv_sub hl [] rfl)
              · have h := h.2 c11
                refine lv_iconst (v := 1) hx hb dX9_number_115 (by decide) ?_
                refine lv_goto (tgt := 120) hx hb dX9_number_116 (by decide) ?_
                exact g_zret hC hr hlocks rfl hI h dX9_number_120
      · have h := h.2 c5
        refine lv_aload_n hx hb dX9_number_18 rfl (lv_at hl 0 rfl) ?_
        refine gg_X9_point hC hI gw_4_230 dX9_number_19 ?_
        refine lv_aload_n hx hb dX9_number_22 rfl (lv_at hl 0 rfl) ?_
        refine gg_X9_begin hC hI gw_4_232 dX9_number_23 ?_
        refine lv_isub hx hb dX9_number_26 ?_
        refine lv_bipush (v := 6) hx hb dX9_number_27 (by decide) ?_
        refine lv_icmp_ge (tgt := 53) hx hb dX9_number_29 (by decide) (fun c12 => ?_) (fun c12 => ?_)
        · have h := h.1 c12
          refine lv_iload hx hb dX9_number_53 (lv_at hl 4 rfl) ?_
          exact J55 _ _ _ _ _ _ _ _ h hI (lv_sub hl [0, 1, 2, 3] rfl)
        · have h := h.2 c12
          refine lv_bipush (v := 10) hx hb dX9_number_32 (by decide) ?_
          refine lv_iload hx hb dX9_number_34 (lv_at hl 4 rfl) ?_
          refine lv_imul hx hb dX9_number_36 ?_
          refine lv_aload_n hx hb dX9_number_37 rfl (lv_at hl 0 rfl) ?_
          refine gg_X9_tape hC hI gw_4_228 dX9_number_38 ?_
          refine lv_aload_n hx hb dX9_number_41 rfl (lv_at hl 0 rfl) ?_
          refine gg_X9_point hC hI gw_4_230 dX9_number_42 ?_
          obtain ⟨hi13, h⟩ := h
          refine ga_81 hC hI hi13 dX9_number_45 ?_
          refine lv_iadd hx hb dX9_number_46 ?_
          refine lv_bipush (v := 48) hx hb dX9_number_47 (by decide) ?_
          refine lv_isub hx hb dX9_number_49 ?_
          refine lv_goto (tgt := 55) hx hb dX9_number_50 (by decide) ?_
          exact J55 _ _ _ _ _ _ _ _ h hI (lv_sub hl [0, 1, 2, 3] rfl)
  have hl := lv_entry ([.ref (ad 10), .int a1, .int a2, .int a3]) (n := 5) (Nat.le_of_ble_eq_true rfl)
  rw [lg_entry_eq]
  generalize (lg_sl ([.ref (ad 10), .int a1, .int a2, .int a3]) ++ List.replicate (5 - (lg_sl ([.ref (ad 10), .int a1, .int a2, .int a3])).length) Slot.unset).toArray = ls at hl ⊢
  have hl : lv_has ls 5 [(0, .ref (ad 10)), (1, .int a1), (2, .int a2), (3, .int a3)] := hl
  unfold w_X9_number at h
  refine lv_aload_n hx hb dX9_number_0 rfl (lv_at hl 0 rfl) ?_
  refine g_backv hI (g_runV (As := []) (rest := []) hC hml hI (c_X9_blanks l D cy ad A _  _ h) k_X9_blanks gw_6_38 ⟨rfl, rfl⟩ ⟨Nat.le_of_ble_eq_true rfl, Nat.le_of_ble_eq_true rfl⟩ (grv_10 hC hI) rfl hl.1 rfl (Nat.le_of_ble_eq_true rfl) dX9_number_1 ⟨Nat.le_of_ble_eq_true rfl, Nat.le_of_ble_eq_true rfl⟩) (fun s14 H locs h hI => ?_)
  refine lv_iconst (v := 0) hx hb dX9_number_4 (by decide) ?_
  refine lv_istore (lv' := [(4, .int 0), (0, .ref (ad 10)), (1, .int a1), (2, .int a2), (3, .int a3)]) hx hb dX9_number_5 hl (by decide) rfl (fun ls hl => ?_)
  obtain ⟨n9, h⟩ := h
  exact J7 n9 _ _ _ _ _ _ _ _ h hI (lv_sub hl [1, 2, 3, 4, 0] rfl)

theorem dX9_fault_0 : decode cX9_fault 0 = .ok (.aload_n 0, 1) := by decide +kernel
theorem dX9_fault_1 : decode cX9_fault 1 = .ok (.iconst 0, 1) := by decide +kernel
theorem dX9_fault_2 : decode cX9_fault 2 = .ok (.putfield 3, 3) := by decide +kernel
theorem dX9_fault_5 : decode cX9_fault 5 = .ok (.aload_n 0, 1) := by decide +kernel
theorem dX9_fault_6 : decode cX9_fault 6 = .ok (.getfield 109, 3) := by decide +kernel
theorem dX9_fault_9 : decode cX9_fault 9 = .ok (.ireturn, 1) := by decide +kernel
def w_X9_fault (Q : Int32 → gS → Prop) (σ : gS) : Prop :=
    ∀ s1 : gS, s1 = gu σ 63 0 0 → Q (s1 108 0) s1
abbrev ws_X9_fault : List Cond := Cond.code yX9_fault cX9_fault 1 (some .int) :: gG
abbrev rm_X9_fault : Room := { frames := 0, cells := 0, slots := 0, locals := 0 }
theorem k_X9_fault : gCV yX9_fault RX9 cX9_fault 1 (some .int) 0 := ⟨gw_6_65, gw_6_66, gw_1_11, gw_6_67, rfl, by decide +kernel⟩
set_option maxHeartbeats 4000000 in
set_option maxRecDepth 100000 in
theorem c_X9_fault (l : Launch) (D : va_G) (cy : Nat → ClassId) (ad : Nat → Nat) (A : Nat → Prop) (Q : Int32 → gS → Prop) (σ : gS) (h : w_X9_fault Q σ) : Met l yX9_fault ws_X9_fault rm_X9_fault (va_Pc [.ref (ad 10)] (gB D cy ad A σ)) (va_Qi Q (gB D cy ad A) A) 0 0 A := by
  refine Met.ofW (cc := cX9_fault) (maxL := 1) (ret := (some .int)) (by decide) rfl ?_
  intro p e s m args below meth c s₁ B hml hv
  obtain ⟨rfl, hB⟩ := hv
  have hC : gC p c cX9_fault s m ([.ref (ad 10)] : List Value).toArray RX9 D cy ad A := g_start B hB
  have hI := g_first hB
  have hx := hC.1
  have hb := hC.2.1
  have hr := B.returns
  have hlocks := B.notSynchronized
  clear B hB
  have hl := lv_entry ([.ref (ad 10)]) (n := 1) (Nat.le_of_ble_eq_true rfl)
  rw [lg_entry_eq]
  generalize (lg_sl ([.ref (ad 10)]) ++ List.replicate (1 - (lg_sl ([.ref (ad 10)])).length) Slot.unset).toArray = ls at hl ⊢
  have hl : lv_has ls 1 [(0, .ref (ad 10))] := hl
  unfold w_X9_fault at h
  refine lv_aload_n hx hb dX9_fault_0 rfl (lv_at hl 0 rfl) ?_
  refine lv_iconst (v := 0) hx hb dX9_fault_1 (by decide) ?_
  refine gp_X9_thrown hC hI gw_4_188 dX9_fault_2 (fun s1 H locs es1 hI => ?_)
  have h := h s1 es1
  refine lv_aload_n hx hb dX9_fault_5 rfl (lv_at hl 0 rfl) ?_
  refine gg_X9_faultAt hC hI gw_4_233 dX9_fault_6 ?_
  exact g_iret hC hr hlocks hI h dX9_fault_9

theorem dX9_holds_0 : decode cX9_holds 0 = .ok (.aload_n 0, 1) := by decide +kernel
theorem dX9_holds_1 : decode cX9_holds 1 = .ok (.getfield 96, 3) := by decide +kernel
theorem dX9_holds_4 : decode cX9_holds 4 = .ok (.iconst 4, 1) := by decide +kernel
theorem dX9_holds_5 : decode cX9_holds 5 = .ok (.iload_n 1, 1) := by decide +kernel
theorem dX9_holds_6 : decode cX9_holds 6 = .ok (.imul, 1) := by decide +kernel
theorem dX9_holds_7 : decode cX9_holds 7 = .ok (.iconst 1, 1) := by decide +kernel
theorem dX9_holds_8 : decode cX9_holds 8 = .ok (.iadd, 1) := by decide +kernel
theorem dX9_holds_9 : decode cX9_holds 9 = .ok (.iaload, 1) := by decide +kernel
theorem dX9_holds_10 : decode cX9_holds 10 = .ok (.istore_n 2, 1) := by decide +kernel
theorem dX9_holds_11 : decode cX9_holds 11 = .ok (.aload_n 0, 1) := by decide +kernel
theorem dX9_holds_12 : decode cX9_holds 12 = .ok (.getfield 96, 3) := by decide +kernel
theorem dX9_holds_15 : decode cX9_holds 15 = .ok (.iconst 4, 1) := by decide +kernel
theorem dX9_holds_16 : decode cX9_holds 16 = .ok (.iload_n 1, 1) := by decide +kernel
theorem dX9_holds_17 : decode cX9_holds 17 = .ok (.imul, 1) := by decide +kernel
theorem dX9_holds_18 : decode cX9_holds 18 = .ok (.iaload, 1) := by decide +kernel
theorem dX9_holds_19 : decode cX9_holds 19 = .ok (.tableswitch 78 0 3 #[29, 43, 54, 64], 29) := by decide +kernel
theorem dX9_holds_48 : decode cX9_holds 48 = .ok (.aload_n 0, 1) := by decide +kernel
theorem dX9_holds_49 : decode cX9_holds 49 = .ok (.invokevirtual 280, 3) := by decide +kernel
theorem dX9_holds_52 : decode cX9_holds 52 = .ok (.iload_n 2, 1) := by decide +kernel
theorem dX9_holds_53 : decode cX9_holds 53 = .ok (.if_icmp .gt 7, 3) := by decide +kernel
theorem dX9_holds_56 : decode cX9_holds 56 = .ok (.iconst 1, 1) := by decide +kernel
theorem dX9_holds_57 : decode cX9_holds 57 = .ok (.goto 4, 3) := by decide +kernel
theorem dX9_holds_60 : decode cX9_holds 60 = .ok (.iconst 0, 1) := by decide +kernel
theorem dX9_holds_61 : decode cX9_holds 61 = .ok (.ireturn, 1) := by decide +kernel
theorem dX9_holds_62 : decode cX9_holds 62 = .ok (.aload_n 0, 1) := by decide +kernel
theorem dX9_holds_63 : decode cX9_holds 63 = .ok (.iconst (-1), 1) := by decide +kernel
theorem dX9_holds_64 : decode cX9_holds 64 = .ok (.invokevirtual 186, 3) := by decide +kernel
theorem dX9_holds_67 : decode cX9_holds 67 = .ok (.iconst 0, 1) := by decide +kernel
theorem dX9_holds_68 : decode cX9_holds 68 = .ok (.iload_n 2, 1) := by decide +kernel
theorem dX9_holds_69 : decode cX9_holds 69 = .ok (.invokestatic 115, 3) := by decide +kernel
theorem dX9_holds_72 : decode cX9_holds 72 = .ok (.ireturn, 1) := by decide +kernel
theorem dX9_holds_73 : decode cX9_holds 73 = .ok (.aload_n 0, 1) := by decide +kernel
theorem dX9_holds_74 : decode cX9_holds 74 = .ok (.invokevirtual 192, 3) := by decide +kernel
theorem dX9_holds_77 : decode cX9_holds 77 = .ok (.iconst 0, 1) := by decide +kernel
theorem dX9_holds_78 : decode cX9_holds 78 = .ok (.iload_n 2, 1) := by decide +kernel
theorem dX9_holds_79 : decode cX9_holds 79 = .ok (.invokestatic 115, 3) := by decide +kernel
theorem dX9_holds_82 : decode cX9_holds 82 = .ok (.ireturn, 1) := by decide +kernel
theorem dX9_holds_83 : decode cX9_holds 83 = .ok (.aload_n 0, 1) := by decide +kernel
theorem dX9_holds_84 : decode cX9_holds 84 = .ok (.invokevirtual 283, 3) := by decide +kernel
theorem dX9_holds_87 : decode cX9_holds 87 = .ok (.iload_n 2, 1) := by decide +kernel
theorem dX9_holds_88 : decode cX9_holds 88 = .ok (.if_icmp .gt 7, 3) := by decide +kernel
theorem dX9_holds_91 : decode cX9_holds 91 = .ok (.iconst 1, 1) := by decide +kernel
theorem dX9_holds_92 : decode cX9_holds 92 = .ok (.goto 4, 3) := by decide +kernel
theorem dX9_holds_95 : decode cX9_holds 95 = .ok (.iconst 0, 1) := by decide +kernel
theorem dX9_holds_96 : decode cX9_holds 96 = .ok (.ireturn, 1) := by decide +kernel
theorem dX9_holds_97 : decode cX9_holds 97 = .ok (.iconst 1, 1) := by decide +kernel
theorem dX9_holds_98 : decode cX9_holds 98 = .ok (.istore_n 3, 1) := by decide +kernel
theorem dX9_holds_99 : decode cX9_holds 99 = .ok (.aload_n 0, 1) := by decide +kernel
theorem dX9_holds_100 : decode cX9_holds 100 = .ok (.getfield 96, 3) := by decide +kernel
theorem dX9_holds_103 : decode cX9_holds 103 = .ok (.iconst 4, 1) := by decide +kernel
theorem dX9_holds_104 : decode cX9_holds 104 = .ok (.iload_n 1, 1) := by decide +kernel
theorem dX9_holds_105 : decode cX9_holds 105 = .ok (.imul, 1) := by decide +kernel
theorem dX9_holds_106 : decode cX9_holds 106 = .ok (.iconst 2, 1) := by decide +kernel
theorem dX9_holds_107 : decode cX9_holds 107 = .ok (.iadd, 1) := by decide +kernel
theorem dX9_holds_108 : decode cX9_holds 108 = .ok (.iaload, 1) := by decide +kernel
theorem dX9_holds_109 : decode cX9_holds 109 = .ok (.istore 4, 2) := by decide +kernel
theorem dX9_holds_111 : decode cX9_holds 111 = .ok (.iload 4, 2) := by decide +kernel
theorem dX9_holds_113 : decode cX9_holds 113 = .ok (.aload_n 0, 1) := by decide +kernel
theorem dX9_holds_114 : decode cX9_holds 114 = .ok (.getfield 96, 3) := by decide +kernel
theorem dX9_holds_117 : decode cX9_holds 117 = .ok (.iconst 4, 1) := by decide +kernel
theorem dX9_holds_118 : decode cX9_holds 118 = .ok (.iload_n 1, 1) := by decide +kernel
theorem dX9_holds_119 : decode cX9_holds 119 = .ok (.imul, 1) := by decide +kernel
theorem dX9_holds_120 : decode cX9_holds 120 = .ok (.iconst 3, 1) := by decide +kernel
theorem dX9_holds_121 : decode cX9_holds 121 = .ok (.iadd, 1) := by decide +kernel
theorem dX9_holds_122 : decode cX9_holds 122 = .ok (.iaload, 1) := by decide +kernel
theorem dX9_holds_123 : decode cX9_holds 123 = .ok (.if_icmp .gt 30, 3) := by decide +kernel
theorem dX9_holds_126 : decode cX9_holds 126 = .ok (.iload_n 3, 1) := by decide +kernel
theorem dX9_holds_127 : decode cX9_holds 127 = .ok (.ifCond .eq 18, 3) := by decide +kernel
theorem dX9_holds_130 : decode cX9_holds 130 = .ok (.aload_n 0, 1) := by decide +kernel
theorem dX9_holds_131 : decode cX9_holds 131 = .ok (.getfield 102, 3) := by decide +kernel
theorem dX9_holds_134 : decode cX9_holds 134 = .ok (.iload 4, 2) := by decide +kernel
theorem dX9_holds_136 : decode cX9_holds 136 = .ok (.iaload, 1) := by decide +kernel
theorem dX9_holds_137 : decode cX9_holds 137 = .ok (.iload_n 2, 1) := by decide +kernel
theorem dX9_holds_138 : decode cX9_holds 138 = .ok (.if_icmp .gt 7, 3) := by decide +kernel
theorem dX9_holds_141 : decode cX9_holds 141 = .ok (.iconst 1, 1) := by decide +kernel
theorem dX9_holds_142 : decode cX9_holds 142 = .ok (.goto 4, 3) := by decide +kernel
theorem dX9_holds_145 : decode cX9_holds 145 = .ok (.iconst 0, 1) := by decide +kernel
theorem dX9_holds_146 : decode cX9_holds 146 = .ok (.istore_n 3, 1) := by decide +kernel
theorem dX9_holds_147 : decode cX9_holds 147 = .ok (.iinc 4 1, 3) := by decide +kernel
theorem dX9_holds_150 : decode cX9_holds 150 = .ok (.goto (-39), 3) := by decide +kernel
theorem dX9_holds_153 : decode cX9_holds 153 = .ok (.iload_n 3, 1) := by decide +kernel
theorem dX9_holds_154 : decode cX9_holds 154 = .ok (.ireturn, 1) := by decide +kernel
def w_X9_holds_145 (Q : Int32 → gS → Prop) (k111 : Int32 → Int32 → Int32 → Int32 → gS → Prop) (x1 : Int32) (x2 : Int32) (x4 : Int32) (σ : gS) : Prop :=
    ∀ y6 : Int32, y6 = x4 + 1 → k111 x1 x2 0 y6 σ
def w_X9_holds_111 (Q : Int32 → gS → Prop) : Nat → Int32 → Int32 → Int32 → Int32 → gS → Prop
  | 0, _, _, _, _, _ => False
  | n111 + 1, x1, x2, x3, x4, σ =>
    vp_in ((4 * x1) + 3) 48 ∧ ((σ 99 ((4 * x1) + 3).toNatClampNeg) < x4 → gz x3 ∧ Q x3 σ) ∧ (¬ (σ 99 ((4 * x1) + 3).toNatClampNeg) < x4 → (x3 = 0 → w_X9_holds_145 Q (w_X9_holds_111 Q n111) x1 x2 x4 σ) ∧ (¬ x3 = 0 → vp_in x4 24 ∧ (x2 < (σ 102 x4.toNatClampNeg) → w_X9_holds_145 Q (w_X9_holds_111 Q n111) x1 x2 x4 σ) ∧ (¬ x2 < (σ 102 x4.toNatClampNeg) → ∀ y12 : Int32, y12 = x4 + 1 → w_X9_holds_111 Q n111 x1 x2 1 y12 σ)))
def w_X9_holds (Q : Int32 → gS → Prop) (σ : gS) (a1 : Int32) : Prop :=
    vp_in ((4 * a1) + 1) 48 ∧ ∀ y14 : Int32, y14 = (σ 99 ((4 * a1) + 1).toNatClampNeg) → vp_in (4 * a1) 48 ∧ ((σ 99 (4 * a1).toNatClampNeg) = 0 → w_X9_crowdOfAll  (fun (r18 : Int32) (s17 : gS) => (y14 < r18 → Q 0 s17) ∧ (¬ y14 < r18 → Q 1 s17)) σ) ∧ (¬ (σ 99 (4 * a1).toNatClampNeg) = 0 → ((σ 99 (4 * a1).toNatClampNeg) = 1 → w_X9_emptied  (fun (r22 : Int32) (s21 : gS) => w_X9_in  (fun (r24 : Int32) (s23 : gS) => gz r24 ∧ Q r24 s23) s21 r22 0 y14) σ (-1)) ∧ (¬ (σ 99 (4 * a1).toNatClampNeg) = 1 → ((σ 99 (4 * a1).toNatClampNeg) = 2 → w_X9_worstOf  (fun (r27 : Int32) (s26 : gS) => w_X9_in  (fun (r29 : Int32) (s28 : gS) => gz r29 ∧ Q r29 s28) s26 r27 0 y14) σ) ∧ (¬ (σ 99 (4 * a1).toNatClampNeg) = 2 → ((σ 99 (4 * a1).toNatClampNeg) = 3 → w_X9_standing  (fun (r32 : Int32) (s31 : gS) => (y14 < r32 → Q 0 s31) ∧ (¬ y14 < r32 → Q 1 s31)) σ) ∧ (¬ (σ 99 (4 * a1).toNatClampNeg) = 3 → vp_in ((4 * a1) + 2) 48 ∧ ∀ y35 : Int32, y35 = (σ 99 ((4 * a1) + 2).toNatClampNeg) → ∃ n111, w_X9_holds_111 Q n111 a1 y14 1 y35 σ))))
abbrev ws_X9_holds : List Cond := Cond.code yX9_holds cX9_holds 5 (some .boolean) :: gG
abbrev rm_X9_holds : Room := { frames := 5, cells := 0, slots := 0, locals := 121 }
theorem k_X9_holds : gCV yX9_holds RX9 cX9_holds 5 (some .boolean) 1 := ⟨gw_6_74, gwp_58, gw_1_11, gw_6_75, rfl, by decide +kernel⟩
set_option maxHeartbeats 4000000 in
set_option maxRecDepth 100000 in
theorem c_X9_holds (l : Launch) (D : va_G) (cy : Nat → ClassId) (ad : Nat → Nat) (A : Nat → Prop) (Q : Int32 → gS → Prop) (σ : gS) (a1 : Int32) (h : w_X9_holds Q σ a1) : Met l yX9_holds ws_X9_holds rm_X9_holds (va_Pc [.ref (ad 10), .int a1] (gB D cy ad A σ)) (va_Qi Q (gB D cy ad A) A) 0 0 A := by
  refine Met.ofW (cc := cX9_holds) (maxL := 5) (ret := (some .boolean)) (by decide) rfl ?_
  intro p e s m args below meth c s₁ B hml hv
  obtain ⟨rfl, hB⟩ := hv
  have hC : gC p c cX9_holds s m ([.ref (ad 10), .int a1] : List Value).toArray RX9 D cy ad A := g_start B hB
  have hI := g_first hB
  have hx := hC.1
  have hb := hC.2.1
  have hr := B.returns
  have hlocks := B.notSynchronized
  clear B hB
  have J111 : ∀ (n111 : Nat) (x1 : Int32) (x2 : Int32) (x3 : Int32) (x4 : Int32) (σ : gS) (H : Heap) (locs : List Loc) (ls : Array Slot), w_X9_holds_111 Q n111 x1 x2 x3 x4 σ → gI D cy ad A s.heap σ H locs → lv_has ls 5 [(0, .ref (ad 10)), (1, .int x1), (2, .int x2), (3, .int x3), (4, .int x4)] → W p l e (headSpec ws_X9_holds rm_X9_holds).room s m ([.ref (ad 10), .int a1] : List Value).toArray below meth c H locs 0 0 (MQ below (va_Qi Q (gB D cy ad A) A) ([.ref (ad 10), .int a1] : List Value).toArray s 0 0 A) (F0 m 111 ls []) := by
    intro n111
    induction n111 with
    | zero => intro x1 x2 x3 x4 σ H locs ls h; exact absurd h (fun h => h)
    | succ n111 ih111 =>
      have J145 : ∀ (x1 : Int32) (x2 : Int32) (x4 : Int32) (σ : gS) (H : Heap) (locs : List Loc) (ls : Array Slot), w_X9_holds_145 Q (w_X9_holds_111 Q n111) x1 x2 x4 σ → gI D cy ad A s.heap σ H locs → lv_has ls 5 [(0, .ref (ad 10)), (1, .int x1), (2, .int x2), (4, .int x4)] → W p l e (headSpec ws_X9_holds rm_X9_holds).room s m ([.ref (ad 10), .int a1] : List Value).toArray below meth c H locs 0 0 (MQ below (va_Qi Q (gB D cy ad A) A) ([.ref (ad 10), .int a1] : List Value).toArray s 0 0 A) (F0 m 145 ls []) := by
        intro x1 x2 x4 σ H locs ls h hI hl
        unfold w_X9_holds_145 at h
        refine lv_iconst (v := 0) hx hb dX9_holds_145 (by decide) ?_
        refine lv_istore_n (lv' := [(3, .int 0), (0, .ref (ad 10)), (1, .int x1), (2, .int x2), (4, .int x4)]) hx hb dX9_holds_146 rfl hl (by decide) rfl (fun ls hl => ?_)
        obtain ⟨y6, ey6⟩ : ∃ y : Int32, y = x4 + 1 := ⟨_, rfl⟩
        have h := h y6 ey6
        refine lv_iinc (v := y6) (lv' := [(4, .int y6), (3, .int 0), (0, .ref (ad 10)), (1, .int x1), (2, .int x2)]) hx hb dX9_holds_147 hl (k := 4) rfl (by rw [ey6]; rfl) (by decide) rfl (fun ls hl => ?_)
        refine lv_goto (tgt := 111) hx hb dX9_holds_150 (by decide) ?_
        exact ih111 _ _ _ _ _ _ _ _ h hI (lv_sub hl [2, 3, 4, 1, 0] rfl)
      intro x1 x2 x3 x4 σ H locs ls h hI hl
      unfold w_X9_holds_111 at h
      refine lv_iload hx hb dX9_holds_111 (lv_at hl 4 rfl) ?_
      refine lv_aload_n hx hb dX9_holds_113 rfl (lv_at hl 0 rfl) ?_
      refine gg_X9_term hC hI gw_4_224 dX9_holds_114 ?_
      refine lv_iconst (v := 4) hx hb dX9_holds_117 (by decide) ?_
      refine lv_iload_n hx hb dX9_holds_118 rfl (lv_at hl 1 rfl) ?_
      refine lv_imul hx hb dX9_holds_119 ?_
      refine lv_iconst (v := 3) hx hb dX9_holds_120 (by decide) ?_
      refine lv_iadd hx hb dX9_holds_121 ?_
      obtain ⟨hi7, h⟩ := h
      refine ga_78 hC hI hi7 dX9_holds_122 ?_
      refine lv_icmp_gt (tgt := 153) hx hb dX9_holds_123 (by decide) (fun c8 => ?_) (fun c8 => ?_)
      · have h := h.1 c8
        refine lv_iload_n hx hb dX9_holds_153 rfl (lv_at hl 3 rfl) ?_
        exact g_zret hC hr hlocks h.1 hI h.2 dX9_holds_154
      · have h := h.2 c8
        refine lv_iload_n hx hb dX9_holds_126 rfl (lv_at hl 3 rfl) ?_
        refine lv_if_eq (tgt := 145) hx hb dX9_holds_127 (by decide) (fun c9 => ?_) (fun c9 => ?_)
        · have h := h.1 c9
          exact J145 _ _ _ _ _ _ _ h hI (lv_sub hl [0, 1, 2, 4] rfl)
        · have h := h.2 c9
          refine lv_aload_n hx hb dX9_holds_130 rfl (lv_at hl 0 rfl) ?_
          refine gg_X9_noise hC hI gw_4_227 dX9_holds_131 ?_
          refine lv_iload hx hb dX9_holds_134 (lv_at hl 4 rfl) ?_
          obtain ⟨hi10, h⟩ := h
          refine ga_80 hC hI hi10 dX9_holds_136 ?_
          refine lv_iload_n hx hb dX9_holds_137 rfl (lv_at hl 2 rfl) ?_
          refine lv_icmp_gt (tgt := 145) hx hb dX9_holds_138 (by decide) (fun c11 => ?_) (fun c11 => ?_)
          · have h := h.1 c11
            exact J145 _ _ _ _ _ _ _ h hI (lv_sub hl [0, 1, 2, 4] rfl)
          · have h := h.2 c11
            refine lv_iconst (v := 1) hx hb dX9_holds_141 (by decide) ?_
            refine lv_goto (tgt := 146) hx hb dX9_holds_142 (by decide) ?_
            refine lv_istore_n (lv' := [(3, .int 1), (0, .ref (ad 10)), (1, .int x1), (2, .int x2), (4, .int x4)]) hx hb dX9_holds_146 rfl hl (by decide) rfl (fun ls hl => ?_)
            obtain ⟨y12, ey12⟩ : ∃ y : Int32, y = x4 + 1 := ⟨_, rfl⟩
            have h := h y12 ey12
            refine lv_iinc (v := y12) (lv' := [(4, .int y12), (3, .int 1), (0, .ref (ad 10)), (1, .int x1), (2, .int x2)]) hx hb dX9_holds_147 hl (k := 4) rfl (by rw [ey12]; rfl) (by decide) rfl (fun ls hl => ?_)
            refine lv_goto (tgt := 111) hx hb dX9_holds_150 (by decide) ?_
            exact ih111 _ _ _ _ _ _ _ _ h hI (lv_sub hl [2, 3, 4, 1, 0] rfl)
  have hl := lv_entry ([.ref (ad 10), .int a1]) (n := 5) (Nat.le_of_ble_eq_true rfl)
  rw [lg_entry_eq]
  generalize (lg_sl ([.ref (ad 10), .int a1]) ++ List.replicate (5 - (lg_sl ([.ref (ad 10), .int a1])).length) Slot.unset).toArray = ls at hl ⊢
  have hl : lv_has ls 5 [(0, .ref (ad 10)), (1, .int a1)] := hl
  unfold w_X9_holds at h
  refine lv_aload_n hx hb dX9_holds_0 rfl (lv_at hl 0 rfl) ?_
  refine gg_X9_term hC hI gw_4_224 dX9_holds_1 ?_
  refine lv_iconst (v := 4) hx hb dX9_holds_4 (by decide) ?_
  refine lv_iload_n hx hb dX9_holds_5 rfl (lv_at hl 1 rfl) ?_
  refine lv_imul hx hb dX9_holds_6 ?_
  refine lv_iconst (v := 1) hx hb dX9_holds_7 (by decide) ?_
  refine lv_iadd hx hb dX9_holds_8 ?_
  obtain ⟨hi13, h⟩ := h
  refine ga_78 hC hI hi13 dX9_holds_9 ?_
  refine lv_topi (fun y14 ey14 => ?_)
  have h := h y14 ey14
  refine lv_istore_n (lv' := [(2, .int y14), (0, .ref (ad 10)), (1, .int a1)]) hx hb dX9_holds_10 rfl hl (by decide) rfl (fun ls hl => ?_)
  refine lv_aload_n hx hb dX9_holds_11 rfl (lv_at hl 1 rfl) ?_
  refine gg_X9_term hC hI gw_4_224 dX9_holds_12 ?_
  refine lv_iconst (v := 4) hx hb dX9_holds_15 (by decide) ?_
  refine lv_iload_n hx hb dX9_holds_16 rfl (lv_at hl 2 rfl) ?_
  refine lv_imul hx hb dX9_holds_17 ?_
  obtain ⟨hi15, h⟩ := h
  refine ga_78 hC hI hi15 dX9_holds_18 ?_
  by_cases c16 : σ 99 (4 * a1).toNatClampNeg = 0
  · have h := h.1 c16
    refine lv_tableIn (tgt := 48) hx hb dX9_holds_19 (by rw [c16]; decide) (by rw [c16]; decide) (by rw [c16]; rfl) (by decide) ?_
    refine lv_aload_n hx hb dX9_holds_48 rfl (lv_at hl 1 rfl) ?_
    refine g_backi hI (g_runV (As := []) (rest := []) hC hml hI (c_X9_crowdOfAll l D cy ad A _  _ h) k_X9_crowdOfAll gw_6_76 ⟨rfl, rfl⟩ ⟨Nat.le_of_ble_eq_true rfl, Nat.le_of_ble_eq_true rfl⟩ (grv_10 hC hI) rfl hl.1 rfl (Nat.le_of_ble_eq_true rfl) dX9_holds_49 ⟨Nat.le_of_ble_eq_true rfl, Nat.le_of_ble_eq_true rfl⟩) (fun r18 s17 H locs h hI => ?_)
    refine lv_iload_n hx hb dX9_holds_52 rfl (lv_at hl 0 rfl) ?_
    refine lv_icmp_gt (tgt := 60) hx hb dX9_holds_53 (by decide) (fun c19 => ?_) (fun c19 => ?_)
    · have h := h.1 c19
      refine lv_iconst (v := 0) hx hb dX9_holds_60 (by decide) ?_
      exact g_zret hC hr hlocks rfl hI h dX9_holds_61
    · have h := h.2 c19
      refine lv_iconst (v := 1) hx hb dX9_holds_56 (by decide) ?_
      refine lv_goto (tgt := 61) hx hb dX9_holds_57 (by decide) ?_
      exact g_zret hC hr hlocks rfl hI h dX9_holds_61
  have h := h.2 c16
  by_cases c20 : σ 99 (4 * a1).toNatClampNeg = 1
  · have h := h.1 c20
    refine lv_tableIn (tgt := 62) hx hb dX9_holds_19 (by rw [c20]; decide) (by rw [c20]; decide) (by rw [c20]; rfl) (by decide) ?_
    refine lv_aload_n hx hb dX9_holds_62 rfl (lv_at hl 1 rfl) ?_
    refine lv_iconst (v := (-1)) hx hb dX9_holds_63 (by decide) ?_
    refine g_backi hI (g_runV (As := [.int (-1)]) (rest := []) hC hml hI (c_X9_emptied l D cy ad A _  _ _ h) k_X9_emptied gw_5_153 ⟨rfl, rfl⟩ ⟨Nat.le_of_ble_eq_true rfl, Nat.le_of_ble_eq_true rfl⟩ (grv_10 hC hI) rfl hl.1 rfl (Nat.le_of_ble_eq_true rfl) dX9_holds_64 ⟨Nat.le_of_ble_eq_true rfl, Nat.le_of_ble_eq_true rfl⟩) (fun r22 s21 H locs h hI => ?_)
    refine lv_iconst (v := 0) hx hb dX9_holds_67 (by decide) ?_
    refine lv_iload_n hx hb dX9_holds_68 rfl (lv_at hl 0 rfl) ?_
    refine g_backi hI (g_runS (As := [.int r22, .int 0, .int y14]) (rest := []) hC hml hI (c_X9_in l D cy ad A _  _ _ _ _ h) k_X9_in gw_5_97 ⟨rfl, rfl⟩ ⟨Nat.le_of_ble_eq_true rfl, Nat.le_of_ble_eq_true rfl⟩ rfl hl.1 rfl (Nat.le_of_ble_eq_true rfl) dX9_holds_69 ⟨Nat.le_of_ble_eq_true rfl, Nat.le_of_ble_eq_true rfl⟩) (fun r24 s23 H locs h hI => ?_)
    exact g_zret hC hr hlocks h.1 hI h.2 dX9_holds_72
  have h := h.2 c20
  by_cases c25 : σ 99 (4 * a1).toNatClampNeg = 2
  · have h := h.1 c25
    refine lv_tableIn (tgt := 73) hx hb dX9_holds_19 (by rw [c25]; decide) (by rw [c25]; decide) (by rw [c25]; rfl) (by decide) ?_
    refine lv_aload_n hx hb dX9_holds_73 rfl (lv_at hl 1 rfl) ?_
    refine g_backi hI (g_runV (As := []) (rest := []) hC hml hI (c_X9_worstOf l D cy ad A _  _ h) k_X9_worstOf gw_5_190 ⟨rfl, rfl⟩ ⟨Nat.le_of_ble_eq_true rfl, Nat.le_of_ble_eq_true rfl⟩ (grv_10 hC hI) rfl hl.1 rfl (Nat.le_of_ble_eq_true rfl) dX9_holds_74 ⟨Nat.le_of_ble_eq_true rfl, Nat.le_of_ble_eq_true rfl⟩) (fun r27 s26 H locs h hI => ?_)
    refine lv_iconst (v := 0) hx hb dX9_holds_77 (by decide) ?_
    refine lv_iload_n hx hb dX9_holds_78 rfl (lv_at hl 0 rfl) ?_
    refine g_backi hI (g_runS (As := [.int r27, .int 0, .int y14]) (rest := []) hC hml hI (c_X9_in l D cy ad A _  _ _ _ _ h) k_X9_in gw_5_97 ⟨rfl, rfl⟩ ⟨Nat.le_of_ble_eq_true rfl, Nat.le_of_ble_eq_true rfl⟩ rfl hl.1 rfl (Nat.le_of_ble_eq_true rfl) dX9_holds_79 ⟨Nat.le_of_ble_eq_true rfl, Nat.le_of_ble_eq_true rfl⟩) (fun r29 s28 H locs h hI => ?_)
    exact g_zret hC hr hlocks h.1 hI h.2 dX9_holds_82
  have h := h.2 c25
  by_cases c30 : σ 99 (4 * a1).toNatClampNeg = 3
  · have h := h.1 c30
    refine lv_tableIn (tgt := 83) hx hb dX9_holds_19 (by rw [c30]; decide) (by rw [c30]; decide) (by rw [c30]; rfl) (by decide) ?_
    refine lv_aload_n hx hb dX9_holds_83 rfl (lv_at hl 1 rfl) ?_
    refine g_backi hI (g_runV (As := []) (rest := []) hC hml hI (c_X9_standing l D cy ad A _  _ h) k_X9_standing gw_6_80 ⟨rfl, rfl⟩ ⟨Nat.le_of_ble_eq_true rfl, Nat.le_of_ble_eq_true rfl⟩ (grv_10 hC hI) rfl hl.1 rfl (Nat.le_of_ble_eq_true rfl) dX9_holds_84 ⟨Nat.le_of_ble_eq_true rfl, Nat.le_of_ble_eq_true rfl⟩) (fun r32 s31 H locs h hI => ?_)
    refine lv_iload_n hx hb dX9_holds_87 rfl (lv_at hl 0 rfl) ?_
    refine lv_icmp_gt (tgt := 95) hx hb dX9_holds_88 (by decide) (fun c33 => ?_) (fun c33 => ?_)
    · have h := h.1 c33
      refine lv_iconst (v := 0) hx hb dX9_holds_95 (by decide) ?_
      exact g_zret hC hr hlocks rfl hI h dX9_holds_96
    · have h := h.2 c33
      refine lv_iconst (v := 1) hx hb dX9_holds_91 (by decide) ?_
      refine lv_goto (tgt := 96) hx hb dX9_holds_92 (by decide) ?_
      exact g_zret hC hr hlocks rfl hI h dX9_holds_96
  have h := h.2 c30
  refine lv_tableOut (tgt := 97) hx hb dX9_holds_19 (by have q0 := lv_neT (a := 0) c16 (by decide); have q1 := lv_neT (a := 1) c20 (by decide); have q2 := lv_neT (a := 2) c25 (by decide); have q3 := lv_neT (a := 3) c30 (by decide); omega) (by decide) ?_
  refine lv_iconst (v := 1) hx hb dX9_holds_97 (by decide) ?_
  refine lv_istore_n (lv' := [(3, .int 1), (2, .int y14), (0, .ref (ad 10)), (1, .int a1)]) hx hb dX9_holds_98 rfl hl (by decide) rfl (fun ls hl => ?_)
  refine lv_aload_n hx hb dX9_holds_99 rfl (lv_at hl 2 rfl) ?_
  refine gg_X9_term hC hI gw_4_224 dX9_holds_100 ?_
  refine lv_iconst (v := 4) hx hb dX9_holds_103 (by decide) ?_
  refine lv_iload_n hx hb dX9_holds_104 rfl (lv_at hl 3 rfl) ?_
  refine lv_imul hx hb dX9_holds_105 ?_
  refine lv_iconst (v := 2) hx hb dX9_holds_106 (by decide) ?_
  refine lv_iadd hx hb dX9_holds_107 ?_
  obtain ⟨hi34, h⟩ := h
  refine ga_78 hC hI hi34 dX9_holds_108 ?_
  refine lv_topi (fun y35 ey35 => ?_)
  have h := h y35 ey35
  refine lv_istore (lv' := [(4, .int y35), (3, .int 1), (2, .int y14), (0, .ref (ad 10)), (1, .int a1)]) hx hb dX9_holds_109 hl (by decide) rfl (fun ls hl => ?_)
  obtain ⟨n9, h⟩ := h
  exact J111 n9 _ _ _ _ _ _ _ _ h hI (lv_sub hl [3, 4, 2, 1, 0] rfl)

theorem dX9_broken_0 : decode cX9_broken 0 = .ok (.aload_n 0, 1) := by decide +kernel
theorem dX9_broken_1 : decode cX9_broken 1 = .ok (.iconst 0, 1) := by decide +kernel
theorem dX9_broken_2 : decode cX9_broken 2 = .ok (.putfield 3, 3) := by decide +kernel
theorem dX9_broken_5 : decode cX9_broken 5 = .ok (.iconst 0, 1) := by decide +kernel
theorem dX9_broken_6 : decode cX9_broken 6 = .ok (.istore_n 1, 1) := by decide +kernel
theorem dX9_broken_7 : decode cX9_broken 7 = .ok (.iload_n 1, 1) := by decide +kernel
theorem dX9_broken_8 : decode cX9_broken 8 = .ok (.aload_n 0, 1) := by decide +kernel
theorem dX9_broken_9 : decode cX9_broken 9 = .ok (.getfield 277, 3) := by decide +kernel
theorem dX9_broken_12 : decode cX9_broken 12 = .ok (.if_icmp .ge 19, 3) := by decide +kernel
theorem dX9_broken_15 : decode cX9_broken 15 = .ok (.aload_n 0, 1) := by decide +kernel
theorem dX9_broken_16 : decode cX9_broken 16 = .ok (.iload_n 1, 1) := by decide +kernel
theorem dX9_broken_17 : decode cX9_broken 17 = .ok (.invokevirtual 286, 3) := by decide +kernel
theorem dX9_broken_20 : decode cX9_broken 20 = .ok (.ifCond .ne 5, 3) := by decide +kernel
theorem dX9_broken_23 : decode cX9_broken 23 = .ok (.iload_n 1, 1) := by decide +kernel
theorem dX9_broken_24 : decode cX9_broken 24 = .ok (.ireturn, 1) := by decide +kernel
theorem dX9_broken_25 : decode cX9_broken 25 = .ok (.iinc 1 1, 3) := by decide +kernel
theorem dX9_broken_28 : decode cX9_broken 28 = .ok (.goto (-21), 3) := by decide +kernel
theorem dX9_broken_31 : decode cX9_broken 31 = .ok (.iconst (-1), 1) := by decide +kernel
theorem dX9_broken_32 : decode cX9_broken 32 = .ok (.ireturn, 1) := by decide +kernel
def w_X9_broken_7 (Q : Int32 → gS → Prop) : Nat → Int32 → gS → Prop
  | 0, _, _ => False
  | n7 + 1, x1, σ =>
    ((σ 101 0) ≤ x1 → Q (-1) σ) ∧ (¬ (σ 101 0) ≤ x1 → w_X9_holds  (fun (r3 : Int32) (s2 : gS) => (¬ r3 = 0 → ∀ y5 : Int32, y5 = x1 + 1 → w_X9_broken_7 Q n7 y5 s2) ∧ (r3 = 0 → Q x1 s2)) σ x1)
def w_X9_broken (Q : Int32 → gS → Prop) (σ : gS) : Prop :=
    ∀ s6 : gS, s6 = gu σ 63 0 0 → ∃ n7, w_X9_broken_7 Q n7 0 s6
abbrev ws_X9_broken : List Cond := Cond.code yX9_broken cX9_broken 2 (some .int) :: gG
abbrev rm_X9_broken : Room := { frames := 6, cells := 0, slots := 0, locals := 145 }
theorem k_X9_broken : gCV yX9_broken RX9 cX9_broken 2 (some .int) 0 := ⟨gw_6_69, gw_6_70, gw_1_11, gw_6_71, rfl, by decide +kernel⟩
set_option maxHeartbeats 4000000 in
set_option maxRecDepth 100000 in
theorem c_X9_broken (l : Launch) (D : va_G) (cy : Nat → ClassId) (ad : Nat → Nat) (A : Nat → Prop) (Q : Int32 → gS → Prop) (σ : gS) (h : w_X9_broken Q σ) : Met l yX9_broken ws_X9_broken rm_X9_broken (va_Pc [.ref (ad 10)] (gB D cy ad A σ)) (va_Qi Q (gB D cy ad A) A) 0 0 A := by
  refine Met.ofW (cc := cX9_broken) (maxL := 2) (ret := (some .int)) (by decide) rfl ?_
  intro p e s m args below meth c s₁ B hml hv
  obtain ⟨rfl, hB⟩ := hv
  have hC : gC p c cX9_broken s m ([.ref (ad 10)] : List Value).toArray RX9 D cy ad A := g_start B hB
  have hI := g_first hB
  have hx := hC.1
  have hb := hC.2.1
  have hr := B.returns
  have hlocks := B.notSynchronized
  clear B hB
  have J7 : ∀ (n7 : Nat) (x1 : Int32) (σ : gS) (H : Heap) (locs : List Loc) (ls : Array Slot), w_X9_broken_7 Q n7 x1 σ → gI D cy ad A s.heap σ H locs → lv_has ls 2 [(0, .ref (ad 10)), (1, .int x1)] → W p l e (headSpec ws_X9_broken rm_X9_broken).room s m ([.ref (ad 10)] : List Value).toArray below meth c H locs 0 0 (MQ below (va_Qi Q (gB D cy ad A) A) ([.ref (ad 10)] : List Value).toArray s 0 0 A) (F0 m 7 ls []) := by
    intro n7
    induction n7 with
    | zero => intro x1 σ H locs ls h; exact absurd h (fun h => h)
    | succ n7 ih7 =>
      intro x1 σ H locs ls h hI hl
      unfold w_X9_broken_7 at h
      refine lv_iload_n hx hb dX9_broken_7 rfl (lv_at hl 1 rfl) ?_
      refine lv_aload_n hx hb dX9_broken_8 rfl (lv_at hl 0 rfl) ?_
      refine gg_X9_terms hC hI gw_4_226 dX9_broken_9 ?_
      refine lv_icmp_ge (tgt := 31) hx hb dX9_broken_12 (by decide) (fun c1 => ?_) (fun c1 => ?_)
      · have h := h.1 c1
        refine lv_iconst (v := (-1)) hx hb dX9_broken_31 (by decide) ?_
        exact g_iret hC hr hlocks hI h dX9_broken_32
      · have h := h.2 c1
        refine lv_aload_n hx hb dX9_broken_15 rfl (lv_at hl 0 rfl) ?_
        refine lv_iload_n hx hb dX9_broken_16 rfl (lv_at hl 1 rfl) ?_
        refine g_backi hI (g_runV (As := [.int x1]) (rest := []) hC hml hI (c_X9_holds l D cy ad A _  _ _ h) k_X9_holds gw_6_72 ⟨rfl, rfl⟩ ⟨Nat.le_of_ble_eq_true rfl, Nat.le_of_ble_eq_true rfl⟩ (grv_10 hC hI) rfl hl.1 rfl (Nat.le_of_ble_eq_true rfl) dX9_broken_17 ⟨Nat.le_of_ble_eq_true rfl, Nat.le_of_ble_eq_true rfl⟩) (fun r3 s2 H locs h hI => ?_)
        refine lv_if_ne (tgt := 25) hx hb dX9_broken_20 (by decide) (fun c4 => ?_) (fun c4 => ?_)
        · have h := h.1 c4
          obtain ⟨y5, ey5⟩ : ∃ y : Int32, y = x1 + 1 := ⟨_, rfl⟩
          have h := h y5 ey5
          refine lv_iinc (v := y5) (lv' := [(1, .int y5), (0, .ref (ad 10))]) hx hb dX9_broken_25 hl (k := 1) rfl (by rw [ey5]; rfl) (by decide) rfl (fun ls hl => ?_)
          refine lv_goto (tgt := 7) hx hb dX9_broken_28 (by decide) ?_
          exact ih7 _ _ _ _ _ h hI (lv_sub hl [1, 0] rfl)
        · have h := h.2 c4
          refine lv_iload_n hx hb dX9_broken_23 rfl (lv_at hl 1 rfl) ?_
          exact g_iret hC hr hlocks hI h dX9_broken_24
  have hl := lv_entry ([.ref (ad 10)]) (n := 2) (Nat.le_of_ble_eq_true rfl)
  rw [lg_entry_eq]
  generalize (lg_sl ([.ref (ad 10)]) ++ List.replicate (2 - (lg_sl ([.ref (ad 10)])).length) Slot.unset).toArray = ls at hl ⊢
  have hl : lv_has ls 2 [(0, .ref (ad 10))] := hl
  unfold w_X9_broken at h
  refine lv_aload_n hx hb dX9_broken_0 rfl (lv_at hl 0 rfl) ?_
  refine lv_iconst (v := 0) hx hb dX9_broken_1 (by decide) ?_
  refine gp_X9_thrown hC hI gw_4_188 dX9_broken_2 (fun s6 H locs es6 hI => ?_)
  have h := h s6 es6
  refine lv_iconst (v := 0) hx hb dX9_broken_5 (by decide) ?_
  refine lv_istore_n (lv' := [(1, .int 0), (0, .ref (ad 10))]) hx hb dX9_broken_6 rfl hl (by decide) rfl (fun ls hl => ?_)
  obtain ⟨n9, h⟩ := h
  exact J7 n9 _ _ _ _ _ h hI (lv_sub hl [1, 0] rfl)

theorem dX9_count_0 : decode cX9_count 0 = .ok (.aload_n 0, 1) := by decide +kernel
theorem dX9_count_1 : decode cX9_count 1 = .ok (.iconst 0, 1) := by decide +kernel
theorem dX9_count_2 : decode cX9_count 2 = .ok (.putfield 3, 3) := by decide +kernel
theorem dX9_count_5 : decode cX9_count 5 = .ok (.iconst 0, 1) := by decide +kernel
theorem dX9_count_6 : decode cX9_count 6 = .ok (.istore_n 2, 1) := by decide +kernel
theorem dX9_count_7 : decode cX9_count 7 = .ok (.iload_n 1, 1) := by decide +kernel
theorem dX9_count_8 : decode cX9_count 8 = .ok (.tableswitch 166 0 9 #[56, 61, 66, 100, 105, 110, 115, 120, 125, 130], 56) := by decide +kernel
theorem dX9_count_64 : decode cX9_count 64 = .ok (.aload_n 0, 1) := by decide +kernel
theorem dX9_count_65 : decode cX9_count 65 = .ok (.getfield 208, 3) := by decide +kernel
theorem dX9_count_68 : decode cX9_count 68 = .ok (.ireturn, 1) := by decide +kernel
theorem dX9_count_69 : decode cX9_count 69 = .ok (.aload_n 0, 1) := by decide +kernel
theorem dX9_count_70 : decode cX9_count 70 = .ok (.invokevirtual 283, 3) := by decide +kernel
theorem dX9_count_73 : decode cX9_count 73 = .ok (.ireturn, 1) := by decide +kernel
theorem dX9_count_74 : decode cX9_count 74 = .ok (.iconst 0, 1) := by decide +kernel
theorem dX9_count_75 : decode cX9_count 75 = .ok (.istore_n 3, 1) := by decide +kernel
theorem dX9_count_76 : decode cX9_count 76 = .ok (.iload_n 3, 1) := by decide +kernel
theorem dX9_count_77 : decode cX9_count 77 = .ok (.sipush 192, 3) := by decide +kernel
theorem dX9_count_80 : decode cX9_count 80 = .ok (.if_icmp .ge 26, 3) := by decide +kernel
theorem dX9_count_83 : decode cX9_count 83 = .ok (.iload_n 2, 1) := by decide +kernel
theorem dX9_count_84 : decode cX9_count 84 = .ok (.aload_n 0, 1) := by decide +kernel
theorem dX9_count_85 : decode cX9_count 85 = .ok (.getfield 13, 3) := by decide +kernel
theorem dX9_count_88 : decode cX9_count 88 = .ok (.iload_n 3, 1) := by decide +kernel
theorem dX9_count_89 : decode cX9_count 89 = .ok (.iaload, 1) := by decide +kernel
theorem dX9_count_90 : decode cX9_count 90 = .ok (.ifCond .lt 7, 3) := by decide +kernel
theorem dX9_count_93 : decode cX9_count 93 = .ok (.iconst 1, 1) := by decide +kernel
theorem dX9_count_94 : decode cX9_count 94 = .ok (.goto 4, 3) := by decide +kernel
theorem dX9_count_97 : decode cX9_count 97 = .ok (.iconst 0, 1) := by decide +kernel
theorem dX9_count_98 : decode cX9_count 98 = .ok (.iadd, 1) := by decide +kernel
theorem dX9_count_99 : decode cX9_count 99 = .ok (.istore_n 2, 1) := by decide +kernel
theorem dX9_count_100 : decode cX9_count 100 = .ok (.iinc 3 1, 3) := by decide +kernel
theorem dX9_count_103 : decode cX9_count 103 = .ok (.goto (-27), 3) := by decide +kernel
theorem dX9_count_106 : decode cX9_count 106 = .ok (.iload_n 2, 1) := by decide +kernel
theorem dX9_count_107 : decode cX9_count 107 = .ok (.ireturn, 1) := by decide +kernel
theorem dX9_count_108 : decode cX9_count 108 = .ok (.aload_n 0, 1) := by decide +kernel
theorem dX9_count_109 : decode cX9_count 109 = .ok (.getfield 142, 3) := by decide +kernel
theorem dX9_count_112 : decode cX9_count 112 = .ok (.ireturn, 1) := by decide +kernel
theorem dX9_count_113 : decode cX9_count 113 = .ok (.aload_n 0, 1) := by decide +kernel
theorem dX9_count_114 : decode cX9_count 114 = .ok (.invokevirtual 280, 3) := by decide +kernel
theorem dX9_count_117 : decode cX9_count 117 = .ok (.ireturn, 1) := by decide +kernel
theorem dX9_count_118 : decode cX9_count 118 = .ok (.aload_n 0, 1) := by decide +kernel
theorem dX9_count_119 : decode cX9_count 119 = .ok (.getfield 148, 3) := by decide +kernel
theorem dX9_count_122 : decode cX9_count 122 = .ok (.ireturn, 1) := by decide +kernel
theorem dX9_count_123 : decode cX9_count 123 = .ok (.aload_n 0, 1) := by decide +kernel
theorem dX9_count_124 : decode cX9_count 124 = .ok (.getfield 196, 3) := by decide +kernel
theorem dX9_count_127 : decode cX9_count 127 = .ok (.ireturn, 1) := by decide +kernel
theorem dX9_count_128 : decode cX9_count 128 = .ok (.aload_n 0, 1) := by decide +kernel
theorem dX9_count_129 : decode cX9_count 129 = .ok (.getfield 214, 3) := by decide +kernel
theorem dX9_count_132 : decode cX9_count 132 = .ok (.ireturn, 1) := by decide +kernel
theorem dX9_count_133 : decode cX9_count 133 = .ok (.aload_n 0, 1) := by decide +kernel
theorem dX9_count_134 : decode cX9_count 134 = .ok (.getfield 277, 3) := by decide +kernel
theorem dX9_count_137 : decode cX9_count 137 = .ok (.ireturn, 1) := by decide +kernel
theorem dX9_count_138 : decode cX9_count 138 = .ok (.iconst 0, 1) := by decide +kernel
theorem dX9_count_139 : decode cX9_count 139 = .ok (.istore_n 3, 1) := by decide +kernel
theorem dX9_count_140 : decode cX9_count 140 = .ok (.iload_n 3, 1) := by decide +kernel
theorem dX9_count_141 : decode cX9_count 141 = .ok (.sipush 192, 3) := by decide +kernel
theorem dX9_count_144 : decode cX9_count 144 = .ok (.if_icmp .ge 28, 3) := by decide +kernel
theorem dX9_count_147 : decode cX9_count 147 = .ok (.iload_n 2, 1) := by decide +kernel
theorem dX9_count_148 : decode cX9_count 148 = .ok (.aload_n 0, 1) := by decide +kernel
theorem dX9_count_149 : decode cX9_count 149 = .ok (.getfield 13, 3) := by decide +kernel
theorem dX9_count_152 : decode cX9_count 152 = .ok (.iload_n 3, 1) := by decide +kernel
theorem dX9_count_153 : decode cX9_count 153 = .ok (.iaload, 1) := by decide +kernel
theorem dX9_count_154 : decode cX9_count 154 = .ok (.bipush (-2), 2) := by decide +kernel
theorem dX9_count_156 : decode cX9_count 156 = .ok (.if_icmp .ne 7, 3) := by decide +kernel
theorem dX9_count_159 : decode cX9_count 159 = .ok (.iconst 1, 1) := by decide +kernel
theorem dX9_count_160 : decode cX9_count 160 = .ok (.goto 4, 3) := by decide +kernel
theorem dX9_count_163 : decode cX9_count 163 = .ok (.iconst 0, 1) := by decide +kernel
theorem dX9_count_164 : decode cX9_count 164 = .ok (.iadd, 1) := by decide +kernel
theorem dX9_count_165 : decode cX9_count 165 = .ok (.istore_n 2, 1) := by decide +kernel
theorem dX9_count_166 : decode cX9_count 166 = .ok (.iinc 3 1, 3) := by decide +kernel
theorem dX9_count_169 : decode cX9_count 169 = .ok (.goto (-29), 3) := by decide +kernel
theorem dX9_count_172 : decode cX9_count 172 = .ok (.iload_n 2, 1) := by decide +kernel
theorem dX9_count_173 : decode cX9_count 173 = .ok (.ireturn, 1) := by decide +kernel
theorem dX9_count_174 : decode cX9_count 174 = .ok (.iconst (-1), 1) := by decide +kernel
theorem dX9_count_175 : decode cX9_count 175 = .ok (.ireturn, 1) := by decide +kernel
def w_X9_count_98 (Q : Int32 → gS → Prop) (k76 : Int32 → Int32 → gS → Prop) (x3 : Int32) (v0 : Int32) (v1 : Int32) (σ : gS) : Prop :=
    ∀ y3 : Int32, y3 = (v1 + v0) → ∀ y4 : Int32, y4 = x3 + 1 → k76 y3 y4 σ
def w_X9_count_76 (Q : Int32 → gS → Prop) : Nat → Int32 → Int32 → gS → Prop
  | 0, _, _, _ => False
  | n76 + 1, x2, x3, σ =>
    (192 ≤ x3 → Q x2 σ) ∧ (¬ 192 ≤ x3 → vp_in x3 192 ∧ ((σ 64 x3.toNatClampNeg) < 0 → w_X9_count_98 Q (w_X9_count_76 Q n76) x3 0 x2 σ) ∧ (¬ (σ 64 x3.toNatClampNeg) < 0 → w_X9_count_98 Q (w_X9_count_76 Q n76) x3 1 x2 σ))
def w_X9_count_164 (Q : Int32 → gS → Prop) (k140 : Int32 → Int32 → gS → Prop) (x3 : Int32) (v0 : Int32) (v1 : Int32) (σ : gS) : Prop :=
    ∀ y8 : Int32, y8 = (v1 + v0) → ∀ y9 : Int32, y9 = x3 + 1 → k140 y8 y9 σ
def w_X9_count_140 (Q : Int32 → gS → Prop) : Nat → Int32 → Int32 → gS → Prop
  | 0, _, _, _ => False
  | n140 + 1, x2, x3, σ =>
    (192 ≤ x3 → Q x2 σ) ∧ (¬ 192 ≤ x3 → vp_in x3 192 ∧ (¬ (σ 64 x3.toNatClampNeg) = (-2) → w_X9_count_164 Q (w_X9_count_140 Q n140) x3 0 x2 σ) ∧ ((σ 64 x3.toNatClampNeg) = (-2) → w_X9_count_164 Q (w_X9_count_140 Q n140) x3 1 x2 σ))
def w_X9_count (Q : Int32 → gS → Prop) (σ : gS) (a1 : Int32) : Prop :=
    ∀ s13 : gS, s13 = gu σ 63 0 0 → (a1 = 0 → Q (s13 93 0) s13) ∧ (¬ a1 = 0 → (a1 = 1 → w_X9_standing  (fun (r17 : Int32) (s16 : gS) => Q r17 s16) s13) ∧ (¬ a1 = 1 → (a1 = 2 → ∃ n76, w_X9_count_76 Q n76 0 0 s13) ∧ (¬ a1 = 2 → (a1 = 3 → Q (s13 71 0) s13) ∧ (¬ a1 = 3 → (a1 = 4 → w_X9_crowdOfAll  (fun (r22 : Int32) (s21 : gS) => Q r22 s21) s13) ∧ (¬ a1 = 4 → (a1 = 5 → Q (s13 76 0) s13) ∧ (¬ a1 = 5 → (a1 = 6 → Q (s13 90 0) s13) ∧ (¬ a1 = 6 → (a1 = 7 → Q (s13 98 0) s13) ∧ (¬ a1 = 7 → (a1 = 8 → Q (s13 101 0) s13) ∧ (¬ a1 = 8 → (a1 = 9 → ∃ n140, w_X9_count_140 Q n140 0 0 s13) ∧ (¬ a1 = 9 → Q (-1) s13))))))))))
abbrev ws_X9_count : List Cond := Cond.code yX9_count cX9_count 4 (some .int) :: gG
abbrev rm_X9_count : Room := { frames := 1, cells := 0, slots := 0, locals := 22 }
theorem k_X9_count : gCV yX9_count RX9 cX9_count 4 (some .int) 1 := ⟨gw_6_85, gw_6_86, gw_1_11, gw_6_87, rfl, by decide +kernel⟩
set_option maxHeartbeats 4000000 in
set_option maxRecDepth 100000 in
theorem c_X9_count (l : Launch) (D : va_G) (cy : Nat → ClassId) (ad : Nat → Nat) (A : Nat → Prop) (Q : Int32 → gS → Prop) (σ : gS) (a1 : Int32) (h : w_X9_count Q σ a1) : Met l yX9_count ws_X9_count rm_X9_count (va_Pc [.ref (ad 10), .int a1] (gB D cy ad A σ)) (va_Qi Q (gB D cy ad A) A) 0 0 A := by
  refine Met.ofW (cc := cX9_count) (maxL := 4) (ret := (some .int)) (by decide) rfl ?_
  intro p e s m args below meth c s₁ B hml hv
  obtain ⟨rfl, hB⟩ := hv
  have hC : gC p c cX9_count s m ([.ref (ad 10), .int a1] : List Value).toArray RX9 D cy ad A := g_start B hB
  have hI := g_first hB
  have hx := hC.1
  have hb := hC.2.1
  have hr := B.returns
  have hlocks := B.notSynchronized
  clear B hB
  have J76 : ∀ (n76 : Nat) (x2 : Int32) (x3 : Int32) (σ : gS) (H : Heap) (locs : List Loc) (ls : Array Slot), w_X9_count_76 Q n76 x2 x3 σ → gI D cy ad A s.heap σ H locs → lv_has ls 4 [(0, .ref (ad 10)), (2, .int x2), (3, .int x3)] → W p l e (headSpec ws_X9_count rm_X9_count).room s m ([.ref (ad 10), .int a1] : List Value).toArray below meth c H locs 0 0 (MQ below (va_Qi Q (gB D cy ad A) A) ([.ref (ad 10), .int a1] : List Value).toArray s 0 0 A) (F0 m 76 ls []) := by
    intro n76
    induction n76 with
    | zero => intro x2 x3 σ H locs ls h; exact absurd h (fun h => h)
    | succ n76 ih76 =>
      have J98 : ∀ (x3 : Int32) (v0 : Int32) (v1 : Int32) (σ : gS) (H : Heap) (locs : List Loc) (ls : Array Slot), w_X9_count_98 Q (w_X9_count_76 Q n76) x3 v0 v1 σ → gI D cy ad A s.heap σ H locs → lv_has ls 4 [(0, .ref (ad 10)), (3, .int x3)] → W p l e (headSpec ws_X9_count rm_X9_count).room s m ([.ref (ad 10), .int a1] : List Value).toArray below meth c H locs 0 0 (MQ below (va_Qi Q (gB D cy ad A) A) ([.ref (ad 10), .int a1] : List Value).toArray s 0 0 A) (F0 m 98 ls [.int v0, .int v1]) := by
        intro x3 v0 v1 σ H locs ls h hI hl
        unfold w_X9_count_98 at h
        refine lv_iadd hx hb dX9_count_98 ?_
        refine lv_topi (fun y3 ey3 => ?_)
        have h := h y3 ey3
        refine lv_istore_n (lv' := [(2, .int y3), (0, .ref (ad 10)), (3, .int x3)]) hx hb dX9_count_99 rfl hl (by decide) rfl (fun ls hl => ?_)
        obtain ⟨y4, ey4⟩ : ∃ y : Int32, y = x3 + 1 := ⟨_, rfl⟩
        have h := h y4 ey4
        refine lv_iinc (v := y4) (lv' := [(3, .int y4), (2, .int y3), (0, .ref (ad 10))]) hx hb dX9_count_100 hl (k := 2) rfl (by rw [ey4]; rfl) (by decide) rfl (fun ls hl => ?_)
        refine lv_goto (tgt := 76) hx hb dX9_count_103 (by decide) ?_
        exact ih76 _ _ _ _ _ _ h hI (lv_sub hl [2, 1, 0] rfl)
      intro x2 x3 σ H locs ls h hI hl
      unfold w_X9_count_76 at h
      refine lv_iload_n hx hb dX9_count_76 rfl (lv_at hl 2 rfl) ?_
      refine lv_sipush (v := 192) hx hb dX9_count_77 (by decide) ?_
      refine lv_icmp_ge (tgt := 106) hx hb dX9_count_80 (by decide) (fun c5 => ?_) (fun c5 => ?_)
      · have h := h.1 c5
        refine lv_iload_n hx hb dX9_count_106 rfl (lv_at hl 1 rfl) ?_
        exact g_iret hC hr hlocks hI h dX9_count_107
      · have h := h.2 c5
        refine lv_iload_n hx hb dX9_count_83 rfl (lv_at hl 1 rfl) ?_
        refine lv_aload_n hx hb dX9_count_84 rfl (lv_at hl 0 rfl) ?_
        refine gg_X9_on hC hI gw_4_189 dX9_count_85 ?_
        refine lv_iload_n hx hb dX9_count_88 rfl (lv_at hl 2 rfl) ?_
        obtain ⟨hi6, h⟩ := h
        refine ga_51 hC hI hi6 dX9_count_89 ?_
        refine lv_if_lt (tgt := 97) hx hb dX9_count_90 (by decide) (fun c7 => ?_) (fun c7 => ?_)
        · have h := h.1 c7
          refine lv_iconst (v := 0) hx hb dX9_count_97 (by decide) ?_
          exact J98 _ _ _ _ _ _ _ h hI (lv_sub hl [0, 2] rfl)
        · have h := h.2 c7
          refine lv_iconst (v := 1) hx hb dX9_count_93 (by decide) ?_
          refine lv_goto (tgt := 98) hx hb dX9_count_94 (by decide) ?_
          exact J98 _ _ _ _ _ _ _ h hI (lv_sub hl [0, 2] rfl)
  have J140 : ∀ (n140 : Nat) (x2 : Int32) (x3 : Int32) (σ : gS) (H : Heap) (locs : List Loc) (ls : Array Slot), w_X9_count_140 Q n140 x2 x3 σ → gI D cy ad A s.heap σ H locs → lv_has ls 4 [(0, .ref (ad 10)), (2, .int x2), (3, .int x3)] → W p l e (headSpec ws_X9_count rm_X9_count).room s m ([.ref (ad 10), .int a1] : List Value).toArray below meth c H locs 0 0 (MQ below (va_Qi Q (gB D cy ad A) A) ([.ref (ad 10), .int a1] : List Value).toArray s 0 0 A) (F0 m 140 ls []) := by
    intro n140
    induction n140 with
    | zero => intro x2 x3 σ H locs ls h; exact absurd h (fun h => h)
    | succ n140 ih140 =>
      have J164 : ∀ (x3 : Int32) (v0 : Int32) (v1 : Int32) (σ : gS) (H : Heap) (locs : List Loc) (ls : Array Slot), w_X9_count_164 Q (w_X9_count_140 Q n140) x3 v0 v1 σ → gI D cy ad A s.heap σ H locs → lv_has ls 4 [(0, .ref (ad 10)), (3, .int x3)] → W p l e (headSpec ws_X9_count rm_X9_count).room s m ([.ref (ad 10), .int a1] : List Value).toArray below meth c H locs 0 0 (MQ below (va_Qi Q (gB D cy ad A) A) ([.ref (ad 10), .int a1] : List Value).toArray s 0 0 A) (F0 m 164 ls [.int v0, .int v1]) := by
        intro x3 v0 v1 σ H locs ls h hI hl
        unfold w_X9_count_164 at h
        refine lv_iadd hx hb dX9_count_164 ?_
        refine lv_topi (fun y8 ey8 => ?_)
        have h := h y8 ey8
        refine lv_istore_n (lv' := [(2, .int y8), (0, .ref (ad 10)), (3, .int x3)]) hx hb dX9_count_165 rfl hl (by decide) rfl (fun ls hl => ?_)
        obtain ⟨y9, ey9⟩ : ∃ y : Int32, y = x3 + 1 := ⟨_, rfl⟩
        have h := h y9 ey9
        refine lv_iinc (v := y9) (lv' := [(3, .int y9), (2, .int y8), (0, .ref (ad 10))]) hx hb dX9_count_166 hl (k := 2) rfl (by rw [ey9]; rfl) (by decide) rfl (fun ls hl => ?_)
        refine lv_goto (tgt := 140) hx hb dX9_count_169 (by decide) ?_
        exact ih140 _ _ _ _ _ _ h hI (lv_sub hl [2, 1, 0] rfl)
      intro x2 x3 σ H locs ls h hI hl
      unfold w_X9_count_140 at h
      refine lv_iload_n hx hb dX9_count_140 rfl (lv_at hl 2 rfl) ?_
      refine lv_sipush (v := 192) hx hb dX9_count_141 (by decide) ?_
      refine lv_icmp_ge (tgt := 172) hx hb dX9_count_144 (by decide) (fun c10 => ?_) (fun c10 => ?_)
      · have h := h.1 c10
        refine lv_iload_n hx hb dX9_count_172 rfl (lv_at hl 1 rfl) ?_
        exact g_iret hC hr hlocks hI h dX9_count_173
      · have h := h.2 c10
        refine lv_iload_n hx hb dX9_count_147 rfl (lv_at hl 1 rfl) ?_
        refine lv_aload_n hx hb dX9_count_148 rfl (lv_at hl 0 rfl) ?_
        refine gg_X9_on hC hI gw_4_189 dX9_count_149 ?_
        refine lv_iload_n hx hb dX9_count_152 rfl (lv_at hl 2 rfl) ?_
        obtain ⟨hi11, h⟩ := h
        refine ga_51 hC hI hi11 dX9_count_153 ?_
        refine lv_bipush (v := (-2)) hx hb dX9_count_154 (by decide) ?_
        refine lv_icmp_ne (tgt := 163) hx hb dX9_count_156 (by decide) (fun c12 => ?_) (fun c12 => ?_)
        · have h := h.1 c12
          refine lv_iconst (v := 0) hx hb dX9_count_163 (by decide) ?_
          exact J164 _ _ _ _ _ _ _ h hI (lv_sub hl [0, 2] rfl)
        · have h := h.2 c12
          refine lv_iconst (v := 1) hx hb dX9_count_159 (by decide) ?_
          refine lv_goto (tgt := 164) hx hb dX9_count_160 (by decide) ?_
          exact J164 _ _ _ _ _ _ _ h hI (lv_sub hl [0, 2] rfl)
  have hl := lv_entry ([.ref (ad 10), .int a1]) (n := 4) (Nat.le_of_ble_eq_true rfl)
  rw [lg_entry_eq]
  generalize (lg_sl ([.ref (ad 10), .int a1]) ++ List.replicate (4 - (lg_sl ([.ref (ad 10), .int a1])).length) Slot.unset).toArray = ls at hl ⊢
  have hl : lv_has ls 4 [(0, .ref (ad 10)), (1, .int a1)] := hl
  unfold w_X9_count at h
  refine lv_aload_n hx hb dX9_count_0 rfl (lv_at hl 0 rfl) ?_
  refine lv_iconst (v := 0) hx hb dX9_count_1 (by decide) ?_
  refine gp_X9_thrown hC hI gw_4_188 dX9_count_2 (fun s13 H locs es13 hI => ?_)
  have h := h s13 es13
  refine lv_iconst (v := 0) hx hb dX9_count_5 (by decide) ?_
  refine lv_istore_n (lv' := [(2, .int 0), (0, .ref (ad 10)), (1, .int a1)]) hx hb dX9_count_6 rfl hl (by decide) rfl (fun ls hl => ?_)
  refine lv_iload_n hx hb dX9_count_7 rfl (lv_at hl 2 rfl) ?_
  by_cases c14 : a1 = 0
  · have h := h.1 c14
    refine lv_tableIn (tgt := 64) hx hb dX9_count_8 (by rw [c14]; decide) (by rw [c14]; decide) (by rw [c14]; rfl) (by decide) ?_
    refine lv_aload_n hx hb dX9_count_64 rfl (lv_at hl 1 rfl) ?_
    refine gg_X9_now hC hI gw_4_218 dX9_count_65 ?_
    exact g_iret hC hr hlocks hI h dX9_count_68
  have h := h.2 c14
  by_cases c15 : a1 = 1
  · have h := h.1 c15
    refine lv_tableIn (tgt := 69) hx hb dX9_count_8 (by rw [c15]; decide) (by rw [c15]; decide) (by rw [c15]; rfl) (by decide) ?_
    refine lv_aload_n hx hb dX9_count_69 rfl (lv_at hl 1 rfl) ?_
    refine g_backi hI (g_runV (As := []) (rest := []) hC hml hI (c_X9_standing l D cy ad A _  _ h) k_X9_standing gw_6_80 ⟨rfl, rfl⟩ ⟨Nat.le_of_ble_eq_true rfl, Nat.le_of_ble_eq_true rfl⟩ (grv_10 hC hI) rfl hl.1 rfl (Nat.le_of_ble_eq_true rfl) dX9_count_70 ⟨Nat.le_of_ble_eq_true rfl, Nat.le_of_ble_eq_true rfl⟩) (fun r17 s16 H locs h hI => ?_)
    exact g_iret hC hr hlocks hI h dX9_count_73
  have h := h.2 c15
  by_cases c18 : a1 = 2
  · have h := h.1 c18
    refine lv_tableIn (tgt := 74) hx hb dX9_count_8 (by rw [c18]; decide) (by rw [c18]; decide) (by rw [c18]; rfl) (by decide) ?_
    refine lv_iconst (v := 0) hx hb dX9_count_74 (by decide) ?_
    refine lv_istore_n (lv' := [(3, .int 0), (2, .int 0), (0, .ref (ad 10)), (1, .int a1)]) hx hb dX9_count_75 rfl hl (by decide) rfl (fun ls hl => ?_)
    obtain ⟨n9, h⟩ := h
    exact J76 n9 _ _ _ _ _ _ h hI (lv_sub hl [2, 1, 0] rfl)
  have h := h.2 c18
  by_cases c19 : a1 = 3
  · have h := h.1 c19
    refine lv_tableIn (tgt := 108) hx hb dX9_count_8 (by rw [c19]; decide) (by rw [c19]; decide) (by rw [c19]; rfl) (by decide) ?_
    refine lv_aload_n hx hb dX9_count_108 rfl (lv_at hl 1 rfl) ?_
    refine gg_X9_places hC hI gw_4_196 dX9_count_109 ?_
    exact g_iret hC hr hlocks hI h dX9_count_112
  have h := h.2 c19
  by_cases c20 : a1 = 4
  · have h := h.1 c20
    refine lv_tableIn (tgt := 113) hx hb dX9_count_8 (by rw [c20]; decide) (by rw [c20]; decide) (by rw [c20]; rfl) (by decide) ?_
    refine lv_aload_n hx hb dX9_count_113 rfl (lv_at hl 1 rfl) ?_
    refine g_backi hI (g_runV (As := []) (rest := []) hC hml hI (c_X9_crowdOfAll l D cy ad A _  _ h) k_X9_crowdOfAll gw_6_76 ⟨rfl, rfl⟩ ⟨Nat.le_of_ble_eq_true rfl, Nat.le_of_ble_eq_true rfl⟩ (grv_10 hC hI) rfl hl.1 rfl (Nat.le_of_ble_eq_true rfl) dX9_count_114 ⟨Nat.le_of_ble_eq_true rfl, Nat.le_of_ble_eq_true rfl⟩) (fun r22 s21 H locs h hI => ?_)
    exact g_iret hC hr hlocks hI h dX9_count_117
  have h := h.2 c20
  by_cases c23 : a1 = 5
  · have h := h.1 c23
    refine lv_tableIn (tgt := 118) hx hb dX9_count_8 (by rw [c23]; decide) (by rw [c23]; decide) (by rw [c23]; rfl) (by decide) ?_
    refine lv_aload_n hx hb dX9_count_118 rfl (lv_at hl 1 rfl) ?_
    refine gg_X9_ways hC hI gw_4_201 dX9_count_119 ?_
    exact g_iret hC hr hlocks hI h dX9_count_122
  have h := h.2 c23
  by_cases c24 : a1 = 6
  · have h := h.1 c24
    refine lv_tableIn (tgt := 123) hx hb dX9_count_8 (by rw [c24]; decide) (by rw [c24]; decide) (by rw [c24]; rfl) (by decide) ?_
    refine lv_aload_n hx hb dX9_count_123 rfl (lv_at hl 1 rfl) ?_
    refine gg_X9_acts hC hI gw_4_215 dX9_count_124 ?_
    exact g_iret hC hr hlocks hI h dX9_count_127
  have h := h.2 c24
  by_cases c25 : a1 = 7
  · have h := h.1 c25
    refine lv_tableIn (tgt := 128) hx hb dX9_count_8 (by rw [c25]; decide) (by rw [c25]; decide) (by rw [c25]; rfl) (by decide) ?_
    refine lv_aload_n hx hb dX9_count_128 rfl (lv_at hl 1 rfl) ?_
    refine gg_X9_passes hC hI gw_4_223 dX9_count_129 ?_
    exact g_iret hC hr hlocks hI h dX9_count_132
  have h := h.2 c25
  by_cases c26 : a1 = 8
  · have h := h.1 c26
    refine lv_tableIn (tgt := 133) hx hb dX9_count_8 (by rw [c26]; decide) (by rw [c26]; decide) (by rw [c26]; rfl) (by decide) ?_
    refine lv_aload_n hx hb dX9_count_133 rfl (lv_at hl 1 rfl) ?_
    refine gg_X9_terms hC hI gw_4_226 dX9_count_134 ?_
    exact g_iret hC hr hlocks hI h dX9_count_137
  have h := h.2 c26
  by_cases c27 : a1 = 9
  · have h := h.1 c27
    refine lv_tableIn (tgt := 138) hx hb dX9_count_8 (by rw [c27]; decide) (by rw [c27]; decide) (by rw [c27]; rfl) (by decide) ?_
    refine lv_iconst (v := 0) hx hb dX9_count_138 (by decide) ?_
    refine lv_istore_n (lv' := [(3, .int 0), (2, .int 0), (0, .ref (ad 10)), (1, .int a1)]) hx hb dX9_count_139 rfl hl (by decide) rfl (fun ls hl => ?_)
    obtain ⟨n9, h⟩ := h
    exact J140 n9 _ _ _ _ _ _ h hI (lv_sub hl [2, 1, 0] rfl)
  have h := h.2 c27
  refine lv_tableOut (tgt := 174) hx hb dX9_count_8 (by have q0 := lv_neT (a := 0) c14 (by decide); have q1 := lv_neT (a := 1) c15 (by decide); have q2 := lv_neT (a := 2) c18 (by decide); have q3 := lv_neT (a := 3) c19 (by decide); have q4 := lv_neT (a := 4) c20 (by decide); have q5 := lv_neT (a := 5) c23 (by decide); have q6 := lv_neT (a := 6) c24 (by decide); have q7 := lv_neT (a := 7) c25 (by decide); have q8 := lv_neT (a := 8) c26 (by decide); have q9 := lv_neT (a := 9) c27 (by decide); omega) (by decide) ?_
  refine lv_iconst (v := (-1)) hx hb dX9_count_174 (by decide) ?_
  exact g_iret hC hr hlocks hI h dX9_count_175
