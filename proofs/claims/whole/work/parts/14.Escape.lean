/-! 14.Escape: printed by wip/gen/walk.py -/
theorem dX0_startAnew_0 : decode cX0_startAnew 0 = .ok (.aload_n 0, 1) := by decide +kernel
theorem dX0_startAnew_1 : decode cX0_startAnew 1 = .ok (.getfield 13, 3) := by decide +kernel
theorem dX0_startAnew_4 : decode cX0_startAnew 4 = .ok (.iconst 0, 1) := by decide +kernel
theorem dX0_startAnew_5 : decode cX0_startAnew 5 = .ok (.invokestatic 69, 3) := by decide +kernel
theorem dX0_startAnew_8 : decode cX0_startAnew 8 = .ok (.aload_n 0, 1) := by decide +kernel
theorem dX0_startAnew_9 : decode cX0_startAnew 9 = .ok (.getfield 17, 3) := by decide +kernel
theorem dX0_startAnew_12 : decode cX0_startAnew 12 = .ok (.iconst 0, 1) := by decide +kernel
theorem dX0_startAnew_13 : decode cX0_startAnew 13 = .ok (.invokestatic 69, 3) := by decide +kernel
theorem dX0_startAnew_16 : decode cX0_startAnew 16 = .ok (.aload_n 0, 1) := by decide +kernel
theorem dX0_startAnew_17 : decode cX0_startAnew 17 = .ok (.getfield 20, 3) := by decide +kernel
theorem dX0_startAnew_20 : decode cX0_startAnew 20 = .ok (.iconst 0, 1) := by decide +kernel
theorem dX0_startAnew_21 : decode cX0_startAnew 21 = .ok (.invokestatic 69, 3) := by decide +kernel
theorem dX0_startAnew_24 : decode cX0_startAnew 24 = .ok (.iconst 0, 1) := by decide +kernel
theorem dX0_startAnew_25 : decode cX0_startAnew 25 = .ok (.istore_n 1, 1) := by decide +kernel
theorem dX0_startAnew_26 : decode cX0_startAnew 26 = .ok (.iconst 0, 1) := by decide +kernel
theorem dX0_startAnew_27 : decode cX0_startAnew 27 = .ok (.istore_n 2, 1) := by decide +kernel
theorem dX0_startAnew_28 : decode cX0_startAnew 28 = .ok (.iload_n 2, 1) := by decide +kernel
theorem dX0_startAnew_29 : decode cX0_startAnew 29 = .ok (.aload_n 0, 1) := by decide +kernel
theorem dX0_startAnew_30 : decode cX0_startAnew 30 = .ok (.getfield 45, 3) := by decide +kernel
theorem dX0_startAnew_33 : decode cX0_startAnew 33 = .ok (.getfield 75, 3) := by decide +kernel
theorem dX0_startAnew_36 : decode cX0_startAnew 36 = .ok (.if_icmp .ge 33, 3) := by decide +kernel
theorem dX0_startAnew_39 : decode cX0_startAnew 39 = .ok (.aload_n 0, 1) := by decide +kernel
theorem dX0_startAnew_40 : decode cX0_startAnew 40 = .ok (.getfield 23, 3) := by decide +kernel
theorem dX0_startAnew_43 : decode cX0_startAnew 43 = .ok (.iload_n 2, 1) := by decide +kernel
theorem dX0_startAnew_44 : decode cX0_startAnew 44 = .ok (.aload_n 0, 1) := by decide +kernel
theorem dX0_startAnew_45 : decode cX0_startAnew 45 = .ok (.getfield 45, 3) := by decide +kernel
theorem dX0_startAnew_48 : decode cX0_startAnew 48 = .ok (.getfield 78, 3) := by decide +kernel
theorem dX0_startAnew_51 : decode cX0_startAnew 51 = .ok (.iload_n 2, 1) := by decide +kernel
theorem dX0_startAnew_52 : decode cX0_startAnew 52 = .ok (.iaload, 1) := by decide +kernel
theorem dX0_startAnew_53 : decode cX0_startAnew 53 = .ok (.iastore, 1) := by decide +kernel
theorem dX0_startAnew_54 : decode cX0_startAnew 54 = .ok (.iload_n 1, 1) := by decide +kernel
theorem dX0_startAnew_55 : decode cX0_startAnew 55 = .ok (.aload_n 0, 1) := by decide +kernel
theorem dX0_startAnew_56 : decode cX0_startAnew 56 = .ok (.getfield 23, 3) := by decide +kernel
theorem dX0_startAnew_59 : decode cX0_startAnew 59 = .ok (.iload_n 2, 1) := by decide +kernel
theorem dX0_startAnew_60 : decode cX0_startAnew 60 = .ok (.iaload, 1) := by decide +kernel
theorem dX0_startAnew_61 : decode cX0_startAnew 61 = .ok (.iadd, 1) := by decide +kernel
theorem dX0_startAnew_62 : decode cX0_startAnew 62 = .ok (.istore_n 1, 1) := by decide +kernel
theorem dX0_startAnew_63 : decode cX0_startAnew 63 = .ok (.iinc 2 1, 3) := by decide +kernel
theorem dX0_startAnew_66 : decode cX0_startAnew 66 = .ok (.goto (-38), 3) := by decide +kernel
theorem dX0_startAnew_69 : decode cX0_startAnew 69 = .ok (.iload_n 1, 1) := by decide +kernel
theorem dX0_startAnew_70 : decode cX0_startAnew 70 = .ok (.ireturn, 1) := by decide +kernel
def w_X0_startAnew_28 (Q : Int32 → gS → Prop) : Nat → Int32 → Int32 → gS → Prop
  | 0, _, _, _ => False
  | n28 + 1, x1, x2, σ =>
    ¬ σ 35 0 = 0 ∧ ((σ 26 0) ≤ x2 → Q x1 σ) ∧ (¬ (σ 26 0) ≤ x2 → ¬ σ 35 0 = 0 ∧ vp_in x2 8 ∧ vp_in x2 8 ∧ ∀ s10 : gS, s10 = gu σ 40 x2.toNatClampNeg (σ 23 x2.toNatClampNeg) → vp_in x2 8 ∧ ∀ y12 : Int32, y12 = (x1 + (s10 40 x2.toNatClampNeg)) → ∀ y13 : Int32, y13 = x2 + 1 → w_X0_startAnew_28 Q n28 y12 y13 s10)
def w_X0_startAnew (Q : Int32 → gS → Prop) (σ : gS) : Prop :=
    w_J7_fill_53178  (fun (s14 : gS) => w_J7_fill_53178  (fun (s16 : gS) => w_J7_fill_53178  (fun (s18 : gS) => ∃ n28, w_X0_startAnew_28 Q n28 0 0 s18) 39 28 s16 0) 38 320 s14 0) 37 1120 σ 0
abbrev ws_X0_startAnew : List Cond := Cond.code yX0_startAnew cX0_startAnew 3 (some .int) :: gG
abbrev rm_X0_startAnew : Room := { frames := 1, cells := 0, slots := 0, locals := 23 }
theorem k_X0_startAnew : gCV yX0_startAnew RX0 cX0_startAnew 3 (some .int) 0 := ⟨gw_2_109, gwp_0, gw_1_7, gw_2_110, rfl, by decide +kernel⟩
set_option maxHeartbeats 4000000 in
set_option maxRecDepth 100000 in
theorem c_X0_startAnew (l : Launch) (D : va_G) (cy : Nat → ClassId) (ad : Nat → Nat) (A : Nat → Prop) (Q : Int32 → gS → Prop) (σ : gS) (h : w_X0_startAnew Q σ) : Met l yX0_startAnew ws_X0_startAnew rm_X0_startAnew (va_Pc [.ref (ad 5)] (gB D cy ad A σ)) (va_Qi Q (gB D cy ad A) A) 0 0 A := by
  refine Met.ofW (cc := cX0_startAnew) (maxL := 3) (ret := (some .int)) (by decide) rfl ?_
  intro p e s m args below meth c s₁ B hml hv
  obtain ⟨rfl, hB⟩ := hv
  have hC : gC p c cX0_startAnew s m ([.ref (ad 5)] : List Value).toArray RX0 D cy ad A := g_start B hB
  have hI := g_first hB
  have hx := hC.1
  have hb := hC.2.1
  have hr := B.returns
  have hlocks := B.notSynchronized
  clear B hB
  have J28 : ∀ (n28 : Nat) (x1 : Int32) (x2 : Int32) (σ : gS) (H : Heap) (locs : List Loc) (ls : Array Slot), w_X0_startAnew_28 Q n28 x1 x2 σ → gI D cy ad A s.heap σ H locs → lv_has ls 3 [(0, .ref (ad 5)), (1, .int x1), (2, .int x2)] → W p l e (headSpec ws_X0_startAnew rm_X0_startAnew).room s m ([.ref (ad 5)] : List Value).toArray below meth c H locs 0 0 (MQ below (va_Qi Q (gB D cy ad A) A) ([.ref (ad 5)] : List Value).toArray s 0 0 A) (F0 m 28 ls []) := by
    intro n28
    induction n28 with
    | zero => intro x1 x2 σ H locs ls h; exact absurd h (fun h => h)
    | succ n28 ih28 =>
      intro x1 x2 σ H locs ls h hI hl
      unfold w_X0_startAnew_28 at h
      refine lv_iload_n hx hb dX0_startAnew_28 rfl (lv_at hl 2 rfl) ?_
      refine lv_aload_n hx hb dX0_startAnew_29 rfl (lv_at hl 0 rfl) ?_
      obtain ⟨hz5, h⟩ := h
      refine gg_X0_ground hC hI gw_1_102 dX0_startAnew_30 hz5 ?_
      refine gg_X2_places hC hI gw_1_146 dX0_startAnew_33 ?_
      refine lv_icmp_ge (tgt := 69) hx hb dX0_startAnew_36 (by decide) (fun c6 => ?_) (fun c6 => ?_)
      · have h := h.1 c6
        refine lv_iload_n hx hb dX0_startAnew_69 rfl (lv_at hl 1 rfl) ?_
        exact g_iret hC hr hlocks hI h dX0_startAnew_70
      · have h := h.2 c6
        refine lv_aload_n hx hb dX0_startAnew_39 rfl (lv_at hl 0 rfl) ?_
        refine gg_X0_unsent hC hI gw_1_107 dX0_startAnew_40 ?_
        refine lv_iload_n hx hb dX0_startAnew_43 rfl (lv_at hl 2 rfl) ?_
        refine lv_aload_n hx hb dX0_startAnew_44 rfl (lv_at hl 0 rfl) ?_
        obtain ⟨hz7, h⟩ := h
        refine gg_X0_ground hC hI gw_1_102 dX0_startAnew_45 hz7 ?_
        refine gg_X2_crowds hC hI gw_1_141 dX0_startAnew_48 ?_
        refine lv_iload_n hx hb dX0_startAnew_51 rfl (lv_at hl 2 rfl) ?_
        obtain ⟨hi8, h⟩ := h
        refine ga_22 hC hI hi8 dX0_startAnew_52 ?_
        obtain ⟨hi9, h⟩ := h
        refine gs_33 hC hI hi9 dX0_startAnew_53 (fun s10 H locs es10 hI => ?_)
        have h := h s10 es10
        refine lv_iload_n hx hb dX0_startAnew_54 rfl (lv_at hl 1 rfl) ?_
        refine lv_aload_n hx hb dX0_startAnew_55 rfl (lv_at hl 0 rfl) ?_
        refine gg_X0_unsent hC hI gw_1_107 dX0_startAnew_56 ?_
        refine lv_iload_n hx hb dX0_startAnew_59 rfl (lv_at hl 2 rfl) ?_
        obtain ⟨hi11, h⟩ := h
        refine ga_33 hC hI hi11 dX0_startAnew_60 ?_
        refine lv_iadd hx hb dX0_startAnew_61 ?_
        refine lv_topi (fun y12 ey12 => ?_)
        have h := h y12 ey12
        refine lv_istore_n (lv' := [(1, .int y12), (0, .ref (ad 5)), (2, .int x2)]) hx hb dX0_startAnew_62 rfl hl (by decide) rfl (fun ls hl => ?_)
        obtain ⟨y13, ey13⟩ : ∃ y : Int32, y = x2 + 1 := ⟨_, rfl⟩
        have h := h y13 ey13
        refine lv_iinc (v := y13) (lv' := [(2, .int y13), (1, .int y12), (0, .ref (ad 5))]) hx hb dX0_startAnew_63 hl (k := 2) rfl (by rw [ey13]; rfl) (by decide) rfl (fun ls hl => ?_)
        refine lv_goto (tgt := 28) hx hb dX0_startAnew_66 (by decide) ?_
        exact ih28 _ _ _ _ _ _ h hI (lv_sub hl [2, 1, 0] rfl)
  have hl := lv_entry ([.ref (ad 5)]) (n := 3) (Nat.le_of_ble_eq_true rfl)
  rw [lg_entry_eq]
  generalize (lg_sl ([.ref (ad 5)]) ++ List.replicate (3 - (lg_sl ([.ref (ad 5)])).length) Slot.unset).toArray = ls at hl ⊢
  have hl : lv_has ls 3 [(0, .ref (ad 5))] := hl
  unfold w_X0_startAnew at h
  refine lv_aload_n hx hb dX0_startAnew_0 rfl (lv_at hl 0 rfl) ?_
  refine gg_X0_begins hC hI gw_1_104 dX0_startAnew_1 ?_
  refine lv_iconst (v := 0) hx hb dX0_startAnew_4 (by decide) ?_
  refine g_backv hI (g_runS (As := [.ref (ad 30), .int 0]) (rest := []) hC hml hI (c_J7_fill_53178 l D cy ad A _ 30 37 1120 (fun _ => ⟨rfl, fun _ _ => rfl⟩) _ _ h) k_J7_fill_53178 gw_2_111 ⟨rfl, rfl⟩ ⟨Nat.le_of_ble_eq_true rfl, Nat.le_of_ble_eq_true rfl⟩ rfl hl.1 rfl (Nat.le_of_ble_eq_true rfl) dX0_startAnew_5 ⟨Nat.le_of_ble_eq_true rfl, Nat.le_of_ble_eq_true rfl⟩) (fun s14 H locs h hI => ?_)
  refine lv_aload_n hx hb dX0_startAnew_8 rfl (lv_at hl 0 rfl) ?_
  refine gg_X0_waits hC hI gw_1_105 dX0_startAnew_9 ?_
  refine lv_iconst (v := 0) hx hb dX0_startAnew_12 (by decide) ?_
  refine g_backv hI (g_runS (As := [.ref (ad 31), .int 0]) (rest := []) hC hml hI (c_J7_fill_53178 l D cy ad A _ 31 38 320 (fun _ => ⟨rfl, fun _ _ => rfl⟩) _ _ h) k_J7_fill_53178 gw_2_111 ⟨rfl, rfl⟩ ⟨Nat.le_of_ble_eq_true rfl, Nat.le_of_ble_eq_true rfl⟩ rfl hl.1 rfl (Nat.le_of_ble_eq_true rfl) dX0_startAnew_13 ⟨Nat.le_of_ble_eq_true rfl, Nat.le_of_ble_eq_true rfl⟩) (fun s16 H locs h hI => ?_)
  refine lv_aload_n hx hb dX0_startAnew_16 rfl (lv_at hl 0 rfl) ?_
  refine gg_X0_totals hC hI gw_1_106 dX0_startAnew_17 ?_
  refine lv_iconst (v := 0) hx hb dX0_startAnew_20 (by decide) ?_
  refine g_backv hI (g_runS (As := [.ref (ad 32), .int 0]) (rest := []) hC hml hI (c_J7_fill_53178 l D cy ad A _ 32 39 28 (fun _ => ⟨rfl, fun _ _ => rfl⟩) _ _ h) k_J7_fill_53178 gw_2_111 ⟨rfl, rfl⟩ ⟨Nat.le_of_ble_eq_true rfl, Nat.le_of_ble_eq_true rfl⟩ rfl hl.1 rfl (Nat.le_of_ble_eq_true rfl) dX0_startAnew_21 ⟨Nat.le_of_ble_eq_true rfl, Nat.le_of_ble_eq_true rfl⟩) (fun s18 H locs h hI => ?_)
  refine lv_iconst (v := 0) hx hb dX0_startAnew_24 (by decide) ?_
  refine lv_istore_n (lv' := [(1, .int 0), (0, .ref (ad 5))]) hx hb dX0_startAnew_25 rfl hl (by decide) rfl (fun ls hl => ?_)
  refine lv_iconst (v := 0) hx hb dX0_startAnew_26 (by decide) ?_
  refine lv_istore_n (lv' := [(2, .int 0), (1, .int 0), (0, .ref (ad 5))]) hx hb dX0_startAnew_27 rfl hl (by decide) rfl (fun ls hl => ?_)
  obtain ⟨n9, h⟩ := h
  exact J28 n9 _ _ _ _ _ _ h hI (lv_sub hl [2, 1, 0] rfl)

theorem dX0_openGates_0 : decode cX0_openGates 0 = .ok (.iconst 0, 1) := by decide +kernel
theorem dX0_openGates_1 : decode cX0_openGates 1 = .ok (.istore_n 2, 1) := by decide +kernel
theorem dX0_openGates_2 : decode cX0_openGates 2 = .ok (.iload_n 2, 1) := by decide +kernel
theorem dX0_openGates_3 : decode cX0_openGates 3 = .ok (.aload_n 0, 1) := by decide +kernel
theorem dX0_openGates_4 : decode cX0_openGates 4 = .ok (.getfield 45, 3) := by decide +kernel
theorem dX0_openGates_7 : decode cX0_openGates 7 = .ok (.getfield 75, 3) := by decide +kernel
theorem dX0_openGates_10 : decode cX0_openGates 10 = .ok (.if_icmp .ge 54, 3) := by decide +kernel
theorem dX0_openGates_13 : decode cX0_openGates 13 = .ok (.iload_n 2, 1) := by decide +kernel
theorem dX0_openGates_14 : decode cX0_openGates 14 = .ok (.iload_n 1, 1) := by decide +kernel
theorem dX0_openGates_15 : decode cX0_openGates 15 = .ok (.if_icmp .eq 18, 3) := by decide +kernel
theorem dX0_openGates_18 : decode cX0_openGates 18 = .ok (.aload_n 0, 1) := by decide +kernel
theorem dX0_openGates_19 : decode cX0_openGates 19 = .ok (.getfield 45, 3) := by decide +kernel
theorem dX0_openGates_22 : decode cX0_openGates 22 = .ok (.iload_n 2, 1) := by decide +kernel
theorem dX0_openGates_23 : decode cX0_openGates 23 = .ok (.invokevirtual 81, 3) := by decide +kernel
theorem dX0_openGates_26 : decode cX0_openGates 26 = .ok (.ifCond .eq 7, 3) := by decide +kernel
theorem dX0_openGates_29 : decode cX0_openGates 29 = .ok (.iconst 1, 1) := by decide +kernel
theorem dX0_openGates_30 : decode cX0_openGates 30 = .ok (.goto 4, 3) := by decide +kernel
theorem dX0_openGates_33 : decode cX0_openGates 33 = .ok (.iconst 0, 1) := by decide +kernel
theorem dX0_openGates_34 : decode cX0_openGates 34 = .ok (.istore_n 3, 1) := by decide +kernel
theorem dX0_openGates_35 : decode cX0_openGates 35 = .ok (.aload_n 0, 1) := by decide +kernel
theorem dX0_openGates_36 : decode cX0_openGates 36 = .ok (.getfield 26, 3) := by decide +kernel
theorem dX0_openGates_39 : decode cX0_openGates 39 = .ok (.iload_n 2, 1) := by decide +kernel
theorem dX0_openGates_40 : decode cX0_openGates 40 = .ok (.iload_n 3, 1) := by decide +kernel
theorem dX0_openGates_41 : decode cX0_openGates 41 = .ok (.ifCond .eq 15, 3) := by decide +kernel
theorem dX0_openGates_44 : decode cX0_openGates 44 = .ok (.aload_n 0, 1) := by decide +kernel
theorem dX0_openGates_45 : decode cX0_openGates 45 = .ok (.getfield 45, 3) := by decide +kernel
theorem dX0_openGates_48 : decode cX0_openGates 48 = .ok (.getfield 85, 3) := by decide +kernel
theorem dX0_openGates_51 : decode cX0_openGates 51 = .ok (.iload_n 2, 1) := by decide +kernel
theorem dX0_openGates_52 : decode cX0_openGates 52 = .ok (.iaload, 1) := by decide +kernel
theorem dX0_openGates_53 : decode cX0_openGates 53 = .ok (.goto 4, 3) := by decide +kernel
theorem dX0_openGates_56 : decode cX0_openGates 56 = .ok (.iconst 0, 1) := by decide +kernel
theorem dX0_openGates_57 : decode cX0_openGates 57 = .ok (.iastore, 1) := by decide +kernel
theorem dX0_openGates_58 : decode cX0_openGates 58 = .ok (.iinc 2 1, 3) := by decide +kernel
theorem dX0_openGates_61 : decode cX0_openGates 61 = .ok (.goto (-59), 3) := by decide +kernel
theorem dX0_openGates_64 : decode cX0_openGates 64 = .ok (.return_, 1) := by decide +kernel
def w_X0_openGates_34 (Q : gS → Prop) (k2 : Int32 → Int32 → gS → Prop) (x1 : Int32) (x2 : Int32) (v0 : Int32) (σ : gS) : Prop :=
    (v0 = 0 → vp_in x2 8 ∧ ∀ s7 : gS, s7 = gu σ 41 x2.toNatClampNeg 0 → ∀ y8 : Int32, y8 = x2 + 1 → k2 x1 y8 s7) ∧ (¬ v0 = 0 → ¬ σ 35 0 = 0 ∧ vp_in x2 8 ∧ vp_in x2 8 ∧ ∀ s12 : gS, s12 = gu σ 41 x2.toNatClampNeg (σ 24 x2.toNatClampNeg) → ∀ y13 : Int32, y13 = x2 + 1 → k2 x1 y13 s12)
def w_X0_openGates_33 (Q : gS → Prop) (k2 : Int32 → Int32 → gS → Prop) (x1 : Int32) (x2 : Int32) (σ : gS) : Prop :=
    w_X0_openGates_34 Q k2 x1 x2 0 σ
def w_X0_openGates_2 (Q : gS → Prop) : Nat → Int32 → Int32 → gS → Prop
  | 0, _, _, _ => False
  | n2 + 1, x1, x2, σ =>
    ¬ σ 35 0 = 0 ∧ ((σ 26 0) ≤ x2 → Q σ) ∧ (¬ (σ 26 0) ≤ x2 → (x2 = x1 → w_X0_openGates_33 Q (w_X0_openGates_2 Q n2) x1 x2 σ) ∧ (¬ x2 = x1 → ¬ σ 35 0 = 0 ∧ w_X2_isOpen  (fun (r19 : Int32) (s18 : gS) => (r19 = 0 → w_X0_openGates_33 Q (w_X0_openGates_2 Q n2) x1 x2 s18) ∧ (¬ r19 = 0 → w_X0_openGates_34 Q (w_X0_openGates_2 Q n2) x1 x2 1 s18)) σ x2))
def w_X0_openGates (Q : gS → Prop) (σ : gS) (a1 : Int32) : Prop :=
    ∃ n2, w_X0_openGates_2 Q n2 a1 0 σ
abbrev ws_X0_openGates : List Cond := Cond.code yX0_openGates cX0_openGates 4 none :: gG
abbrev rm_X0_openGates : Room := { frames := 1, cells := 0, slots := 0, locals := 21 }
theorem k_X0_openGates : gCV yX0_openGates RX0 cX0_openGates 4 none 1 := ⟨gw_2_114, gwp_1, gw_1_7, gw_2_115, rfl, by decide +kernel⟩
set_option maxHeartbeats 4000000 in
set_option maxRecDepth 100000 in
theorem c_X0_openGates (l : Launch) (D : va_G) (cy : Nat → ClassId) (ad : Nat → Nat) (A : Nat → Prop) (Q : gS → Prop) (σ : gS) (a1 : Int32) (h : w_X0_openGates Q σ a1) : Met l yX0_openGates ws_X0_openGates rm_X0_openGates (va_Pc [.ref (ad 5), .int a1] (gB D cy ad A σ)) (va_Qv Q (gB D cy ad A) A) 0 0 A := by
  refine Met.ofW (cc := cX0_openGates) (maxL := 4) (ret := none) (by decide) rfl ?_
  intro p e s m args below meth c s₁ B hml hv
  obtain ⟨rfl, hB⟩ := hv
  have hC : gC p c cX0_openGates s m ([.ref (ad 5), .int a1] : List Value).toArray RX0 D cy ad A := g_start B hB
  have hI := g_first hB
  have hx := hC.1
  have hb := hC.2.1
  have hr := B.returns
  have hlocks := B.notSynchronized
  clear B hB
  have J2 : ∀ (n2 : Nat) (x1 : Int32) (x2 : Int32) (σ : gS) (H : Heap) (locs : List Loc) (ls : Array Slot), w_X0_openGates_2 Q n2 x1 x2 σ → gI D cy ad A s.heap σ H locs → lv_has ls 4 [(0, .ref (ad 5)), (1, .int x1), (2, .int x2)] → W p l e (headSpec ws_X0_openGates rm_X0_openGates).room s m ([.ref (ad 5), .int a1] : List Value).toArray below meth c H locs 0 0 (MQ below (va_Qv Q (gB D cy ad A) A) ([.ref (ad 5), .int a1] : List Value).toArray s 0 0 A) (F0 m 2 ls []) := by
    intro n2
    induction n2 with
    | zero => intro x1 x2 σ H locs ls h; exact absurd h (fun h => h)
    | succ n2 ih2 =>
      have J34 : ∀ (x1 : Int32) (x2 : Int32) (v0 : Int32) (σ : gS) (H : Heap) (locs : List Loc) (ls : Array Slot), w_X0_openGates_34 Q (w_X0_openGates_2 Q n2) x1 x2 v0 σ → gI D cy ad A s.heap σ H locs → lv_has ls 4 [(0, .ref (ad 5)), (1, .int x1), (2, .int x2)] → W p l e (headSpec ws_X0_openGates rm_X0_openGates).room s m ([.ref (ad 5), .int a1] : List Value).toArray below meth c H locs 0 0 (MQ below (va_Qv Q (gB D cy ad A) A) ([.ref (ad 5), .int a1] : List Value).toArray s 0 0 A) (F0 m 34 ls [.int v0]) := by
        intro x1 x2 v0 σ H locs ls h hI hl
        unfold w_X0_openGates_34 at h
        refine lv_istore_n (lv' := [(3, .int v0), (0, .ref (ad 5)), (1, .int x1), (2, .int x2)]) hx hb dX0_openGates_34 rfl hl (by decide) rfl (fun ls hl => ?_)
        refine lv_aload_n hx hb dX0_openGates_35 rfl (lv_at hl 1 rfl) ?_
        refine gg_X0_gateRoom hC hI gw_1_108 dX0_openGates_36 ?_
        refine lv_iload_n hx hb dX0_openGates_39 rfl (lv_at hl 3 rfl) ?_
        refine lv_iload_n hx hb dX0_openGates_40 rfl (lv_at hl 0 rfl) ?_
        refine lv_if_eq (tgt := 56) hx hb dX0_openGates_41 (by decide) (fun c5 => ?_) (fun c5 => ?_)
        · have h := h.1 c5
          refine lv_iconst (v := 0) hx hb dX0_openGates_56 (by decide) ?_
          obtain ⟨hi6, h⟩ := h
          refine gs_34 hC hI hi6 dX0_openGates_57 (fun s7 H locs es7 hI => ?_)
          have h := h s7 es7
          obtain ⟨y8, ey8⟩ : ∃ y : Int32, y = x2 + 1 := ⟨_, rfl⟩
          have h := h y8 ey8
          refine lv_iinc (v := y8) (lv' := [(2, .int y8), (3, .int v0), (0, .ref (ad 5)), (1, .int x1)]) hx hb dX0_openGates_58 hl (k := 3) rfl (by rw [ey8]; rfl) (by decide) rfl (fun ls hl => ?_)
          refine lv_goto (tgt := 2) hx hb dX0_openGates_61 (by decide) ?_
          exact ih2 _ _ _ _ _ _ h hI (lv_sub hl [2, 3, 0] rfl)
        · have h := h.2 c5
          refine lv_aload_n hx hb dX0_openGates_44 rfl (lv_at hl 1 rfl) ?_
          obtain ⟨hz9, h⟩ := h
          refine gg_X0_ground hC hI gw_1_102 dX0_openGates_45 hz9 ?_
          refine gg_X2_rates hC hI gw_1_143 dX0_openGates_48 ?_
          refine lv_iload_n hx hb dX0_openGates_51 rfl (lv_at hl 3 rfl) ?_
          obtain ⟨hi10, h⟩ := h
          refine ga_23 hC hI hi10 dX0_openGates_52 ?_
          refine lv_goto (tgt := 57) hx hb dX0_openGates_53 (by decide) ?_
          obtain ⟨hi11, h⟩ := h
          refine gs_34 hC hI hi11 dX0_openGates_57 (fun s12 H locs es12 hI => ?_)
          have h := h s12 es12
          obtain ⟨y13, ey13⟩ : ∃ y : Int32, y = x2 + 1 := ⟨_, rfl⟩
          have h := h y13 ey13
          refine lv_iinc (v := y13) (lv' := [(2, .int y13), (3, .int v0), (0, .ref (ad 5)), (1, .int x1)]) hx hb dX0_openGates_58 hl (k := 3) rfl (by rw [ey13]; rfl) (by decide) rfl (fun ls hl => ?_)
          refine lv_goto (tgt := 2) hx hb dX0_openGates_61 (by decide) ?_
          exact ih2 _ _ _ _ _ _ h hI (lv_sub hl [2, 3, 0] rfl)
      have J33 : ∀ (x1 : Int32) (x2 : Int32) (σ : gS) (H : Heap) (locs : List Loc) (ls : Array Slot), w_X0_openGates_33 Q (w_X0_openGates_2 Q n2) x1 x2 σ → gI D cy ad A s.heap σ H locs → lv_has ls 4 [(0, .ref (ad 5)), (1, .int x1), (2, .int x2)] → W p l e (headSpec ws_X0_openGates rm_X0_openGates).room s m ([.ref (ad 5), .int a1] : List Value).toArray below meth c H locs 0 0 (MQ below (va_Qv Q (gB D cy ad A) A) ([.ref (ad 5), .int a1] : List Value).toArray s 0 0 A) (F0 m 33 ls []) := by
        intro x1 x2 σ H locs ls h hI hl
        unfold w_X0_openGates_33 at h
        refine lv_iconst (v := 0) hx hb dX0_openGates_33 (by decide) ?_
        exact J34 _ _ _ _ _ _ _ h hI (lv_sub hl [0, 1, 2] rfl)
      intro x1 x2 σ H locs ls h hI hl
      unfold w_X0_openGates_2 at h
      refine lv_iload_n hx hb dX0_openGates_2 rfl (lv_at hl 2 rfl) ?_
      refine lv_aload_n hx hb dX0_openGates_3 rfl (lv_at hl 0 rfl) ?_
      obtain ⟨hz14, h⟩ := h
      refine gg_X0_ground hC hI gw_1_102 dX0_openGates_4 hz14 ?_
      refine gg_X2_places hC hI gw_1_146 dX0_openGates_7 ?_
      refine lv_icmp_ge (tgt := 64) hx hb dX0_openGates_10 (by decide) (fun c15 => ?_) (fun c15 => ?_)
      · have h := h.1 c15
        exact g_vret hC hr hlocks hI h dX0_openGates_64
      · have h := h.2 c15
        refine lv_iload_n hx hb dX0_openGates_13 rfl (lv_at hl 2 rfl) ?_
        refine lv_iload_n hx hb dX0_openGates_14 rfl (lv_at hl 1 rfl) ?_
        refine lv_icmp_eq (tgt := 33) hx hb dX0_openGates_15 (by decide) (fun c16 => ?_) (fun c16 => ?_)
        · have h := h.1 c16
          exact J33 _ _ _ _ _ _ h hI (lv_sub hl [0, 1, 2] rfl)
        · have h := h.2 c16
          refine lv_aload_n hx hb dX0_openGates_18 rfl (lv_at hl 0 rfl) ?_
          obtain ⟨hz17, h⟩ := h
          refine gg_X0_ground hC hI gw_1_102 dX0_openGates_19 hz17 ?_
          refine lv_iload_n hx hb dX0_openGates_22 rfl (lv_at hl 2 rfl) ?_
          refine g_backi hI (g_runV (As := [.int x2]) (rest := []) hC hml hI (c_X2_isOpen l D cy ad A _  _ _ h) k_X2_isOpen gw_2_116 ⟨rfl, rfl⟩ ⟨Nat.le_of_ble_eq_true rfl, Nat.le_of_ble_eq_true rfl⟩ (grv_4 hC hI) rfl hl.1 rfl (Nat.le_of_ble_eq_true rfl) dX0_openGates_23 ⟨Nat.le_of_ble_eq_true rfl, Nat.le_of_ble_eq_true rfl⟩) (fun r19 s18 H locs h hI => ?_)
          refine lv_if_eq (tgt := 33) hx hb dX0_openGates_26 (by decide) (fun c20 => ?_) (fun c20 => ?_)
          · have h := h.1 c20
            exact J33 _ _ _ _ _ _ h hI (lv_sub hl [0, 1, 2] rfl)
          · have h := h.2 c20
            refine lv_iconst (v := 1) hx hb dX0_openGates_29 (by decide) ?_
            refine lv_goto (tgt := 34) hx hb dX0_openGates_30 (by decide) ?_
            exact J34 _ _ _ _ _ _ _ h hI (lv_sub hl [0, 1, 2] rfl)
  have hl := lv_entry ([.ref (ad 5), .int a1]) (n := 4) (Nat.le_of_ble_eq_true rfl)
  rw [lg_entry_eq]
  generalize (lg_sl ([.ref (ad 5), .int a1]) ++ List.replicate (4 - (lg_sl ([.ref (ad 5), .int a1])).length) Slot.unset).toArray = ls at hl ⊢
  have hl : lv_has ls 4 [(0, .ref (ad 5)), (1, .int a1)] := hl
  unfold w_X0_openGates at h
  refine lv_iconst (v := 0) hx hb dX0_openGates_0 (by decide) ?_
  refine lv_istore_n (lv' := [(2, .int 0), (0, .ref (ad 5)), (1, .int a1)]) hx hb dX0_openGates_1 rfl hl (by decide) rfl (fun ls hl => ?_)
  obtain ⟨n9, h⟩ := h
  exact J2 n9 _ _ _ _ _ _ h hI (lv_sub hl [1, 2, 0] rfl)

theorem dX0_reach_0 : decode cX0_reach 0 = .ok (.bipush 40, 2) := by decide +kernel
theorem dX0_reach_2 : decode cX0_reach 2 = .ok (.iload_n 1, 1) := by decide +kernel
theorem dX0_reach_3 : decode cX0_reach 3 = .ok (.imul, 1) := by decide +kernel
theorem dX0_reach_4 : decode cX0_reach 4 = .ok (.iload_n 2, 1) := by decide +kernel
theorem dX0_reach_5 : decode cX0_reach 5 = .ok (.iadd, 1) := by decide +kernel
theorem dX0_reach_6 : decode cX0_reach 6 = .ok (.istore 6, 2) := by decide +kernel
theorem dX0_reach_8 : decode cX0_reach 8 = .ok (.aload_n 0, 1) := by decide +kernel
theorem dX0_reach_9 : decode cX0_reach 9 = .ok (.getfield 29, 3) := by decide +kernel
theorem dX0_reach_12 : decode cX0_reach 12 = .ok (.iload_n 1, 1) := by decide +kernel
theorem dX0_reach_13 : decode cX0_reach 13 = .ok (.iload_n 2, 1) := by decide +kernel
theorem dX0_reach_14 : decode cX0_reach 14 = .ok (.iastore, 1) := by decide +kernel
theorem dX0_reach_15 : decode cX0_reach 15 = .ok (.aload_n 0, 1) := by decide +kernel
theorem dX0_reach_16 : decode cX0_reach 16 = .ok (.getfield 32, 3) := by decide +kernel
theorem dX0_reach_19 : decode cX0_reach 19 = .ok (.iload_n 1, 1) := by decide +kernel
theorem dX0_reach_20 : decode cX0_reach 20 = .ok (.iconst 1, 1) := by decide +kernel
theorem dX0_reach_21 : decode cX0_reach 21 = .ok (.bastore, 1) := by decide +kernel
theorem dX0_reach_22 : decode cX0_reach 22 = .ok (.aload_n 0, 1) := by decide +kernel
theorem dX0_reach_23 : decode cX0_reach 23 = .ok (.getfield 36, 3) := by decide +kernel
theorem dX0_reach_26 : decode cX0_reach 26 = .ok (.iload 6, 2) := by decide +kernel
theorem dX0_reach_28 : decode cX0_reach 28 = .ok (.iload_n 3, 1) := by decide +kernel
theorem dX0_reach_29 : decode cX0_reach 29 = .ok (.iastore, 1) := by decide +kernel
theorem dX0_reach_30 : decode cX0_reach 30 = .ok (.aload_n 0, 1) := by decide +kernel
theorem dX0_reach_31 : decode cX0_reach 31 = .ok (.getfield 39, 3) := by decide +kernel
theorem dX0_reach_34 : decode cX0_reach 34 = .ok (.iload 6, 2) := by decide +kernel
theorem dX0_reach_36 : decode cX0_reach 36 = .ok (.iload 4, 2) := by decide +kernel
theorem dX0_reach_38 : decode cX0_reach 38 = .ok (.iastore, 1) := by decide +kernel
theorem dX0_reach_39 : decode cX0_reach 39 = .ok (.aload_n 0, 1) := by decide +kernel
theorem dX0_reach_40 : decode cX0_reach 40 = .ok (.getfield 42, 3) := by decide +kernel
theorem dX0_reach_43 : decode cX0_reach 43 = .ok (.iload 6, 2) := by decide +kernel
theorem dX0_reach_45 : decode cX0_reach 45 = .ok (.iload 5, 2) := by decide +kernel
theorem dX0_reach_47 : decode cX0_reach 47 = .ok (.iastore, 1) := by decide +kernel
theorem dX0_reach_48 : decode cX0_reach 48 = .ok (.return_, 1) := by decide +kernel
def w_X0_reach (Q : gS → Prop) (σ : gS) (a1 : Int32) (a2 : Int32) (a3 : Int32) (a4 : Int32) (a5 : Int32) : Prop :=
    ∀ y1 : Int32, y1 = ((40 * a1) + a2) → vp_in a1 8 ∧ ∀ s3 : gS, s3 = gu σ 42 a1.toNatClampNeg a2 → vp_in a1 8 ∧ ∀ s5 : gS, s5 = gu s3 43 a1.toNatClampNeg (vp_nar .boolean 1) → vp_in y1 320 ∧ ∀ s7 : gS, s7 = gu s5 44 y1.toNatClampNeg a3 → vp_in y1 320 ∧ ∀ s9 : gS, s9 = gu s7 45 y1.toNatClampNeg a4 → vp_in y1 320 ∧ ∀ s11 : gS, s11 = gu s9 46 y1.toNatClampNeg a5 → Q s11
abbrev ws_X0_reach : List Cond := Cond.code yX0_reach cX0_reach 7 none :: gG
abbrev rm_X0_reach : Room := { frames := 0, cells := 0, slots := 0, locals := 0 }
theorem k_X0_reach : gCV yX0_reach RX0 cX0_reach 7 none 5 := ⟨gw_2_130, gwp_4, gw_1_7, gw_2_131, rfl, by decide +kernel⟩
set_option maxHeartbeats 4000000 in
set_option maxRecDepth 100000 in
theorem c_X0_reach (l : Launch) (D : va_G) (cy : Nat → ClassId) (ad : Nat → Nat) (A : Nat → Prop) (Q : gS → Prop) (σ : gS) (a1 : Int32) (a2 : Int32) (a3 : Int32) (a4 : Int32) (a5 : Int32) (h : w_X0_reach Q σ a1 a2 a3 a4 a5) : Met l yX0_reach ws_X0_reach rm_X0_reach (va_Pc [.ref (ad 5), .int a1, .int a2, .int a3, .int a4, .int a5] (gB D cy ad A σ)) (va_Qv Q (gB D cy ad A) A) 0 0 A := by
  refine Met.ofW (cc := cX0_reach) (maxL := 7) (ret := none) (by decide) rfl ?_
  intro p e s m args below meth c s₁ B hml hv
  obtain ⟨rfl, hB⟩ := hv
  have hC : gC p c cX0_reach s m ([.ref (ad 5), .int a1, .int a2, .int a3, .int a4, .int a5] : List Value).toArray RX0 D cy ad A := g_start B hB
  have hI := g_first hB
  have hx := hC.1
  have hb := hC.2.1
  have hr := B.returns
  have hlocks := B.notSynchronized
  clear B hB
  have hl := lv_entry ([.ref (ad 5), .int a1, .int a2, .int a3, .int a4, .int a5]) (n := 7) (Nat.le_of_ble_eq_true rfl)
  rw [lg_entry_eq]
  generalize (lg_sl ([.ref (ad 5), .int a1, .int a2, .int a3, .int a4, .int a5]) ++ List.replicate (7 - (lg_sl ([.ref (ad 5), .int a1, .int a2, .int a3, .int a4, .int a5])).length) Slot.unset).toArray = ls at hl ⊢
  have hl : lv_has ls 7 [(0, .ref (ad 5)), (1, .int a1), (2, .int a2), (3, .int a3), (4, .int a4), (5, .int a5)] := hl
  unfold w_X0_reach at h
  refine lv_bipush (v := 40) hx hb dX0_reach_0 (by decide) ?_
  refine lv_iload_n hx hb dX0_reach_2 rfl (lv_at hl 1 rfl) ?_
  refine lv_imul hx hb dX0_reach_3 ?_
  refine lv_iload_n hx hb dX0_reach_4 rfl (lv_at hl 2 rfl) ?_
  refine lv_iadd hx hb dX0_reach_5 ?_
  refine lv_topi (fun y1 ey1 => ?_)
  have h := h y1 ey1
  refine lv_istore (lv' := [(6, .int y1), (0, .ref (ad 5)), (1, .int a1), (2, .int a2), (3, .int a3), (4, .int a4), (5, .int a5)]) hx hb dX0_reach_6 hl (by decide) rfl (fun ls hl => ?_)
  refine lv_aload_n hx hb dX0_reach_8 rfl (lv_at hl 1 rfl) ?_
  refine gg_X0_latest hC hI gw_1_109 dX0_reach_9 ?_
  refine lv_iload_n hx hb dX0_reach_12 rfl (lv_at hl 2 rfl) ?_
  refine lv_iload_n hx hb dX0_reach_13 rfl (lv_at hl 3 rfl) ?_
  obtain ⟨hi2, h⟩ := h
  refine gs_35 hC hI hi2 dX0_reach_14 (fun s3 H locs es3 hI => ?_)
  have h := h s3 es3
  refine lv_aload_n hx hb dX0_reach_15 rfl (lv_at hl 1 rfl) ?_
  refine gg_X0_isNew hC hI gw_1_110 dX0_reach_16 ?_
  refine lv_iload_n hx hb dX0_reach_19 rfl (lv_at hl 2 rfl) ?_
  refine lv_iconst (v := 1) hx hb dX0_reach_20 (by decide) ?_
  obtain ⟨hi4, h⟩ := h
  refine gs_36 hC hI hi4 dX0_reach_21 (fun s5 H locs es5 hI => ?_)
  have h := h s5 es5
  refine lv_aload_n hx hb dX0_reach_22 rfl (lv_at hl 1 rfl) ?_
  refine gg_X0_steps hC hI gw_1_111 dX0_reach_23 ?_
  refine lv_iload hx hb dX0_reach_26 (lv_at hl 0 rfl) ?_
  refine lv_iload_n hx hb dX0_reach_28 rfl (lv_at hl 4 rfl) ?_
  obtain ⟨hi6, h⟩ := h
  refine gs_37 hC hI hi6 dX0_reach_29 (fun s7 H locs es7 hI => ?_)
  have h := h s7 es7
  refine lv_aload_n hx hb dX0_reach_30 rfl (lv_at hl 1 rfl) ?_
  refine gg_X0_nextMinutes hC hI gw_1_112 dX0_reach_31 ?_
  refine lv_iload hx hb dX0_reach_34 (lv_at hl 0 rfl) ?_
  refine lv_iload hx hb dX0_reach_36 (lv_at hl 5 rfl) ?_
  obtain ⟨hi8, h⟩ := h
  refine gs_38 hC hI hi8 dX0_reach_38 (fun s9 H locs es9 hI => ?_)
  have h := h s9 es9
  refine lv_aload_n hx hb dX0_reach_39 rfl (lv_at hl 1 rfl) ?_
  refine gg_X0_rooms hC hI gw_1_113 dX0_reach_40 ?_
  refine lv_iload hx hb dX0_reach_43 (lv_at hl 0 rfl) ?_
  refine lv_iload hx hb dX0_reach_45 (lv_at hl 6 rfl) ?_
  obtain ⟨hi10, h⟩ := h
  refine gs_39 hC hI hi10 dX0_reach_47 (fun s11 H locs es11 hI => ?_)
  have h := h s11 es11
  exact g_vret hC hr hlocks hI h dX0_reach_48

theorem dX0_reachGates_0 : decode cX0_reachGates 0 = .ok (.iconst (-1), 1) := by decide +kernel
theorem dX0_reachGates_1 : decode cX0_reachGates 1 = .ok (.istore_n 1, 1) := by decide +kernel
theorem dX0_reachGates_2 : decode cX0_reachGates 2 = .ok (.iconst 0, 1) := by decide +kernel
theorem dX0_reachGates_3 : decode cX0_reachGates 3 = .ok (.istore_n 2, 1) := by decide +kernel
theorem dX0_reachGates_4 : decode cX0_reachGates 4 = .ok (.iload_n 2, 1) := by decide +kernel
theorem dX0_reachGates_5 : decode cX0_reachGates 5 = .ok (.aload_n 0, 1) := by decide +kernel
theorem dX0_reachGates_6 : decode cX0_reachGates 6 = .ok (.getfield 45, 3) := by decide +kernel
theorem dX0_reachGates_9 : decode cX0_reachGates 9 = .ok (.getfield 75, 3) := by decide +kernel
theorem dX0_reachGates_12 : decode cX0_reachGates 12 = .ok (.if_icmp .ge 64, 3) := by decide +kernel
theorem dX0_reachGates_15 : decode cX0_reachGates 15 = .ok (.aload_n 0, 1) := by decide +kernel
theorem dX0_reachGates_16 : decode cX0_reachGates 16 = .ok (.getfield 29, 3) := by decide +kernel
theorem dX0_reachGates_19 : decode cX0_reachGates 19 = .ok (.iload_n 2, 1) := by decide +kernel
theorem dX0_reachGates_20 : decode cX0_reachGates 20 = .ok (.iconst (-1), 1) := by decide +kernel
theorem dX0_reachGates_21 : decode cX0_reachGates 21 = .ok (.iastore, 1) := by decide +kernel
theorem dX0_reachGates_22 : decode cX0_reachGates 22 = .ok (.aload_n 0, 1) := by decide +kernel
theorem dX0_reachGates_23 : decode cX0_reachGates 23 = .ok (.getfield 32, 3) := by decide +kernel
theorem dX0_reachGates_26 : decode cX0_reachGates 26 = .ok (.iload_n 2, 1) := by decide +kernel
theorem dX0_reachGates_27 : decode cX0_reachGates 27 = .ok (.iconst 0, 1) := by decide +kernel
theorem dX0_reachGates_28 : decode cX0_reachGates 28 = .ok (.bastore, 1) := by decide +kernel
theorem dX0_reachGates_29 : decode cX0_reachGates 29 = .ok (.aload_n 0, 1) := by decide +kernel
theorem dX0_reachGates_30 : decode cX0_reachGates 30 = .ok (.getfield 26, 3) := by decide +kernel
theorem dX0_reachGates_33 : decode cX0_reachGates 33 = .ok (.iload_n 2, 1) := by decide +kernel
theorem dX0_reachGates_34 : decode cX0_reachGates 34 = .ok (.iaload, 1) := by decide +kernel
theorem dX0_reachGates_35 : decode cX0_reachGates 35 = .ok (.ifCond .le 35, 3) := by decide +kernel
theorem dX0_reachGates_38 : decode cX0_reachGates 38 = .ok (.aload_n 0, 1) := by decide +kernel
theorem dX0_reachGates_39 : decode cX0_reachGates 39 = .ok (.iload_n 2, 1) := by decide +kernel
theorem dX0_reachGates_40 : decode cX0_reachGates 40 = .ok (.aload_n 0, 1) := by decide +kernel
theorem dX0_reachGates_41 : decode cX0_reachGates 41 = .ok (.getfield 53, 3) := by decide +kernel
theorem dX0_reachGates_44 : decode cX0_reachGates 44 = .ok (.bipush 57, 2) := by decide +kernel
theorem dX0_reachGates_46 : decode cX0_reachGates 46 = .ok (.aload_n 0, 1) := by decide +kernel
theorem dX0_reachGates_47 : decode cX0_reachGates 47 = .ok (.getfield 53, 3) := by decide +kernel
theorem dX0_reachGates_50 : decode cX0_reachGates 50 = .ok (.aload_n 0, 1) := by decide +kernel
theorem dX0_reachGates_51 : decode cX0_reachGates 51 = .ok (.getfield 26, 3) := by decide +kernel
theorem dX0_reachGates_54 : decode cX0_reachGates 54 = .ok (.iload_n 2, 1) := by decide +kernel
theorem dX0_reachGates_55 : decode cX0_reachGates 55 = .ok (.iaload, 1) := by decide +kernel
theorem dX0_reachGates_56 : decode cX0_reachGates 56 = .ok (.invokevirtual 113, 3) := by decide +kernel
theorem dX0_reachGates_59 : decode cX0_reachGates 59 = .ok (.aload_n 0, 1) := by decide +kernel
theorem dX0_reachGates_60 : decode cX0_reachGates 60 = .ok (.getfield 23, 3) := by decide +kernel
theorem dX0_reachGates_63 : decode cX0_reachGates 63 = .ok (.iload_n 2, 1) := by decide +kernel
theorem dX0_reachGates_64 : decode cX0_reachGates 64 = .ok (.iaload, 1) := by decide +kernel
theorem dX0_reachGates_65 : decode cX0_reachGates 65 = .ok (.ifCond .le 5, 3) := by decide +kernel
theorem dX0_reachGates_68 : decode cX0_reachGates 68 = .ok (.iload_n 2, 1) := by decide +kernel
theorem dX0_reachGates_69 : decode cX0_reachGates 69 = .ok (.istore_n 1, 1) := by decide +kernel
theorem dX0_reachGates_70 : decode cX0_reachGates 70 = .ok (.iinc 2 1, 3) := by decide +kernel
theorem dX0_reachGates_73 : decode cX0_reachGates 73 = .ok (.goto (-69), 3) := by decide +kernel
theorem dX0_reachGates_76 : decode cX0_reachGates 76 = .ok (.iload_n 1, 1) := by decide +kernel
theorem dX0_reachGates_77 : decode cX0_reachGates 77 = .ok (.ireturn, 1) := by decide +kernel
def w_X0_reachGates_4 (Q : Int32 → gS → Prop) : Nat → Int32 → Int32 → gS → Prop
  | 0, _, _, _ => False
  | n4 + 1, x1, x2, σ =>
    ¬ σ 35 0 = 0 ∧ ((σ 26 0) ≤ x2 → Q x1 σ) ∧ (¬ (σ 26 0) ≤ x2 → vp_in x2 8 ∧ ∀ s8 : gS, s8 = gu σ 42 x2.toNatClampNeg (-1) → vp_in x2 8 ∧ ∀ s10 : gS, s10 = gu s8 43 x2.toNatClampNeg (vp_nar .boolean 0) → vp_in x2 8 ∧ ((s10 41 x2.toNatClampNeg) ≤ 0 → ∀ y13 : Int32, y13 = x2 + 1 → w_X0_reachGates_4 Q n4 x1 y13 s10) ∧ (¬ (s10 41 x2.toNatClampNeg) ≤ 0 → vp_in x2 8 ∧ w_X0_reach  (fun (s15 : gS) => vp_in x2 8 ∧ ((s15 40 x2.toNatClampNeg) ≤ 0 → ∀ y19 : Int32, y19 = x2 + 1 → w_X0_reachGates_4 Q n4 x1 y19 s15) ∧ (¬ (s15 40 x2.toNatClampNeg) ≤ 0 → ∀ y20 : Int32, y20 = x2 + 1 → w_X0_reachGates_4 Q n4 x2 y20 s15)) s10 x2 (s10 36 0) 57 (s10 36 0) (s10 41 x2.toNatClampNeg)))
def w_X0_reachGates (Q : Int32 → gS → Prop) (σ : gS) : Prop :=
    ∃ n4, w_X0_reachGates_4 Q n4 (-1) 0 σ
abbrev ws_X0_reachGates : List Cond := Cond.code yX0_reachGates cX0_reachGates 3 (some .int) :: gG
abbrev rm_X0_reachGates : Room := { frames := 1, cells := 0, slots := 0, locals := 26 }
theorem k_X0_reachGates : gCV yX0_reachGates RX0 cX0_reachGates 3 (some .int) 0 := ⟨gw_2_126, gwp_3, gw_1_7, gw_2_127, rfl, by decide +kernel⟩
set_option maxHeartbeats 4000000 in
set_option maxRecDepth 100000 in
theorem c_X0_reachGates (l : Launch) (D : va_G) (cy : Nat → ClassId) (ad : Nat → Nat) (A : Nat → Prop) (Q : Int32 → gS → Prop) (σ : gS) (h : w_X0_reachGates Q σ) : Met l yX0_reachGates ws_X0_reachGates rm_X0_reachGates (va_Pc [.ref (ad 5)] (gB D cy ad A σ)) (va_Qi Q (gB D cy ad A) A) 0 0 A := by
  refine Met.ofW (cc := cX0_reachGates) (maxL := 3) (ret := (some .int)) (by decide) rfl ?_
  intro p e s m args below meth c s₁ B hml hv
  obtain ⟨rfl, hB⟩ := hv
  have hC : gC p c cX0_reachGates s m ([.ref (ad 5)] : List Value).toArray RX0 D cy ad A := g_start B hB
  have hI := g_first hB
  have hx := hC.1
  have hb := hC.2.1
  have hr := B.returns
  have hlocks := B.notSynchronized
  clear B hB
  have J4 : ∀ (n4 : Nat) (x1 : Int32) (x2 : Int32) (σ : gS) (H : Heap) (locs : List Loc) (ls : Array Slot), w_X0_reachGates_4 Q n4 x1 x2 σ → gI D cy ad A s.heap σ H locs → lv_has ls 3 [(0, .ref (ad 5)), (1, .int x1), (2, .int x2)] → W p l e (headSpec ws_X0_reachGates rm_X0_reachGates).room s m ([.ref (ad 5)] : List Value).toArray below meth c H locs 0 0 (MQ below (va_Qi Q (gB D cy ad A) A) ([.ref (ad 5)] : List Value).toArray s 0 0 A) (F0 m 4 ls []) := by
    intro n4
    induction n4 with
    | zero => intro x1 x2 σ H locs ls h; exact absurd h (fun h => h)
    | succ n4 ih4 =>
      intro x1 x2 σ H locs ls h hI hl
      unfold w_X0_reachGates_4 at h
      refine lv_iload_n hx hb dX0_reachGates_4 rfl (lv_at hl 2 rfl) ?_
      refine lv_aload_n hx hb dX0_reachGates_5 rfl (lv_at hl 0 rfl) ?_
      obtain ⟨hz5, h⟩ := h
      refine gg_X0_ground hC hI gw_1_102 dX0_reachGates_6 hz5 ?_
      refine gg_X2_places hC hI gw_1_146 dX0_reachGates_9 ?_
      refine lv_icmp_ge (tgt := 76) hx hb dX0_reachGates_12 (by decide) (fun c6 => ?_) (fun c6 => ?_)
      · have h := h.1 c6
        refine lv_iload_n hx hb dX0_reachGates_76 rfl (lv_at hl 1 rfl) ?_
        exact g_iret hC hr hlocks hI h dX0_reachGates_77
      · have h := h.2 c6
        refine lv_aload_n hx hb dX0_reachGates_15 rfl (lv_at hl 0 rfl) ?_
        refine gg_X0_latest hC hI gw_1_109 dX0_reachGates_16 ?_
        refine lv_iload_n hx hb dX0_reachGates_19 rfl (lv_at hl 2 rfl) ?_
        refine lv_iconst (v := (-1)) hx hb dX0_reachGates_20 (by decide) ?_
        obtain ⟨hi7, h⟩ := h
        refine gs_35 hC hI hi7 dX0_reachGates_21 (fun s8 H locs es8 hI => ?_)
        have h := h s8 es8
        refine lv_aload_n hx hb dX0_reachGates_22 rfl (lv_at hl 0 rfl) ?_
        refine gg_X0_isNew hC hI gw_1_110 dX0_reachGates_23 ?_
        refine lv_iload_n hx hb dX0_reachGates_26 rfl (lv_at hl 2 rfl) ?_
        refine lv_iconst (v := 0) hx hb dX0_reachGates_27 (by decide) ?_
        obtain ⟨hi9, h⟩ := h
        refine gs_36 hC hI hi9 dX0_reachGates_28 (fun s10 H locs es10 hI => ?_)
        have h := h s10 es10
        refine lv_aload_n hx hb dX0_reachGates_29 rfl (lv_at hl 0 rfl) ?_
        refine gg_X0_gateRoom hC hI gw_1_108 dX0_reachGates_30 ?_
        refine lv_iload_n hx hb dX0_reachGates_33 rfl (lv_at hl 2 rfl) ?_
        obtain ⟨hi11, h⟩ := h
        refine ga_34 hC hI hi11 dX0_reachGates_34 ?_
        refine lv_if_le (tgt := 70) hx hb dX0_reachGates_35 (by decide) (fun c12 => ?_) (fun c12 => ?_)
        · have h := h.1 c12
          obtain ⟨y13, ey13⟩ : ∃ y : Int32, y = x2 + 1 := ⟨_, rfl⟩
          have h := h y13 ey13
          refine lv_iinc (v := y13) (lv' := [(2, .int y13), (0, .ref (ad 5)), (1, .int x1)]) hx hb dX0_reachGates_70 hl (k := 2) rfl (by rw [ey13]; rfl) (by decide) rfl (fun ls hl => ?_)
          refine lv_goto (tgt := 4) hx hb dX0_reachGates_73 (by decide) ?_
          exact ih4 _ _ _ _ _ _ h hI (lv_sub hl [1, 2, 0] rfl)
        · have h := h.2 c12
          refine lv_aload_n hx hb dX0_reachGates_38 rfl (lv_at hl 0 rfl) ?_
          refine lv_iload_n hx hb dX0_reachGates_39 rfl (lv_at hl 2 rfl) ?_
          refine lv_aload_n hx hb dX0_reachGates_40 rfl (lv_at hl 0 rfl) ?_
          refine gg_X0_lastMinute hC hI gw_1_103 dX0_reachGates_41 ?_
          refine lv_bipush (v := 57) hx hb dX0_reachGates_44 (by decide) ?_
          refine lv_aload_n hx hb dX0_reachGates_46 rfl (lv_at hl 0 rfl) ?_
          refine gg_X0_lastMinute hC hI gw_1_103 dX0_reachGates_47 ?_
          refine lv_aload_n hx hb dX0_reachGates_50 rfl (lv_at hl 0 rfl) ?_
          refine gg_X0_gateRoom hC hI gw_1_108 dX0_reachGates_51 ?_
          refine lv_iload_n hx hb dX0_reachGates_54 rfl (lv_at hl 2 rfl) ?_
          obtain ⟨hi14, h⟩ := h
          refine ga_34 hC hI hi14 dX0_reachGates_55 ?_
          refine g_backv hI (g_runV (As := [.int x2, .int (s10 36 0), .int 57, .int (s10 36 0), .int (s10 41 x2.toNatClampNeg)]) (rest := []) hC hml hI (c_X0_reach l D cy ad A _  _ _ _ _ _ _ h) k_X0_reach gw_2_128 ⟨rfl, rfl⟩ ⟨Nat.le_of_ble_eq_true rfl, Nat.le_of_ble_eq_true rfl⟩ (grv_5 hC hI) rfl hl.1 rfl (Nat.le_of_ble_eq_true rfl) dX0_reachGates_56 ⟨Nat.le_of_ble_eq_true rfl, Nat.le_of_ble_eq_true rfl⟩) (fun s15 H locs h hI => ?_)
          refine lv_aload_n hx hb dX0_reachGates_59 rfl (lv_at hl 0 rfl) ?_
          refine gg_X0_unsent hC hI gw_1_107 dX0_reachGates_60 ?_
          refine lv_iload_n hx hb dX0_reachGates_63 rfl (lv_at hl 2 rfl) ?_
          obtain ⟨hi17, h⟩ := h
          refine ga_33 hC hI hi17 dX0_reachGates_64 ?_
          refine lv_if_le (tgt := 70) hx hb dX0_reachGates_65 (by decide) (fun c18 => ?_) (fun c18 => ?_)
          · have h := h.1 c18
            obtain ⟨y19, ey19⟩ : ∃ y : Int32, y = x2 + 1 := ⟨_, rfl⟩
            have h := h y19 ey19
            refine lv_iinc (v := y19) (lv' := [(2, .int y19), (0, .ref (ad 5)), (1, .int x1)]) hx hb dX0_reachGates_70 hl (k := 2) rfl (by rw [ey19]; rfl) (by decide) rfl (fun ls hl => ?_)
            refine lv_goto (tgt := 4) hx hb dX0_reachGates_73 (by decide) ?_
            exact ih4 _ _ _ _ _ _ h hI (lv_sub hl [1, 2, 0] rfl)
          · have h := h.2 c18
            refine lv_iload_n hx hb dX0_reachGates_68 rfl (lv_at hl 2 rfl) ?_
            refine lv_istore_n (lv' := [(1, .int x2), (0, .ref (ad 5)), (2, .int x2)]) hx hb dX0_reachGates_69 rfl hl (by decide) rfl (fun ls hl => ?_)
            obtain ⟨y20, ey20⟩ : ∃ y : Int32, y = x2 + 1 := ⟨_, rfl⟩
            have h := h y20 ey20
            refine lv_iinc (v := y20) (lv' := [(2, .int y20), (1, .int x2), (0, .ref (ad 5))]) hx hb dX0_reachGates_70 hl (k := 2) rfl (by rw [ey20]; rfl) (by decide) rfl (fun ls hl => ?_)
            refine lv_goto (tgt := 4) hx hb dX0_reachGates_73 (by decide) ?_
            exact ih4 _ _ _ _ _ _ h hI (lv_sub hl [2, 1, 0] rfl)
  have hl := lv_entry ([.ref (ad 5)]) (n := 3) (Nat.le_of_ble_eq_true rfl)
  rw [lg_entry_eq]
  generalize (lg_sl ([.ref (ad 5)]) ++ List.replicate (3 - (lg_sl ([.ref (ad 5)])).length) Slot.unset).toArray = ls at hl ⊢
  have hl : lv_has ls 3 [(0, .ref (ad 5))] := hl
  unfold w_X0_reachGates at h
  refine lv_iconst (v := (-1)) hx hb dX0_reachGates_0 (by decide) ?_
  refine lv_istore_n (lv' := [(1, .int (-1)), (0, .ref (ad 5))]) hx hb dX0_reachGates_1 rfl hl (by decide) rfl (fun ls hl => ?_)
  refine lv_iconst (v := 0) hx hb dX0_reachGates_2 (by decide) ?_
  refine lv_istore_n (lv' := [(2, .int 0), (1, .int (-1)), (0, .ref (ad 5))]) hx hb dX0_reachGates_3 rfl hl (by decide) rfl (fun ls hl => ?_)
  obtain ⟨n9, h⟩ := h
  exact J4 n9 _ _ _ _ _ _ h hI (lv_sub hl [2, 1, 0] rfl)

theorem dX0_latestNew_0 : decode cX0_latestNew 0 = .ok (.iconst (-1), 1) := by decide +kernel
theorem dX0_latestNew_1 : decode cX0_latestNew 1 = .ok (.istore_n 1, 1) := by decide +kernel
theorem dX0_latestNew_2 : decode cX0_latestNew 2 = .ok (.iconst (-1), 1) := by decide +kernel
theorem dX0_latestNew_3 : decode cX0_latestNew 3 = .ok (.istore_n 2, 1) := by decide +kernel
theorem dX0_latestNew_4 : decode cX0_latestNew 4 = .ok (.iconst 0, 1) := by decide +kernel
theorem dX0_latestNew_5 : decode cX0_latestNew 5 = .ok (.istore_n 3, 1) := by decide +kernel
theorem dX0_latestNew_6 : decode cX0_latestNew 6 = .ok (.iload_n 3, 1) := by decide +kernel
theorem dX0_latestNew_7 : decode cX0_latestNew 7 = .ok (.aload_n 0, 1) := by decide +kernel
theorem dX0_latestNew_8 : decode cX0_latestNew 8 = .ok (.getfield 45, 3) := by decide +kernel
theorem dX0_latestNew_11 : decode cX0_latestNew 11 = .ok (.getfield 75, 3) := by decide +kernel
theorem dX0_latestNew_14 : decode cX0_latestNew 14 = .ok (.if_icmp .ge 37, 3) := by decide +kernel
theorem dX0_latestNew_17 : decode cX0_latestNew 17 = .ok (.aload_n 0, 1) := by decide +kernel
theorem dX0_latestNew_18 : decode cX0_latestNew 18 = .ok (.getfield 32, 3) := by decide +kernel
theorem dX0_latestNew_21 : decode cX0_latestNew 21 = .ok (.iload_n 3, 1) := by decide +kernel
theorem dX0_latestNew_22 : decode cX0_latestNew 22 = .ok (.baload, 1) := by decide +kernel
theorem dX0_latestNew_23 : decode cX0_latestNew 23 = .ok (.ifCond .eq 22, 3) := by decide +kernel
theorem dX0_latestNew_26 : decode cX0_latestNew 26 = .ok (.aload_n 0, 1) := by decide +kernel
theorem dX0_latestNew_27 : decode cX0_latestNew 27 = .ok (.getfield 29, 3) := by decide +kernel
theorem dX0_latestNew_30 : decode cX0_latestNew 30 = .ok (.iload_n 3, 1) := by decide +kernel
theorem dX0_latestNew_31 : decode cX0_latestNew 31 = .ok (.iaload, 1) := by decide +kernel
theorem dX0_latestNew_32 : decode cX0_latestNew 32 = .ok (.iload_n 2, 1) := by decide +kernel
theorem dX0_latestNew_33 : decode cX0_latestNew 33 = .ok (.if_icmp .le 12, 3) := by decide +kernel
theorem dX0_latestNew_36 : decode cX0_latestNew 36 = .ok (.iload_n 3, 1) := by decide +kernel
theorem dX0_latestNew_37 : decode cX0_latestNew 37 = .ok (.istore_n 1, 1) := by decide +kernel
theorem dX0_latestNew_38 : decode cX0_latestNew 38 = .ok (.aload_n 0, 1) := by decide +kernel
theorem dX0_latestNew_39 : decode cX0_latestNew 39 = .ok (.getfield 29, 3) := by decide +kernel
theorem dX0_latestNew_42 : decode cX0_latestNew 42 = .ok (.iload_n 3, 1) := by decide +kernel
theorem dX0_latestNew_43 : decode cX0_latestNew 43 = .ok (.iaload, 1) := by decide +kernel
theorem dX0_latestNew_44 : decode cX0_latestNew 44 = .ok (.istore_n 2, 1) := by decide +kernel
theorem dX0_latestNew_45 : decode cX0_latestNew 45 = .ok (.iinc 3 1, 3) := by decide +kernel
theorem dX0_latestNew_48 : decode cX0_latestNew 48 = .ok (.goto (-42), 3) := by decide +kernel
theorem dX0_latestNew_51 : decode cX0_latestNew 51 = .ok (.iload_n 1, 1) := by decide +kernel
theorem dX0_latestNew_52 : decode cX0_latestNew 52 = .ok (.ireturn, 1) := by decide +kernel
def w_X0_latestNew_6 (Q : Int32 → gS → Prop) : Nat → Int32 → Int32 → Int32 → gS → Prop
  | 0, _, _, _, _ => False
  | n6 + 1, x1, x2, x3, σ =>
    ¬ σ 35 0 = 0 ∧ ((σ 26 0) ≤ x3 → Q x1 σ) ∧ (¬ (σ 26 0) ≤ x3 → vp_in x3 8 ∧ ((σ 43 x3.toNatClampNeg) = 0 → ∀ y9 : Int32, y9 = x3 + 1 → w_X0_latestNew_6 Q n6 x1 x2 y9 σ) ∧ (¬ (σ 43 x3.toNatClampNeg) = 0 → vp_in x3 8 ∧ ((σ 42 x3.toNatClampNeg) ≤ x2 → ∀ y12 : Int32, y12 = x3 + 1 → w_X0_latestNew_6 Q n6 x1 x2 y12 σ) ∧ (¬ (σ 42 x3.toNatClampNeg) ≤ x2 → vp_in x3 8 ∧ ∀ y14 : Int32, y14 = (σ 42 x3.toNatClampNeg) → ∀ y15 : Int32, y15 = x3 + 1 → w_X0_latestNew_6 Q n6 x3 y14 y15 σ)))
def w_X0_latestNew (Q : Int32 → gS → Prop) (σ : gS) : Prop :=
    ∃ n6, w_X0_latestNew_6 Q n6 (-1) (-1) 0 σ
abbrev ws_X0_latestNew : List Cond := Cond.code yX0_latestNew cX0_latestNew 4 (some .int) :: gG
abbrev rm_X0_latestNew : Room := { frames := 0, cells := 0, slots := 0, locals := 0 }
theorem k_X0_latestNew : gCV yX0_latestNew RX0 cX0_latestNew 4 (some .int) 0 := ⟨gw_2_134, gwp_5, gw_1_7, gw_2_135, rfl, by decide +kernel⟩
set_option maxHeartbeats 4000000 in
set_option maxRecDepth 100000 in
theorem c_X0_latestNew (l : Launch) (D : va_G) (cy : Nat → ClassId) (ad : Nat → Nat) (A : Nat → Prop) (Q : Int32 → gS → Prop) (σ : gS) (h : w_X0_latestNew Q σ) : Met l yX0_latestNew ws_X0_latestNew rm_X0_latestNew (va_Pc [.ref (ad 5)] (gB D cy ad A σ)) (va_Qi Q (gB D cy ad A) A) 0 0 A := by
  refine Met.ofW (cc := cX0_latestNew) (maxL := 4) (ret := (some .int)) (by decide) rfl ?_
  intro p e s m args below meth c s₁ B hml hv
  obtain ⟨rfl, hB⟩ := hv
  have hC : gC p c cX0_latestNew s m ([.ref (ad 5)] : List Value).toArray RX0 D cy ad A := g_start B hB
  have hI := g_first hB
  have hx := hC.1
  have hb := hC.2.1
  have hr := B.returns
  have hlocks := B.notSynchronized
  clear B hB
  have J6 : ∀ (n6 : Nat) (x1 : Int32) (x2 : Int32) (x3 : Int32) (σ : gS) (H : Heap) (locs : List Loc) (ls : Array Slot), w_X0_latestNew_6 Q n6 x1 x2 x3 σ → gI D cy ad A s.heap σ H locs → lv_has ls 4 [(0, .ref (ad 5)), (1, .int x1), (2, .int x2), (3, .int x3)] → W p l e (headSpec ws_X0_latestNew rm_X0_latestNew).room s m ([.ref (ad 5)] : List Value).toArray below meth c H locs 0 0 (MQ below (va_Qi Q (gB D cy ad A) A) ([.ref (ad 5)] : List Value).toArray s 0 0 A) (F0 m 6 ls []) := by
    intro n6
    induction n6 with
    | zero => intro x1 x2 x3 σ H locs ls h; exact absurd h (fun h => h)
    | succ n6 ih6 =>
      intro x1 x2 x3 σ H locs ls h hI hl
      unfold w_X0_latestNew_6 at h
      refine lv_iload_n hx hb dX0_latestNew_6 rfl (lv_at hl 3 rfl) ?_
      refine lv_aload_n hx hb dX0_latestNew_7 rfl (lv_at hl 0 rfl) ?_
      obtain ⟨hz5, h⟩ := h
      refine gg_X0_ground hC hI gw_1_102 dX0_latestNew_8 hz5 ?_
      refine gg_X2_places hC hI gw_1_146 dX0_latestNew_11 ?_
      refine lv_icmp_ge (tgt := 51) hx hb dX0_latestNew_14 (by decide) (fun c6 => ?_) (fun c6 => ?_)
      · have h := h.1 c6
        refine lv_iload_n hx hb dX0_latestNew_51 rfl (lv_at hl 1 rfl) ?_
        exact g_iret hC hr hlocks hI h dX0_latestNew_52
      · have h := h.2 c6
        refine lv_aload_n hx hb dX0_latestNew_17 rfl (lv_at hl 0 rfl) ?_
        refine gg_X0_isNew hC hI gw_1_110 dX0_latestNew_18 ?_
        refine lv_iload_n hx hb dX0_latestNew_21 rfl (lv_at hl 3 rfl) ?_
        obtain ⟨hi7, h⟩ := h
        refine ga_36 hC hI hi7 dX0_latestNew_22 ?_
        refine lv_if_eq (tgt := 45) hx hb dX0_latestNew_23 (by decide) (fun c8 => ?_) (fun c8 => ?_)
        · have h := h.1 c8
          obtain ⟨y9, ey9⟩ : ∃ y : Int32, y = x3 + 1 := ⟨_, rfl⟩
          have h := h y9 ey9
          refine lv_iinc (v := y9) (lv' := [(3, .int y9), (0, .ref (ad 5)), (1, .int x1), (2, .int x2)]) hx hb dX0_latestNew_45 hl (k := 3) rfl (by rw [ey9]; rfl) (by decide) rfl (fun ls hl => ?_)
          refine lv_goto (tgt := 6) hx hb dX0_latestNew_48 (by decide) ?_
          exact ih6 _ _ _ _ _ _ _ h hI (lv_sub hl [1, 2, 3, 0] rfl)
        · have h := h.2 c8
          refine lv_aload_n hx hb dX0_latestNew_26 rfl (lv_at hl 0 rfl) ?_
          refine gg_X0_latest hC hI gw_1_109 dX0_latestNew_27 ?_
          refine lv_iload_n hx hb dX0_latestNew_30 rfl (lv_at hl 3 rfl) ?_
          obtain ⟨hi10, h⟩ := h
          refine ga_35 hC hI hi10 dX0_latestNew_31 ?_
          refine lv_iload_n hx hb dX0_latestNew_32 rfl (lv_at hl 2 rfl) ?_
          refine lv_icmp_le (tgt := 45) hx hb dX0_latestNew_33 (by decide) (fun c11 => ?_) (fun c11 => ?_)
          · have h := h.1 c11
            obtain ⟨y12, ey12⟩ : ∃ y : Int32, y = x3 + 1 := ⟨_, rfl⟩
            have h := h y12 ey12
            refine lv_iinc (v := y12) (lv' := [(3, .int y12), (0, .ref (ad 5)), (1, .int x1), (2, .int x2)]) hx hb dX0_latestNew_45 hl (k := 3) rfl (by rw [ey12]; rfl) (by decide) rfl (fun ls hl => ?_)
            refine lv_goto (tgt := 6) hx hb dX0_latestNew_48 (by decide) ?_
            exact ih6 _ _ _ _ _ _ _ h hI (lv_sub hl [1, 2, 3, 0] rfl)
          · have h := h.2 c11
            refine lv_iload_n hx hb dX0_latestNew_36 rfl (lv_at hl 3 rfl) ?_
            refine lv_istore_n (lv' := [(1, .int x3), (0, .ref (ad 5)), (2, .int x2), (3, .int x3)]) hx hb dX0_latestNew_37 rfl hl (by decide) rfl (fun ls hl => ?_)
            refine lv_aload_n hx hb dX0_latestNew_38 rfl (lv_at hl 1 rfl) ?_
            refine gg_X0_latest hC hI gw_1_109 dX0_latestNew_39 ?_
            refine lv_iload_n hx hb dX0_latestNew_42 rfl (lv_at hl 3 rfl) ?_
            obtain ⟨hi13, h⟩ := h
            refine ga_35 hC hI hi13 dX0_latestNew_43 ?_
            refine lv_topi (fun y14 ey14 => ?_)
            have h := h y14 ey14
            refine lv_istore_n (lv' := [(2, .int y14), (1, .int x3), (0, .ref (ad 5)), (3, .int x3)]) hx hb dX0_latestNew_44 rfl hl (by decide) rfl (fun ls hl => ?_)
            obtain ⟨y15, ey15⟩ : ∃ y : Int32, y = x3 + 1 := ⟨_, rfl⟩
            have h := h y15 ey15
            refine lv_iinc (v := y15) (lv' := [(3, .int y15), (2, .int y14), (1, .int x3), (0, .ref (ad 5))]) hx hb dX0_latestNew_45 hl (k := 3) rfl (by rw [ey15]; rfl) (by decide) rfl (fun ls hl => ?_)
            refine lv_goto (tgt := 6) hx hb dX0_latestNew_48 (by decide) ?_
            exact ih6 _ _ _ _ _ _ _ h hI (lv_sub hl [3, 2, 1, 0] rfl)
  have hl := lv_entry ([.ref (ad 5)]) (n := 4) (Nat.le_of_ble_eq_true rfl)
  rw [lg_entry_eq]
  generalize (lg_sl ([.ref (ad 5)]) ++ List.replicate (4 - (lg_sl ([.ref (ad 5)])).length) Slot.unset).toArray = ls at hl ⊢
  have hl : lv_has ls 4 [(0, .ref (ad 5))] := hl
  unfold w_X0_latestNew at h
  refine lv_iconst (v := (-1)) hx hb dX0_latestNew_0 (by decide) ?_
  refine lv_istore_n (lv' := [(1, .int (-1)), (0, .ref (ad 5))]) hx hb dX0_latestNew_1 rfl hl (by decide) rfl (fun ls hl => ?_)
  refine lv_iconst (v := (-1)) hx hb dX0_latestNew_2 (by decide) ?_
  refine lv_istore_n (lv' := [(2, .int (-1)), (1, .int (-1)), (0, .ref (ad 5))]) hx hb dX0_latestNew_3 rfl hl (by decide) rfl (fun ls hl => ?_)
  refine lv_iconst (v := 0) hx hb dX0_latestNew_4 (by decide) ?_
  refine lv_istore_n (lv' := [(3, .int 0), (2, .int (-1)), (1, .int (-1)), (0, .ref (ad 5))]) hx hb dX0_latestNew_5 rfl hl (by decide) rfl (fun ls hl => ?_)
  obtain ⟨n9, h⟩ := h
  exact J6 n9 _ _ _ _ _ _ _ h hI (lv_sub hl [3, 2, 1, 0] rfl)

theorem dX0_reachByWaitingLess_0 : decode cX0_reachByWaitingLess 0 = .ok (.aload_n 0, 1) := by decide +kernel
theorem dX0_reachByWaitingLess_1 : decode cX0_reachByWaitingLess 1 = .ok (.getfield 29, 3) := by decide +kernel
theorem dX0_reachByWaitingLess_4 : decode cX0_reachByWaitingLess 4 = .ok (.iload_n 1, 1) := by decide +kernel
theorem dX0_reachByWaitingLess_5 : decode cX0_reachByWaitingLess 5 = .ok (.iaload, 1) := by decide +kernel
theorem dX0_reachByWaitingLess_6 : decode cX0_reachByWaitingLess 6 = .ok (.istore_n 2, 1) := by decide +kernel
theorem dX0_reachByWaitingLess_7 : decode cX0_reachByWaitingLess 7 = .ok (.iload_n 2, 1) := by decide +kernel
theorem dX0_reachByWaitingLess_8 : decode cX0_reachByWaitingLess 8 = .ok (.aload_n 0, 1) := by decide +kernel
theorem dX0_reachByWaitingLess_9 : decode cX0_reachByWaitingLess 9 = .ok (.getfield 53, 3) := by decide +kernel
theorem dX0_reachByWaitingLess_12 : decode cX0_reachByWaitingLess 12 = .ok (.if_icmp .ge 56, 3) := by decide +kernel
theorem dX0_reachByWaitingLess_15 : decode cX0_reachByWaitingLess 15 = .ok (.bipush 40, 2) := by decide +kernel
theorem dX0_reachByWaitingLess_17 : decode cX0_reachByWaitingLess 17 = .ok (.iload_n 1, 1) := by decide +kernel
theorem dX0_reachByWaitingLess_18 : decode cX0_reachByWaitingLess 18 = .ok (.imul, 1) := by decide +kernel
theorem dX0_reachByWaitingLess_19 : decode cX0_reachByWaitingLess 19 = .ok (.iload_n 2, 1) := by decide +kernel
theorem dX0_reachByWaitingLess_20 : decode cX0_reachByWaitingLess 20 = .ok (.iadd, 1) := by decide +kernel
theorem dX0_reachByWaitingLess_21 : decode cX0_reachByWaitingLess 21 = .ok (.istore_n 3, 1) := by decide +kernel
theorem dX0_reachByWaitingLess_22 : decode cX0_reachByWaitingLess 22 = .ok (.aload_n 0, 1) := by decide +kernel
theorem dX0_reachByWaitingLess_23 : decode cX0_reachByWaitingLess 23 = .ok (.getfield 17, 3) := by decide +kernel
theorem dX0_reachByWaitingLess_26 : decode cX0_reachByWaitingLess 26 = .ok (.iload_n 3, 1) := by decide +kernel
theorem dX0_reachByWaitingLess_27 : decode cX0_reachByWaitingLess 27 = .ok (.iaload, 1) := by decide +kernel
theorem dX0_reachByWaitingLess_28 : decode cX0_reachByWaitingLess 28 = .ok (.ifCond .gt 4, 3) := by decide +kernel
theorem dX0_reachByWaitingLess_31 : decode cX0_reachByWaitingLess 31 = .ok (.return_, 1) := by decide +kernel
theorem dX0_reachByWaitingLess_32 : decode cX0_reachByWaitingLess 32 = .ok (.aload_n 0, 1) := by decide +kernel
theorem dX0_reachByWaitingLess_33 : decode cX0_reachByWaitingLess 33 = .ok (.getfield 17, 3) := by decide +kernel
theorem dX0_reachByWaitingLess_36 : decode cX0_reachByWaitingLess 36 = .ok (.iload_n 3, 1) := by decide +kernel
theorem dX0_reachByWaitingLess_37 : decode cX0_reachByWaitingLess 37 = .ok (.iaload, 1) := by decide +kernel
theorem dX0_reachByWaitingLess_38 : decode cX0_reachByWaitingLess 38 = .ok (.aload_n 0, 1) := by decide +kernel
theorem dX0_reachByWaitingLess_39 : decode cX0_reachByWaitingLess 39 = .ok (.getfield 42, 3) := by decide +kernel
theorem dX0_reachByWaitingLess_42 : decode cX0_reachByWaitingLess 42 = .ok (.iload_n 3, 1) := by decide +kernel
theorem dX0_reachByWaitingLess_43 : decode cX0_reachByWaitingLess 43 = .ok (.iaload, 1) := by decide +kernel
theorem dX0_reachByWaitingLess_44 : decode cX0_reachByWaitingLess 44 = .ok (.invokestatic 117, 3) := by decide +kernel
theorem dX0_reachByWaitingLess_47 : decode cX0_reachByWaitingLess 47 = .ok (.istore 4, 2) := by decide +kernel
theorem dX0_reachByWaitingLess_49 : decode cX0_reachByWaitingLess 49 = .ok (.aload_n 0, 1) := by decide +kernel
theorem dX0_reachByWaitingLess_50 : decode cX0_reachByWaitingLess 50 = .ok (.iload_n 1, 1) := by decide +kernel
theorem dX0_reachByWaitingLess_51 : decode cX0_reachByWaitingLess 51 = .ok (.iload_n 2, 1) := by decide +kernel
theorem dX0_reachByWaitingLess_52 : decode cX0_reachByWaitingLess 52 = .ok (.iconst 1, 1) := by decide +kernel
theorem dX0_reachByWaitingLess_53 : decode cX0_reachByWaitingLess 53 = .ok (.iadd, 1) := by decide +kernel
theorem dX0_reachByWaitingLess_54 : decode cX0_reachByWaitingLess 54 = .ok (.bipush 56, 2) := by decide +kernel
theorem dX0_reachByWaitingLess_56 : decode cX0_reachByWaitingLess 56 = .ok (.iload_n 2, 1) := by decide +kernel
theorem dX0_reachByWaitingLess_57 : decode cX0_reachByWaitingLess 57 = .ok (.iload 4, 2) := by decide +kernel
theorem dX0_reachByWaitingLess_59 : decode cX0_reachByWaitingLess 59 = .ok (.invokevirtual 113, 3) := by decide +kernel
theorem dX0_reachByWaitingLess_62 : decode cX0_reachByWaitingLess 62 = .ok (.iinc 2 1, 3) := by decide +kernel
theorem dX0_reachByWaitingLess_65 : decode cX0_reachByWaitingLess 65 = .ok (.goto (-58), 3) := by decide +kernel
theorem dX0_reachByWaitingLess_68 : decode cX0_reachByWaitingLess 68 = .ok (.return_, 1) := by decide +kernel
def w_X0_reachByWaitingLess_7 (Q : gS → Prop) : Nat → Int32 → Int32 → gS → Prop
  | 0, _, _, _ => False
  | n7 + 1, x1, x2, σ =>
    ((σ 36 0) ≤ x2 → Q σ) ∧ (¬ (σ 36 0) ≤ x2 → ∀ y6 : Int32, y6 = ((40 * x1) + x2) → vp_in y6 320 ∧ (0 < (σ 38 y6.toNatClampNeg) → vp_in y6 320 ∧ vp_in y6 320 ∧ ∀ y11 : Int32, y11 = (if (σ 46 y6.toNatClampNeg) < (σ 38 y6.toNatClampNeg) then (σ 46 y6.toNatClampNeg) else (σ 38 y6.toNatClampNeg)) → w_X0_reach  (fun (s12 : gS) => ∀ y14 : Int32, y14 = x2 + 1 → w_X0_reachByWaitingLess_7 Q n7 x1 y14 s12) σ x1 (x2 + 1) 56 x2 y11) ∧ (¬ 0 < (σ 38 y6.toNatClampNeg) → Q σ))
def w_X0_reachByWaitingLess (Q : gS → Prop) (σ : gS) (a1 : Int32) : Prop :=
    vp_in a1 8 ∧ ∀ y16 : Int32, y16 = (σ 42 a1.toNatClampNeg) → ∃ n7, w_X0_reachByWaitingLess_7 Q n7 a1 y16 σ
abbrev ws_X0_reachByWaitingLess : List Cond := Cond.code yX0_reachByWaitingLess cX0_reachByWaitingLess 5 none :: gG
abbrev rm_X0_reachByWaitingLess : Room := { frames := 1, cells := 0, slots := 0, locals := 26 }
theorem k_X0_reachByWaitingLess : gCV yX0_reachByWaitingLess RX0 cX0_reachByWaitingLess 5 none 1 := ⟨gw_2_138, gwp_6, gw_1_7, gw_2_139, rfl, by decide +kernel⟩
set_option maxHeartbeats 4000000 in
set_option maxRecDepth 100000 in
theorem c_X0_reachByWaitingLess (l : Launch) (D : va_G) (cy : Nat → ClassId) (ad : Nat → Nat) (A : Nat → Prop) (Q : gS → Prop) (σ : gS) (a1 : Int32) (h : w_X0_reachByWaitingLess Q σ a1) : Met l yX0_reachByWaitingLess ws_X0_reachByWaitingLess rm_X0_reachByWaitingLess (va_Pc [.ref (ad 5), .int a1] (gB D cy ad A σ)) (va_Qv Q (gB D cy ad A) A) 0 0 A := by
  refine Met.ofW (cc := cX0_reachByWaitingLess) (maxL := 5) (ret := none) (by decide) rfl ?_
  intro p e s m args below meth c s₁ B hml hv
  obtain ⟨rfl, hB⟩ := hv
  have hC : gC p c cX0_reachByWaitingLess s m ([.ref (ad 5), .int a1] : List Value).toArray RX0 D cy ad A := g_start B hB
  have hI := g_first hB
  have hx := hC.1
  have hb := hC.2.1
  have hr := B.returns
  have hlocks := B.notSynchronized
  clear B hB
  have J7 : ∀ (n7 : Nat) (x1 : Int32) (x2 : Int32) (σ : gS) (H : Heap) (locs : List Loc) (ls : Array Slot), w_X0_reachByWaitingLess_7 Q n7 x1 x2 σ → gI D cy ad A s.heap σ H locs → lv_has ls 5 [(0, .ref (ad 5)), (1, .int x1), (2, .int x2)] → W p l e (headSpec ws_X0_reachByWaitingLess rm_X0_reachByWaitingLess).room s m ([.ref (ad 5), .int a1] : List Value).toArray below meth c H locs 0 0 (MQ below (va_Qv Q (gB D cy ad A) A) ([.ref (ad 5), .int a1] : List Value).toArray s 0 0 A) (F0 m 7 ls []) := by
    intro n7
    induction n7 with
    | zero => intro x1 x2 σ H locs ls h; exact absurd h (fun h => h)
    | succ n7 ih7 =>
      intro x1 x2 σ H locs ls h hI hl
      unfold w_X0_reachByWaitingLess_7 at h
      refine lv_iload_n hx hb dX0_reachByWaitingLess_7 rfl (lv_at hl 2 rfl) ?_
      refine lv_aload_n hx hb dX0_reachByWaitingLess_8 rfl (lv_at hl 0 rfl) ?_
      refine gg_X0_lastMinute hC hI gw_1_103 dX0_reachByWaitingLess_9 ?_
      refine lv_icmp_ge (tgt := 68) hx hb dX0_reachByWaitingLess_12 (by decide) (fun c5 => ?_) (fun c5 => ?_)
      · have h := h.1 c5
        exact g_vret hC hr hlocks hI h dX0_reachByWaitingLess_68
      · have h := h.2 c5
        refine lv_bipush (v := 40) hx hb dX0_reachByWaitingLess_15 (by decide) ?_
        refine lv_iload_n hx hb dX0_reachByWaitingLess_17 rfl (lv_at hl 1 rfl) ?_
        refine lv_imul hx hb dX0_reachByWaitingLess_18 ?_
        refine lv_iload_n hx hb dX0_reachByWaitingLess_19 rfl (lv_at hl 2 rfl) ?_
        refine lv_iadd hx hb dX0_reachByWaitingLess_20 ?_
        refine lv_topi (fun y6 ey6 => ?_)
        have h := h y6 ey6
        refine lv_istore_n (lv' := [(3, .int y6), (0, .ref (ad 5)), (1, .int x1), (2, .int x2)]) hx hb dX0_reachByWaitingLess_21 rfl hl (by decide) rfl (fun ls hl => ?_)
        refine lv_aload_n hx hb dX0_reachByWaitingLess_22 rfl (lv_at hl 1 rfl) ?_
        refine gg_X0_waits hC hI gw_1_105 dX0_reachByWaitingLess_23 ?_
        refine lv_iload_n hx hb dX0_reachByWaitingLess_26 rfl (lv_at hl 0 rfl) ?_
        obtain ⟨hi7, h⟩ := h
        refine ga_31 hC hI hi7 dX0_reachByWaitingLess_27 ?_
        refine lv_if_gt (tgt := 32) hx hb dX0_reachByWaitingLess_28 (by decide) (fun c8 => ?_) (fun c8 => ?_)
        · have h := h.1 c8
          refine lv_aload_n hx hb dX0_reachByWaitingLess_32 rfl (lv_at hl 1 rfl) ?_
          refine gg_X0_waits hC hI gw_1_105 dX0_reachByWaitingLess_33 ?_
          refine lv_iload_n hx hb dX0_reachByWaitingLess_36 rfl (lv_at hl 0 rfl) ?_
          obtain ⟨hi9, h⟩ := h
          refine ga_31 hC hI hi9 dX0_reachByWaitingLess_37 ?_
          refine lv_aload_n hx hb dX0_reachByWaitingLess_38 rfl (lv_at hl 1 rfl) ?_
          refine gg_X0_rooms hC hI gw_1_113 dX0_reachByWaitingLess_39 ?_
          refine lv_iload_n hx hb dX0_reachByWaitingLess_42 rfl (lv_at hl 0 rfl) ?_
          obtain ⟨hi10, h⟩ := h
          refine ga_39 hC hI hi10 dX0_reachByWaitingLess_43 ?_
          refine va_mmin hx hb (by rw [hml]; exact hl.1.symm) hC.2.2.2.1 (hC.2.2.1 _ gw_2_140) (hC.2.2.1 _ gw_2_141) (hC.2.2.1 _ gw_1_18) (hC.2.2.1 _ gw_2_142) (Nat.le_of_ble_eq_true rfl) (Nat.le_of_ble_eq_true rfl) (Nat.le_of_ble_eq_true rfl) (Nat.le_of_ble_eq_true rfl) dX0_reachByWaitingLess_44 ?_
          refine lv_topi (fun y11 ey11 => ?_)
          have h := h y11 ey11
          refine lv_istore (lv' := [(4, .int y11), (3, .int y6), (0, .ref (ad 5)), (1, .int x1), (2, .int x2)]) hx hb dX0_reachByWaitingLess_47 hl (by decide) rfl (fun ls hl => ?_)
          refine lv_aload_n hx hb dX0_reachByWaitingLess_49 rfl (lv_at hl 2 rfl) ?_
          refine lv_iload_n hx hb dX0_reachByWaitingLess_50 rfl (lv_at hl 3 rfl) ?_
          refine lv_iload_n hx hb dX0_reachByWaitingLess_51 rfl (lv_at hl 4 rfl) ?_
          refine lv_iconst (v := 1) hx hb dX0_reachByWaitingLess_52 (by decide) ?_
          refine lv_iadd hx hb dX0_reachByWaitingLess_53 ?_
          refine lv_bipush (v := 56) hx hb dX0_reachByWaitingLess_54 (by decide) ?_
          refine lv_iload_n hx hb dX0_reachByWaitingLess_56 rfl (lv_at hl 4 rfl) ?_
          refine lv_iload hx hb dX0_reachByWaitingLess_57 (lv_at hl 0 rfl) ?_
          refine g_backv hI (g_runV (As := [.int x1, .int (x2 + 1), .int 56, .int x2, .int y11]) (rest := []) hC hml hI (c_X0_reach l D cy ad A _  _ _ _ _ _ _ h) k_X0_reach gw_2_128 ⟨rfl, rfl⟩ ⟨Nat.le_of_ble_eq_true rfl, Nat.le_of_ble_eq_true rfl⟩ (grv_5 hC hI) rfl hl.1 rfl (Nat.le_of_ble_eq_true rfl) dX0_reachByWaitingLess_59 ⟨Nat.le_of_ble_eq_true rfl, Nat.le_of_ble_eq_true rfl⟩) (fun s12 H locs h hI => ?_)
          obtain ⟨y14, ey14⟩ : ∃ y : Int32, y = x2 + 1 := ⟨_, rfl⟩
          have h := h y14 ey14
          refine lv_iinc (v := y14) (lv' := [(2, .int y14), (4, .int y11), (3, .int y6), (0, .ref (ad 5)), (1, .int x1)]) hx hb dX0_reachByWaitingLess_62 hl (k := 4) rfl (by rw [ey14]; rfl) (by decide) rfl (fun ls hl => ?_)
          refine lv_goto (tgt := 7) hx hb dX0_reachByWaitingLess_65 (by decide) ?_
          exact ih7 _ _ _ _ _ _ h hI (lv_sub hl [3, 4, 0] rfl)
        · have h := h.2 c8
          exact g_vret hC hr hlocks hI h dX0_reachByWaitingLess_31
  have hl := lv_entry ([.ref (ad 5), .int a1]) (n := 5) (Nat.le_of_ble_eq_true rfl)
  rw [lg_entry_eq]
  generalize (lg_sl ([.ref (ad 5), .int a1]) ++ List.replicate (5 - (lg_sl ([.ref (ad 5), .int a1])).length) Slot.unset).toArray = ls at hl ⊢
  have hl : lv_has ls 5 [(0, .ref (ad 5)), (1, .int a1)] := hl
  unfold w_X0_reachByWaitingLess at h
  refine lv_aload_n hx hb dX0_reachByWaitingLess_0 rfl (lv_at hl 0 rfl) ?_
  refine gg_X0_latest hC hI gw_1_109 dX0_reachByWaitingLess_1 ?_
  refine lv_iload_n hx hb dX0_reachByWaitingLess_4 rfl (lv_at hl 1 rfl) ?_
  obtain ⟨hi15, h⟩ := h
  refine ga_35 hC hI hi15 dX0_reachByWaitingLess_5 ?_
  refine lv_topi (fun y16 ey16 => ?_)
  have h := h y16 ey16
  refine lv_istore_n (lv' := [(2, .int y16), (0, .ref (ad 5)), (1, .int a1)]) hx hb dX0_reachByWaitingLess_6 rfl hl (by decide) rfl (fun ls hl => ?_)
  obtain ⟨n9, h⟩ := h
  exact J7 n9 _ _ _ _ _ _ h hI (lv_sub hl [1, 2, 0] rfl)

theorem dX0_goesOnAt_0 : decode cX0_goesOnAt 0 = .ok (.aload_n 0, 1) := by decide +kernel
theorem dX0_goesOnAt_1 : decode cX0_goesOnAt 1 = .ok (.getfield 29, 3) := by decide +kernel
theorem dX0_goesOnAt_4 : decode cX0_goesOnAt 4 = .ok (.iload_n 1, 1) := by decide +kernel
theorem dX0_goesOnAt_5 : decode cX0_goesOnAt 5 = .ok (.iaload, 1) := by decide +kernel
theorem dX0_goesOnAt_6 : decode cX0_goesOnAt 6 = .ok (.istore_n 3, 1) := by decide +kernel
theorem dX0_goesOnAt_7 : decode cX0_goesOnAt 7 = .ok (.iload_n 3, 1) := by decide +kernel
theorem dX0_goesOnAt_8 : decode cX0_goesOnAt 8 = .ok (.iload_n 2, 1) := by decide +kernel
theorem dX0_goesOnAt_9 : decode cX0_goesOnAt 9 = .ok (.if_icmp .le 25, 3) := by decide +kernel
theorem dX0_goesOnAt_12 : decode cX0_goesOnAt 12 = .ok (.aload_n 0, 1) := by decide +kernel
theorem dX0_goesOnAt_13 : decode cX0_goesOnAt 13 = .ok (.getfield 36, 3) := by decide +kernel
theorem dX0_goesOnAt_16 : decode cX0_goesOnAt 16 = .ok (.bipush 40, 2) := by decide +kernel
theorem dX0_goesOnAt_18 : decode cX0_goesOnAt 18 = .ok (.iload_n 1, 1) := by decide +kernel
theorem dX0_goesOnAt_19 : decode cX0_goesOnAt 19 = .ok (.imul, 1) := by decide +kernel
theorem dX0_goesOnAt_20 : decode cX0_goesOnAt 20 = .ok (.iload_n 3, 1) := by decide +kernel
theorem dX0_goesOnAt_21 : decode cX0_goesOnAt 21 = .ok (.iadd, 1) := by decide +kernel
theorem dX0_goesOnAt_22 : decode cX0_goesOnAt 22 = .ok (.iaload, 1) := by decide +kernel
theorem dX0_goesOnAt_23 : decode cX0_goesOnAt 23 = .ok (.bipush 56, 2) := by decide +kernel
theorem dX0_goesOnAt_25 : decode cX0_goesOnAt 25 = .ok (.if_icmp .ne 9, 3) := by decide +kernel
theorem dX0_goesOnAt_28 : decode cX0_goesOnAt 28 = .ok (.iinc 3 (-1), 3) := by decide +kernel
theorem dX0_goesOnAt_31 : decode cX0_goesOnAt 31 = .ok (.goto (-24), 3) := by decide +kernel
theorem dX0_goesOnAt_34 : decode cX0_goesOnAt 34 = .ok (.iload_n 3, 1) := by decide +kernel
theorem dX0_goesOnAt_35 : decode cX0_goesOnAt 35 = .ok (.ireturn, 1) := by decide +kernel
def w_X0_goesOnAt_7 (Q : Int32 → gS → Prop) : Nat → Int32 → Int32 → Int32 → gS → Prop
  | 0, _, _, _, _ => False
  | n7 + 1, x1, x2, x3, σ =>
    (x3 ≤ x2 → Q x3 σ) ∧ (¬ x3 ≤ x2 → vp_in ((40 * x1) + x3) 320 ∧ (¬ (σ 44 ((40 * x1) + x3).toNatClampNeg) = 56 → Q x3 σ) ∧ ((σ 44 ((40 * x1) + x3).toNatClampNeg) = 56 → ∀ y6 : Int32, y6 = x3 + (-1) → w_X0_goesOnAt_7 Q n7 x1 x2 y6 σ))
def w_X0_goesOnAt (Q : Int32 → gS → Prop) (σ : gS) (a1 : Int32) (a2 : Int32) : Prop :=
    vp_in a1 8 ∧ ∀ y8 : Int32, y8 = (σ 42 a1.toNatClampNeg) → ∃ n7, w_X0_goesOnAt_7 Q n7 a1 a2 y8 σ
abbrev ws_X0_goesOnAt : List Cond := Cond.code yX0_goesOnAt cX0_goesOnAt 4 (some .int) :: gG
abbrev rm_X0_goesOnAt : Room := { frames := 0, cells := 0, slots := 0, locals := 0 }
theorem k_X0_goesOnAt : gCV yX0_goesOnAt RX0 cX0_goesOnAt 4 (some .int) 2 := ⟨gw_2_149, gwp_8, gw_1_7, gw_2_150, rfl, by decide +kernel⟩
set_option maxHeartbeats 4000000 in
set_option maxRecDepth 100000 in
theorem c_X0_goesOnAt (l : Launch) (D : va_G) (cy : Nat → ClassId) (ad : Nat → Nat) (A : Nat → Prop) (Q : Int32 → gS → Prop) (σ : gS) (a1 : Int32) (a2 : Int32) (h : w_X0_goesOnAt Q σ a1 a2) : Met l yX0_goesOnAt ws_X0_goesOnAt rm_X0_goesOnAt (va_Pc [.ref (ad 5), .int a1, .int a2] (gB D cy ad A σ)) (va_Qi Q (gB D cy ad A) A) 0 0 A := by
  refine Met.ofW (cc := cX0_goesOnAt) (maxL := 4) (ret := (some .int)) (by decide) rfl ?_
  intro p e s m args below meth c s₁ B hml hv
  obtain ⟨rfl, hB⟩ := hv
  have hC : gC p c cX0_goesOnAt s m ([.ref (ad 5), .int a1, .int a2] : List Value).toArray RX0 D cy ad A := g_start B hB
  have hI := g_first hB
  have hx := hC.1
  have hb := hC.2.1
  have hr := B.returns
  have hlocks := B.notSynchronized
  clear B hB
  have J7 : ∀ (n7 : Nat) (x1 : Int32) (x2 : Int32) (x3 : Int32) (σ : gS) (H : Heap) (locs : List Loc) (ls : Array Slot), w_X0_goesOnAt_7 Q n7 x1 x2 x3 σ → gI D cy ad A s.heap σ H locs → lv_has ls 4 [(0, .ref (ad 5)), (1, .int x1), (2, .int x2), (3, .int x3)] → W p l e (headSpec ws_X0_goesOnAt rm_X0_goesOnAt).room s m ([.ref (ad 5), .int a1, .int a2] : List Value).toArray below meth c H locs 0 0 (MQ below (va_Qi Q (gB D cy ad A) A) ([.ref (ad 5), .int a1, .int a2] : List Value).toArray s 0 0 A) (F0 m 7 ls []) := by
    intro n7
    induction n7 with
    | zero => intro x1 x2 x3 σ H locs ls h; exact absurd h (fun h => h)
    | succ n7 ih7 =>
      intro x1 x2 x3 σ H locs ls h hI hl
      unfold w_X0_goesOnAt_7 at h
      refine lv_iload_n hx hb dX0_goesOnAt_7 rfl (lv_at hl 3 rfl) ?_
      refine lv_iload_n hx hb dX0_goesOnAt_8 rfl (lv_at hl 2 rfl) ?_
      refine lv_icmp_le (tgt := 34) hx hb dX0_goesOnAt_9 (by decide) (fun c3 => ?_) (fun c3 => ?_)
      · have h := h.1 c3
        refine lv_iload_n hx hb dX0_goesOnAt_34 rfl (lv_at hl 3 rfl) ?_
        exact g_iret hC hr hlocks hI h dX0_goesOnAt_35
      · have h := h.2 c3
        refine lv_aload_n hx hb dX0_goesOnAt_12 rfl (lv_at hl 0 rfl) ?_
        refine gg_X0_steps hC hI gw_1_111 dX0_goesOnAt_13 ?_
        refine lv_bipush (v := 40) hx hb dX0_goesOnAt_16 (by decide) ?_
        refine lv_iload_n hx hb dX0_goesOnAt_18 rfl (lv_at hl 1 rfl) ?_
        refine lv_imul hx hb dX0_goesOnAt_19 ?_
        refine lv_iload_n hx hb dX0_goesOnAt_20 rfl (lv_at hl 3 rfl) ?_
        refine lv_iadd hx hb dX0_goesOnAt_21 ?_
        obtain ⟨hi4, h⟩ := h
        refine ga_37 hC hI hi4 dX0_goesOnAt_22 ?_
        refine lv_bipush (v := 56) hx hb dX0_goesOnAt_23 (by decide) ?_
        refine lv_icmp_ne (tgt := 34) hx hb dX0_goesOnAt_25 (by decide) (fun c5 => ?_) (fun c5 => ?_)
        · have h := h.1 c5
          refine lv_iload_n hx hb dX0_goesOnAt_34 rfl (lv_at hl 3 rfl) ?_
          exact g_iret hC hr hlocks hI h dX0_goesOnAt_35
        · have h := h.2 c5
          obtain ⟨y6, ey6⟩ : ∃ y : Int32, y = x3 + (-1) := ⟨_, rfl⟩
          have h := h y6 ey6
          refine lv_iinc (v := y6) (lv' := [(3, .int y6), (0, .ref (ad 5)), (1, .int x1), (2, .int x2)]) hx hb dX0_goesOnAt_28 hl (k := 3) rfl (by rw [ey6]; rfl) (by decide) rfl (fun ls hl => ?_)
          refine lv_goto (tgt := 7) hx hb dX0_goesOnAt_31 (by decide) ?_
          exact ih7 _ _ _ _ _ _ _ h hI (lv_sub hl [1, 2, 3, 0] rfl)
  have hl := lv_entry ([.ref (ad 5), .int a1, .int a2]) (n := 4) (Nat.le_of_ble_eq_true rfl)
  rw [lg_entry_eq]
  generalize (lg_sl ([.ref (ad 5), .int a1, .int a2]) ++ List.replicate (4 - (lg_sl ([.ref (ad 5), .int a1, .int a2])).length) Slot.unset).toArray = ls at hl ⊢
  have hl : lv_has ls 4 [(0, .ref (ad 5)), (1, .int a1), (2, .int a2)] := hl
  unfold w_X0_goesOnAt at h
  refine lv_aload_n hx hb dX0_goesOnAt_0 rfl (lv_at hl 0 rfl) ?_
  refine gg_X0_latest hC hI gw_1_109 dX0_goesOnAt_1 ?_
  refine lv_iload_n hx hb dX0_goesOnAt_4 rfl (lv_at hl 1 rfl) ?_
  obtain ⟨hi7, h⟩ := h
  refine ga_35 hC hI hi7 dX0_goesOnAt_5 ?_
  refine lv_topi (fun y8 ey8 => ?_)
  have h := h y8 ey8
  refine lv_istore_n (lv' := [(3, .int y8), (0, .ref (ad 5)), (1, .int a1), (2, .int a2)]) hx hb dX0_goesOnAt_6 rfl hl (by decide) rfl (fun ls hl => ?_)
  obtain ⟨n9, h⟩ := h
  exact J7 n9 _ _ _ _ _ _ _ h hI (lv_sub hl [1, 2, 3, 0] rfl)

theorem dX0_reachByArc_0 : decode cX0_reachByArc 0 = .ok (.aload_n 0, 1) := by decide +kernel
theorem dX0_reachByArc_1 : decode cX0_reachByArc 1 = .ok (.getfield 45, 3) := by decide +kernel
theorem dX0_reachByArc_4 : decode cX0_reachByArc 4 = .ok (.getfield 123, 3) := by decide +kernel
theorem dX0_reachByArc_7 : decode cX0_reachByArc 7 = .ok (.iload_n 3, 1) := by decide +kernel
theorem dX0_reachByArc_8 : decode cX0_reachByArc 8 = .ok (.iaload, 1) := by decide +kernel
theorem dX0_reachByArc_9 : decode cX0_reachByArc 9 = .ok (.istore 4, 2) := by decide +kernel
theorem dX0_reachByArc_11 : decode cX0_reachByArc 11 = .ok (.aload_n 0, 1) := by decide +kernel
theorem dX0_reachByArc_12 : decode cX0_reachByArc 12 = .ok (.getfield 45, 3) := by decide +kernel
theorem dX0_reachByArc_15 : decode cX0_reachByArc 15 = .ok (.getfield 126, 3) := by decide +kernel
theorem dX0_reachByArc_18 : decode cX0_reachByArc 18 = .ok (.iload_n 3, 1) := by decide +kernel
theorem dX0_reachByArc_19 : decode cX0_reachByArc 19 = .ok (.iaload, 1) := by decide +kernel
theorem dX0_reachByArc_20 : decode cX0_reachByArc 20 = .ok (.istore 5, 2) := by decide +kernel
theorem dX0_reachByArc_22 : decode cX0_reachByArc 22 = .ok (.aload_n 0, 1) := by decide +kernel
theorem dX0_reachByArc_23 : decode cX0_reachByArc 23 = .ok (.getfield 29, 3) := by decide +kernel
theorem dX0_reachByArc_26 : decode cX0_reachByArc 26 = .ok (.iload_n 1, 1) := by decide +kernel
theorem dX0_reachByArc_27 : decode cX0_reachByArc 27 = .ok (.iaload, 1) := by decide +kernel
theorem dX0_reachByArc_28 : decode cX0_reachByArc 28 = .ok (.iload 4, 2) := by decide +kernel
theorem dX0_reachByArc_30 : decode cX0_reachByArc 30 = .ok (.isub, 1) := by decide +kernel
theorem dX0_reachByArc_31 : decode cX0_reachByArc 31 = .ok (.istore 6, 2) := by decide +kernel
theorem dX0_reachByArc_33 : decode cX0_reachByArc 33 = .ok (.iload 6, 2) := by decide +kernel
theorem dX0_reachByArc_35 : decode cX0_reachByArc 35 = .ok (.aload_n 0, 1) := by decide +kernel
theorem dX0_reachByArc_36 : decode cX0_reachByArc 36 = .ok (.getfield 29, 3) := by decide +kernel
theorem dX0_reachByArc_39 : decode cX0_reachByArc 39 = .ok (.iload_n 2, 1) := by decide +kernel
theorem dX0_reachByArc_40 : decode cX0_reachByArc 40 = .ok (.iaload, 1) := by decide +kernel
theorem dX0_reachByArc_41 : decode cX0_reachByArc 41 = .ok (.if_icmp .le 71, 3) := by decide +kernel
theorem dX0_reachByArc_44 : decode cX0_reachByArc 44 = .ok (.iload 5, 2) := by decide +kernel
theorem dX0_reachByArc_46 : decode cX0_reachByArc 46 = .ok (.aload_n 0, 1) := by decide +kernel
theorem dX0_reachByArc_47 : decode cX0_reachByArc 47 = .ok (.getfield 13, 3) := by decide +kernel
theorem dX0_reachByArc_50 : decode cX0_reachByArc 50 = .ok (.bipush 40, 2) := by decide +kernel
theorem dX0_reachByArc_52 : decode cX0_reachByArc 52 = .ok (.iload_n 3, 1) := by decide +kernel
theorem dX0_reachByArc_53 : decode cX0_reachByArc 53 = .ok (.imul, 1) := by decide +kernel
theorem dX0_reachByArc_54 : decode cX0_reachByArc 54 = .ok (.iload 6, 2) := by decide +kernel
theorem dX0_reachByArc_56 : decode cX0_reachByArc 56 = .ok (.iadd, 1) := by decide +kernel
theorem dX0_reachByArc_57 : decode cX0_reachByArc 57 = .ok (.iaload, 1) := by decide +kernel
theorem dX0_reachByArc_58 : decode cX0_reachByArc 58 = .ok (.isub, 1) := by decide +kernel
theorem dX0_reachByArc_59 : decode cX0_reachByArc 59 = .ok (.istore 7, 2) := by decide +kernel
theorem dX0_reachByArc_61 : decode cX0_reachByArc 61 = .ok (.iload 7, 2) := by decide +kernel
theorem dX0_reachByArc_63 : decode cX0_reachByArc 63 = .ok (.ifCond .le 43, 3) := by decide +kernel
theorem dX0_reachByArc_66 : decode cX0_reachByArc 66 = .ok (.aload_n 0, 1) := by decide +kernel
theorem dX0_reachByArc_67 : decode cX0_reachByArc 67 = .ok (.iload_n 1, 1) := by decide +kernel
theorem dX0_reachByArc_68 : decode cX0_reachByArc 68 = .ok (.iload 6, 2) := by decide +kernel
theorem dX0_reachByArc_70 : decode cX0_reachByArc 70 = .ok (.iload 4, 2) := by decide +kernel
theorem dX0_reachByArc_72 : decode cX0_reachByArc 72 = .ok (.iadd, 1) := by decide +kernel
theorem dX0_reachByArc_73 : decode cX0_reachByArc 73 = .ok (.invokevirtual 129, 3) := by decide +kernel
theorem dX0_reachByArc_76 : decode cX0_reachByArc 76 = .ok (.istore 8, 2) := by decide +kernel
theorem dX0_reachByArc_78 : decode cX0_reachByArc 78 = .ok (.aload_n 0, 1) := by decide +kernel
theorem dX0_reachByArc_79 : decode cX0_reachByArc 79 = .ok (.iload_n 2, 1) := by decide +kernel
theorem dX0_reachByArc_80 : decode cX0_reachByArc 80 = .ok (.iload 6, 2) := by decide +kernel
theorem dX0_reachByArc_82 : decode cX0_reachByArc 82 = .ok (.iload_n 3, 1) := by decide +kernel
theorem dX0_reachByArc_83 : decode cX0_reachByArc 83 = .ok (.iload 8, 2) := by decide +kernel
theorem dX0_reachByArc_85 : decode cX0_reachByArc 85 = .ok (.iload 7, 2) := by decide +kernel
theorem dX0_reachByArc_87 : decode cX0_reachByArc 87 = .ok (.aload_n 0, 1) := by decide +kernel
theorem dX0_reachByArc_88 : decode cX0_reachByArc 88 = .ok (.getfield 42, 3) := by decide +kernel
theorem dX0_reachByArc_91 : decode cX0_reachByArc 91 = .ok (.bipush 40, 2) := by decide +kernel
theorem dX0_reachByArc_93 : decode cX0_reachByArc 93 = .ok (.iload_n 1, 1) := by decide +kernel
theorem dX0_reachByArc_94 : decode cX0_reachByArc 94 = .ok (.imul, 1) := by decide +kernel
theorem dX0_reachByArc_95 : decode cX0_reachByArc 95 = .ok (.iload 8, 2) := by decide +kernel
theorem dX0_reachByArc_97 : decode cX0_reachByArc 97 = .ok (.iadd, 1) := by decide +kernel
theorem dX0_reachByArc_98 : decode cX0_reachByArc 98 = .ok (.iaload, 1) := by decide +kernel
theorem dX0_reachByArc_99 : decode cX0_reachByArc 99 = .ok (.invokestatic 117, 3) := by decide +kernel
theorem dX0_reachByArc_102 : decode cX0_reachByArc 102 = .ok (.invokevirtual 113, 3) := by decide +kernel
theorem dX0_reachByArc_105 : decode cX0_reachByArc 105 = .ok (.return_, 1) := by decide +kernel
theorem dX0_reachByArc_106 : decode cX0_reachByArc 106 = .ok (.iinc 6 (-1), 3) := by decide +kernel
theorem dX0_reachByArc_109 : decode cX0_reachByArc 109 = .ok (.goto (-76), 3) := by decide +kernel
theorem dX0_reachByArc_112 : decode cX0_reachByArc 112 = .ok (.return_, 1) := by decide +kernel
def w_X0_reachByArc_33 (Q : gS → Prop) : Nat → Int32 → Int32 → Int32 → Int32 → Int32 → Int32 → gS → Prop
  | 0, _, _, _, _, _, _, _ => False
  | n33 + 1, x1, x2, x3, x4, x5, x6, σ =>
    vp_in x2 8 ∧ (x6 ≤ (σ 42 x2.toNatClampNeg) → Q σ) ∧ (¬ x6 ≤ (σ 42 x2.toNatClampNeg) → vp_in ((40 * x3) + x6) 1120 ∧ ∀ y12 : Int32, y12 = (x5 - (σ 37 ((40 * x3) + x6).toNatClampNeg)) → (y12 ≤ 0 → ∀ y14 : Int32, y14 = x6 + (-1) → w_X0_reachByArc_33 Q n33 x1 x2 x3 x4 x5 y14 σ) ∧ (¬ y12 ≤ 0 → w_X0_goesOnAt  (fun (r16 : Int32) (s15 : gS) => vp_in ((40 * x1) + r16) 320 ∧ w_X0_reach  (fun (s18 : gS) => Q s18) s15 x2 x6 x3 r16 (if (s15 46 ((40 * x1) + r16).toNatClampNeg) < y12 then (s15 46 ((40 * x1) + r16).toNatClampNeg) else y12)) σ x1 (x6 + x4)))
def w_X0_reachByArc (Q : gS → Prop) (σ : gS) (a1 : Int32) (a2 : Int32) (a3 : Int32) : Prop :=
    ¬ σ 35 0 = 0 ∧ vp_in a3 28 ∧ ∀ y22 : Int32, y22 = (σ 28 a3.toNatClampNeg) → ¬ σ 35 0 = 0 ∧ vp_in a3 28 ∧ ∀ y25 : Int32, y25 = (σ 29 a3.toNatClampNeg) → vp_in a1 8 ∧ ∀ y27 : Int32, y27 = ((σ 42 a1.toNatClampNeg) - y22) → ∃ n33, w_X0_reachByArc_33 Q n33 a1 a2 a3 y22 y25 y27 σ
abbrev ws_X0_reachByArc : List Cond := Cond.code yX0_reachByArc cX0_reachByArc 9 none :: gG
abbrev rm_X0_reachByArc : Room := { frames := 1, cells := 0, slots := 0, locals := 26 }
theorem k_X0_reachByArc : gCV yX0_reachByArc RX0 cX0_reachByArc 9 none 3 := ⟨gw_2_145, gwp_7, gw_1_7, gw_2_146, rfl, by decide +kernel⟩
set_option maxHeartbeats 4000000 in
set_option maxRecDepth 100000 in
theorem c_X0_reachByArc (l : Launch) (D : va_G) (cy : Nat → ClassId) (ad : Nat → Nat) (A : Nat → Prop) (Q : gS → Prop) (σ : gS) (a1 : Int32) (a2 : Int32) (a3 : Int32) (h : w_X0_reachByArc Q σ a1 a2 a3) : Met l yX0_reachByArc ws_X0_reachByArc rm_X0_reachByArc (va_Pc [.ref (ad 5), .int a1, .int a2, .int a3] (gB D cy ad A σ)) (va_Qv Q (gB D cy ad A) A) 0 0 A := by
  refine Met.ofW (cc := cX0_reachByArc) (maxL := 9) (ret := none) (by decide) rfl ?_
  intro p e s m args below meth c s₁ B hml hv
  obtain ⟨rfl, hB⟩ := hv
  have hC : gC p c cX0_reachByArc s m ([.ref (ad 5), .int a1, .int a2, .int a3] : List Value).toArray RX0 D cy ad A := g_start B hB
  have hI := g_first hB
  have hx := hC.1
  have hb := hC.2.1
  have hr := B.returns
  have hlocks := B.notSynchronized
  clear B hB
  have J33 : ∀ (n33 : Nat) (x1 : Int32) (x2 : Int32) (x3 : Int32) (x4 : Int32) (x5 : Int32) (x6 : Int32) (σ : gS) (H : Heap) (locs : List Loc) (ls : Array Slot), w_X0_reachByArc_33 Q n33 x1 x2 x3 x4 x5 x6 σ → gI D cy ad A s.heap σ H locs → lv_has ls 9 [(0, .ref (ad 5)), (1, .int x1), (2, .int x2), (3, .int x3), (4, .int x4), (5, .int x5), (6, .int x6)] → W p l e (headSpec ws_X0_reachByArc rm_X0_reachByArc).room s m ([.ref (ad 5), .int a1, .int a2, .int a3] : List Value).toArray below meth c H locs 0 0 (MQ below (va_Qv Q (gB D cy ad A) A) ([.ref (ad 5), .int a1, .int a2, .int a3] : List Value).toArray s 0 0 A) (F0 m 33 ls []) := by
    intro n33
    induction n33 with
    | zero => intro x1 x2 x3 x4 x5 x6 σ H locs ls h; exact absurd h (fun h => h)
    | succ n33 ih33 =>
      intro x1 x2 x3 x4 x5 x6 σ H locs ls h hI hl
      unfold w_X0_reachByArc_33 at h
      refine lv_iload hx hb dX0_reachByArc_33 (lv_at hl 6 rfl) ?_
      refine lv_aload_n hx hb dX0_reachByArc_35 rfl (lv_at hl 0 rfl) ?_
      refine gg_X0_latest hC hI gw_1_109 dX0_reachByArc_36 ?_
      refine lv_iload_n hx hb dX0_reachByArc_39 rfl (lv_at hl 2 rfl) ?_
      obtain ⟨hi9, h⟩ := h
      refine ga_35 hC hI hi9 dX0_reachByArc_40 ?_
      refine lv_icmp_le (tgt := 112) hx hb dX0_reachByArc_41 (by decide) (fun c10 => ?_) (fun c10 => ?_)
      · have h := h.1 c10
        exact g_vret hC hr hlocks hI h dX0_reachByArc_112
      · have h := h.2 c10
        refine lv_iload hx hb dX0_reachByArc_44 (lv_at hl 5 rfl) ?_
        refine lv_aload_n hx hb dX0_reachByArc_46 rfl (lv_at hl 0 rfl) ?_
        refine gg_X0_begins hC hI gw_1_104 dX0_reachByArc_47 ?_
        refine lv_bipush (v := 40) hx hb dX0_reachByArc_50 (by decide) ?_
        refine lv_iload_n hx hb dX0_reachByArc_52 rfl (lv_at hl 3 rfl) ?_
        refine lv_imul hx hb dX0_reachByArc_53 ?_
        refine lv_iload hx hb dX0_reachByArc_54 (lv_at hl 6 rfl) ?_
        refine lv_iadd hx hb dX0_reachByArc_56 ?_
        obtain ⟨hi11, h⟩ := h
        refine ga_30 hC hI hi11 dX0_reachByArc_57 ?_
        refine lv_isub hx hb dX0_reachByArc_58 ?_
        refine lv_topi (fun y12 ey12 => ?_)
        have h := h y12 ey12
        refine lv_istore (lv' := [(7, .int y12), (0, .ref (ad 5)), (1, .int x1), (2, .int x2), (3, .int x3), (4, .int x4), (5, .int x5), (6, .int x6)]) hx hb dX0_reachByArc_59 hl (by decide) rfl (fun ls hl => ?_)
        refine lv_iload hx hb dX0_reachByArc_61 (lv_at hl 0 rfl) ?_
        refine lv_if_le (tgt := 106) hx hb dX0_reachByArc_63 (by decide) (fun c13 => ?_) (fun c13 => ?_)
        · have h := h.1 c13
          obtain ⟨y14, ey14⟩ : ∃ y : Int32, y = x6 + (-1) := ⟨_, rfl⟩
          have h := h y14 ey14
          refine lv_iinc (v := y14) (lv' := [(6, .int y14), (7, .int y12), (0, .ref (ad 5)), (1, .int x1), (2, .int x2), (3, .int x3), (4, .int x4), (5, .int x5)]) hx hb dX0_reachByArc_106 hl (k := 7) rfl (by rw [ey14]; rfl) (by decide) rfl (fun ls hl => ?_)
          refine lv_goto (tgt := 33) hx hb dX0_reachByArc_109 (by decide) ?_
          exact ih33 _ _ _ _ _ _ _ _ _ _ h hI (lv_sub hl [2, 3, 4, 5, 6, 7, 0] rfl)
        · have h := h.2 c13
          refine lv_aload_n hx hb dX0_reachByArc_66 rfl (lv_at hl 1 rfl) ?_
          refine lv_iload_n hx hb dX0_reachByArc_67 rfl (lv_at hl 2 rfl) ?_
          refine lv_iload hx hb dX0_reachByArc_68 (lv_at hl 7 rfl) ?_
          refine lv_iload hx hb dX0_reachByArc_70 (lv_at hl 5 rfl) ?_
          refine lv_iadd hx hb dX0_reachByArc_72 ?_
          refine g_backi hI (g_runV (As := [.int x1, .int (x6 + x4)]) (rest := []) hC hml hI (c_X0_goesOnAt l D cy ad A _  _ _ _ h) k_X0_goesOnAt gw_2_147 ⟨rfl, rfl⟩ ⟨Nat.le_of_ble_eq_true rfl, Nat.le_of_ble_eq_true rfl⟩ (grv_5 hC hI) rfl hl.1 rfl (Nat.le_of_ble_eq_true rfl) dX0_reachByArc_73 ⟨Nat.le_of_ble_eq_true rfl, Nat.le_of_ble_eq_true rfl⟩) (fun r16 s15 H locs h hI => ?_)
          refine lv_istore (lv' := [(8, .int r16), (7, .int y12), (0, .ref (ad 5)), (1, .int x1), (2, .int x2), (3, .int x3), (4, .int x4), (5, .int x5), (6, .int x6)]) hx hb dX0_reachByArc_76 hl (by decide) rfl (fun ls hl => ?_)
          refine lv_aload_n hx hb dX0_reachByArc_78 rfl (lv_at hl 2 rfl) ?_
          refine lv_iload_n hx hb dX0_reachByArc_79 rfl (lv_at hl 4 rfl) ?_
          refine lv_iload hx hb dX0_reachByArc_80 (lv_at hl 8 rfl) ?_
          refine lv_iload_n hx hb dX0_reachByArc_82 rfl (lv_at hl 5 rfl) ?_
          refine lv_iload hx hb dX0_reachByArc_83 (lv_at hl 0 rfl) ?_
          refine lv_iload hx hb dX0_reachByArc_85 (lv_at hl 1 rfl) ?_
          refine lv_aload_n hx hb dX0_reachByArc_87 rfl (lv_at hl 2 rfl) ?_
          refine gg_X0_rooms hC hI gw_1_113 dX0_reachByArc_88 ?_
          refine lv_bipush (v := 40) hx hb dX0_reachByArc_91 (by decide) ?_
          refine lv_iload_n hx hb dX0_reachByArc_93 rfl (lv_at hl 3 rfl) ?_
          refine lv_imul hx hb dX0_reachByArc_94 ?_
          refine lv_iload hx hb dX0_reachByArc_95 (lv_at hl 0 rfl) ?_
          refine lv_iadd hx hb dX0_reachByArc_97 ?_
          obtain ⟨hi17, h⟩ := h
          refine ga_39 hC hI hi17 dX0_reachByArc_98 ?_
          refine va_mmin hx hb (by rw [hml]; exact hl.1.symm) hC.2.2.2.1 (hC.2.2.1 _ gw_2_140) (hC.2.2.1 _ gw_2_141) (hC.2.2.1 _ gw_1_18) (hC.2.2.1 _ gw_2_142) (Nat.le_of_ble_eq_true rfl) (Nat.le_of_ble_eq_true rfl) (Nat.le_of_ble_eq_true rfl) (Nat.le_of_ble_eq_true rfl) dX0_reachByArc_99 ?_
          refine g_backv hI (g_runV (As := [.int x2, .int x6, .int x3, .int r16, .int (if (s15 46 ((40 * x1) + r16).toNatClampNeg) < y12 then (s15 46 ((40 * x1) + r16).toNatClampNeg) else y12)]) (rest := []) hC hml hI (c_X0_reach l D cy ad A _  _ _ _ _ _ _ h) k_X0_reach gw_2_128 ⟨rfl, rfl⟩ ⟨Nat.le_of_ble_eq_true rfl, Nat.le_of_ble_eq_true rfl⟩ (grv_5 hC hI) rfl hl.1 rfl (Nat.le_of_ble_eq_true rfl) dX0_reachByArc_102 ⟨Nat.le_of_ble_eq_true rfl, Nat.le_of_ble_eq_true rfl⟩) (fun s18 H locs h hI => ?_)
          exact g_vret hC hr hlocks hI h dX0_reachByArc_105
  have hl := lv_entry ([.ref (ad 5), .int a1, .int a2, .int a3]) (n := 9) (Nat.le_of_ble_eq_true rfl)
  rw [lg_entry_eq]
  generalize (lg_sl ([.ref (ad 5), .int a1, .int a2, .int a3]) ++ List.replicate (9 - (lg_sl ([.ref (ad 5), .int a1, .int a2, .int a3])).length) Slot.unset).toArray = ls at hl ⊢
  have hl : lv_has ls 9 [(0, .ref (ad 5)), (1, .int a1), (2, .int a2), (3, .int a3)] := hl
  unfold w_X0_reachByArc at h
  refine lv_aload_n hx hb dX0_reachByArc_0 rfl (lv_at hl 0 rfl) ?_
  obtain ⟨hz20, h⟩ := h
  refine gg_X0_ground hC hI gw_1_102 dX0_reachByArc_1 hz20 ?_
  refine gg_X2_lengths hC hI gw_1_151 dX0_reachByArc_4 ?_
  refine lv_iload_n hx hb dX0_reachByArc_7 rfl (lv_at hl 3 rfl) ?_
  obtain ⟨hi21, h⟩ := h
  refine ga_26 hC hI hi21 dX0_reachByArc_8 ?_
  refine lv_topi (fun y22 ey22 => ?_)
  have h := h y22 ey22
  refine lv_istore (lv' := [(4, .int y22), (0, .ref (ad 5)), (1, .int a1), (2, .int a2), (3, .int a3)]) hx hb dX0_reachByArc_9 hl (by decide) rfl (fun ls hl => ?_)
  refine lv_aload_n hx hb dX0_reachByArc_11 rfl (lv_at hl 1 rfl) ?_
  obtain ⟨hz23, h⟩ := h
  refine gg_X0_ground hC hI gw_1_102 dX0_reachByArc_12 hz23 ?_
  refine gg_X2_wides hC hI gw_1_153 dX0_reachByArc_15 ?_
  refine lv_iload_n hx hb dX0_reachByArc_18 rfl (lv_at hl 4 rfl) ?_
  obtain ⟨hi24, h⟩ := h
  refine ga_27 hC hI hi24 dX0_reachByArc_19 ?_
  refine lv_topi (fun y25 ey25 => ?_)
  have h := h y25 ey25
  refine lv_istore (lv' := [(5, .int y25), (4, .int y22), (0, .ref (ad 5)), (1, .int a1), (2, .int a2), (3, .int a3)]) hx hb dX0_reachByArc_20 hl (by decide) rfl (fun ls hl => ?_)
  refine lv_aload_n hx hb dX0_reachByArc_22 rfl (lv_at hl 2 rfl) ?_
  refine gg_X0_latest hC hI gw_1_109 dX0_reachByArc_23 ?_
  refine lv_iload_n hx hb dX0_reachByArc_26 rfl (lv_at hl 3 rfl) ?_
  obtain ⟨hi26, h⟩ := h
  refine ga_35 hC hI hi26 dX0_reachByArc_27 ?_
  refine lv_iload hx hb dX0_reachByArc_28 (lv_at hl 1 rfl) ?_
  refine lv_isub hx hb dX0_reachByArc_30 ?_
  refine lv_topi (fun y27 ey27 => ?_)
  have h := h y27 ey27
  refine lv_istore (lv' := [(6, .int y27), (5, .int y25), (4, .int y22), (0, .ref (ad 5)), (1, .int a1), (2, .int a2), (3, .int a3)]) hx hb dX0_reachByArc_31 hl (by decide) rfl (fun ls hl => ?_)
  obtain ⟨n9, h⟩ := h
  exact J33 n9 _ _ _ _ _ _ _ _ _ _ h hI (lv_sub hl [3, 4, 5, 6, 2, 1, 0] rfl)

theorem dX0_reachByUndoing_0 : decode cX0_reachByUndoing 0 = .ok (.aload_n 0, 1) := by decide +kernel
theorem dX0_reachByUndoing_1 : decode cX0_reachByUndoing 1 = .ok (.getfield 20, 3) := by decide +kernel
theorem dX0_reachByUndoing_4 : decode cX0_reachByUndoing 4 = .ok (.iload_n 3, 1) := by decide +kernel
theorem dX0_reachByUndoing_5 : decode cX0_reachByUndoing 5 = .ok (.iaload, 1) := by decide +kernel
theorem dX0_reachByUndoing_6 : decode cX0_reachByUndoing 6 = .ok (.ifCond .gt 4, 3) := by decide +kernel
theorem dX0_reachByUndoing_9 : decode cX0_reachByUndoing 9 = .ok (.return_, 1) := by decide +kernel
theorem dX0_reachByUndoing_10 : decode cX0_reachByUndoing 10 = .ok (.aload_n 0, 1) := by decide +kernel
theorem dX0_reachByUndoing_11 : decode cX0_reachByUndoing 11 = .ok (.getfield 45, 3) := by decide +kernel
theorem dX0_reachByUndoing_14 : decode cX0_reachByUndoing 14 = .ok (.getfield 123, 3) := by decide +kernel
theorem dX0_reachByUndoing_17 : decode cX0_reachByUndoing 17 = .ok (.iload_n 3, 1) := by decide +kernel
theorem dX0_reachByUndoing_18 : decode cX0_reachByUndoing 18 = .ok (.iaload, 1) := by decide +kernel
theorem dX0_reachByUndoing_19 : decode cX0_reachByUndoing 19 = .ok (.istore 4, 2) := by decide +kernel
theorem dX0_reachByUndoing_21 : decode cX0_reachByUndoing 21 = .ok (.iconst 0, 1) := by decide +kernel
theorem dX0_reachByUndoing_22 : decode cX0_reachByUndoing 22 = .ok (.aload_n 0, 1) := by decide +kernel
theorem dX0_reachByUndoing_23 : decode cX0_reachByUndoing 23 = .ok (.getfield 29, 3) := by decide +kernel
theorem dX0_reachByUndoing_26 : decode cX0_reachByUndoing 26 = .ok (.iload_n 2, 1) := by decide +kernel
theorem dX0_reachByUndoing_27 : decode cX0_reachByUndoing 27 = .ok (.iaload, 1) := by decide +kernel
theorem dX0_reachByUndoing_28 : decode cX0_reachByUndoing 28 = .ok (.iload 4, 2) := by decide +kernel
theorem dX0_reachByUndoing_30 : decode cX0_reachByUndoing 30 = .ok (.isub, 1) := by decide +kernel
theorem dX0_reachByUndoing_31 : decode cX0_reachByUndoing 31 = .ok (.iconst 1, 1) := by decide +kernel
theorem dX0_reachByUndoing_32 : decode cX0_reachByUndoing 32 = .ok (.iadd, 1) := by decide +kernel
theorem dX0_reachByUndoing_33 : decode cX0_reachByUndoing 33 = .ok (.invokestatic 132, 3) := by decide +kernel
theorem dX0_reachByUndoing_36 : decode cX0_reachByUndoing 36 = .ok (.istore 5, 2) := by decide +kernel
theorem dX0_reachByUndoing_38 : decode cX0_reachByUndoing 38 = .ok (.aload_n 0, 1) := by decide +kernel
theorem dX0_reachByUndoing_39 : decode cX0_reachByUndoing 39 = .ok (.getfield 29, 3) := by decide +kernel
theorem dX0_reachByUndoing_42 : decode cX0_reachByUndoing 42 = .ok (.iload_n 1, 1) := by decide +kernel
theorem dX0_reachByUndoing_43 : decode cX0_reachByUndoing 43 = .ok (.iaload, 1) := by decide +kernel
theorem dX0_reachByUndoing_44 : decode cX0_reachByUndoing 44 = .ok (.aload_n 0, 1) := by decide +kernel
theorem dX0_reachByUndoing_45 : decode cX0_reachByUndoing 45 = .ok (.getfield 53, 3) := by decide +kernel
theorem dX0_reachByUndoing_48 : decode cX0_reachByUndoing 48 = .ok (.iload 4, 2) := by decide +kernel
theorem dX0_reachByUndoing_50 : decode cX0_reachByUndoing 50 = .ok (.isub, 1) := by decide +kernel
theorem dX0_reachByUndoing_51 : decode cX0_reachByUndoing 51 = .ok (.invokestatic 117, 3) := by decide +kernel
theorem dX0_reachByUndoing_54 : decode cX0_reachByUndoing 54 = .ok (.istore 6, 2) := by decide +kernel
theorem dX0_reachByUndoing_56 : decode cX0_reachByUndoing 56 = .ok (.iload 6, 2) := by decide +kernel
theorem dX0_reachByUndoing_58 : decode cX0_reachByUndoing 58 = .ok (.iload 5, 2) := by decide +kernel
theorem dX0_reachByUndoing_60 : decode cX0_reachByUndoing 60 = .ok (.if_icmp .lt 71, 3) := by decide +kernel
theorem dX0_reachByUndoing_63 : decode cX0_reachByUndoing 63 = .ok (.aload_n 0, 1) := by decide +kernel
theorem dX0_reachByUndoing_64 : decode cX0_reachByUndoing 64 = .ok (.getfield 13, 3) := by decide +kernel
theorem dX0_reachByUndoing_67 : decode cX0_reachByUndoing 67 = .ok (.bipush 40, 2) := by decide +kernel
theorem dX0_reachByUndoing_69 : decode cX0_reachByUndoing 69 = .ok (.iload_n 3, 1) := by decide +kernel
theorem dX0_reachByUndoing_70 : decode cX0_reachByUndoing 70 = .ok (.imul, 1) := by decide +kernel
theorem dX0_reachByUndoing_71 : decode cX0_reachByUndoing 71 = .ok (.iload 6, 2) := by decide +kernel
theorem dX0_reachByUndoing_73 : decode cX0_reachByUndoing 73 = .ok (.iadd, 1) := by decide +kernel
theorem dX0_reachByUndoing_74 : decode cX0_reachByUndoing 74 = .ok (.iaload, 1) := by decide +kernel
theorem dX0_reachByUndoing_75 : decode cX0_reachByUndoing 75 = .ok (.istore 7, 2) := by decide +kernel
theorem dX0_reachByUndoing_77 : decode cX0_reachByUndoing 77 = .ok (.iload 7, 2) := by decide +kernel
theorem dX0_reachByUndoing_79 : decode cX0_reachByUndoing 79 = .ok (.ifCond .le 46, 3) := by decide +kernel
theorem dX0_reachByUndoing_82 : decode cX0_reachByUndoing 82 = .ok (.aload_n 0, 1) := by decide +kernel
theorem dX0_reachByUndoing_83 : decode cX0_reachByUndoing 83 = .ok (.iload_n 1, 1) := by decide +kernel
theorem dX0_reachByUndoing_84 : decode cX0_reachByUndoing 84 = .ok (.iload 6, 2) := by decide +kernel
theorem dX0_reachByUndoing_86 : decode cX0_reachByUndoing 86 = .ok (.invokevirtual 129, 3) := by decide +kernel
theorem dX0_reachByUndoing_89 : decode cX0_reachByUndoing 89 = .ok (.istore 8, 2) := by decide +kernel
theorem dX0_reachByUndoing_91 : decode cX0_reachByUndoing 91 = .ok (.aload_n 0, 1) := by decide +kernel
theorem dX0_reachByUndoing_92 : decode cX0_reachByUndoing 92 = .ok (.iload_n 2, 1) := by decide +kernel
theorem dX0_reachByUndoing_93 : decode cX0_reachByUndoing 93 = .ok (.iload 6, 2) := by decide +kernel
theorem dX0_reachByUndoing_95 : decode cX0_reachByUndoing 95 = .ok (.iload 4, 2) := by decide +kernel
theorem dX0_reachByUndoing_97 : decode cX0_reachByUndoing 97 = .ok (.iadd, 1) := by decide +kernel
theorem dX0_reachByUndoing_98 : decode cX0_reachByUndoing 98 = .ok (.bipush 28, 2) := by decide +kernel
theorem dX0_reachByUndoing_100 : decode cX0_reachByUndoing 100 = .ok (.iload_n 3, 1) := by decide +kernel
theorem dX0_reachByUndoing_101 : decode cX0_reachByUndoing 101 = .ok (.iadd, 1) := by decide +kernel
theorem dX0_reachByUndoing_102 : decode cX0_reachByUndoing 102 = .ok (.iload 8, 2) := by decide +kernel
theorem dX0_reachByUndoing_104 : decode cX0_reachByUndoing 104 = .ok (.iload 7, 2) := by decide +kernel
theorem dX0_reachByUndoing_106 : decode cX0_reachByUndoing 106 = .ok (.aload_n 0, 1) := by decide +kernel
theorem dX0_reachByUndoing_107 : decode cX0_reachByUndoing 107 = .ok (.getfield 42, 3) := by decide +kernel
theorem dX0_reachByUndoing_110 : decode cX0_reachByUndoing 110 = .ok (.bipush 40, 2) := by decide +kernel
theorem dX0_reachByUndoing_112 : decode cX0_reachByUndoing 112 = .ok (.iload_n 1, 1) := by decide +kernel
theorem dX0_reachByUndoing_113 : decode cX0_reachByUndoing 113 = .ok (.imul, 1) := by decide +kernel
theorem dX0_reachByUndoing_114 : decode cX0_reachByUndoing 114 = .ok (.iload 8, 2) := by decide +kernel
theorem dX0_reachByUndoing_116 : decode cX0_reachByUndoing 116 = .ok (.iadd, 1) := by decide +kernel
theorem dX0_reachByUndoing_117 : decode cX0_reachByUndoing 117 = .ok (.iaload, 1) := by decide +kernel
theorem dX0_reachByUndoing_118 : decode cX0_reachByUndoing 118 = .ok (.invokestatic 117, 3) := by decide +kernel
theorem dX0_reachByUndoing_121 : decode cX0_reachByUndoing 121 = .ok (.invokevirtual 113, 3) := by decide +kernel
theorem dX0_reachByUndoing_124 : decode cX0_reachByUndoing 124 = .ok (.return_, 1) := by decide +kernel
theorem dX0_reachByUndoing_125 : decode cX0_reachByUndoing 125 = .ok (.iinc 6 (-1), 3) := by decide +kernel
theorem dX0_reachByUndoing_128 : decode cX0_reachByUndoing 128 = .ok (.goto (-72), 3) := by decide +kernel
theorem dX0_reachByUndoing_131 : decode cX0_reachByUndoing 131 = .ok (.return_, 1) := by decide +kernel
def w_X0_reachByUndoing_56 (Q : gS → Prop) : Nat → Int32 → Int32 → Int32 → Int32 → Int32 → Int32 → gS → Prop
  | 0, _, _, _, _, _, _, _ => False
  | n56 + 1, x1, x2, x3, x4, x5, x6, σ =>
    (x6 < x5 → Q σ) ∧ (¬ x6 < x5 → vp_in ((40 * x3) + x6) 1120 ∧ ∀ y10 : Int32, y10 = (σ 37 ((40 * x3) + x6).toNatClampNeg) → (y10 ≤ 0 → ∀ y12 : Int32, y12 = x6 + (-1) → w_X0_reachByUndoing_56 Q n56 x1 x2 x3 x4 x5 y12 σ) ∧ (¬ y10 ≤ 0 → w_X0_goesOnAt  (fun (r14 : Int32) (s13 : gS) => vp_in ((40 * x1) + r14) 320 ∧ w_X0_reach  (fun (s16 : gS) => Q s16) s13 x2 (x6 + x4) (28 + x3) r14 (if (s13 46 ((40 * x1) + r14).toNatClampNeg) < y10 then (s13 46 ((40 * x1) + r14).toNatClampNeg) else y10)) σ x1 x6))
def w_X0_reachByUndoing (Q : gS → Prop) (σ : gS) (a1 : Int32) (a2 : Int32) (a3 : Int32) : Prop :=
    vp_in a3 28 ∧ (0 < (σ 39 a3.toNatClampNeg) → ¬ σ 35 0 = 0 ∧ vp_in a3 28 ∧ ∀ y22 : Int32, y22 = (σ 28 a3.toNatClampNeg) → vp_in a2 8 ∧ ∀ y24 : Int32, y24 = (if 0 < (((σ 42 a2.toNatClampNeg) - y22) + 1) then (((σ 42 a2.toNatClampNeg) - y22) + 1) else 0) → vp_in a1 8 ∧ ∀ y26 : Int32, y26 = (if ((σ 36 0) - y22) < (σ 42 a1.toNatClampNeg) then ((σ 36 0) - y22) else (σ 42 a1.toNatClampNeg)) → ∃ n56, w_X0_reachByUndoing_56 Q n56 a1 a2 a3 y22 y24 y26 σ) ∧ (¬ 0 < (σ 39 a3.toNatClampNeg) → Q σ)
abbrev ws_X0_reachByUndoing : List Cond := Cond.code yX0_reachByUndoing cX0_reachByUndoing 9 none :: gG
abbrev rm_X0_reachByUndoing : Room := { frames := 1, cells := 0, slots := 0, locals := 26 }
theorem k_X0_reachByUndoing : gCV yX0_reachByUndoing RX0 cX0_reachByUndoing 9 none 3 := ⟨gw_2_153, gwp_9, gw_1_7, gw_2_154, rfl, by decide +kernel⟩
set_option maxHeartbeats 4000000 in
set_option maxRecDepth 100000 in
theorem c_X0_reachByUndoing (l : Launch) (D : va_G) (cy : Nat → ClassId) (ad : Nat → Nat) (A : Nat → Prop) (Q : gS → Prop) (σ : gS) (a1 : Int32) (a2 : Int32) (a3 : Int32) (h : w_X0_reachByUndoing Q σ a1 a2 a3) : Met l yX0_reachByUndoing ws_X0_reachByUndoing rm_X0_reachByUndoing (va_Pc [.ref (ad 5), .int a1, .int a2, .int a3] (gB D cy ad A σ)) (va_Qv Q (gB D cy ad A) A) 0 0 A := by
  refine Met.ofW (cc := cX0_reachByUndoing) (maxL := 9) (ret := none) (by decide) rfl ?_
  intro p e s m args below meth c s₁ B hml hv
  obtain ⟨rfl, hB⟩ := hv
  have hC : gC p c cX0_reachByUndoing s m ([.ref (ad 5), .int a1, .int a2, .int a3] : List Value).toArray RX0 D cy ad A := g_start B hB
  have hI := g_first hB
  have hx := hC.1
  have hb := hC.2.1
  have hr := B.returns
  have hlocks := B.notSynchronized
  clear B hB
  have J56 : ∀ (n56 : Nat) (x1 : Int32) (x2 : Int32) (x3 : Int32) (x4 : Int32) (x5 : Int32) (x6 : Int32) (σ : gS) (H : Heap) (locs : List Loc) (ls : Array Slot), w_X0_reachByUndoing_56 Q n56 x1 x2 x3 x4 x5 x6 σ → gI D cy ad A s.heap σ H locs → lv_has ls 9 [(0, .ref (ad 5)), (1, .int x1), (2, .int x2), (3, .int x3), (4, .int x4), (5, .int x5), (6, .int x6)] → W p l e (headSpec ws_X0_reachByUndoing rm_X0_reachByUndoing).room s m ([.ref (ad 5), .int a1, .int a2, .int a3] : List Value).toArray below meth c H locs 0 0 (MQ below (va_Qv Q (gB D cy ad A) A) ([.ref (ad 5), .int a1, .int a2, .int a3] : List Value).toArray s 0 0 A) (F0 m 56 ls []) := by
    intro n56
    induction n56 with
    | zero => intro x1 x2 x3 x4 x5 x6 σ H locs ls h; exact absurd h (fun h => h)
    | succ n56 ih56 =>
      intro x1 x2 x3 x4 x5 x6 σ H locs ls h hI hl
      unfold w_X0_reachByUndoing_56 at h
      refine lv_iload hx hb dX0_reachByUndoing_56 (lv_at hl 6 rfl) ?_
      refine lv_iload hx hb dX0_reachByUndoing_58 (lv_at hl 5 rfl) ?_
      refine lv_icmp_lt (tgt := 131) hx hb dX0_reachByUndoing_60 (by decide) (fun c8 => ?_) (fun c8 => ?_)
      · have h := h.1 c8
        exact g_vret hC hr hlocks hI h dX0_reachByUndoing_131
      · have h := h.2 c8
        refine lv_aload_n hx hb dX0_reachByUndoing_63 rfl (lv_at hl 0 rfl) ?_
        refine gg_X0_begins hC hI gw_1_104 dX0_reachByUndoing_64 ?_
        refine lv_bipush (v := 40) hx hb dX0_reachByUndoing_67 (by decide) ?_
        refine lv_iload_n hx hb dX0_reachByUndoing_69 rfl (lv_at hl 3 rfl) ?_
        refine lv_imul hx hb dX0_reachByUndoing_70 ?_
        refine lv_iload hx hb dX0_reachByUndoing_71 (lv_at hl 6 rfl) ?_
        refine lv_iadd hx hb dX0_reachByUndoing_73 ?_
        obtain ⟨hi9, h⟩ := h
        refine ga_30 hC hI hi9 dX0_reachByUndoing_74 ?_
        refine lv_topi (fun y10 ey10 => ?_)
        have h := h y10 ey10
        refine lv_istore (lv' := [(7, .int y10), (0, .ref (ad 5)), (1, .int x1), (2, .int x2), (3, .int x3), (4, .int x4), (5, .int x5), (6, .int x6)]) hx hb dX0_reachByUndoing_75 hl (by decide) rfl (fun ls hl => ?_)
        refine lv_iload hx hb dX0_reachByUndoing_77 (lv_at hl 0 rfl) ?_
        refine lv_if_le (tgt := 125) hx hb dX0_reachByUndoing_79 (by decide) (fun c11 => ?_) (fun c11 => ?_)
        · have h := h.1 c11
          obtain ⟨y12, ey12⟩ : ∃ y : Int32, y = x6 + (-1) := ⟨_, rfl⟩
          have h := h y12 ey12
          refine lv_iinc (v := y12) (lv' := [(6, .int y12), (7, .int y10), (0, .ref (ad 5)), (1, .int x1), (2, .int x2), (3, .int x3), (4, .int x4), (5, .int x5)]) hx hb dX0_reachByUndoing_125 hl (k := 7) rfl (by rw [ey12]; rfl) (by decide) rfl (fun ls hl => ?_)
          refine lv_goto (tgt := 56) hx hb dX0_reachByUndoing_128 (by decide) ?_
          exact ih56 _ _ _ _ _ _ _ _ _ _ h hI (lv_sub hl [2, 3, 4, 5, 6, 7, 0] rfl)
        · have h := h.2 c11
          refine lv_aload_n hx hb dX0_reachByUndoing_82 rfl (lv_at hl 1 rfl) ?_
          refine lv_iload_n hx hb dX0_reachByUndoing_83 rfl (lv_at hl 2 rfl) ?_
          refine lv_iload hx hb dX0_reachByUndoing_84 (lv_at hl 7 rfl) ?_
          refine g_backi hI (g_runV (As := [.int x1, .int x6]) (rest := []) hC hml hI (c_X0_goesOnAt l D cy ad A _  _ _ _ h) k_X0_goesOnAt gw_2_147 ⟨rfl, rfl⟩ ⟨Nat.le_of_ble_eq_true rfl, Nat.le_of_ble_eq_true rfl⟩ (grv_5 hC hI) rfl hl.1 rfl (Nat.le_of_ble_eq_true rfl) dX0_reachByUndoing_86 ⟨Nat.le_of_ble_eq_true rfl, Nat.le_of_ble_eq_true rfl⟩) (fun r14 s13 H locs h hI => ?_)
          refine lv_istore (lv' := [(8, .int r14), (7, .int y10), (0, .ref (ad 5)), (1, .int x1), (2, .int x2), (3, .int x3), (4, .int x4), (5, .int x5), (6, .int x6)]) hx hb dX0_reachByUndoing_89 hl (by decide) rfl (fun ls hl => ?_)
          refine lv_aload_n hx hb dX0_reachByUndoing_91 rfl (lv_at hl 2 rfl) ?_
          refine lv_iload_n hx hb dX0_reachByUndoing_92 rfl (lv_at hl 4 rfl) ?_
          refine lv_iload hx hb dX0_reachByUndoing_93 (lv_at hl 8 rfl) ?_
          refine lv_iload hx hb dX0_reachByUndoing_95 (lv_at hl 6 rfl) ?_
          refine lv_iadd hx hb dX0_reachByUndoing_97 ?_
          refine lv_bipush (v := 28) hx hb dX0_reachByUndoing_98 (by decide) ?_
          refine lv_iload_n hx hb dX0_reachByUndoing_100 rfl (lv_at hl 5 rfl) ?_
          refine lv_iadd hx hb dX0_reachByUndoing_101 ?_
          refine lv_iload hx hb dX0_reachByUndoing_102 (lv_at hl 0 rfl) ?_
          refine lv_iload hx hb dX0_reachByUndoing_104 (lv_at hl 1 rfl) ?_
          refine lv_aload_n hx hb dX0_reachByUndoing_106 rfl (lv_at hl 2 rfl) ?_
          refine gg_X0_rooms hC hI gw_1_113 dX0_reachByUndoing_107 ?_
          refine lv_bipush (v := 40) hx hb dX0_reachByUndoing_110 (by decide) ?_
          refine lv_iload_n hx hb dX0_reachByUndoing_112 rfl (lv_at hl 3 rfl) ?_
          refine lv_imul hx hb dX0_reachByUndoing_113 ?_
          refine lv_iload hx hb dX0_reachByUndoing_114 (lv_at hl 0 rfl) ?_
          refine lv_iadd hx hb dX0_reachByUndoing_116 ?_
          obtain ⟨hi15, h⟩ := h
          refine ga_39 hC hI hi15 dX0_reachByUndoing_117 ?_
          refine va_mmin hx hb (by rw [hml]; exact hl.1.symm) hC.2.2.2.1 (hC.2.2.1 _ gw_2_140) (hC.2.2.1 _ gw_2_141) (hC.2.2.1 _ gw_1_18) (hC.2.2.1 _ gw_2_142) (Nat.le_of_ble_eq_true rfl) (Nat.le_of_ble_eq_true rfl) (Nat.le_of_ble_eq_true rfl) (Nat.le_of_ble_eq_true rfl) dX0_reachByUndoing_118 ?_
          refine g_backv hI (g_runV (As := [.int x2, .int (x6 + x4), .int (28 + x3), .int r14, .int (if (s13 46 ((40 * x1) + r14).toNatClampNeg) < y10 then (s13 46 ((40 * x1) + r14).toNatClampNeg) else y10)]) (rest := []) hC hml hI (c_X0_reach l D cy ad A _  _ _ _ _ _ _ h) k_X0_reach gw_2_128 ⟨rfl, rfl⟩ ⟨Nat.le_of_ble_eq_true rfl, Nat.le_of_ble_eq_true rfl⟩ (grv_5 hC hI) rfl hl.1 rfl (Nat.le_of_ble_eq_true rfl) dX0_reachByUndoing_121 ⟨Nat.le_of_ble_eq_true rfl, Nat.le_of_ble_eq_true rfl⟩) (fun s16 H locs h hI => ?_)
          exact g_vret hC hr hlocks hI h dX0_reachByUndoing_124
  have hl := lv_entry ([.ref (ad 5), .int a1, .int a2, .int a3]) (n := 9) (Nat.le_of_ble_eq_true rfl)
  rw [lg_entry_eq]
  generalize (lg_sl ([.ref (ad 5), .int a1, .int a2, .int a3]) ++ List.replicate (9 - (lg_sl ([.ref (ad 5), .int a1, .int a2, .int a3])).length) Slot.unset).toArray = ls at hl ⊢
  have hl : lv_has ls 9 [(0, .ref (ad 5)), (1, .int a1), (2, .int a2), (3, .int a3)] := hl
  unfold w_X0_reachByUndoing at h
  refine lv_aload_n hx hb dX0_reachByUndoing_0 rfl (lv_at hl 0 rfl) ?_
  refine gg_X0_totals hC hI gw_1_106 dX0_reachByUndoing_1 ?_
  refine lv_iload_n hx hb dX0_reachByUndoing_4 rfl (lv_at hl 3 rfl) ?_
  obtain ⟨hi18, h⟩ := h
  refine ga_32 hC hI hi18 dX0_reachByUndoing_5 ?_
  refine lv_if_gt (tgt := 10) hx hb dX0_reachByUndoing_6 (by decide) (fun c19 => ?_) (fun c19 => ?_)
  · have h := h.1 c19
    refine lv_aload_n hx hb dX0_reachByUndoing_10 rfl (lv_at hl 0 rfl) ?_
    obtain ⟨hz20, h⟩ := h
    refine gg_X0_ground hC hI gw_1_102 dX0_reachByUndoing_11 hz20 ?_
    refine gg_X2_lengths hC hI gw_1_151 dX0_reachByUndoing_14 ?_
    refine lv_iload_n hx hb dX0_reachByUndoing_17 rfl (lv_at hl 3 rfl) ?_
    obtain ⟨hi21, h⟩ := h
    refine ga_26 hC hI hi21 dX0_reachByUndoing_18 ?_
    refine lv_topi (fun y22 ey22 => ?_)
    have h := h y22 ey22
    refine lv_istore (lv' := [(4, .int y22), (0, .ref (ad 5)), (1, .int a1), (2, .int a2), (3, .int a3)]) hx hb dX0_reachByUndoing_19 hl (by decide) rfl (fun ls hl => ?_)
    refine lv_iconst (v := 0) hx hb dX0_reachByUndoing_21 (by decide) ?_
    refine lv_aload_n hx hb dX0_reachByUndoing_22 rfl (lv_at hl 1 rfl) ?_
    refine gg_X0_latest hC hI gw_1_109 dX0_reachByUndoing_23 ?_
    refine lv_iload_n hx hb dX0_reachByUndoing_26 rfl (lv_at hl 3 rfl) ?_
    obtain ⟨hi23, h⟩ := h
    refine ga_35 hC hI hi23 dX0_reachByUndoing_27 ?_
    refine lv_iload hx hb dX0_reachByUndoing_28 (lv_at hl 0 rfl) ?_
    refine lv_isub hx hb dX0_reachByUndoing_30 ?_
    refine lv_iconst (v := 1) hx hb dX0_reachByUndoing_31 (by decide) ?_
    refine lv_iadd hx hb dX0_reachByUndoing_32 ?_
    refine va_mmax hx hb (by rw [hml]; exact hl.1.symm) hC.2.2.2.1 (hC.2.2.1 _ gw_2_155) (hC.2.2.1 _ gw_2_156) (hC.2.2.1 _ gw_1_18) (hC.2.2.1 _ gw_2_157) (Nat.le_of_ble_eq_true rfl) (Nat.le_of_ble_eq_true rfl) (Nat.le_of_ble_eq_true rfl) (Nat.le_of_ble_eq_true rfl) dX0_reachByUndoing_33 ?_
    refine lv_topi (fun y24 ey24 => ?_)
    have h := h y24 ey24
    refine lv_istore (lv' := [(5, .int y24), (4, .int y22), (0, .ref (ad 5)), (1, .int a1), (2, .int a2), (3, .int a3)]) hx hb dX0_reachByUndoing_36 hl (by decide) rfl (fun ls hl => ?_)
    refine lv_aload_n hx hb dX0_reachByUndoing_38 rfl (lv_at hl 2 rfl) ?_
    refine gg_X0_latest hC hI gw_1_109 dX0_reachByUndoing_39 ?_
    refine lv_iload_n hx hb dX0_reachByUndoing_42 rfl (lv_at hl 3 rfl) ?_
    obtain ⟨hi25, h⟩ := h
    refine ga_35 hC hI hi25 dX0_reachByUndoing_43 ?_
    refine lv_aload_n hx hb dX0_reachByUndoing_44 rfl (lv_at hl 2 rfl) ?_
    refine gg_X0_lastMinute hC hI gw_1_103 dX0_reachByUndoing_45 ?_
    refine lv_iload hx hb dX0_reachByUndoing_48 (lv_at hl 1 rfl) ?_
    refine lv_isub hx hb dX0_reachByUndoing_50 ?_
    refine va_mmin hx hb (by rw [hml]; exact hl.1.symm) hC.2.2.2.1 (hC.2.2.1 _ gw_2_140) (hC.2.2.1 _ gw_2_141) (hC.2.2.1 _ gw_1_18) (hC.2.2.1 _ gw_2_142) (Nat.le_of_ble_eq_true rfl) (Nat.le_of_ble_eq_true rfl) (Nat.le_of_ble_eq_true rfl) (Nat.le_of_ble_eq_true rfl) dX0_reachByUndoing_51 ?_
    refine lv_topi (fun y26 ey26 => ?_)
    have h := h y26 ey26
    refine lv_istore (lv' := [(6, .int y26), (5, .int y24), (4, .int y22), (0, .ref (ad 5)), (1, .int a1), (2, .int a2), (3, .int a3)]) hx hb dX0_reachByUndoing_54 hl (by decide) rfl (fun ls hl => ?_)
    obtain ⟨n9, h⟩ := h
    exact J56 n9 _ _ _ _ _ _ _ _ _ _ h hI (lv_sub hl [3, 4, 5, 6, 2, 1, 0] rfl)
  · have h := h.2 c19
    exact g_vret hC hr hlocks hI h dX0_reachByUndoing_9

theorem dX0_findStart_0 : decode cX0_findStart 0 = .ok (.aload_n 0, 1) := by decide +kernel
theorem dX0_findStart_1 : decode cX0_findStart 1 = .ok (.invokevirtual 88, 3) := by decide +kernel
theorem dX0_findStart_4 : decode cX0_findStart 4 = .ok (.istore_n 1, 1) := by decide +kernel
theorem dX0_findStart_5 : decode cX0_findStart 5 = .ok (.iconst 0, 1) := by decide +kernel
theorem dX0_findStart_6 : decode cX0_findStart 6 = .ok (.istore_n 2, 1) := by decide +kernel
theorem dX0_findStart_7 : decode cX0_findStart 7 = .ok (.iload_n 2, 1) := by decide +kernel
theorem dX0_findStart_8 : decode cX0_findStart 8 = .ok (.sipush 320, 3) := by decide +kernel
theorem dX0_findStart_11 : decode cX0_findStart 11 = .ok (.if_icmp .gt 139, 3) := by decide +kernel
theorem dX0_findStart_14 : decode cX0_findStart 14 = .ok (.iload_n 1, 1) := by decide +kernel
theorem dX0_findStart_15 : decode cX0_findStart 15 = .ok (.iconst (-1), 1) := by decide +kernel
theorem dX0_findStart_16 : decode cX0_findStart 16 = .ok (.if_icmp .ne 134, 3) := by decide +kernel
theorem dX0_findStart_19 : decode cX0_findStart 19 = .ok (.aload_n 0, 1) := by decide +kernel
theorem dX0_findStart_20 : decode cX0_findStart 20 = .ok (.invokevirtual 91, 3) := by decide +kernel
theorem dX0_findStart_23 : decode cX0_findStart 23 = .ok (.istore_n 3, 1) := by decide +kernel
theorem dX0_findStart_24 : decode cX0_findStart 24 = .ok (.iload_n 3, 1) := by decide +kernel
theorem dX0_findStart_25 : decode cX0_findStart 25 = .ok (.iconst (-1), 1) := by decide +kernel
theorem dX0_findStart_26 : decode cX0_findStart 26 = .ok (.if_icmp .ne 5, 3) := by decide +kernel
theorem dX0_findStart_29 : decode cX0_findStart 29 = .ok (.iconst (-1), 1) := by decide +kernel
theorem dX0_findStart_30 : decode cX0_findStart 30 = .ok (.ireturn, 1) := by decide +kernel
theorem dX0_findStart_31 : decode cX0_findStart 31 = .ok (.aload_n 0, 1) := by decide +kernel
theorem dX0_findStart_32 : decode cX0_findStart 32 = .ok (.iload_n 3, 1) := by decide +kernel
theorem dX0_findStart_33 : decode cX0_findStart 33 = .ok (.invokevirtual 94, 3) := by decide +kernel
theorem dX0_findStart_36 : decode cX0_findStart 36 = .ok (.aload_n 0, 1) := by decide +kernel
theorem dX0_findStart_37 : decode cX0_findStart 37 = .ok (.getfield 32, 3) := by decide +kernel
theorem dX0_findStart_40 : decode cX0_findStart 40 = .ok (.iload_n 3, 1) := by decide +kernel
theorem dX0_findStart_41 : decode cX0_findStart 41 = .ok (.iconst 0, 1) := by decide +kernel
theorem dX0_findStart_42 : decode cX0_findStart 42 = .ok (.bastore, 1) := by decide +kernel
theorem dX0_findStart_43 : decode cX0_findStart 43 = .ok (.iconst 0, 1) := by decide +kernel
theorem dX0_findStart_44 : decode cX0_findStart 44 = .ok (.istore 4, 2) := by decide +kernel
theorem dX0_findStart_46 : decode cX0_findStart 46 = .ok (.iload 4, 2) := by decide +kernel
theorem dX0_findStart_48 : decode cX0_findStart 48 = .ok (.aload_n 0, 1) := by decide +kernel
theorem dX0_findStart_49 : decode cX0_findStart 49 = .ok (.getfield 45, 3) := by decide +kernel
theorem dX0_findStart_52 : decode cX0_findStart 52 = .ok (.getfield 97, 3) := by decide +kernel
theorem dX0_findStart_55 : decode cX0_findStart 55 = .ok (.iload_n 3, 1) := by decide +kernel
theorem dX0_findStart_56 : decode cX0_findStart 56 = .ok (.iaload, 1) := by decide +kernel
theorem dX0_findStart_57 : decode cX0_findStart 57 = .ok (.if_icmp .ge 87, 3) := by decide +kernel
theorem dX0_findStart_60 : decode cX0_findStart 60 = .ok (.iload_n 1, 1) := by decide +kernel
theorem dX0_findStart_61 : decode cX0_findStart 61 = .ok (.iconst (-1), 1) := by decide +kernel
theorem dX0_findStart_62 : decode cX0_findStart 62 = .ok (.if_icmp .ne 82, 3) := by decide +kernel
theorem dX0_findStart_65 : decode cX0_findStart 65 = .ok (.aload_n 0, 1) := by decide +kernel
theorem dX0_findStart_66 : decode cX0_findStart 66 = .ok (.getfield 45, 3) := by decide +kernel
theorem dX0_findStart_69 : decode cX0_findStart 69 = .ok (.getfield 100, 3) := by decide +kernel
theorem dX0_findStart_72 : decode cX0_findStart 72 = .ok (.bipush 14, 2) := by decide +kernel
theorem dX0_findStart_74 : decode cX0_findStart 74 = .ok (.iload_n 3, 1) := by decide +kernel
theorem dX0_findStart_75 : decode cX0_findStart 75 = .ok (.imul, 1) := by decide +kernel
theorem dX0_findStart_76 : decode cX0_findStart 76 = .ok (.iload 4, 2) := by decide +kernel
theorem dX0_findStart_78 : decode cX0_findStart 78 = .ok (.iadd, 1) := by decide +kernel
theorem dX0_findStart_79 : decode cX0_findStart 79 = .ok (.iaload, 1) := by decide +kernel
theorem dX0_findStart_80 : decode cX0_findStart 80 = .ok (.istore 5, 2) := by decide +kernel
theorem dX0_findStart_82 : decode cX0_findStart 82 = .ok (.aload_n 0, 1) := by decide +kernel
theorem dX0_findStart_83 : decode cX0_findStart 83 = .ok (.getfield 45, 3) := by decide +kernel
theorem dX0_findStart_86 : decode cX0_findStart 86 = .ok (.getfield 103, 3) := by decide +kernel
theorem dX0_findStart_89 : decode cX0_findStart 89 = .ok (.iload 5, 2) := by decide +kernel
theorem dX0_findStart_91 : decode cX0_findStart 91 = .ok (.iaload, 1) := by decide +kernel
theorem dX0_findStart_92 : decode cX0_findStart 92 = .ok (.istore 6, 2) := by decide +kernel
theorem dX0_findStart_94 : decode cX0_findStart 94 = .ok (.aload_n 0, 1) := by decide +kernel
theorem dX0_findStart_95 : decode cX0_findStart 95 = .ok (.iload_n 3, 1) := by decide +kernel
theorem dX0_findStart_96 : decode cX0_findStart 96 = .ok (.iload 6, 2) := by decide +kernel
theorem dX0_findStart_98 : decode cX0_findStart 98 = .ok (.iload 5, 2) := by decide +kernel
theorem dX0_findStart_100 : decode cX0_findStart 100 = .ok (.iconst 1, 1) := by decide +kernel
theorem dX0_findStart_101 : decode cX0_findStart 101 = .ok (.ixor, 1) := by decide +kernel
theorem dX0_findStart_102 : decode cX0_findStart 102 = .ok (.invokevirtual 106, 3) := by decide +kernel
theorem dX0_findStart_105 : decode cX0_findStart 105 = .ok (.aload_n 0, 1) := by decide +kernel
theorem dX0_findStart_106 : decode cX0_findStart 106 = .ok (.iload_n 3, 1) := by decide +kernel
theorem dX0_findStart_107 : decode cX0_findStart 107 = .ok (.iload 6, 2) := by decide +kernel
theorem dX0_findStart_109 : decode cX0_findStart 109 = .ok (.iload 5, 2) := by decide +kernel
theorem dX0_findStart_111 : decode cX0_findStart 111 = .ok (.invokevirtual 110, 3) := by decide +kernel
theorem dX0_findStart_114 : decode cX0_findStart 114 = .ok (.aload_n 0, 1) := by decide +kernel
theorem dX0_findStart_115 : decode cX0_findStart 115 = .ok (.getfield 29, 3) := by decide +kernel
theorem dX0_findStart_118 : decode cX0_findStart 118 = .ok (.iload 6, 2) := by decide +kernel
theorem dX0_findStart_120 : decode cX0_findStart 120 = .ok (.iaload, 1) := by decide +kernel
theorem dX0_findStart_121 : decode cX0_findStart 121 = .ok (.iconst (-1), 1) := by decide +kernel
theorem dX0_findStart_122 : decode cX0_findStart 122 = .ok (.if_icmp .eq 16, 3) := by decide +kernel
theorem dX0_findStart_125 : decode cX0_findStart 125 = .ok (.aload_n 0, 1) := by decide +kernel
theorem dX0_findStart_126 : decode cX0_findStart 126 = .ok (.getfield 23, 3) := by decide +kernel
theorem dX0_findStart_129 : decode cX0_findStart 129 = .ok (.iload 6, 2) := by decide +kernel
theorem dX0_findStart_131 : decode cX0_findStart 131 = .ok (.iaload, 1) := by decide +kernel
theorem dX0_findStart_132 : decode cX0_findStart 132 = .ok (.ifCond .le 6, 3) := by decide +kernel
theorem dX0_findStart_135 : decode cX0_findStart 135 = .ok (.iload 6, 2) := by decide +kernel
theorem dX0_findStart_137 : decode cX0_findStart 137 = .ok (.istore_n 1, 1) := by decide +kernel
theorem dX0_findStart_138 : decode cX0_findStart 138 = .ok (.iinc 4 1, 3) := by decide +kernel
theorem dX0_findStart_141 : decode cX0_findStart 141 = .ok (.goto (-95), 3) := by decide +kernel
theorem dX0_findStart_144 : decode cX0_findStart 144 = .ok (.iinc 2 1, 3) := by decide +kernel
theorem dX0_findStart_147 : decode cX0_findStart 147 = .ok (.goto (-140), 3) := by decide +kernel
theorem dX0_findStart_150 : decode cX0_findStart 150 = .ok (.iload_n 1, 1) := by decide +kernel
theorem dX0_findStart_151 : decode cX0_findStart 151 = .ok (.ireturn, 1) := by decide +kernel
def w_X0_findStart_46 (Q : Int32 → gS → Prop) (k7 : Int32 → Int32 → gS → Prop) : Nat → Int32 → Int32 → Int32 → Int32 → gS → Prop
  | 0, _, _, _, _, _ => False
  | n46 + 1, x1, x2, x3, x4, σ =>
    ¬ σ 35 0 = 0 ∧ vp_in x3 8 ∧ ((σ 32 x3.toNatClampNeg) ≤ x4 → ∀ y12 : Int32, y12 = x2 + 1 → k7 x1 y12 σ) ∧ (¬ (σ 32 x3.toNatClampNeg) ≤ x4 → (¬ x1 = (-1) → ∀ y14 : Int32, y14 = x2 + 1 → k7 x1 y14 σ) ∧ (x1 = (-1) → ¬ σ 35 0 = 0 ∧ vp_in ((14 * x3) + x4) 112 ∧ ∀ y17 : Int32, y17 = (σ 31 ((14 * x3) + x4).toNatClampNeg) → ¬ σ 35 0 = 0 ∧ vp_in y17 28 ∧ ∀ y20 : Int32, y20 = (σ 27 y17.toNatClampNeg) → w_X0_reachByArc  (fun (s21 : gS) => w_X0_reachByUndoing  (fun (s23 : gS) => vp_in y20 8 ∧ ((s23 42 y20.toNatClampNeg) = (-1) → ∀ y27 : Int32, y27 = x4 + 1 → w_X0_findStart_46 Q k7 n46 x1 x2 x3 y27 s23) ∧ (¬ (s23 42 y20.toNatClampNeg) = (-1) → vp_in y20 8 ∧ ((s23 40 y20.toNatClampNeg) ≤ 0 → ∀ y30 : Int32, y30 = x4 + 1 → w_X0_findStart_46 Q k7 n46 x1 x2 x3 y30 s23) ∧ (¬ (s23 40 y20.toNatClampNeg) ≤ 0 → ∀ y31 : Int32, y31 = x4 + 1 → w_X0_findStart_46 Q k7 n46 y20 x2 x3 y31 s23))) s21 x3 y20 y17) σ x3 y20 (y17 ^^^ 1)))
def w_X0_findStart_7 (Q : Int32 → gS → Prop) : Nat → Int32 → Int32 → gS → Prop
  | 0, _, _, _ => False
  | n7 + 1, x1, x2, σ =>
    (320 < x2 → Q x1 σ) ∧ (¬ 320 < x2 → (¬ x1 = (-1) → Q x1 σ) ∧ (x1 = (-1) → w_X0_latestNew  (fun (r35 : Int32) (s34 : gS) => (¬ r35 = (-1) → w_X0_reachByWaitingLess  (fun (s37 : gS) => vp_in r35 8 ∧ ∀ s40 : gS, s40 = gu s37 43 r35.toNatClampNeg (vp_nar .boolean 0) → ∃ n46, w_X0_findStart_46 Q (w_X0_findStart_7 Q n7) n46 x1 x2 r35 0 s40) s34 r35) ∧ (r35 = (-1) → Q (-1) s34)) σ))
def w_X0_findStart (Q : Int32 → gS → Prop) (σ : gS) : Prop :=
    w_X0_reachGates  (fun (r42 : Int32) (s41 : gS) => ∃ n7, w_X0_findStart_7 Q n7 r42 0 s41) σ
abbrev ws_X0_findStart : List Cond := Cond.code yX0_findStart cX0_findStart 7 (some .int) :: gG
abbrev rm_X0_findStart : Room := { frames := 2, cells := 0, slots := 0, locals := 54 }
theorem k_X0_findStart : gCV yX0_findStart RX0 cX0_findStart 7 (some .int) 0 := ⟨gw_2_122, gwp_2, gw_1_7, gw_2_123, rfl, by decide +kernel⟩
set_option maxHeartbeats 4000000 in
set_option maxRecDepth 100000 in
theorem c_X0_findStart (l : Launch) (D : va_G) (cy : Nat → ClassId) (ad : Nat → Nat) (A : Nat → Prop) (Q : Int32 → gS → Prop) (σ : gS) (h : w_X0_findStart Q σ) : Met l yX0_findStart ws_X0_findStart rm_X0_findStart (va_Pc [.ref (ad 5)] (gB D cy ad A σ)) (va_Qi Q (gB D cy ad A) A) 0 0 A := by
  refine Met.ofW (cc := cX0_findStart) (maxL := 7) (ret := (some .int)) (by decide) rfl ?_
  intro p e s m args below meth c s₁ B hml hv
  obtain ⟨rfl, hB⟩ := hv
  have hC : gC p c cX0_findStart s m ([.ref (ad 5)] : List Value).toArray RX0 D cy ad A := g_start B hB
  have hI := g_first hB
  have hx := hC.1
  have hb := hC.2.1
  have hr := B.returns
  have hlocks := B.notSynchronized
  clear B hB
  have J7 : ∀ (n7 : Nat) (x1 : Int32) (x2 : Int32) (σ : gS) (H : Heap) (locs : List Loc) (ls : Array Slot), w_X0_findStart_7 Q n7 x1 x2 σ → gI D cy ad A s.heap σ H locs → lv_has ls 7 [(0, .ref (ad 5)), (1, .int x1), (2, .int x2)] → W p l e (headSpec ws_X0_findStart rm_X0_findStart).room s m ([.ref (ad 5)] : List Value).toArray below meth c H locs 0 0 (MQ below (va_Qi Q (gB D cy ad A) A) ([.ref (ad 5)] : List Value).toArray s 0 0 A) (F0 m 7 ls []) := by
    intro n7
    induction n7 with
    | zero => intro x1 x2 σ H locs ls h; exact absurd h (fun h => h)
    | succ n7 ih7 =>
      have J46 : ∀ (n46 : Nat) (x1 : Int32) (x2 : Int32) (x3 : Int32) (x4 : Int32) (σ : gS) (H : Heap) (locs : List Loc) (ls : Array Slot), w_X0_findStart_46 Q (w_X0_findStart_7 Q n7) n46 x1 x2 x3 x4 σ → gI D cy ad A s.heap σ H locs → lv_has ls 7 [(0, .ref (ad 5)), (1, .int x1), (2, .int x2), (3, .int x3), (4, .int x4)] → W p l e (headSpec ws_X0_findStart rm_X0_findStart).room s m ([.ref (ad 5)] : List Value).toArray below meth c H locs 0 0 (MQ below (va_Qi Q (gB D cy ad A) A) ([.ref (ad 5)] : List Value).toArray s 0 0 A) (F0 m 46 ls []) := by
        intro n46
        induction n46 with
        | zero => intro x1 x2 x3 x4 σ H locs ls h; exact absurd h (fun h => h)
        | succ n46 ih46 =>
          intro x1 x2 x3 x4 σ H locs ls h hI hl
          unfold w_X0_findStart_46 at h
          refine lv_iload hx hb dX0_findStart_46 (lv_at hl 4 rfl) ?_
          refine lv_aload_n hx hb dX0_findStart_48 rfl (lv_at hl 0 rfl) ?_
          obtain ⟨hz9, h⟩ := h
          refine gg_X0_ground hC hI gw_1_102 dX0_findStart_49 hz9 ?_
          refine gg_X2_arcCounts hC hI gw_1_160 dX0_findStart_52 ?_
          refine lv_iload_n hx hb dX0_findStart_55 rfl (lv_at hl 3 rfl) ?_
          obtain ⟨hi10, h⟩ := h
          refine ga_29 hC hI hi10 dX0_findStart_56 ?_
          refine lv_icmp_ge (tgt := 144) hx hb dX0_findStart_57 (by decide) (fun c11 => ?_) (fun c11 => ?_)
          · have h := h.1 c11
            obtain ⟨y12, ey12⟩ : ∃ y : Int32, y = x2 + 1 := ⟨_, rfl⟩
            have h := h y12 ey12
            refine lv_iinc (v := y12) (lv' := [(2, .int y12), (0, .ref (ad 5)), (1, .int x1), (3, .int x3), (4, .int x4)]) hx hb dX0_findStart_144 hl (k := 2) rfl (by rw [ey12]; rfl) (by decide) rfl (fun ls hl => ?_)
            refine lv_goto (tgt := 7) hx hb dX0_findStart_147 (by decide) ?_
            exact ih7 _ _ _ _ _ _ h hI (lv_sub hl [1, 2, 0] rfl)
          · have h := h.2 c11
            refine lv_iload_n hx hb dX0_findStart_60 rfl (lv_at hl 1 rfl) ?_
            refine lv_iconst (v := (-1)) hx hb dX0_findStart_61 (by decide) ?_
            refine lv_icmp_ne (tgt := 144) hx hb dX0_findStart_62 (by decide) (fun c13 => ?_) (fun c13 => ?_)
            · have h := h.1 c13
              obtain ⟨y14, ey14⟩ : ∃ y : Int32, y = x2 + 1 := ⟨_, rfl⟩
              have h := h y14 ey14
              refine lv_iinc (v := y14) (lv' := [(2, .int y14), (0, .ref (ad 5)), (1, .int x1), (3, .int x3), (4, .int x4)]) hx hb dX0_findStart_144 hl (k := 2) rfl (by rw [ey14]; rfl) (by decide) rfl (fun ls hl => ?_)
              refine lv_goto (tgt := 7) hx hb dX0_findStart_147 (by decide) ?_
              exact ih7 _ _ _ _ _ _ h hI (lv_sub hl [1, 2, 0] rfl)
            · have h := h.2 c13
              refine lv_aload_n hx hb dX0_findStart_65 rfl (lv_at hl 0 rfl) ?_
              obtain ⟨hz15, h⟩ := h
              refine gg_X0_ground hC hI gw_1_102 dX0_findStart_66 hz15 ?_
              refine gg_X2_arcsFrom hC hI gw_1_158 dX0_findStart_69 ?_
              refine lv_bipush (v := 14) hx hb dX0_findStart_72 (by decide) ?_
              refine lv_iload_n hx hb dX0_findStart_74 rfl (lv_at hl 3 rfl) ?_
              refine lv_imul hx hb dX0_findStart_75 ?_
              refine lv_iload hx hb dX0_findStart_76 (lv_at hl 4 rfl) ?_
              refine lv_iadd hx hb dX0_findStart_78 ?_
              obtain ⟨hi16, h⟩ := h
              refine ga_28 hC hI hi16 dX0_findStart_79 ?_
              refine lv_topi (fun y17 ey17 => ?_)
              have h := h y17 ey17
              refine lv_istore (lv' := [(5, .int y17), (0, .ref (ad 5)), (1, .int x1), (2, .int x2), (3, .int x3), (4, .int x4)]) hx hb dX0_findStart_80 hl (by decide) rfl (fun ls hl => ?_)
              refine lv_aload_n hx hb dX0_findStart_82 rfl (lv_at hl 1 rfl) ?_
              obtain ⟨hz18, h⟩ := h
              refine gg_X0_ground hC hI gw_1_102 dX0_findStart_83 hz18 ?_
              refine gg_X2_heads hC hI gw_1_149 dX0_findStart_86 ?_
              refine lv_iload hx hb dX0_findStart_89 (lv_at hl 0 rfl) ?_
              obtain ⟨hi19, h⟩ := h
              refine ga_25 hC hI hi19 dX0_findStart_91 ?_
              refine lv_topi (fun y20 ey20 => ?_)
              have h := h y20 ey20
              refine lv_istore (lv' := [(6, .int y20), (5, .int y17), (0, .ref (ad 5)), (1, .int x1), (2, .int x2), (3, .int x3), (4, .int x4)]) hx hb dX0_findStart_92 hl (by decide) rfl (fun ls hl => ?_)
              refine lv_aload_n hx hb dX0_findStart_94 rfl (lv_at hl 2 rfl) ?_
              refine lv_iload_n hx hb dX0_findStart_95 rfl (lv_at hl 5 rfl) ?_
              refine lv_iload hx hb dX0_findStart_96 (lv_at hl 0 rfl) ?_
              refine lv_iload hx hb dX0_findStart_98 (lv_at hl 1 rfl) ?_
              refine lv_iconst (v := 1) hx hb dX0_findStart_100 (by decide) ?_
              refine lv_ixor hx hb dX0_findStart_101 ?_
              refine g_backv hI (g_runV (As := [.int x3, .int y20, .int (y17 ^^^ 1)]) (rest := []) hC hml hI (c_X0_reachByArc l D cy ad A _  _ _ _ _ h) k_X0_reachByArc gw_2_143 ⟨rfl, rfl⟩ ⟨Nat.le_of_ble_eq_true rfl, Nat.le_of_ble_eq_true rfl⟩ (grv_5 hC hI) rfl hl.1 rfl (Nat.le_of_ble_eq_true rfl) dX0_findStart_102 ⟨Nat.le_of_ble_eq_true rfl, Nat.le_of_ble_eq_true rfl⟩) (fun s21 H locs h hI => ?_)
              refine lv_aload_n hx hb dX0_findStart_105 rfl (lv_at hl 2 rfl) ?_
              refine lv_iload_n hx hb dX0_findStart_106 rfl (lv_at hl 5 rfl) ?_
              refine lv_iload hx hb dX0_findStart_107 (lv_at hl 0 rfl) ?_
              refine lv_iload hx hb dX0_findStart_109 (lv_at hl 1 rfl) ?_
              refine g_backv hI (g_runV (As := [.int x3, .int y20, .int y17]) (rest := []) hC hml hI (c_X0_reachByUndoing l D cy ad A _  _ _ _ _ h) k_X0_reachByUndoing gw_2_151 ⟨rfl, rfl⟩ ⟨Nat.le_of_ble_eq_true rfl, Nat.le_of_ble_eq_true rfl⟩ (grv_5 hC hI) rfl hl.1 rfl (Nat.le_of_ble_eq_true rfl) dX0_findStart_111 ⟨Nat.le_of_ble_eq_true rfl, Nat.le_of_ble_eq_true rfl⟩) (fun s23 H locs h hI => ?_)
              refine lv_aload_n hx hb dX0_findStart_114 rfl (lv_at hl 2 rfl) ?_
              refine gg_X0_latest hC hI gw_1_109 dX0_findStart_115 ?_
              refine lv_iload hx hb dX0_findStart_118 (lv_at hl 0 rfl) ?_
              obtain ⟨hi25, h⟩ := h
              refine ga_35 hC hI hi25 dX0_findStart_120 ?_
              refine lv_iconst (v := (-1)) hx hb dX0_findStart_121 (by decide) ?_
              refine lv_icmp_eq (tgt := 138) hx hb dX0_findStart_122 (by decide) (fun c26 => ?_) (fun c26 => ?_)
              · have h := h.1 c26
                obtain ⟨y27, ey27⟩ : ∃ y : Int32, y = x4 + 1 := ⟨_, rfl⟩
                have h := h y27 ey27
                refine lv_iinc (v := y27) (lv' := [(4, .int y27), (6, .int y20), (5, .int y17), (0, .ref (ad 5)), (1, .int x1), (2, .int x2), (3, .int x3)]) hx hb dX0_findStart_138 hl (k := 6) rfl (by rw [ey27]; rfl) (by decide) rfl (fun ls hl => ?_)
                refine lv_goto (tgt := 46) hx hb dX0_findStart_141 (by decide) ?_
                exact ih46 _ _ _ _ _ _ _ _ h hI (lv_sub hl [3, 4, 5, 6, 0] rfl)
              · have h := h.2 c26
                refine lv_aload_n hx hb dX0_findStart_125 rfl (lv_at hl 2 rfl) ?_
                refine gg_X0_unsent hC hI gw_1_107 dX0_findStart_126 ?_
                refine lv_iload hx hb dX0_findStart_129 (lv_at hl 0 rfl) ?_
                obtain ⟨hi28, h⟩ := h
                refine ga_33 hC hI hi28 dX0_findStart_131 ?_
                refine lv_if_le (tgt := 138) hx hb dX0_findStart_132 (by decide) (fun c29 => ?_) (fun c29 => ?_)
                · have h := h.1 c29
                  obtain ⟨y30, ey30⟩ : ∃ y : Int32, y = x4 + 1 := ⟨_, rfl⟩
                  have h := h y30 ey30
                  refine lv_iinc (v := y30) (lv' := [(4, .int y30), (6, .int y20), (5, .int y17), (0, .ref (ad 5)), (1, .int x1), (2, .int x2), (3, .int x3)]) hx hb dX0_findStart_138 hl (k := 6) rfl (by rw [ey30]; rfl) (by decide) rfl (fun ls hl => ?_)
                  refine lv_goto (tgt := 46) hx hb dX0_findStart_141 (by decide) ?_
                  exact ih46 _ _ _ _ _ _ _ _ h hI (lv_sub hl [3, 4, 5, 6, 0] rfl)
                · have h := h.2 c29
                  refine lv_iload hx hb dX0_findStart_135 (lv_at hl 0 rfl) ?_
                  refine lv_istore_n (lv' := [(1, .int y20), (6, .int y20), (5, .int y17), (0, .ref (ad 5)), (2, .int x2), (3, .int x3), (4, .int x4)]) hx hb dX0_findStart_137 rfl hl (by decide) rfl (fun ls hl => ?_)
                  obtain ⟨y31, ey31⟩ : ∃ y : Int32, y = x4 + 1 := ⟨_, rfl⟩
                  have h := h y31 ey31
                  refine lv_iinc (v := y31) (lv' := [(4, .int y31), (1, .int y20), (6, .int y20), (5, .int y17), (0, .ref (ad 5)), (2, .int x2), (3, .int x3)]) hx hb dX0_findStart_138 hl (k := 6) rfl (by rw [ey31]; rfl) (by decide) rfl (fun ls hl => ?_)
                  refine lv_goto (tgt := 46) hx hb dX0_findStart_141 (by decide) ?_
                  exact ih46 _ _ _ _ _ _ _ _ h hI (lv_sub hl [4, 1, 5, 6, 0] rfl)
      intro x1 x2 σ H locs ls h hI hl
      unfold w_X0_findStart_7 at h
      refine lv_iload_n hx hb dX0_findStart_7 rfl (lv_at hl 2 rfl) ?_
      refine lv_sipush (v := 320) hx hb dX0_findStart_8 (by decide) ?_
      refine lv_icmp_gt (tgt := 150) hx hb dX0_findStart_11 (by decide) (fun c32 => ?_) (fun c32 => ?_)
      · have h := h.1 c32
        refine lv_iload_n hx hb dX0_findStart_150 rfl (lv_at hl 1 rfl) ?_
        exact g_iret hC hr hlocks hI h dX0_findStart_151
      · have h := h.2 c32
        refine lv_iload_n hx hb dX0_findStart_14 rfl (lv_at hl 1 rfl) ?_
        refine lv_iconst (v := (-1)) hx hb dX0_findStart_15 (by decide) ?_
        refine lv_icmp_ne (tgt := 150) hx hb dX0_findStart_16 (by decide) (fun c33 => ?_) (fun c33 => ?_)
        · have h := h.1 c33
          refine lv_iload_n hx hb dX0_findStart_150 rfl (lv_at hl 1 rfl) ?_
          exact g_iret hC hr hlocks hI h dX0_findStart_151
        · have h := h.2 c33
          refine lv_aload_n hx hb dX0_findStart_19 rfl (lv_at hl 0 rfl) ?_
          refine g_backi hI (g_runV (As := []) (rest := []) hC hml hI (c_X0_latestNew l D cy ad A _  _ h) k_X0_latestNew gw_2_132 ⟨rfl, rfl⟩ ⟨Nat.le_of_ble_eq_true rfl, Nat.le_of_ble_eq_true rfl⟩ (grv_5 hC hI) rfl hl.1 rfl (Nat.le_of_ble_eq_true rfl) dX0_findStart_20 ⟨Nat.le_of_ble_eq_true rfl, Nat.le_of_ble_eq_true rfl⟩) (fun r35 s34 H locs h hI => ?_)
          refine lv_istore_n (lv' := [(3, .int r35), (0, .ref (ad 5)), (1, .int x1), (2, .int x2)]) hx hb dX0_findStart_23 rfl hl (by decide) rfl (fun ls hl => ?_)
          refine lv_iload_n hx hb dX0_findStart_24 rfl (lv_at hl 0 rfl) ?_
          refine lv_iconst (v := (-1)) hx hb dX0_findStart_25 (by decide) ?_
          refine lv_icmp_ne (tgt := 31) hx hb dX0_findStart_26 (by decide) (fun c36 => ?_) (fun c36 => ?_)
          · have h := h.1 c36
            refine lv_aload_n hx hb dX0_findStart_31 rfl (lv_at hl 1 rfl) ?_
            refine lv_iload_n hx hb dX0_findStart_32 rfl (lv_at hl 0 rfl) ?_
            refine g_backv hI (g_runV (As := [.int r35]) (rest := []) hC hml hI (c_X0_reachByWaitingLess l D cy ad A _  _ _ h) k_X0_reachByWaitingLess gw_2_136 ⟨rfl, rfl⟩ ⟨Nat.le_of_ble_eq_true rfl, Nat.le_of_ble_eq_true rfl⟩ (grv_5 hC hI) rfl hl.1 rfl (Nat.le_of_ble_eq_true rfl) dX0_findStart_33 ⟨Nat.le_of_ble_eq_true rfl, Nat.le_of_ble_eq_true rfl⟩) (fun s37 H locs h hI => ?_)
            refine lv_aload_n hx hb dX0_findStart_36 rfl (lv_at hl 1 rfl) ?_
            refine gg_X0_isNew hC hI gw_1_110 dX0_findStart_37 ?_
            refine lv_iload_n hx hb dX0_findStart_40 rfl (lv_at hl 0 rfl) ?_
            refine lv_iconst (v := 0) hx hb dX0_findStart_41 (by decide) ?_
            obtain ⟨hi39, h⟩ := h
            refine gs_36 hC hI hi39 dX0_findStart_42 (fun s40 H locs es40 hI => ?_)
            have h := h s40 es40
            refine lv_iconst (v := 0) hx hb dX0_findStart_43 (by decide) ?_
            refine lv_istore (lv' := [(4, .int 0), (3, .int r35), (0, .ref (ad 5)), (1, .int x1), (2, .int x2)]) hx hb dX0_findStart_44 hl (by decide) rfl (fun ls hl => ?_)
            obtain ⟨n9, h⟩ := h
            exact J46 n9 _ _ _ _ _ _ _ _ h hI (lv_sub hl [2, 3, 4, 1, 0] rfl)
          · have h := h.2 c36
            refine lv_iconst (v := (-1)) hx hb dX0_findStart_29 (by decide) ?_
            exact g_iret hC hr hlocks hI h dX0_findStart_30
  have hl := lv_entry ([.ref (ad 5)]) (n := 7) (Nat.le_of_ble_eq_true rfl)
  rw [lg_entry_eq]
  generalize (lg_sl ([.ref (ad 5)]) ++ List.replicate (7 - (lg_sl ([.ref (ad 5)])).length) Slot.unset).toArray = ls at hl ⊢
  have hl : lv_has ls 7 [(0, .ref (ad 5))] := hl
  unfold w_X0_findStart at h
  refine lv_aload_n hx hb dX0_findStart_0 rfl (lv_at hl 0 rfl) ?_
  refine g_backi hI (g_runV (As := []) (rest := []) hC hml hI (c_X0_reachGates l D cy ad A _  _ h) k_X0_reachGates gw_2_124 ⟨rfl, rfl⟩ ⟨Nat.le_of_ble_eq_true rfl, Nat.le_of_ble_eq_true rfl⟩ (grv_5 hC hI) rfl hl.1 rfl (Nat.le_of_ble_eq_true rfl) dX0_findStart_1 ⟨Nat.le_of_ble_eq_true rfl, Nat.le_of_ble_eq_true rfl⟩) (fun r42 s41 H locs h hI => ?_)
  refine lv_istore_n (lv' := [(1, .int r42), (0, .ref (ad 5))]) hx hb dX0_findStart_4 rfl hl (by decide) rfl (fun ls hl => ?_)
  refine lv_iconst (v := 0) hx hb dX0_findStart_5 (by decide) ?_
  refine lv_istore_n (lv' := [(2, .int 0), (1, .int r42), (0, .ref (ad 5))]) hx hb dX0_findStart_6 rfl hl (by decide) rfl (fun ls hl => ?_)
  obtain ⟨n9, h⟩ := h
  exact J7 n9 _ _ _ _ _ _ h hI (lv_sub hl [2, 1, 0] rfl)

theorem dX0_letWait_0 : decode cX0_letWait 0 = .ok (.iload_n 2, 1) := by decide +kernel
theorem dX0_letWait_1 : decode cX0_letWait 1 = .ok (.istore 5, 2) := by decide +kernel
theorem dX0_letWait_3 : decode cX0_letWait 3 = .ok (.iload 5, 2) := by decide +kernel
theorem dX0_letWait_5 : decode cX0_letWait 5 = .ok (.iload_n 3, 1) := by decide +kernel
theorem dX0_letWait_6 : decode cX0_letWait 6 = .ok (.if_icmp .ge 26, 3) := by decide +kernel
theorem dX0_letWait_9 : decode cX0_letWait 9 = .ok (.aload_n 0, 1) := by decide +kernel
theorem dX0_letWait_10 : decode cX0_letWait 10 = .ok (.getfield 17, 3) := by decide +kernel
theorem dX0_letWait_13 : decode cX0_letWait 13 = .ok (.bipush 40, 2) := by decide +kernel
theorem dX0_letWait_15 : decode cX0_letWait 15 = .ok (.iload_n 1, 1) := by decide +kernel
theorem dX0_letWait_16 : decode cX0_letWait 16 = .ok (.imul, 1) := by decide +kernel
theorem dX0_letWait_17 : decode cX0_letWait 17 = .ok (.iload 5, 2) := by decide +kernel
theorem dX0_letWait_19 : decode cX0_letWait 19 = .ok (.iadd, 1) := by decide +kernel
theorem dX0_letWait_20 : decode cX0_letWait 20 = .ok (.dup2, 1) := by decide +kernel
theorem dX0_letWait_21 : decode cX0_letWait 21 = .ok (.iaload, 1) := by decide +kernel
theorem dX0_letWait_22 : decode cX0_letWait 22 = .ok (.iload 4, 2) := by decide +kernel
theorem dX0_letWait_24 : decode cX0_letWait 24 = .ok (.iadd, 1) := by decide +kernel
theorem dX0_letWait_25 : decode cX0_letWait 25 = .ok (.iastore, 1) := by decide +kernel
theorem dX0_letWait_26 : decode cX0_letWait 26 = .ok (.iinc 5 1, 3) := by decide +kernel
theorem dX0_letWait_29 : decode cX0_letWait 29 = .ok (.goto (-26), 3) := by decide +kernel
theorem dX0_letWait_32 : decode cX0_letWait 32 = .ok (.return_, 1) := by decide +kernel
def w_X0_letWait_3 (Q : gS → Prop) : Nat → Int32 → Int32 → Int32 → Int32 → gS → Prop
  | 0, _, _, _, _, _ => False
  | n3 + 1, x1, x3, x4, x5, σ =>
    (x3 ≤ x5 → Q σ) ∧ (¬ x3 ≤ x5 → vp_in ((40 * x1) + x5) 320 ∧ vp_in ((40 * x1) + x5) 320 ∧ ∀ s5 : gS, s5 = gu σ 38 ((40 * x1) + x5).toNatClampNeg ((σ 38 ((40 * x1) + x5).toNatClampNeg) + x4) → ∀ y6 : Int32, y6 = x5 + 1 → w_X0_letWait_3 Q n3 x1 x3 x4 y6 s5)
def w_X0_letWait (Q : gS → Prop) (σ : gS) (a1 : Int32) (a2 : Int32) (a3 : Int32) (a4 : Int32) : Prop :=
    ∃ n3, w_X0_letWait_3 Q n3 a1 a3 a4 a2 σ
abbrev ws_X0_letWait : List Cond := Cond.code yX0_letWait cX0_letWait 6 none :: gG
abbrev rm_X0_letWait : Room := { frames := 0, cells := 0, slots := 0, locals := 0 }
theorem k_X0_letWait : gCV yX0_letWait RX0 cX0_letWait 6 none 4 := ⟨gw_2_165, gwp_11, gw_1_7, gw_2_166, rfl, by decide +kernel⟩
set_option maxHeartbeats 4000000 in
set_option maxRecDepth 100000 in
theorem c_X0_letWait (l : Launch) (D : va_G) (cy : Nat → ClassId) (ad : Nat → Nat) (A : Nat → Prop) (Q : gS → Prop) (σ : gS) (a1 : Int32) (a2 : Int32) (a3 : Int32) (a4 : Int32) (h : w_X0_letWait Q σ a1 a2 a3 a4) : Met l yX0_letWait ws_X0_letWait rm_X0_letWait (va_Pc [.ref (ad 5), .int a1, .int a2, .int a3, .int a4] (gB D cy ad A σ)) (va_Qv Q (gB D cy ad A) A) 0 0 A := by
  refine Met.ofW (cc := cX0_letWait) (maxL := 6) (ret := none) (by decide) rfl ?_
  intro p e s m args below meth c s₁ B hml hv
  obtain ⟨rfl, hB⟩ := hv
  have hC : gC p c cX0_letWait s m ([.ref (ad 5), .int a1, .int a2, .int a3, .int a4] : List Value).toArray RX0 D cy ad A := g_start B hB
  have hI := g_first hB
  have hx := hC.1
  have hb := hC.2.1
  have hr := B.returns
  have hlocks := B.notSynchronized
  clear B hB
  have J3 : ∀ (n3 : Nat) (x1 : Int32) (x3 : Int32) (x4 : Int32) (x5 : Int32) (σ : gS) (H : Heap) (locs : List Loc) (ls : Array Slot), w_X0_letWait_3 Q n3 x1 x3 x4 x5 σ → gI D cy ad A s.heap σ H locs → lv_has ls 6 [(0, .ref (ad 5)), (1, .int x1), (3, .int x3), (4, .int x4), (5, .int x5)] → W p l e (headSpec ws_X0_letWait rm_X0_letWait).room s m ([.ref (ad 5), .int a1, .int a2, .int a3, .int a4] : List Value).toArray below meth c H locs 0 0 (MQ below (va_Qv Q (gB D cy ad A) A) ([.ref (ad 5), .int a1, .int a2, .int a3, .int a4] : List Value).toArray s 0 0 A) (F0 m 3 ls []) := by
    intro n3
    induction n3 with
    | zero => intro x1 x3 x4 x5 σ H locs ls h; exact absurd h (fun h => h)
    | succ n3 ih3 =>
      intro x1 x3 x4 x5 σ H locs ls h hI hl
      unfold w_X0_letWait_3 at h
      refine lv_iload hx hb dX0_letWait_3 (lv_at hl 4 rfl) ?_
      refine lv_iload_n hx hb dX0_letWait_5 rfl (lv_at hl 2 rfl) ?_
      refine lv_icmp_ge (tgt := 32) hx hb dX0_letWait_6 (by decide) (fun c2 => ?_) (fun c2 => ?_)
      · have h := h.1 c2
        exact g_vret hC hr hlocks hI h dX0_letWait_32
      · have h := h.2 c2
        refine lv_aload_n hx hb dX0_letWait_9 rfl (lv_at hl 0 rfl) ?_
        refine gg_X0_waits hC hI gw_1_105 dX0_letWait_10 ?_
        refine lv_bipush (v := 40) hx hb dX0_letWait_13 (by decide) ?_
        refine lv_iload_n hx hb dX0_letWait_15 rfl (lv_at hl 1 rfl) ?_
        refine lv_imul hx hb dX0_letWait_16 ?_
        refine lv_iload hx hb dX0_letWait_17 (lv_at hl 4 rfl) ?_
        refine lv_iadd hx hb dX0_letWait_19 ?_
        refine lv_dup2_11 hx hb dX0_letWait_20 rfl rfl ?_
        obtain ⟨hi3, h⟩ := h
        refine ga_31 hC hI hi3 dX0_letWait_21 ?_
        refine lv_iload hx hb dX0_letWait_22 (lv_at hl 3 rfl) ?_
        refine lv_iadd hx hb dX0_letWait_24 ?_
        obtain ⟨hi4, h⟩ := h
        refine gs_31 hC hI hi4 dX0_letWait_25 (fun s5 H locs es5 hI => ?_)
        have h := h s5 es5
        obtain ⟨y6, ey6⟩ : ∃ y : Int32, y = x5 + 1 := ⟨_, rfl⟩
        have h := h y6 ey6
        refine lv_iinc (v := y6) (lv' := [(5, .int y6), (0, .ref (ad 5)), (1, .int x1), (3, .int x3), (4, .int x4)]) hx hb dX0_letWait_26 hl (k := 4) rfl (by rw [ey6]; rfl) (by decide) rfl (fun ls hl => ?_)
        refine lv_goto (tgt := 3) hx hb dX0_letWait_29 (by decide) ?_
        exact ih3 _ _ _ _ _ _ _ _ h hI (lv_sub hl [1, 2, 3, 4, 0] rfl)
  have hl := lv_entry ([.ref (ad 5), .int a1, .int a2, .int a3, .int a4]) (n := 6) (Nat.le_of_ble_eq_true rfl)
  rw [lg_entry_eq]
  generalize (lg_sl ([.ref (ad 5), .int a1, .int a2, .int a3, .int a4]) ++ List.replicate (6 - (lg_sl ([.ref (ad 5), .int a1, .int a2, .int a3, .int a4])).length) Slot.unset).toArray = ls at hl ⊢
  have hl : lv_has ls 6 [(0, .ref (ad 5)), (1, .int a1), (2, .int a2), (3, .int a3), (4, .int a4)] := hl
  unfold w_X0_letWait at h
  refine lv_iload_n hx hb dX0_letWait_0 rfl (lv_at hl 2 rfl) ?_
  refine lv_istore (lv' := [(5, .int a2), (0, .ref (ad 5)), (1, .int a1), (2, .int a2), (3, .int a3), (4, .int a4)]) hx hb dX0_letWait_1 hl (by decide) rfl (fun ls hl => ?_)
  obtain ⟨n9, h⟩ := h
  exact J3 n9 _ _ _ _ _ _ _ _ h hI (lv_sub hl [1, 2, 4, 5, 0] rfl)

theorem dX0_takeArc_0 : decode cX0_takeArc 0 = .ok (.aload_n 0, 1) := by decide +kernel
theorem dX0_takeArc_1 : decode cX0_takeArc 1 = .ok (.getfield 13, 3) := by decide +kernel
theorem dX0_takeArc_4 : decode cX0_takeArc 4 = .ok (.bipush 40, 2) := by decide +kernel
theorem dX0_takeArc_6 : decode cX0_takeArc 6 = .ok (.iload_n 1, 1) := by decide +kernel
theorem dX0_takeArc_7 : decode cX0_takeArc 7 = .ok (.imul, 1) := by decide +kernel
theorem dX0_takeArc_8 : decode cX0_takeArc 8 = .ok (.iload_n 2, 1) := by decide +kernel
theorem dX0_takeArc_9 : decode cX0_takeArc 9 = .ok (.iadd, 1) := by decide +kernel
theorem dX0_takeArc_10 : decode cX0_takeArc 10 = .ok (.dup2, 1) := by decide +kernel
theorem dX0_takeArc_11 : decode cX0_takeArc 11 = .ok (.iaload, 1) := by decide +kernel
theorem dX0_takeArc_12 : decode cX0_takeArc 12 = .ok (.iload_n 3, 1) := by decide +kernel
theorem dX0_takeArc_13 : decode cX0_takeArc 13 = .ok (.iadd, 1) := by decide +kernel
theorem dX0_takeArc_14 : decode cX0_takeArc 14 = .ok (.iastore, 1) := by decide +kernel
theorem dX0_takeArc_15 : decode cX0_takeArc 15 = .ok (.aload_n 0, 1) := by decide +kernel
theorem dX0_takeArc_16 : decode cX0_takeArc 16 = .ok (.getfield 20, 3) := by decide +kernel
theorem dX0_takeArc_19 : decode cX0_takeArc 19 = .ok (.iload_n 1, 1) := by decide +kernel
theorem dX0_takeArc_20 : decode cX0_takeArc 20 = .ok (.dup2, 1) := by decide +kernel
theorem dX0_takeArc_21 : decode cX0_takeArc 21 = .ok (.iaload, 1) := by decide +kernel
theorem dX0_takeArc_22 : decode cX0_takeArc 22 = .ok (.iload_n 3, 1) := by decide +kernel
theorem dX0_takeArc_23 : decode cX0_takeArc 23 = .ok (.iadd, 1) := by decide +kernel
theorem dX0_takeArc_24 : decode cX0_takeArc 24 = .ok (.iastore, 1) := by decide +kernel
theorem dX0_takeArc_25 : decode cX0_takeArc 25 = .ok (.iload_n 2, 1) := by decide +kernel
theorem dX0_takeArc_26 : decode cX0_takeArc 26 = .ok (.aload_n 0, 1) := by decide +kernel
theorem dX0_takeArc_27 : decode cX0_takeArc 27 = .ok (.getfield 45, 3) := by decide +kernel
theorem dX0_takeArc_30 : decode cX0_takeArc 30 = .ok (.getfield 123, 3) := by decide +kernel
theorem dX0_takeArc_33 : decode cX0_takeArc 33 = .ok (.iload_n 1, 1) := by decide +kernel
theorem dX0_takeArc_34 : decode cX0_takeArc 34 = .ok (.iaload, 1) := by decide +kernel
theorem dX0_takeArc_35 : decode cX0_takeArc 35 = .ok (.iadd, 1) := by decide +kernel
theorem dX0_takeArc_36 : decode cX0_takeArc 36 = .ok (.ireturn, 1) := by decide +kernel
def w_X0_takeArc (Q : Int32 → gS → Prop) (σ : gS) (a1 : Int32) (a2 : Int32) (a3 : Int32) : Prop :=
    vp_in ((40 * a1) + a2) 1120 ∧ vp_in ((40 * a1) + a2) 1120 ∧ ∀ s7 : gS, s7 = gu σ 37 ((40 * a1) + a2).toNatClampNeg ((σ 37 ((40 * a1) + a2).toNatClampNeg) + a3) → vp_in a1 28 ∧ vp_in a1 28 ∧ ∀ s10 : gS, s10 = gu s7 39 a1.toNatClampNeg ((s7 39 a1.toNatClampNeg) + a3) → ¬ s10 35 0 = 0 ∧ vp_in a1 28 ∧ Q (a2 + (s10 28 a1.toNatClampNeg)) s10
abbrev ws_X0_takeArc : List Cond := Cond.code yX0_takeArc cX0_takeArc 4 (some .int) :: gG
abbrev rm_X0_takeArc : Room := { frames := 0, cells := 0, slots := 0, locals := 0 }
theorem k_X0_takeArc : gCV yX0_takeArc RX0 cX0_takeArc 4 (some .int) 3 := ⟨gw_2_169, gwp_12, gw_1_7, gw_2_170, rfl, by decide +kernel⟩
set_option maxHeartbeats 4000000 in
set_option maxRecDepth 100000 in
theorem c_X0_takeArc (l : Launch) (D : va_G) (cy : Nat → ClassId) (ad : Nat → Nat) (A : Nat → Prop) (Q : Int32 → gS → Prop) (σ : gS) (a1 : Int32) (a2 : Int32) (a3 : Int32) (h : w_X0_takeArc Q σ a1 a2 a3) : Met l yX0_takeArc ws_X0_takeArc rm_X0_takeArc (va_Pc [.ref (ad 5), .int a1, .int a2, .int a3] (gB D cy ad A σ)) (va_Qi Q (gB D cy ad A) A) 0 0 A := by
  refine Met.ofW (cc := cX0_takeArc) (maxL := 4) (ret := (some .int)) (by decide) rfl ?_
  intro p e s m args below meth c s₁ B hml hv
  obtain ⟨rfl, hB⟩ := hv
  have hC : gC p c cX0_takeArc s m ([.ref (ad 5), .int a1, .int a2, .int a3] : List Value).toArray RX0 D cy ad A := g_start B hB
  have hI := g_first hB
  have hx := hC.1
  have hb := hC.2.1
  have hr := B.returns
  have hlocks := B.notSynchronized
  clear B hB
  have hl := lv_entry ([.ref (ad 5), .int a1, .int a2, .int a3]) (n := 4) (Nat.le_of_ble_eq_true rfl)
  rw [lg_entry_eq]
  generalize (lg_sl ([.ref (ad 5), .int a1, .int a2, .int a3]) ++ List.replicate (4 - (lg_sl ([.ref (ad 5), .int a1, .int a2, .int a3])).length) Slot.unset).toArray = ls at hl ⊢
  have hl : lv_has ls 4 [(0, .ref (ad 5)), (1, .int a1), (2, .int a2), (3, .int a3)] := hl
  unfold w_X0_takeArc at h
  refine lv_aload_n hx hb dX0_takeArc_0 rfl (lv_at hl 0 rfl) ?_
  refine gg_X0_begins hC hI gw_1_104 dX0_takeArc_1 ?_
  refine lv_bipush (v := 40) hx hb dX0_takeArc_4 (by decide) ?_
  refine lv_iload_n hx hb dX0_takeArc_6 rfl (lv_at hl 1 rfl) ?_
  refine lv_imul hx hb dX0_takeArc_7 ?_
  refine lv_iload_n hx hb dX0_takeArc_8 rfl (lv_at hl 2 rfl) ?_
  refine lv_iadd hx hb dX0_takeArc_9 ?_
  refine lv_dup2_11 hx hb dX0_takeArc_10 rfl rfl ?_
  obtain ⟨hi5, h⟩ := h
  refine ga_30 hC hI hi5 dX0_takeArc_11 ?_
  refine lv_iload_n hx hb dX0_takeArc_12 rfl (lv_at hl 3 rfl) ?_
  refine lv_iadd hx hb dX0_takeArc_13 ?_
  obtain ⟨hi6, h⟩ := h
  refine gs_30 hC hI hi6 dX0_takeArc_14 (fun s7 H locs es7 hI => ?_)
  have h := h s7 es7
  refine lv_aload_n hx hb dX0_takeArc_15 rfl (lv_at hl 0 rfl) ?_
  refine gg_X0_totals hC hI gw_1_106 dX0_takeArc_16 ?_
  refine lv_iload_n hx hb dX0_takeArc_19 rfl (lv_at hl 1 rfl) ?_
  refine lv_dup2_11 hx hb dX0_takeArc_20 rfl rfl ?_
  obtain ⟨hi8, h⟩ := h
  refine ga_32 hC hI hi8 dX0_takeArc_21 ?_
  refine lv_iload_n hx hb dX0_takeArc_22 rfl (lv_at hl 3 rfl) ?_
  refine lv_iadd hx hb dX0_takeArc_23 ?_
  obtain ⟨hi9, h⟩ := h
  refine gs_32 hC hI hi9 dX0_takeArc_24 (fun s10 H locs es10 hI => ?_)
  have h := h s10 es10
  refine lv_iload_n hx hb dX0_takeArc_25 rfl (lv_at hl 2 rfl) ?_
  refine lv_aload_n hx hb dX0_takeArc_26 rfl (lv_at hl 0 rfl) ?_
  obtain ⟨hz11, h⟩ := h
  refine gg_X0_ground hC hI gw_1_102 dX0_takeArc_27 hz11 ?_
  refine gg_X2_lengths hC hI gw_1_151 dX0_takeArc_30 ?_
  refine lv_iload_n hx hb dX0_takeArc_33 rfl (lv_at hl 1 rfl) ?_
  obtain ⟨hi12, h⟩ := h
  refine ga_26 hC hI hi12 dX0_takeArc_34 ?_
  refine lv_iadd hx hb dX0_takeArc_35 ?_
  exact g_iret hC hr hlocks hI h dX0_takeArc_36

theorem dX0_undoArc_0 : decode cX0_undoArc 0 = .ok (.iload_n 2, 1) := by decide +kernel
theorem dX0_undoArc_1 : decode cX0_undoArc 1 = .ok (.aload_n 0, 1) := by decide +kernel
theorem dX0_undoArc_2 : decode cX0_undoArc 2 = .ok (.getfield 45, 3) := by decide +kernel
theorem dX0_undoArc_5 : decode cX0_undoArc 5 = .ok (.getfield 123, 3) := by decide +kernel
theorem dX0_undoArc_8 : decode cX0_undoArc 8 = .ok (.iload_n 1, 1) := by decide +kernel
theorem dX0_undoArc_9 : decode cX0_undoArc 9 = .ok (.iaload, 1) := by decide +kernel
theorem dX0_undoArc_10 : decode cX0_undoArc 10 = .ok (.isub, 1) := by decide +kernel
theorem dX0_undoArc_11 : decode cX0_undoArc 11 = .ok (.istore 4, 2) := by decide +kernel
theorem dX0_undoArc_13 : decode cX0_undoArc 13 = .ok (.aload_n 0, 1) := by decide +kernel
theorem dX0_undoArc_14 : decode cX0_undoArc 14 = .ok (.getfield 13, 3) := by decide +kernel
theorem dX0_undoArc_17 : decode cX0_undoArc 17 = .ok (.bipush 40, 2) := by decide +kernel
theorem dX0_undoArc_19 : decode cX0_undoArc 19 = .ok (.iload_n 1, 1) := by decide +kernel
theorem dX0_undoArc_20 : decode cX0_undoArc 20 = .ok (.imul, 1) := by decide +kernel
theorem dX0_undoArc_21 : decode cX0_undoArc 21 = .ok (.iload 4, 2) := by decide +kernel
theorem dX0_undoArc_23 : decode cX0_undoArc 23 = .ok (.iadd, 1) := by decide +kernel
theorem dX0_undoArc_24 : decode cX0_undoArc 24 = .ok (.dup2, 1) := by decide +kernel
theorem dX0_undoArc_25 : decode cX0_undoArc 25 = .ok (.iaload, 1) := by decide +kernel
theorem dX0_undoArc_26 : decode cX0_undoArc 26 = .ok (.iload_n 3, 1) := by decide +kernel
theorem dX0_undoArc_27 : decode cX0_undoArc 27 = .ok (.isub, 1) := by decide +kernel
theorem dX0_undoArc_28 : decode cX0_undoArc 28 = .ok (.iastore, 1) := by decide +kernel
theorem dX0_undoArc_29 : decode cX0_undoArc 29 = .ok (.aload_n 0, 1) := by decide +kernel
theorem dX0_undoArc_30 : decode cX0_undoArc 30 = .ok (.getfield 20, 3) := by decide +kernel
theorem dX0_undoArc_33 : decode cX0_undoArc 33 = .ok (.iload_n 1, 1) := by decide +kernel
theorem dX0_undoArc_34 : decode cX0_undoArc 34 = .ok (.dup2, 1) := by decide +kernel
theorem dX0_undoArc_35 : decode cX0_undoArc 35 = .ok (.iaload, 1) := by decide +kernel
theorem dX0_undoArc_36 : decode cX0_undoArc 36 = .ok (.iload_n 3, 1) := by decide +kernel
theorem dX0_undoArc_37 : decode cX0_undoArc 37 = .ok (.isub, 1) := by decide +kernel
theorem dX0_undoArc_38 : decode cX0_undoArc 38 = .ok (.iastore, 1) := by decide +kernel
theorem dX0_undoArc_39 : decode cX0_undoArc 39 = .ok (.iload 4, 2) := by decide +kernel
theorem dX0_undoArc_41 : decode cX0_undoArc 41 = .ok (.ireturn, 1) := by decide +kernel
def w_X0_undoArc (Q : Int32 → gS → Prop) (σ : gS) (a1 : Int32) (a2 : Int32) (a3 : Int32) : Prop :=
    ¬ σ 35 0 = 0 ∧ vp_in a1 28 ∧ ∀ y7 : Int32, y7 = (a2 - (σ 28 a1.toNatClampNeg)) → vp_in ((40 * a1) + y7) 1120 ∧ vp_in ((40 * a1) + y7) 1120 ∧ ∀ s10 : gS, s10 = gu σ 37 ((40 * a1) + y7).toNatClampNeg ((σ 37 ((40 * a1) + y7).toNatClampNeg) - a3) → vp_in a1 28 ∧ vp_in a1 28 ∧ ∀ s13 : gS, s13 = gu s10 39 a1.toNatClampNeg ((s10 39 a1.toNatClampNeg) - a3) → Q y7 s13
abbrev ws_X0_undoArc : List Cond := Cond.code yX0_undoArc cX0_undoArc 5 (some .int) :: gG
abbrev rm_X0_undoArc : Room := { frames := 0, cells := 0, slots := 0, locals := 0 }
theorem k_X0_undoArc : gCV yX0_undoArc RX0 cX0_undoArc 5 (some .int) 3 := ⟨gw_2_173, gwp_13, gw_1_7, gw_2_174, rfl, by decide +kernel⟩
set_option maxHeartbeats 4000000 in
set_option maxRecDepth 100000 in
theorem c_X0_undoArc (l : Launch) (D : va_G) (cy : Nat → ClassId) (ad : Nat → Nat) (A : Nat → Prop) (Q : Int32 → gS → Prop) (σ : gS) (a1 : Int32) (a2 : Int32) (a3 : Int32) (h : w_X0_undoArc Q σ a1 a2 a3) : Met l yX0_undoArc ws_X0_undoArc rm_X0_undoArc (va_Pc [.ref (ad 5), .int a1, .int a2, .int a3] (gB D cy ad A σ)) (va_Qi Q (gB D cy ad A) A) 0 0 A := by
  refine Met.ofW (cc := cX0_undoArc) (maxL := 5) (ret := (some .int)) (by decide) rfl ?_
  intro p e s m args below meth c s₁ B hml hv
  obtain ⟨rfl, hB⟩ := hv
  have hC : gC p c cX0_undoArc s m ([.ref (ad 5), .int a1, .int a2, .int a3] : List Value).toArray RX0 D cy ad A := g_start B hB
  have hI := g_first hB
  have hx := hC.1
  have hb := hC.2.1
  have hr := B.returns
  have hlocks := B.notSynchronized
  clear B hB
  have hl := lv_entry ([.ref (ad 5), .int a1, .int a2, .int a3]) (n := 5) (Nat.le_of_ble_eq_true rfl)
  rw [lg_entry_eq]
  generalize (lg_sl ([.ref (ad 5), .int a1, .int a2, .int a3]) ++ List.replicate (5 - (lg_sl ([.ref (ad 5), .int a1, .int a2, .int a3])).length) Slot.unset).toArray = ls at hl ⊢
  have hl : lv_has ls 5 [(0, .ref (ad 5)), (1, .int a1), (2, .int a2), (3, .int a3)] := hl
  unfold w_X0_undoArc at h
  refine lv_iload_n hx hb dX0_undoArc_0 rfl (lv_at hl 2 rfl) ?_
  refine lv_aload_n hx hb dX0_undoArc_1 rfl (lv_at hl 0 rfl) ?_
  obtain ⟨hz5, h⟩ := h
  refine gg_X0_ground hC hI gw_1_102 dX0_undoArc_2 hz5 ?_
  refine gg_X2_lengths hC hI gw_1_151 dX0_undoArc_5 ?_
  refine lv_iload_n hx hb dX0_undoArc_8 rfl (lv_at hl 1 rfl) ?_
  obtain ⟨hi6, h⟩ := h
  refine ga_26 hC hI hi6 dX0_undoArc_9 ?_
  refine lv_isub hx hb dX0_undoArc_10 ?_
  refine lv_topi (fun y7 ey7 => ?_)
  have h := h y7 ey7
  refine lv_istore (lv' := [(4, .int y7), (0, .ref (ad 5)), (1, .int a1), (2, .int a2), (3, .int a3)]) hx hb dX0_undoArc_11 hl (by decide) rfl (fun ls hl => ?_)
  refine lv_aload_n hx hb dX0_undoArc_13 rfl (lv_at hl 1 rfl) ?_
  refine gg_X0_begins hC hI gw_1_104 dX0_undoArc_14 ?_
  refine lv_bipush (v := 40) hx hb dX0_undoArc_17 (by decide) ?_
  refine lv_iload_n hx hb dX0_undoArc_19 rfl (lv_at hl 2 rfl) ?_
  refine lv_imul hx hb dX0_undoArc_20 ?_
  refine lv_iload hx hb dX0_undoArc_21 (lv_at hl 0 rfl) ?_
  refine lv_iadd hx hb dX0_undoArc_23 ?_
  refine lv_dup2_11 hx hb dX0_undoArc_24 rfl rfl ?_
  obtain ⟨hi8, h⟩ := h
  refine ga_30 hC hI hi8 dX0_undoArc_25 ?_
  refine lv_iload_n hx hb dX0_undoArc_26 rfl (lv_at hl 4 rfl) ?_
  refine lv_isub hx hb dX0_undoArc_27 ?_
  obtain ⟨hi9, h⟩ := h
  refine gs_30 hC hI hi9 dX0_undoArc_28 (fun s10 H locs es10 hI => ?_)
  have h := h s10 es10
  refine lv_aload_n hx hb dX0_undoArc_29 rfl (lv_at hl 1 rfl) ?_
  refine gg_X0_totals hC hI gw_1_106 dX0_undoArc_30 ?_
  refine lv_iload_n hx hb dX0_undoArc_33 rfl (lv_at hl 2 rfl) ?_
  refine lv_dup2_11 hx hb dX0_undoArc_34 rfl rfl ?_
  obtain ⟨hi11, h⟩ := h
  refine ga_32 hC hI hi11 dX0_undoArc_35 ?_
  refine lv_iload_n hx hb dX0_undoArc_36 rfl (lv_at hl 4 rfl) ?_
  refine lv_isub hx hb dX0_undoArc_37 ?_
  obtain ⟨hi12, h⟩ := h
  refine gs_32 hC hI hi12 dX0_undoArc_38 (fun s13 H locs es13 hI => ?_)
  have h := h s13 es13
  refine lv_iload hx hb dX0_undoArc_39 (lv_at hl 0 rfl) ?_
  exact g_iret hC hr hlocks hI h dX0_undoArc_41

theorem dX0_sendFrom_0 : decode cX0_sendFrom 0 = .ok (.iload_n 1, 1) := by decide +kernel
theorem dX0_sendFrom_1 : decode cX0_sendFrom 1 = .ok (.istore_n 2, 1) := by decide +kernel
theorem dX0_sendFrom_2 : decode cX0_sendFrom 2 = .ok (.aload_n 0, 1) := by decide +kernel
theorem dX0_sendFrom_3 : decode cX0_sendFrom 3 = .ok (.getfield 29, 3) := by decide +kernel
theorem dX0_sendFrom_6 : decode cX0_sendFrom 6 = .ok (.iload_n 1, 1) := by decide +kernel
theorem dX0_sendFrom_7 : decode cX0_sendFrom 7 = .ok (.iaload, 1) := by decide +kernel
theorem dX0_sendFrom_8 : decode cX0_sendFrom 8 = .ok (.istore_n 3, 1) := by decide +kernel
theorem dX0_sendFrom_9 : decode cX0_sendFrom 9 = .ok (.aload_n 0, 1) := by decide +kernel
theorem dX0_sendFrom_10 : decode cX0_sendFrom 10 = .ok (.getfield 23, 3) := by decide +kernel
theorem dX0_sendFrom_13 : decode cX0_sendFrom 13 = .ok (.iload_n 1, 1) := by decide +kernel
theorem dX0_sendFrom_14 : decode cX0_sendFrom 14 = .ok (.iaload, 1) := by decide +kernel
theorem dX0_sendFrom_15 : decode cX0_sendFrom 15 = .ok (.aload_n 0, 1) := by decide +kernel
theorem dX0_sendFrom_16 : decode cX0_sendFrom 16 = .ok (.getfield 42, 3) := by decide +kernel
theorem dX0_sendFrom_19 : decode cX0_sendFrom 19 = .ok (.bipush 40, 2) := by decide +kernel
theorem dX0_sendFrom_21 : decode cX0_sendFrom 21 = .ok (.iload_n 1, 1) := by decide +kernel
theorem dX0_sendFrom_22 : decode cX0_sendFrom 22 = .ok (.imul, 1) := by decide +kernel
theorem dX0_sendFrom_23 : decode cX0_sendFrom 23 = .ok (.iload_n 3, 1) := by decide +kernel
theorem dX0_sendFrom_24 : decode cX0_sendFrom 24 = .ok (.iadd, 1) := by decide +kernel
theorem dX0_sendFrom_25 : decode cX0_sendFrom 25 = .ok (.iaload, 1) := by decide +kernel
theorem dX0_sendFrom_26 : decode cX0_sendFrom 26 = .ok (.invokestatic 117, 3) := by decide +kernel
theorem dX0_sendFrom_29 : decode cX0_sendFrom 29 = .ok (.istore 4, 2) := by decide +kernel
theorem dX0_sendFrom_31 : decode cX0_sendFrom 31 = .ok (.aload_n 0, 1) := by decide +kernel
theorem dX0_sendFrom_32 : decode cX0_sendFrom 32 = .ok (.getfield 23, 3) := by decide +kernel
theorem dX0_sendFrom_35 : decode cX0_sendFrom 35 = .ok (.iload_n 1, 1) := by decide +kernel
theorem dX0_sendFrom_36 : decode cX0_sendFrom 36 = .ok (.dup2, 1) := by decide +kernel
theorem dX0_sendFrom_37 : decode cX0_sendFrom 37 = .ok (.iaload, 1) := by decide +kernel
theorem dX0_sendFrom_38 : decode cX0_sendFrom 38 = .ok (.iload 4, 2) := by decide +kernel
theorem dX0_sendFrom_40 : decode cX0_sendFrom 40 = .ok (.isub, 1) := by decide +kernel
theorem dX0_sendFrom_41 : decode cX0_sendFrom 41 = .ok (.iastore, 1) := by decide +kernel
theorem dX0_sendFrom_42 : decode cX0_sendFrom 42 = .ok (.aload_n 0, 1) := by decide +kernel
theorem dX0_sendFrom_43 : decode cX0_sendFrom 43 = .ok (.iload_n 2, 1) := by decide +kernel
theorem dX0_sendFrom_44 : decode cX0_sendFrom 44 = .ok (.iconst 0, 1) := by decide +kernel
theorem dX0_sendFrom_45 : decode cX0_sendFrom 45 = .ok (.iload_n 3, 1) := by decide +kernel
theorem dX0_sendFrom_46 : decode cX0_sendFrom 46 = .ok (.iload 4, 2) := by decide +kernel
theorem dX0_sendFrom_48 : decode cX0_sendFrom 48 = .ok (.invokevirtual 135, 3) := by decide +kernel
theorem dX0_sendFrom_51 : decode cX0_sendFrom 51 = .ok (.iconst 0, 1) := by decide +kernel
theorem dX0_sendFrom_52 : decode cX0_sendFrom 52 = .ok (.istore 5, 2) := by decide +kernel
theorem dX0_sendFrom_54 : decode cX0_sendFrom 54 = .ok (.iload 5, 2) := by decide +kernel
theorem dX0_sendFrom_56 : decode cX0_sendFrom 56 = .ok (.sipush 320, 3) := by decide +kernel
theorem dX0_sendFrom_59 : decode cX0_sendFrom 59 = .ok (.if_icmp .gt 166, 3) := by decide +kernel
theorem dX0_sendFrom_62 : decode cX0_sendFrom 62 = .ok (.bipush 40, 2) := by decide +kernel
theorem dX0_sendFrom_64 : decode cX0_sendFrom 64 = .ok (.iload_n 2, 1) := by decide +kernel
theorem dX0_sendFrom_65 : decode cX0_sendFrom 65 = .ok (.imul, 1) := by decide +kernel
theorem dX0_sendFrom_66 : decode cX0_sendFrom 66 = .ok (.iload_n 3, 1) := by decide +kernel
theorem dX0_sendFrom_67 : decode cX0_sendFrom 67 = .ok (.iadd, 1) := by decide +kernel
theorem dX0_sendFrom_68 : decode cX0_sendFrom 68 = .ok (.istore 6, 2) := by decide +kernel
theorem dX0_sendFrom_70 : decode cX0_sendFrom 70 = .ok (.aload_n 0, 1) := by decide +kernel
theorem dX0_sendFrom_71 : decode cX0_sendFrom 71 = .ok (.getfield 36, 3) := by decide +kernel
theorem dX0_sendFrom_74 : decode cX0_sendFrom 74 = .ok (.iload 6, 2) := by decide +kernel
theorem dX0_sendFrom_76 : decode cX0_sendFrom 76 = .ok (.iaload, 1) := by decide +kernel
theorem dX0_sendFrom_77 : decode cX0_sendFrom 77 = .ok (.istore 7, 2) := by decide +kernel
theorem dX0_sendFrom_79 : decode cX0_sendFrom 79 = .ok (.iload 7, 2) := by decide +kernel
theorem dX0_sendFrom_81 : decode cX0_sendFrom 81 = .ok (.bipush 57, 2) := by decide +kernel
theorem dX0_sendFrom_83 : decode cX0_sendFrom 83 = .ok (.if_icmp .ne 17, 3) := by decide +kernel
theorem dX0_sendFrom_86 : decode cX0_sendFrom 86 = .ok (.aload_n 0, 1) := by decide +kernel
theorem dX0_sendFrom_87 : decode cX0_sendFrom 87 = .ok (.getfield 26, 3) := by decide +kernel
theorem dX0_sendFrom_90 : decode cX0_sendFrom 90 = .ok (.iload_n 2, 1) := by decide +kernel
theorem dX0_sendFrom_91 : decode cX0_sendFrom 91 = .ok (.dup2, 1) := by decide +kernel
theorem dX0_sendFrom_92 : decode cX0_sendFrom 92 = .ok (.iaload, 1) := by decide +kernel
theorem dX0_sendFrom_93 : decode cX0_sendFrom 93 = .ok (.iload 4, 2) := by decide +kernel
theorem dX0_sendFrom_95 : decode cX0_sendFrom 95 = .ok (.isub, 1) := by decide +kernel
theorem dX0_sendFrom_96 : decode cX0_sendFrom 96 = .ok (.iastore, 1) := by decide +kernel
theorem dX0_sendFrom_97 : decode cX0_sendFrom 97 = .ok (.iload 4, 2) := by decide +kernel
theorem dX0_sendFrom_99 : decode cX0_sendFrom 99 = .ok (.ireturn, 1) := by decide +kernel
theorem dX0_sendFrom_100 : decode cX0_sendFrom 100 = .ok (.aload_n 0, 1) := by decide +kernel
theorem dX0_sendFrom_101 : decode cX0_sendFrom 101 = .ok (.getfield 39, 3) := by decide +kernel
theorem dX0_sendFrom_104 : decode cX0_sendFrom 104 = .ok (.iload 6, 2) := by decide +kernel
theorem dX0_sendFrom_106 : decode cX0_sendFrom 106 = .ok (.iaload, 1) := by decide +kernel
theorem dX0_sendFrom_107 : decode cX0_sendFrom 107 = .ok (.istore 8, 2) := by decide +kernel
theorem dX0_sendFrom_109 : decode cX0_sendFrom 109 = .ok (.iload 7, 2) := by decide +kernel
theorem dX0_sendFrom_111 : decode cX0_sendFrom 111 = .ok (.bipush 56, 2) := by decide +kernel
theorem dX0_sendFrom_113 : decode cX0_sendFrom 113 = .ok (.if_icmp .ne 23, 3) := by decide +kernel
theorem dX0_sendFrom_116 : decode cX0_sendFrom 116 = .ok (.aload_n 0, 1) := by decide +kernel
theorem dX0_sendFrom_117 : decode cX0_sendFrom 117 = .ok (.getfield 17, 3) := by decide +kernel
theorem dX0_sendFrom_120 : decode cX0_sendFrom 120 = .ok (.bipush 40, 2) := by decide +kernel
theorem dX0_sendFrom_122 : decode cX0_sendFrom 122 = .ok (.iload_n 2, 1) := by decide +kernel
theorem dX0_sendFrom_123 : decode cX0_sendFrom 123 = .ok (.imul, 1) := by decide +kernel
theorem dX0_sendFrom_124 : decode cX0_sendFrom 124 = .ok (.iload 8, 2) := by decide +kernel
theorem dX0_sendFrom_126 : decode cX0_sendFrom 126 = .ok (.iadd, 1) := by decide +kernel
theorem dX0_sendFrom_127 : decode cX0_sendFrom 127 = .ok (.dup2, 1) := by decide +kernel
theorem dX0_sendFrom_128 : decode cX0_sendFrom 128 = .ok (.iaload, 1) := by decide +kernel
theorem dX0_sendFrom_129 : decode cX0_sendFrom 129 = .ok (.iload 4, 2) := by decide +kernel
theorem dX0_sendFrom_131 : decode cX0_sendFrom 131 = .ok (.isub, 1) := by decide +kernel
theorem dX0_sendFrom_132 : decode cX0_sendFrom 132 = .ok (.iastore, 1) := by decide +kernel
theorem dX0_sendFrom_133 : decode cX0_sendFrom 133 = .ok (.goto 83, 3) := by decide +kernel
theorem dX0_sendFrom_136 : decode cX0_sendFrom 136 = .ok (.iload 7, 2) := by decide +kernel
theorem dX0_sendFrom_138 : decode cX0_sendFrom 138 = .ok (.bipush 28, 2) := by decide +kernel
theorem dX0_sendFrom_140 : decode cX0_sendFrom 140 = .ok (.if_icmp .ge 15, 3) := by decide +kernel
theorem dX0_sendFrom_143 : decode cX0_sendFrom 143 = .ok (.aload_n 0, 1) := by decide +kernel
theorem dX0_sendFrom_144 : decode cX0_sendFrom 144 = .ok (.iload 7, 2) := by decide +kernel
theorem dX0_sendFrom_146 : decode cX0_sendFrom 146 = .ok (.iload_n 3, 1) := by decide +kernel
theorem dX0_sendFrom_147 : decode cX0_sendFrom 147 = .ok (.iload 4, 2) := by decide +kernel
theorem dX0_sendFrom_149 : decode cX0_sendFrom 149 = .ok (.invokevirtual 139, 3) := by decide +kernel
theorem dX0_sendFrom_152 : decode cX0_sendFrom 152 = .ok (.goto 15, 3) := by decide +kernel
theorem dX0_sendFrom_155 : decode cX0_sendFrom 155 = .ok (.aload_n 0, 1) := by decide +kernel
theorem dX0_sendFrom_156 : decode cX0_sendFrom 156 = .ok (.iload 7, 2) := by decide +kernel
theorem dX0_sendFrom_158 : decode cX0_sendFrom 158 = .ok (.bipush 28, 2) := by decide +kernel
theorem dX0_sendFrom_160 : decode cX0_sendFrom 160 = .ok (.isub, 1) := by decide +kernel
theorem dX0_sendFrom_161 : decode cX0_sendFrom 161 = .ok (.iload_n 3, 1) := by decide +kernel
theorem dX0_sendFrom_162 : decode cX0_sendFrom 162 = .ok (.iload 4, 2) := by decide +kernel
theorem dX0_sendFrom_164 : decode cX0_sendFrom 164 = .ok (.invokevirtual 143, 3) := by decide +kernel
theorem dX0_sendFrom_167 : decode cX0_sendFrom 167 = .ok (.istore 9, 2) := by decide +kernel
theorem dX0_sendFrom_169 : decode cX0_sendFrom 169 = .ok (.iload 7, 2) := by decide +kernel
theorem dX0_sendFrom_171 : decode cX0_sendFrom 171 = .ok (.bipush 28, 2) := by decide +kernel
theorem dX0_sendFrom_173 : decode cX0_sendFrom 173 = .ok (.if_icmp .ge 16, 3) := by decide +kernel
theorem dX0_sendFrom_176 : decode cX0_sendFrom 176 = .ok (.aload_n 0, 1) := by decide +kernel
theorem dX0_sendFrom_177 : decode cX0_sendFrom 177 = .ok (.getfield 45, 3) := by decide +kernel
theorem dX0_sendFrom_180 : decode cX0_sendFrom 180 = .ok (.getfield 103, 3) := by decide +kernel
theorem dX0_sendFrom_183 : decode cX0_sendFrom 183 = .ok (.iload 7, 2) := by decide +kernel
theorem dX0_sendFrom_185 : decode cX0_sendFrom 185 = .ok (.iaload, 1) := by decide +kernel
theorem dX0_sendFrom_186 : decode cX0_sendFrom 186 = .ok (.goto 18, 3) := by decide +kernel
theorem dX0_sendFrom_189 : decode cX0_sendFrom 189 = .ok (.aload_n 0, 1) := by decide +kernel
theorem dX0_sendFrom_190 : decode cX0_sendFrom 190 = .ok (.getfield 45, 3) := by decide +kernel
theorem dX0_sendFrom_193 : decode cX0_sendFrom 193 = .ok (.getfield 103, 3) := by decide +kernel
theorem dX0_sendFrom_196 : decode cX0_sendFrom 196 = .ok (.iload 7, 2) := by decide +kernel
theorem dX0_sendFrom_198 : decode cX0_sendFrom 198 = .ok (.bipush 28, 2) := by decide +kernel
theorem dX0_sendFrom_200 : decode cX0_sendFrom 200 = .ok (.isub, 1) := by decide +kernel
theorem dX0_sendFrom_201 : decode cX0_sendFrom 201 = .ok (.iconst 1, 1) := by decide +kernel
theorem dX0_sendFrom_202 : decode cX0_sendFrom 202 = .ok (.ixor, 1) := by decide +kernel
theorem dX0_sendFrom_203 : decode cX0_sendFrom 203 = .ok (.iaload, 1) := by decide +kernel
theorem dX0_sendFrom_204 : decode cX0_sendFrom 204 = .ok (.istore_n 2, 1) := by decide +kernel
theorem dX0_sendFrom_205 : decode cX0_sendFrom 205 = .ok (.aload_n 0, 1) := by decide +kernel
theorem dX0_sendFrom_206 : decode cX0_sendFrom 206 = .ok (.iload_n 2, 1) := by decide +kernel
theorem dX0_sendFrom_207 : decode cX0_sendFrom 207 = .ok (.iload 9, 2) := by decide +kernel
theorem dX0_sendFrom_209 : decode cX0_sendFrom 209 = .ok (.iload 8, 2) := by decide +kernel
theorem dX0_sendFrom_211 : decode cX0_sendFrom 211 = .ok (.iload 4, 2) := by decide +kernel
theorem dX0_sendFrom_213 : decode cX0_sendFrom 213 = .ok (.invokevirtual 135, 3) := by decide +kernel
theorem dX0_sendFrom_216 : decode cX0_sendFrom 216 = .ok (.iload 8, 2) := by decide +kernel
theorem dX0_sendFrom_218 : decode cX0_sendFrom 218 = .ok (.istore_n 3, 1) := by decide +kernel
theorem dX0_sendFrom_219 : decode cX0_sendFrom 219 = .ok (.iinc 5 1, 3) := by decide +kernel
theorem dX0_sendFrom_222 : decode cX0_sendFrom 222 = .ok (.goto (-168), 3) := by decide +kernel
theorem dX0_sendFrom_225 : decode cX0_sendFrom 225 = .ok (.iload 4, 2) := by decide +kernel
theorem dX0_sendFrom_227 : decode cX0_sendFrom 227 = .ok (.ireturn, 1) := by decide +kernel
def w_X0_sendFrom_216 (Q : Int32 → gS → Prop) (k54 : Int32 → Int32 → Int32 → Int32 → gS → Prop) (x2 : Int32) (x4 : Int32) (x5 : Int32) (x8 : Int32) (σ : gS) : Prop :=
    ∀ y13 : Int32, y13 = x5 + 1 → k54 x2 x8 x4 y13 σ
def w_X0_sendFrom_204 (Q : Int32 → gS → Prop) (k54 : Int32 → Int32 → Int32 → Int32 → gS → Prop) (x4 : Int32) (x5 : Int32) (x8 : Int32) (x9 : Int32) (v0 : Int32) (σ : gS) : Prop :=
    w_X0_letWait  (fun (s14 : gS) => w_X0_sendFrom_216 Q k54 v0 x4 x5 x8 s14) σ v0 x9 x8 x4
def w_X0_sendFrom_167 (Q : Int32 → gS → Prop) (k54 : Int32 → Int32 → Int32 → Int32 → gS → Prop) (x4 : Int32) (x5 : Int32) (x7 : Int32) (x8 : Int32) (v0 : Int32) (σ : gS) : Prop :=
    (28 ≤ x7 → ¬ σ 35 0 = 0 ∧ vp_in ((x7 - 28) ^^^ 1) 28 ∧ w_X0_sendFrom_204 Q k54 x4 x5 x8 v0 (σ 27 ((x7 - 28) ^^^ 1).toNatClampNeg) σ) ∧ (¬ 28 ≤ x7 → ¬ σ 35 0 = 0 ∧ vp_in x7 28 ∧ w_X0_sendFrom_204 Q k54 x4 x5 x8 v0 (σ 27 x7.toNatClampNeg) σ)
def w_X0_sendFrom_54 (Q : Int32 → gS → Prop) : Nat → Int32 → Int32 → Int32 → Int32 → gS → Prop
  | 0, _, _, _, _, _ => False
  | n54 + 1, x2, x3, x4, x5, σ =>
    (320 < x5 → Q x4 σ) ∧ (¬ 320 < x5 → ∀ y22 : Int32, y22 = ((40 * x2) + x3) → vp_in y22 320 ∧ ∀ y24 : Int32, y24 = (σ 44 y22.toNatClampNeg) → (¬ y24 = 57 → vp_in y22 320 ∧ ∀ y27 : Int32, y27 = (σ 45 y22.toNatClampNeg) → (¬ y24 = 56 → (28 ≤ y24 → w_X0_undoArc  (fun (r31 : Int32) (s30 : gS) => w_X0_sendFrom_167 Q (w_X0_sendFrom_54 Q n54) x4 x5 y24 y27 r31 s30) σ (y24 - 28) x3 x4) ∧ (¬ 28 ≤ y24 → w_X0_takeArc  (fun (r33 : Int32) (s32 : gS) => w_X0_sendFrom_167 Q (w_X0_sendFrom_54 Q n54) x4 x5 y24 y27 r33 s32) σ y24 x3 x4)) ∧ (y24 = 56 → vp_in ((40 * x2) + y27) 320 ∧ vp_in ((40 * x2) + y27) 320 ∧ ∀ s36 : gS, s36 = gu σ 38 ((40 * x2) + y27).toNatClampNeg ((σ 38 ((40 * x2) + y27).toNatClampNeg) - x4) → w_X0_sendFrom_216 Q (w_X0_sendFrom_54 Q n54) x2 x4 x5 y27 s36)) ∧ (y24 = 57 → vp_in x2 8 ∧ vp_in x2 8 ∧ ∀ s39 : gS, s39 = gu σ 41 x2.toNatClampNeg ((σ 41 x2.toNatClampNeg) - x4) → Q x4 s39))
def w_X0_sendFrom (Q : Int32 → gS → Prop) (σ : gS) (a1 : Int32) : Prop :=
    vp_in a1 8 ∧ ∀ y41 : Int32, y41 = (σ 42 a1.toNatClampNeg) → vp_in a1 8 ∧ vp_in ((40 * a1) + y41) 320 ∧ ∀ y44 : Int32, y44 = (if (σ 46 ((40 * a1) + y41).toNatClampNeg) < (σ 40 a1.toNatClampNeg) then (σ 46 ((40 * a1) + y41).toNatClampNeg) else (σ 40 a1.toNatClampNeg)) → vp_in a1 8 ∧ vp_in a1 8 ∧ ∀ s47 : gS, s47 = gu σ 40 a1.toNatClampNeg ((σ 40 a1.toNatClampNeg) - y44) → w_X0_letWait  (fun (s48 : gS) => ∃ n54, w_X0_sendFrom_54 Q n54 a1 y41 y44 0 s48) s47 a1 0 y41 y44
abbrev ws_X0_sendFrom : List Cond := Cond.code yX0_sendFrom cX0_sendFrom 10 (some .int) :: gG
abbrev rm_X0_sendFrom : Room := { frames := 1, cells := 0, slots := 0, locals := 25 }
theorem k_X0_sendFrom : gCV yX0_sendFrom RX0 cX0_sendFrom 10 (some .int) 1 := ⟨gw_2_161, gwp_10, gw_1_7, gw_2_162, rfl, by decide +kernel⟩
set_option maxHeartbeats 4000000 in
set_option maxRecDepth 100000 in
theorem c_X0_sendFrom (l : Launch) (D : va_G) (cy : Nat → ClassId) (ad : Nat → Nat) (A : Nat → Prop) (Q : Int32 → gS → Prop) (σ : gS) (a1 : Int32) (h : w_X0_sendFrom Q σ a1) : Met l yX0_sendFrom ws_X0_sendFrom rm_X0_sendFrom (va_Pc [.ref (ad 5), .int a1] (gB D cy ad A σ)) (va_Qi Q (gB D cy ad A) A) 0 0 A := by
  refine Met.ofW (cc := cX0_sendFrom) (maxL := 10) (ret := (some .int)) (by decide) rfl ?_
  intro p e s m args below meth c s₁ B hml hv
  obtain ⟨rfl, hB⟩ := hv
  have hC : gC p c cX0_sendFrom s m ([.ref (ad 5), .int a1] : List Value).toArray RX0 D cy ad A := g_start B hB
  have hI := g_first hB
  have hx := hC.1
  have hb := hC.2.1
  have hr := B.returns
  have hlocks := B.notSynchronized
  clear B hB
  have J54 : ∀ (n54 : Nat) (x2 : Int32) (x3 : Int32) (x4 : Int32) (x5 : Int32) (σ : gS) (H : Heap) (locs : List Loc) (ls : Array Slot), w_X0_sendFrom_54 Q n54 x2 x3 x4 x5 σ → gI D cy ad A s.heap σ H locs → lv_has ls 10 [(0, .ref (ad 5)), (2, .int x2), (3, .int x3), (4, .int x4), (5, .int x5)] → W p l e (headSpec ws_X0_sendFrom rm_X0_sendFrom).room s m ([.ref (ad 5), .int a1] : List Value).toArray below meth c H locs 0 0 (MQ below (va_Qi Q (gB D cy ad A) A) ([.ref (ad 5), .int a1] : List Value).toArray s 0 0 A) (F0 m 54 ls []) := by
    intro n54
    induction n54 with
    | zero => intro x2 x3 x4 x5 σ H locs ls h; exact absurd h (fun h => h)
    | succ n54 ih54 =>
      have J216 : ∀ (x2 : Int32) (x4 : Int32) (x5 : Int32) (x8 : Int32) (σ : gS) (H : Heap) (locs : List Loc) (ls : Array Slot), w_X0_sendFrom_216 Q (w_X0_sendFrom_54 Q n54) x2 x4 x5 x8 σ → gI D cy ad A s.heap σ H locs → lv_has ls 10 [(0, .ref (ad 5)), (2, .int x2), (4, .int x4), (5, .int x5), (8, .int x8)] → W p l e (headSpec ws_X0_sendFrom rm_X0_sendFrom).room s m ([.ref (ad 5), .int a1] : List Value).toArray below meth c H locs 0 0 (MQ below (va_Qi Q (gB D cy ad A) A) ([.ref (ad 5), .int a1] : List Value).toArray s 0 0 A) (F0 m 216 ls []) := by
        intro x2 x4 x5 x8 σ H locs ls h hI hl
        unfold w_X0_sendFrom_216 at h
        refine lv_iload hx hb dX0_sendFrom_216 (lv_at hl 4 rfl) ?_
        refine lv_istore_n (lv' := [(3, .int x8), (0, .ref (ad 5)), (2, .int x2), (4, .int x4), (5, .int x5), (8, .int x8)]) hx hb dX0_sendFrom_218 rfl hl (by decide) rfl (fun ls hl => ?_)
        obtain ⟨y13, ey13⟩ : ∃ y : Int32, y = x5 + 1 := ⟨_, rfl⟩
        have h := h y13 ey13
        refine lv_iinc (v := y13) (lv' := [(5, .int y13), (3, .int x8), (0, .ref (ad 5)), (2, .int x2), (4, .int x4), (8, .int x8)]) hx hb dX0_sendFrom_219 hl (k := 4) rfl (by rw [ey13]; rfl) (by decide) rfl (fun ls hl => ?_)
        refine lv_goto (tgt := 54) hx hb dX0_sendFrom_222 (by decide) ?_
        exact ih54 _ _ _ _ _ _ _ _ h hI (lv_sub hl [2, 3, 1, 4, 0] rfl)
      have J204 : ∀ (x4 : Int32) (x5 : Int32) (x8 : Int32) (x9 : Int32) (v0 : Int32) (σ : gS) (H : Heap) (locs : List Loc) (ls : Array Slot), w_X0_sendFrom_204 Q (w_X0_sendFrom_54 Q n54) x4 x5 x8 x9 v0 σ → gI D cy ad A s.heap σ H locs → lv_has ls 10 [(0, .ref (ad 5)), (4, .int x4), (5, .int x5), (8, .int x8), (9, .int x9)] → W p l e (headSpec ws_X0_sendFrom rm_X0_sendFrom).room s m ([.ref (ad 5), .int a1] : List Value).toArray below meth c H locs 0 0 (MQ below (va_Qi Q (gB D cy ad A) A) ([.ref (ad 5), .int a1] : List Value).toArray s 0 0 A) (F0 m 204 ls [.int v0]) := by
        intro x4 x5 x8 x9 v0 σ H locs ls h hI hl
        unfold w_X0_sendFrom_204 at h
        refine lv_istore_n (lv' := [(2, .int v0), (0, .ref (ad 5)), (4, .int x4), (5, .int x5), (8, .int x8), (9, .int x9)]) hx hb dX0_sendFrom_204 rfl hl (by decide) rfl (fun ls hl => ?_)
        refine lv_aload_n hx hb dX0_sendFrom_205 rfl (lv_at hl 1 rfl) ?_
        refine lv_iload_n hx hb dX0_sendFrom_206 rfl (lv_at hl 0 rfl) ?_
        refine lv_iload hx hb dX0_sendFrom_207 (lv_at hl 5 rfl) ?_
        refine lv_iload hx hb dX0_sendFrom_209 (lv_at hl 4 rfl) ?_
        refine lv_iload hx hb dX0_sendFrom_211 (lv_at hl 2 rfl) ?_
        refine g_backv hI (g_runV (As := [.int v0, .int x9, .int x8, .int x4]) (rest := []) hC hml hI (c_X0_letWait l D cy ad A _  _ _ _ _ _ h) k_X0_letWait gw_2_163 ⟨rfl, rfl⟩ ⟨Nat.le_of_ble_eq_true rfl, Nat.le_of_ble_eq_true rfl⟩ (grv_5 hC hI) rfl hl.1 rfl (Nat.le_of_ble_eq_true rfl) dX0_sendFrom_213 ⟨Nat.le_of_ble_eq_true rfl, Nat.le_of_ble_eq_true rfl⟩) (fun s14 H locs h hI => ?_)
        exact J216 _ _ _ _ _ _ _ _ h hI (lv_sub hl [1, 0, 2, 3, 4] rfl)
      have J167 : ∀ (x4 : Int32) (x5 : Int32) (x7 : Int32) (x8 : Int32) (v0 : Int32) (σ : gS) (H : Heap) (locs : List Loc) (ls : Array Slot), w_X0_sendFrom_167 Q (w_X0_sendFrom_54 Q n54) x4 x5 x7 x8 v0 σ → gI D cy ad A s.heap σ H locs → lv_has ls 10 [(0, .ref (ad 5)), (4, .int x4), (5, .int x5), (7, .int x7), (8, .int x8)] → W p l e (headSpec ws_X0_sendFrom rm_X0_sendFrom).room s m ([.ref (ad 5), .int a1] : List Value).toArray below meth c H locs 0 0 (MQ below (va_Qi Q (gB D cy ad A) A) ([.ref (ad 5), .int a1] : List Value).toArray s 0 0 A) (F0 m 167 ls [.int v0]) := by
        intro x4 x5 x7 x8 v0 σ H locs ls h hI hl
        unfold w_X0_sendFrom_167 at h
        refine lv_istore (lv' := [(9, .int v0), (0, .ref (ad 5)), (4, .int x4), (5, .int x5), (7, .int x7), (8, .int x8)]) hx hb dX0_sendFrom_167 hl (by decide) rfl (fun ls hl => ?_)
        refine lv_iload hx hb dX0_sendFrom_169 (lv_at hl 4 rfl) ?_
        refine lv_bipush (v := 28) hx hb dX0_sendFrom_171 (by decide) ?_
        refine lv_icmp_ge (tgt := 189) hx hb dX0_sendFrom_173 (by decide) (fun c16 => ?_) (fun c16 => ?_)
        · have h := h.1 c16
          refine lv_aload_n hx hb dX0_sendFrom_189 rfl (lv_at hl 1 rfl) ?_
          obtain ⟨hz17, h⟩ := h
          refine gg_X0_ground hC hI gw_1_102 dX0_sendFrom_190 hz17 ?_
          refine gg_X2_heads hC hI gw_1_149 dX0_sendFrom_193 ?_
          refine lv_iload hx hb dX0_sendFrom_196 (lv_at hl 4 rfl) ?_
          refine lv_bipush (v := 28) hx hb dX0_sendFrom_198 (by decide) ?_
          refine lv_isub hx hb dX0_sendFrom_200 ?_
          refine lv_iconst (v := 1) hx hb dX0_sendFrom_201 (by decide) ?_
          refine lv_ixor hx hb dX0_sendFrom_202 ?_
          obtain ⟨hi18, h⟩ := h
          refine ga_25 hC hI hi18 dX0_sendFrom_203 ?_
          exact J204 _ _ _ _ _ _ _ _ _ h hI (lv_sub hl [1, 2, 3, 5, 0] rfl)
        · have h := h.2 c16
          refine lv_aload_n hx hb dX0_sendFrom_176 rfl (lv_at hl 1 rfl) ?_
          obtain ⟨hz19, h⟩ := h
          refine gg_X0_ground hC hI gw_1_102 dX0_sendFrom_177 hz19 ?_
          refine gg_X2_heads hC hI gw_1_149 dX0_sendFrom_180 ?_
          refine lv_iload hx hb dX0_sendFrom_183 (lv_at hl 4 rfl) ?_
          obtain ⟨hi20, h⟩ := h
          refine ga_25 hC hI hi20 dX0_sendFrom_185 ?_
          refine lv_goto (tgt := 204) hx hb dX0_sendFrom_186 (by decide) ?_
          exact J204 _ _ _ _ _ _ _ _ _ h hI (lv_sub hl [1, 2, 3, 5, 0] rfl)
      intro x2 x3 x4 x5 σ H locs ls h hI hl
      unfold w_X0_sendFrom_54 at h
      refine lv_iload hx hb dX0_sendFrom_54 (lv_at hl 4 rfl) ?_
      refine lv_sipush (v := 320) hx hb dX0_sendFrom_56 (by decide) ?_
      refine lv_icmp_gt (tgt := 225) hx hb dX0_sendFrom_59 (by decide) (fun c21 => ?_) (fun c21 => ?_)
      · have h := h.1 c21
        refine lv_iload hx hb dX0_sendFrom_225 (lv_at hl 3 rfl) ?_
        exact g_iret hC hr hlocks hI h dX0_sendFrom_227
      · have h := h.2 c21
        refine lv_bipush (v := 40) hx hb dX0_sendFrom_62 (by decide) ?_
        refine lv_iload_n hx hb dX0_sendFrom_64 rfl (lv_at hl 1 rfl) ?_
        refine lv_imul hx hb dX0_sendFrom_65 ?_
        refine lv_iload_n hx hb dX0_sendFrom_66 rfl (lv_at hl 2 rfl) ?_
        refine lv_iadd hx hb dX0_sendFrom_67 ?_
        refine lv_topi (fun y22 ey22 => ?_)
        have h := h y22 ey22
        refine lv_istore (lv' := [(6, .int y22), (0, .ref (ad 5)), (2, .int x2), (3, .int x3), (4, .int x4), (5, .int x5)]) hx hb dX0_sendFrom_68 hl (by decide) rfl (fun ls hl => ?_)
        refine lv_aload_n hx hb dX0_sendFrom_70 rfl (lv_at hl 1 rfl) ?_
        refine gg_X0_steps hC hI gw_1_111 dX0_sendFrom_71 ?_
        refine lv_iload hx hb dX0_sendFrom_74 (lv_at hl 0 rfl) ?_
        obtain ⟨hi23, h⟩ := h
        refine ga_37 hC hI hi23 dX0_sendFrom_76 ?_
        refine lv_topi (fun y24 ey24 => ?_)
        have h := h y24 ey24
        refine lv_istore (lv' := [(7, .int y24), (6, .int y22), (0, .ref (ad 5)), (2, .int x2), (3, .int x3), (4, .int x4), (5, .int x5)]) hx hb dX0_sendFrom_77 hl (by decide) rfl (fun ls hl => ?_)
        refine lv_iload hx hb dX0_sendFrom_79 (lv_at hl 0 rfl) ?_
        refine lv_bipush (v := 57) hx hb dX0_sendFrom_81 (by decide) ?_
        refine lv_icmp_ne (tgt := 100) hx hb dX0_sendFrom_83 (by decide) (fun c25 => ?_) (fun c25 => ?_)
        · have h := h.1 c25
          refine lv_aload_n hx hb dX0_sendFrom_100 rfl (lv_at hl 2 rfl) ?_
          refine gg_X0_nextMinutes hC hI gw_1_112 dX0_sendFrom_101 ?_
          refine lv_iload hx hb dX0_sendFrom_104 (lv_at hl 1 rfl) ?_
          obtain ⟨hi26, h⟩ := h
          refine ga_38 hC hI hi26 dX0_sendFrom_106 ?_
          refine lv_topi (fun y27 ey27 => ?_)
          have h := h y27 ey27
          refine lv_istore (lv' := [(8, .int y27), (7, .int y24), (6, .int y22), (0, .ref (ad 5)), (2, .int x2), (3, .int x3), (4, .int x4), (5, .int x5)]) hx hb dX0_sendFrom_107 hl (by decide) rfl (fun ls hl => ?_)
          refine lv_iload hx hb dX0_sendFrom_109 (lv_at hl 1 rfl) ?_
          refine lv_bipush (v := 56) hx hb dX0_sendFrom_111 (by decide) ?_
          refine lv_icmp_ne (tgt := 136) hx hb dX0_sendFrom_113 (by decide) (fun c28 => ?_) (fun c28 => ?_)
          · have h := h.1 c28
            refine lv_iload hx hb dX0_sendFrom_136 (lv_at hl 1 rfl) ?_
            refine lv_bipush (v := 28) hx hb dX0_sendFrom_138 (by decide) ?_
            refine lv_icmp_ge (tgt := 155) hx hb dX0_sendFrom_140 (by decide) (fun c29 => ?_) (fun c29 => ?_)
            · have h := h.1 c29
              refine lv_aload_n hx hb dX0_sendFrom_155 rfl (lv_at hl 3 rfl) ?_
              refine lv_iload hx hb dX0_sendFrom_156 (lv_at hl 1 rfl) ?_
              refine lv_bipush (v := 28) hx hb dX0_sendFrom_158 (by decide) ?_
              refine lv_isub hx hb dX0_sendFrom_160 ?_
              refine lv_iload_n hx hb dX0_sendFrom_161 rfl (lv_at hl 5 rfl) ?_
              refine lv_iload hx hb dX0_sendFrom_162 (lv_at hl 6 rfl) ?_
              refine g_backi hI (g_runV (As := [.int (y24 - 28), .int x3, .int x4]) (rest := []) hC hml hI (c_X0_undoArc l D cy ad A _  _ _ _ _ h) k_X0_undoArc gw_2_171 ⟨rfl, rfl⟩ ⟨Nat.le_of_ble_eq_true rfl, Nat.le_of_ble_eq_true rfl⟩ (grv_5 hC hI) rfl hl.1 rfl (Nat.le_of_ble_eq_true rfl) dX0_sendFrom_164 ⟨Nat.le_of_ble_eq_true rfl, Nat.le_of_ble_eq_true rfl⟩) (fun r31 s30 H locs h hI => ?_)
              exact J167 _ _ _ _ _ _ _ _ _ h hI (lv_sub hl [3, 6, 7, 1, 0] rfl)
            · have h := h.2 c29
              refine lv_aload_n hx hb dX0_sendFrom_143 rfl (lv_at hl 3 rfl) ?_
              refine lv_iload hx hb dX0_sendFrom_144 (lv_at hl 1 rfl) ?_
              refine lv_iload_n hx hb dX0_sendFrom_146 rfl (lv_at hl 5 rfl) ?_
              refine lv_iload hx hb dX0_sendFrom_147 (lv_at hl 6 rfl) ?_
              refine g_backi hI (g_runV (As := [.int y24, .int x3, .int x4]) (rest := []) hC hml hI (c_X0_takeArc l D cy ad A _  _ _ _ _ h) k_X0_takeArc gw_2_167 ⟨rfl, rfl⟩ ⟨Nat.le_of_ble_eq_true rfl, Nat.le_of_ble_eq_true rfl⟩ (grv_5 hC hI) rfl hl.1 rfl (Nat.le_of_ble_eq_true rfl) dX0_sendFrom_149 ⟨Nat.le_of_ble_eq_true rfl, Nat.le_of_ble_eq_true rfl⟩) (fun r33 s32 H locs h hI => ?_)
              refine lv_goto (tgt := 167) hx hb dX0_sendFrom_152 (by decide) ?_
              exact J167 _ _ _ _ _ _ _ _ _ h hI (lv_sub hl [3, 6, 7, 1, 0] rfl)
          · have h := h.2 c28
            refine lv_aload_n hx hb dX0_sendFrom_116 rfl (lv_at hl 3 rfl) ?_
            refine gg_X0_waits hC hI gw_1_105 dX0_sendFrom_117 ?_
            refine lv_bipush (v := 40) hx hb dX0_sendFrom_120 (by decide) ?_
            refine lv_iload_n hx hb dX0_sendFrom_122 rfl (lv_at hl 4 rfl) ?_
            refine lv_imul hx hb dX0_sendFrom_123 ?_
            refine lv_iload hx hb dX0_sendFrom_124 (lv_at hl 0 rfl) ?_
            refine lv_iadd hx hb dX0_sendFrom_126 ?_
            refine lv_dup2_11 hx hb dX0_sendFrom_127 rfl rfl ?_
            obtain ⟨hi34, h⟩ := h
            refine ga_31 hC hI hi34 dX0_sendFrom_128 ?_
            refine lv_iload hx hb dX0_sendFrom_129 (lv_at hl 6 rfl) ?_
            refine lv_isub hx hb dX0_sendFrom_131 ?_
            obtain ⟨hi35, h⟩ := h
            refine gs_31 hC hI hi35 dX0_sendFrom_132 (fun s36 H locs es36 hI => ?_)
            have h := h s36 es36
            refine lv_goto (tgt := 216) hx hb dX0_sendFrom_133 (by decide) ?_
            exact J216 _ _ _ _ _ _ _ _ h hI (lv_sub hl [3, 4, 6, 7, 0] rfl)
        · have h := h.2 c25
          refine lv_aload_n hx hb dX0_sendFrom_86 rfl (lv_at hl 2 rfl) ?_
          refine gg_X0_gateRoom hC hI gw_1_108 dX0_sendFrom_87 ?_
          refine lv_iload_n hx hb dX0_sendFrom_90 rfl (lv_at hl 3 rfl) ?_
          refine lv_dup2_11 hx hb dX0_sendFrom_91 rfl rfl ?_
          obtain ⟨hi37, h⟩ := h
          refine ga_34 hC hI hi37 dX0_sendFrom_92 ?_
          refine lv_iload hx hb dX0_sendFrom_93 (lv_at hl 5 rfl) ?_
          refine lv_isub hx hb dX0_sendFrom_95 ?_
          obtain ⟨hi38, h⟩ := h
          refine gs_34 hC hI hi38 dX0_sendFrom_96 (fun s39 H locs es39 hI => ?_)
          have h := h s39 es39
          refine lv_iload hx hb dX0_sendFrom_97 (lv_at hl 5 rfl) ?_
          exact g_iret hC hr hlocks hI h dX0_sendFrom_99
  have hl := lv_entry ([.ref (ad 5), .int a1]) (n := 10) (Nat.le_of_ble_eq_true rfl)
  rw [lg_entry_eq]
  generalize (lg_sl ([.ref (ad 5), .int a1]) ++ List.replicate (10 - (lg_sl ([.ref (ad 5), .int a1])).length) Slot.unset).toArray = ls at hl ⊢
  have hl : lv_has ls 10 [(0, .ref (ad 5)), (1, .int a1)] := hl
  unfold w_X0_sendFrom at h
  refine lv_iload_n hx hb dX0_sendFrom_0 rfl (lv_at hl 1 rfl) ?_
  refine lv_istore_n (lv' := [(2, .int a1), (0, .ref (ad 5)), (1, .int a1)]) hx hb dX0_sendFrom_1 rfl hl (by decide) rfl (fun ls hl => ?_)
  refine lv_aload_n hx hb dX0_sendFrom_2 rfl (lv_at hl 1 rfl) ?_
  refine gg_X0_latest hC hI gw_1_109 dX0_sendFrom_3 ?_
  refine lv_iload_n hx hb dX0_sendFrom_6 rfl (lv_at hl 2 rfl) ?_
  obtain ⟨hi40, h⟩ := h
  refine ga_35 hC hI hi40 dX0_sendFrom_7 ?_
  refine lv_topi (fun y41 ey41 => ?_)
  have h := h y41 ey41
  refine lv_istore_n (lv' := [(3, .int y41), (2, .int a1), (0, .ref (ad 5)), (1, .int a1)]) hx hb dX0_sendFrom_8 rfl hl (by decide) rfl (fun ls hl => ?_)
  refine lv_aload_n hx hb dX0_sendFrom_9 rfl (lv_at hl 2 rfl) ?_
  refine gg_X0_unsent hC hI gw_1_107 dX0_sendFrom_10 ?_
  refine lv_iload_n hx hb dX0_sendFrom_13 rfl (lv_at hl 3 rfl) ?_
  obtain ⟨hi42, h⟩ := h
  refine ga_33 hC hI hi42 dX0_sendFrom_14 ?_
  refine lv_aload_n hx hb dX0_sendFrom_15 rfl (lv_at hl 2 rfl) ?_
  refine gg_X0_rooms hC hI gw_1_113 dX0_sendFrom_16 ?_
  refine lv_bipush (v := 40) hx hb dX0_sendFrom_19 (by decide) ?_
  refine lv_iload_n hx hb dX0_sendFrom_21 rfl (lv_at hl 3 rfl) ?_
  refine lv_imul hx hb dX0_sendFrom_22 ?_
  refine lv_iload_n hx hb dX0_sendFrom_23 rfl (lv_at hl 0 rfl) ?_
  refine lv_iadd hx hb dX0_sendFrom_24 ?_
  obtain ⟨hi43, h⟩ := h
  refine ga_39 hC hI hi43 dX0_sendFrom_25 ?_
  refine va_mmin hx hb (by rw [hml]; exact hl.1.symm) hC.2.2.2.1 (hC.2.2.1 _ gw_2_140) (hC.2.2.1 _ gw_2_141) (hC.2.2.1 _ gw_1_18) (hC.2.2.1 _ gw_2_142) (Nat.le_of_ble_eq_true rfl) (Nat.le_of_ble_eq_true rfl) (Nat.le_of_ble_eq_true rfl) (Nat.le_of_ble_eq_true rfl) dX0_sendFrom_26 ?_
  refine lv_topi (fun y44 ey44 => ?_)
  have h := h y44 ey44
  refine lv_istore (lv' := [(4, .int y44), (3, .int y41), (2, .int a1), (0, .ref (ad 5)), (1, .int a1)]) hx hb dX0_sendFrom_29 hl (by decide) rfl (fun ls hl => ?_)
  refine lv_aload_n hx hb dX0_sendFrom_31 rfl (lv_at hl 3 rfl) ?_
  refine gg_X0_unsent hC hI gw_1_107 dX0_sendFrom_32 ?_
  refine lv_iload_n hx hb dX0_sendFrom_35 rfl (lv_at hl 4 rfl) ?_
  refine lv_dup2_11 hx hb dX0_sendFrom_36 rfl rfl ?_
  obtain ⟨hi45, h⟩ := h
  refine ga_33 hC hI hi45 dX0_sendFrom_37 ?_
  refine lv_iload hx hb dX0_sendFrom_38 (lv_at hl 0 rfl) ?_
  refine lv_isub hx hb dX0_sendFrom_40 ?_
  obtain ⟨hi46, h⟩ := h
  refine gs_33 hC hI hi46 dX0_sendFrom_41 (fun s47 H locs es47 hI => ?_)
  have h := h s47 es47
  refine lv_aload_n hx hb dX0_sendFrom_42 rfl (lv_at hl 3 rfl) ?_
  refine lv_iload_n hx hb dX0_sendFrom_43 rfl (lv_at hl 2 rfl) ?_
  refine lv_iconst (v := 0) hx hb dX0_sendFrom_44 (by decide) ?_
  refine lv_iload_n hx hb dX0_sendFrom_45 rfl (lv_at hl 1 rfl) ?_
  refine lv_iload hx hb dX0_sendFrom_46 (lv_at hl 0 rfl) ?_
  refine g_backv hI (g_runV (As := [.int a1, .int 0, .int y41, .int y44]) (rest := []) hC hml hI (c_X0_letWait l D cy ad A _  _ _ _ _ _ h) k_X0_letWait gw_2_163 ⟨rfl, rfl⟩ ⟨Nat.le_of_ble_eq_true rfl, Nat.le_of_ble_eq_true rfl⟩ (grv_5 hC hI) rfl hl.1 rfl (Nat.le_of_ble_eq_true rfl) dX0_sendFrom_48 ⟨Nat.le_of_ble_eq_true rfl, Nat.le_of_ble_eq_true rfl⟩) (fun s48 H locs h hI => ?_)
  refine lv_iconst (v := 0) hx hb dX0_sendFrom_51 (by decide) ?_
  refine lv_istore (lv' := [(5, .int 0), (4, .int y44), (3, .int y41), (2, .int a1), (0, .ref (ad 5)), (1, .int a1)]) hx hb dX0_sendFrom_52 hl (by decide) rfl (fun ls hl => ?_)
  obtain ⟨n9, h⟩ := h
  exact J54 n9 _ _ _ _ _ _ _ _ h hI (lv_sub hl [4, 3, 2, 1, 0] rfl)

theorem dX0_fewestMinutes_0 : decode cX0_fewestMinutes 0 = .ok (.aload_n 0, 1) := by decide +kernel
theorem dX0_fewestMinutes_1 : decode cX0_fewestMinutes 1 = .ok (.aload_n 1, 1) := by decide +kernel
theorem dX0_fewestMinutes_2 : decode cX0_fewestMinutes 2 = .ok (.putfield 45, 3) := by decide +kernel
theorem dX0_fewestMinutes_5 : decode cX0_fewestMinutes 5 = .ok (.aload_n 0, 1) := by decide +kernel
theorem dX0_fewestMinutes_6 : decode cX0_fewestMinutes 6 = .ok (.invokevirtual 49, 3) := by decide +kernel
theorem dX0_fewestMinutes_9 : decode cX0_fewestMinutes 9 = .ok (.istore_n 3, 1) := by decide +kernel
theorem dX0_fewestMinutes_10 : decode cX0_fewestMinutes 10 = .ok (.iload_n 3, 1) := by decide +kernel
theorem dX0_fewestMinutes_11 : decode cX0_fewestMinutes 11 = .ok (.ifCond .gt 5, 3) := by decide +kernel
theorem dX0_fewestMinutes_14 : decode cX0_fewestMinutes 14 = .ok (.iconst 0, 1) := by decide +kernel
theorem dX0_fewestMinutes_15 : decode cX0_fewestMinutes 15 = .ok (.ireturn, 1) := by decide +kernel
theorem dX0_fewestMinutes_16 : decode cX0_fewestMinutes 16 = .ok (.iconst 0, 1) := by decide +kernel
theorem dX0_fewestMinutes_17 : decode cX0_fewestMinutes 17 = .ok (.istore 4, 2) := by decide +kernel
theorem dX0_fewestMinutes_19 : decode cX0_fewestMinutes 19 = .ok (.iload 4, 2) := by decide +kernel
theorem dX0_fewestMinutes_21 : decode cX0_fewestMinutes 21 = .ok (.bipush 40, 2) := by decide +kernel
theorem dX0_fewestMinutes_23 : decode cX0_fewestMinutes 23 = .ok (.if_icmp .ge 72, 3) := by decide +kernel
theorem dX0_fewestMinutes_26 : decode cX0_fewestMinutes 26 = .ok (.aload_n 0, 1) := by decide +kernel
theorem dX0_fewestMinutes_27 : decode cX0_fewestMinutes 27 = .ok (.iload 4, 2) := by decide +kernel
theorem dX0_fewestMinutes_29 : decode cX0_fewestMinutes 29 = .ok (.putfield 53, 3) := by decide +kernel
theorem dX0_fewestMinutes_32 : decode cX0_fewestMinutes 32 = .ok (.aload_n 0, 1) := by decide +kernel
theorem dX0_fewestMinutes_33 : decode cX0_fewestMinutes 33 = .ok (.iload_n 2, 1) := by decide +kernel
theorem dX0_fewestMinutes_34 : decode cX0_fewestMinutes 34 = .ok (.invokevirtual 57, 3) := by decide +kernel
theorem dX0_fewestMinutes_37 : decode cX0_fewestMinutes 37 = .ok (.aload_n 0, 1) := by decide +kernel
theorem dX0_fewestMinutes_38 : decode cX0_fewestMinutes 38 = .ok (.invokevirtual 61, 3) := by decide +kernel
theorem dX0_fewestMinutes_41 : decode cX0_fewestMinutes 41 = .ok (.istore 5, 2) := by decide +kernel
theorem dX0_fewestMinutes_43 : decode cX0_fewestMinutes 43 = .ok (.iconst 0, 1) := by decide +kernel
theorem dX0_fewestMinutes_44 : decode cX0_fewestMinutes 44 = .ok (.istore 6, 2) := by decide +kernel
theorem dX0_fewestMinutes_46 : decode cX0_fewestMinutes 46 = .ok (.iload 6, 2) := by decide +kernel
theorem dX0_fewestMinutes_48 : decode cX0_fewestMinutes 48 = .ok (.ldc 64, 2) := by decide +kernel
theorem dX0_fewestMinutes_50 : decode cX0_fewestMinutes 50 = .ok (.if_icmp .ge 39, 3) := by decide +kernel
theorem dX0_fewestMinutes_53 : decode cX0_fewestMinutes 53 = .ok (.iload 5, 2) := by decide +kernel
theorem dX0_fewestMinutes_55 : decode cX0_fewestMinutes 55 = .ok (.iconst (-1), 1) := by decide +kernel
theorem dX0_fewestMinutes_56 : decode cX0_fewestMinutes 56 = .ok (.if_icmp .eq 33, 3) := by decide +kernel
theorem dX0_fewestMinutes_59 : decode cX0_fewestMinutes 59 = .ok (.iload_n 3, 1) := by decide +kernel
theorem dX0_fewestMinutes_60 : decode cX0_fewestMinutes 60 = .ok (.aload_n 0, 1) := by decide +kernel
theorem dX0_fewestMinutes_61 : decode cX0_fewestMinutes 61 = .ok (.iload 5, 2) := by decide +kernel
theorem dX0_fewestMinutes_63 : decode cX0_fewestMinutes 63 = .ok (.invokevirtual 65, 3) := by decide +kernel
theorem dX0_fewestMinutes_66 : decode cX0_fewestMinutes 66 = .ok (.isub, 1) := by decide +kernel
theorem dX0_fewestMinutes_67 : decode cX0_fewestMinutes 67 = .ok (.istore_n 3, 1) := by decide +kernel
theorem dX0_fewestMinutes_68 : decode cX0_fewestMinutes 68 = .ok (.iload_n 3, 1) := by decide +kernel
theorem dX0_fewestMinutes_69 : decode cX0_fewestMinutes 69 = .ok (.ifCond .gt 8, 3) := by decide +kernel
theorem dX0_fewestMinutes_72 : decode cX0_fewestMinutes 72 = .ok (.iload 4, 2) := by decide +kernel
theorem dX0_fewestMinutes_74 : decode cX0_fewestMinutes 74 = .ok (.iconst 1, 1) := by decide +kernel
theorem dX0_fewestMinutes_75 : decode cX0_fewestMinutes 75 = .ok (.iadd, 1) := by decide +kernel
theorem dX0_fewestMinutes_76 : decode cX0_fewestMinutes 76 = .ok (.ireturn, 1) := by decide +kernel
theorem dX0_fewestMinutes_77 : decode cX0_fewestMinutes 77 = .ok (.aload_n 0, 1) := by decide +kernel
theorem dX0_fewestMinutes_78 : decode cX0_fewestMinutes 78 = .ok (.invokevirtual 61, 3) := by decide +kernel
theorem dX0_fewestMinutes_81 : decode cX0_fewestMinutes 81 = .ok (.istore 5, 2) := by decide +kernel
theorem dX0_fewestMinutes_83 : decode cX0_fewestMinutes 83 = .ok (.iinc 6 1, 3) := by decide +kernel
theorem dX0_fewestMinutes_86 : decode cX0_fewestMinutes 86 = .ok (.goto (-40), 3) := by decide +kernel
theorem dX0_fewestMinutes_89 : decode cX0_fewestMinutes 89 = .ok (.iinc 4 1, 3) := by decide +kernel
theorem dX0_fewestMinutes_92 : decode cX0_fewestMinutes 92 = .ok (.goto (-73), 3) := by decide +kernel
theorem dX0_fewestMinutes_95 : decode cX0_fewestMinutes 95 = .ok (.iconst (-1), 1) := by decide +kernel
theorem dX0_fewestMinutes_96 : decode cX0_fewestMinutes 96 = .ok (.ireturn, 1) := by decide +kernel
def w_X0_fewestMinutes_46 (Q : Int32 → gS → Prop) (k19 : Int32 → Int32 → Int32 → gS → Prop) : Nat → Int32 → Int32 → Int32 → Int32 → Int32 → gS → Prop
  | 0, _, _, _, _, _, _ => False
  | n46 + 1, x2, x3, x4, x5, x6, σ =>
    (1000000 ≤ x6 → ∀ y2 : Int32, y2 = x4 + 1 → k19 x2 x3 y2 σ) ∧ (¬ 1000000 ≤ x6 → (x5 = (-1) → ∀ y4 : Int32, y4 = x4 + 1 → k19 x2 x3 y4 σ) ∧ (¬ x5 = (-1) → w_X0_sendFrom  (fun (r6 : Int32) (s5 : gS) => ∀ y7 : Int32, y7 = (x3 - r6) → (0 < y7 → w_X0_findStart  (fun (r10 : Int32) (s9 : gS) => ∀ y11 : Int32, y11 = x6 + 1 → w_X0_fewestMinutes_46 Q k19 n46 x2 y7 x4 r10 y11 s9) s5) ∧ (¬ 0 < y7 → Q (x4 + 1) s5)) σ x5))
def w_X0_fewestMinutes_19 (Q : Int32 → gS → Prop) : Nat → Int32 → Int32 → Int32 → gS → Prop
  | 0, _, _, _, _ => False
  | n19 + 1, x2, x3, x4, σ =>
    (40 ≤ x4 → Q (-1) σ) ∧ (¬ 40 ≤ x4 → ∀ s13 : gS, s13 = gu σ 36 0 x4 → w_X0_openGates  (fun (s14 : gS) => w_X0_findStart  (fun (r17 : Int32) (s16 : gS) => ∃ n46, w_X0_fewestMinutes_46 Q (w_X0_fewestMinutes_19 Q n19) n46 x2 x3 x4 r17 0 s16) s14) s13 x2)
def w_X0_fewestMinutes (Q : Int32 → gS → Prop) (σ : gS) (a2 : Int32) : Prop :=
    ∀ s18 : gS, s18 = gu σ 35 0 1 → w_X0_startAnew  (fun (r20 : Int32) (s19 : gS) => (0 < r20 → ∃ n19, w_X0_fewestMinutes_19 Q n19 a2 r20 0 s19) ∧ (¬ 0 < r20 → Q 0 s19)) s18
abbrev ws_X0_fewestMinutes : List Cond := Cond.code yX0_fewestMinutes cX0_fewestMinutes 7 (some .int) :: gG
abbrev rm_X0_fewestMinutes : Room := { frames := 3, cells := 0, slots := 0, locals := 80 }
theorem k_X0_fewestMinutes : gCV yX0_fewestMinutes RX0 cX0_fewestMinutes 7 (some .int) 2 := ⟨gw_2_104, gw_2_105, gw_1_7, gw_2_106, rfl, by decide +kernel⟩
set_option maxHeartbeats 4000000 in
set_option maxRecDepth 100000 in
theorem c_X0_fewestMinutes (l : Launch) (D : va_G) (cy : Nat → ClassId) (ad : Nat → Nat) (A : Nat → Prop) (Q : Int32 → gS → Prop) (σ : gS) (a2 : Int32) (h : w_X0_fewestMinutes Q σ a2) : Met l yX0_fewestMinutes ws_X0_fewestMinutes rm_X0_fewestMinutes (va_Pc [.ref (ad 5), .ref (ad 4), .int a2] (gB D cy ad A σ)) (va_Qi Q (gB D cy ad A) A) 0 0 A := by
  refine Met.ofW (cc := cX0_fewestMinutes) (maxL := 7) (ret := (some .int)) (by decide) rfl ?_
  intro p e s m args below meth c s₁ B hml hv
  obtain ⟨rfl, hB⟩ := hv
  have hC : gC p c cX0_fewestMinutes s m ([.ref (ad 5), .ref (ad 4), .int a2] : List Value).toArray RX0 D cy ad A := g_start B hB
  have hI := g_first hB
  have hx := hC.1
  have hb := hC.2.1
  have hr := B.returns
  have hlocks := B.notSynchronized
  clear B hB
  have J19 : ∀ (n19 : Nat) (x2 : Int32) (x3 : Int32) (x4 : Int32) (σ : gS) (H : Heap) (locs : List Loc) (ls : Array Slot), w_X0_fewestMinutes_19 Q n19 x2 x3 x4 σ → gI D cy ad A s.heap σ H locs → lv_has ls 7 [(0, .ref (ad 5)), (2, .int x2), (3, .int x3), (4, .int x4)] → W p l e (headSpec ws_X0_fewestMinutes rm_X0_fewestMinutes).room s m ([.ref (ad 5), .ref (ad 4), .int a2] : List Value).toArray below meth c H locs 0 0 (MQ below (va_Qi Q (gB D cy ad A) A) ([.ref (ad 5), .ref (ad 4), .int a2] : List Value).toArray s 0 0 A) (F0 m 19 ls []) := by
    intro n19
    induction n19 with
    | zero => intro x2 x3 x4 σ H locs ls h; exact absurd h (fun h => h)
    | succ n19 ih19 =>
      have J46 : ∀ (n46 : Nat) (x2 : Int32) (x3 : Int32) (x4 : Int32) (x5 : Int32) (x6 : Int32) (σ : gS) (H : Heap) (locs : List Loc) (ls : Array Slot), w_X0_fewestMinutes_46 Q (w_X0_fewestMinutes_19 Q n19) n46 x2 x3 x4 x5 x6 σ → gI D cy ad A s.heap σ H locs → lv_has ls 7 [(0, .ref (ad 5)), (2, .int x2), (3, .int x3), (4, .int x4), (5, .int x5), (6, .int x6)] → W p l e (headSpec ws_X0_fewestMinutes rm_X0_fewestMinutes).room s m ([.ref (ad 5), .ref (ad 4), .int a2] : List Value).toArray below meth c H locs 0 0 (MQ below (va_Qi Q (gB D cy ad A) A) ([.ref (ad 5), .ref (ad 4), .int a2] : List Value).toArray s 0 0 A) (F0 m 46 ls []) := by
        intro n46
        induction n46 with
        | zero => intro x2 x3 x4 x5 x6 σ H locs ls h; exact absurd h (fun h => h)
        | succ n46 ih46 =>
          intro x2 x3 x4 x5 x6 σ H locs ls h hI hl
          unfold w_X0_fewestMinutes_46 at h
          refine lv_iload hx hb dX0_fewestMinutes_46 (lv_at hl 5 rfl) ?_
          refine lv_ldc (v := 1000000) hx hb hC.2.2.2.1 (hC.2.2.1 _ gw_2_158) dX0_fewestMinutes_48 ?_
          refine lv_icmp_ge (tgt := 89) hx hb dX0_fewestMinutes_50 (by decide) (fun c1 => ?_) (fun c1 => ?_)
          · have h := h.1 c1
            obtain ⟨y2, ey2⟩ : ∃ y : Int32, y = x4 + 1 := ⟨_, rfl⟩
            have h := h y2 ey2
            refine lv_iinc (v := y2) (lv' := [(4, .int y2), (0, .ref (ad 5)), (2, .int x2), (3, .int x3), (5, .int x5), (6, .int x6)]) hx hb dX0_fewestMinutes_89 hl (k := 3) rfl (by rw [ey2]; rfl) (by decide) rfl (fun ls hl => ?_)
            refine lv_goto (tgt := 19) hx hb dX0_fewestMinutes_92 (by decide) ?_
            exact ih19 _ _ _ _ _ _ _ h hI (lv_sub hl [1, 2, 3, 0] rfl)
          · have h := h.2 c1
            refine lv_iload hx hb dX0_fewestMinutes_53 (lv_at hl 4 rfl) ?_
            refine lv_iconst (v := (-1)) hx hb dX0_fewestMinutes_55 (by decide) ?_
            refine lv_icmp_eq (tgt := 89) hx hb dX0_fewestMinutes_56 (by decide) (fun c3 => ?_) (fun c3 => ?_)
            · have h := h.1 c3
              obtain ⟨y4, ey4⟩ : ∃ y : Int32, y = x4 + 1 := ⟨_, rfl⟩
              have h := h y4 ey4
              refine lv_iinc (v := y4) (lv' := [(4, .int y4), (0, .ref (ad 5)), (2, .int x2), (3, .int x3), (5, .int x5), (6, .int x6)]) hx hb dX0_fewestMinutes_89 hl (k := 3) rfl (by rw [ey4]; rfl) (by decide) rfl (fun ls hl => ?_)
              refine lv_goto (tgt := 19) hx hb dX0_fewestMinutes_92 (by decide) ?_
              exact ih19 _ _ _ _ _ _ _ h hI (lv_sub hl [1, 2, 3, 0] rfl)
            · have h := h.2 c3
              refine lv_iload_n hx hb dX0_fewestMinutes_59 rfl (lv_at hl 2 rfl) ?_
              refine lv_aload_n hx hb dX0_fewestMinutes_60 rfl (lv_at hl 0 rfl) ?_
              refine lv_iload hx hb dX0_fewestMinutes_61 (lv_at hl 4 rfl) ?_
              refine g_backi hI (g_runV (As := [.int x5]) (rest := [.int x3]) hC hml hI (c_X0_sendFrom l D cy ad A _  _ _ h) k_X0_sendFrom gw_2_159 ⟨rfl, rfl⟩ ⟨Nat.le_of_ble_eq_true rfl, Nat.le_of_ble_eq_true rfl⟩ (grv_5 hC hI) rfl hl.1 rfl (Nat.le_of_ble_eq_true rfl) dX0_fewestMinutes_63 ⟨Nat.le_of_ble_eq_true rfl, Nat.le_of_ble_eq_true rfl⟩) (fun r6 s5 H locs h hI => ?_)
              refine lv_isub hx hb dX0_fewestMinutes_66 ?_
              refine lv_topi (fun y7 ey7 => ?_)
              have h := h y7 ey7
              refine lv_istore_n (lv' := [(3, .int y7), (0, .ref (ad 5)), (2, .int x2), (4, .int x4), (5, .int x5), (6, .int x6)]) hx hb dX0_fewestMinutes_67 rfl hl (by decide) rfl (fun ls hl => ?_)
              refine lv_iload_n hx hb dX0_fewestMinutes_68 rfl (lv_at hl 0 rfl) ?_
              refine lv_if_gt (tgt := 77) hx hb dX0_fewestMinutes_69 (by decide) (fun c8 => ?_) (fun c8 => ?_)
              · have h := h.1 c8
                refine lv_aload_n hx hb dX0_fewestMinutes_77 rfl (lv_at hl 1 rfl) ?_
                refine g_backi hI (g_runV (As := []) (rest := []) hC hml hI (c_X0_findStart l D cy ad A _  _ h) k_X0_findStart gw_2_120 ⟨rfl, rfl⟩ ⟨Nat.le_of_ble_eq_true rfl, Nat.le_of_ble_eq_true rfl⟩ (grv_5 hC hI) rfl hl.1 rfl (Nat.le_of_ble_eq_true rfl) dX0_fewestMinutes_78 ⟨Nat.le_of_ble_eq_true rfl, Nat.le_of_ble_eq_true rfl⟩) (fun r10 s9 H locs h hI => ?_)
                refine lv_istore (lv' := [(5, .int r10), (3, .int y7), (0, .ref (ad 5)), (2, .int x2), (4, .int x4), (6, .int x6)]) hx hb dX0_fewestMinutes_81 hl (by decide) rfl (fun ls hl => ?_)
                obtain ⟨y11, ey11⟩ : ∃ y : Int32, y = x6 + 1 := ⟨_, rfl⟩
                have h := h y11 ey11
                refine lv_iinc (v := y11) (lv' := [(6, .int y11), (5, .int r10), (3, .int y7), (0, .ref (ad 5)), (2, .int x2), (4, .int x4)]) hx hb dX0_fewestMinutes_83 hl (k := 5) rfl (by rw [ey11]; rfl) (by decide) rfl (fun ls hl => ?_)
                refine lv_goto (tgt := 46) hx hb dX0_fewestMinutes_86 (by decide) ?_
                exact ih46 _ _ _ _ _ _ _ _ _ h hI (lv_sub hl [3, 4, 2, 5, 1, 0] rfl)
              · have h := h.2 c8
                refine lv_iload hx hb dX0_fewestMinutes_72 (lv_at hl 3 rfl) ?_
                refine lv_iconst (v := 1) hx hb dX0_fewestMinutes_74 (by decide) ?_
                refine lv_iadd hx hb dX0_fewestMinutes_75 ?_
                exact g_iret hC hr hlocks hI h dX0_fewestMinutes_76
      intro x2 x3 x4 σ H locs ls h hI hl
      unfold w_X0_fewestMinutes_19 at h
      refine lv_iload hx hb dX0_fewestMinutes_19 (lv_at hl 3 rfl) ?_
      refine lv_bipush (v := 40) hx hb dX0_fewestMinutes_21 (by decide) ?_
      refine lv_icmp_ge (tgt := 95) hx hb dX0_fewestMinutes_23 (by decide) (fun c12 => ?_) (fun c12 => ?_)
      · have h := h.1 c12
        refine lv_iconst (v := (-1)) hx hb dX0_fewestMinutes_95 (by decide) ?_
        exact g_iret hC hr hlocks hI h dX0_fewestMinutes_96
      · have h := h.2 c12
        refine lv_aload_n hx hb dX0_fewestMinutes_26 rfl (lv_at hl 0 rfl) ?_
        refine lv_iload hx hb dX0_fewestMinutes_27 (lv_at hl 3 rfl) ?_
        refine gp_X0_lastMinute hC hI gw_1_103 dX0_fewestMinutes_29 (fun s13 H locs es13 hI => ?_)
        have h := h s13 es13
        refine lv_aload_n hx hb dX0_fewestMinutes_32 rfl (lv_at hl 0 rfl) ?_
        refine lv_iload_n hx hb dX0_fewestMinutes_33 rfl (lv_at hl 1 rfl) ?_
        refine g_backv hI (g_runV (As := [.int x2]) (rest := []) hC hml hI (c_X0_openGates l D cy ad A _  _ _ h) k_X0_openGates gw_2_112 ⟨rfl, rfl⟩ ⟨Nat.le_of_ble_eq_true rfl, Nat.le_of_ble_eq_true rfl⟩ (grv_5 hC hI) rfl hl.1 rfl (Nat.le_of_ble_eq_true rfl) dX0_fewestMinutes_34 ⟨Nat.le_of_ble_eq_true rfl, Nat.le_of_ble_eq_true rfl⟩) (fun s14 H locs h hI => ?_)
        refine lv_aload_n hx hb dX0_fewestMinutes_37 rfl (lv_at hl 0 rfl) ?_
        refine g_backi hI (g_runV (As := []) (rest := []) hC hml hI (c_X0_findStart l D cy ad A _  _ h) k_X0_findStart gw_2_120 ⟨rfl, rfl⟩ ⟨Nat.le_of_ble_eq_true rfl, Nat.le_of_ble_eq_true rfl⟩ (grv_5 hC hI) rfl hl.1 rfl (Nat.le_of_ble_eq_true rfl) dX0_fewestMinutes_38 ⟨Nat.le_of_ble_eq_true rfl, Nat.le_of_ble_eq_true rfl⟩) (fun r17 s16 H locs h hI => ?_)
        refine lv_istore (lv' := [(5, .int r17), (0, .ref (ad 5)), (2, .int x2), (3, .int x3), (4, .int x4)]) hx hb dX0_fewestMinutes_41 hl (by decide) rfl (fun ls hl => ?_)
        refine lv_iconst (v := 0) hx hb dX0_fewestMinutes_43 (by decide) ?_
        refine lv_istore (lv' := [(6, .int 0), (5, .int r17), (0, .ref (ad 5)), (2, .int x2), (3, .int x3), (4, .int x4)]) hx hb dX0_fewestMinutes_44 hl (by decide) rfl (fun ls hl => ?_)
        obtain ⟨n9, h⟩ := h
        exact J46 n9 _ _ _ _ _ _ _ _ _ h hI (lv_sub hl [2, 3, 4, 5, 1, 0] rfl)
  have hl := lv_entry ([.ref (ad 5), .ref (ad 4), .int a2]) (n := 7) (Nat.le_of_ble_eq_true rfl)
  rw [lg_entry_eq]
  generalize (lg_sl ([.ref (ad 5), .ref (ad 4), .int a2]) ++ List.replicate (7 - (lg_sl ([.ref (ad 5), .ref (ad 4), .int a2])).length) Slot.unset).toArray = ls at hl ⊢
  have hl : lv_has ls 7 [(0, .ref (ad 5)), (1, .ref (ad 4)), (2, .int a2)] := hl
  unfold w_X0_fewestMinutes at h
  refine lv_aload_n hx hb dX0_fewestMinutes_0 rfl (lv_at hl 0 rfl) ?_
  refine lv_aload_n hx hb dX0_fewestMinutes_1 rfl (lv_at hl 1 rfl) ?_
  refine gp_X0_ground hC hI gw_1_102 dX0_fewestMinutes_2 (fun s18 H locs es18 hI => ?_)
  have h := h s18 es18
  refine lv_aload_n hx hb dX0_fewestMinutes_5 rfl (lv_at hl 0 rfl) ?_
  refine g_backi hI (g_runV (As := []) (rest := []) hC hml hI (c_X0_startAnew l D cy ad A _  _ h) k_X0_startAnew gw_2_107 ⟨rfl, rfl⟩ ⟨Nat.le_of_ble_eq_true rfl, Nat.le_of_ble_eq_true rfl⟩ (grv_5 hC hI) rfl hl.1 rfl (Nat.le_of_ble_eq_true rfl) dX0_fewestMinutes_6 ⟨Nat.le_of_ble_eq_true rfl, Nat.le_of_ble_eq_true rfl⟩) (fun r20 s19 H locs h hI => ?_)
  refine lv_istore_n (lv' := [(3, .int r20), (0, .ref (ad 5)), (1, .ref (ad 4)), (2, .int a2)]) hx hb dX0_fewestMinutes_9 rfl hl (by decide) rfl (fun ls hl => ?_)
  refine lv_iload_n hx hb dX0_fewestMinutes_10 rfl (lv_at hl 0 rfl) ?_
  refine lv_if_gt (tgt := 16) hx hb dX0_fewestMinutes_11 (by decide) (fun c21 => ?_) (fun c21 => ?_)
  · have h := h.1 c21
    refine lv_iconst (v := 0) hx hb dX0_fewestMinutes_16 (by decide) ?_
    refine lv_istore (lv' := [(4, .int 0), (3, .int r20), (0, .ref (ad 5)), (1, .ref (ad 4)), (2, .int a2)]) hx hb dX0_fewestMinutes_17 hl (by decide) rfl (fun ls hl => ?_)
    obtain ⟨n9, h⟩ := h
    exact J19 n9 _ _ _ _ _ _ _ h hI (lv_sub hl [2, 4, 1, 0] rfl)
  · have h := h.2 c21
    refine lv_iconst (v := 0) hx hb dX0_fewestMinutes_14 (by decide) ?_
    exact g_iret hC hr hlocks hI h dX0_fewestMinutes_15

theorem dX2_leastMinutes_0 : decode cX2_leastMinutes 0 = .ok (.aload_n 0, 1) := by decide +kernel
theorem dX2_leastMinutes_1 : decode cX2_leastMinutes 1 = .ok (.getfield 37, 3) := by decide +kernel
theorem dX2_leastMinutes_4 : decode cX2_leastMinutes 4 = .ok (.bipush (-2), 2) := by decide +kernel
theorem dX2_leastMinutes_6 : decode cX2_leastMinutes 6 = .ok (.if_icmp .ne 16, 3) := by decide +kernel
theorem dX2_leastMinutes_9 : decode cX2_leastMinutes 9 = .ok (.aload_n 0, 1) := by decide +kernel
theorem dX2_leastMinutes_10 : decode cX2_leastMinutes 10 = .ok (.aload_n 0, 1) := by decide +kernel
theorem dX2_leastMinutes_11 : decode cX2_leastMinutes 11 = .ok (.getfield 47, 3) := by decide +kernel
theorem dX2_leastMinutes_14 : decode cX2_leastMinutes 14 = .ok (.aload_n 0, 1) := by decide +kernel
theorem dX2_leastMinutes_15 : decode cX2_leastMinutes 15 = .ok (.iconst (-1), 1) := by decide +kernel
theorem dX2_leastMinutes_16 : decode cX2_leastMinutes 16 = .ok (.invokevirtual 64, 3) := by decide +kernel
theorem dX2_leastMinutes_19 : decode cX2_leastMinutes 19 = .ok (.putfield 37, 3) := by decide +kernel
theorem dX2_leastMinutes_22 : decode cX2_leastMinutes 22 = .ok (.aload_n 0, 1) := by decide +kernel
theorem dX2_leastMinutes_23 : decode cX2_leastMinutes 23 = .ok (.getfield 37, 3) := by decide +kernel
theorem dX2_leastMinutes_26 : decode cX2_leastMinutes 26 = .ok (.ireturn, 1) := by decide +kernel
def w_X2_leastMinutes (Q : Int32 → gS → Prop) (σ : gS) : Prop :=
    (¬ (σ 33 0) = (-2) → Q (σ 33 0) σ) ∧ ((σ 33 0) = (-2) → w_X0_fewestMinutes  (fun (r3 : Int32) (s2 : gS) => ∀ s4 : gS, s4 = gu s2 33 0 r3 → Q (s4 33 0) s4) σ (-1))
abbrev ws_X2_leastMinutes : List Cond := Cond.code yX2_leastMinutes cX2_leastMinutes 1 (some .int) :: gG
abbrev rm_X2_leastMinutes : Room := { frames := 4, cells := 0, slots := 0, locals := 106 }
theorem k_X2_leastMinutes : gCV yX2_leastMinutes RX2 cX2_leastMinutes 1 (some .int) 0 := ⟨gw_2_100, gw_2_101, gw_1_6, gw_2_102, rfl, by decide +kernel⟩
set_option maxHeartbeats 4000000 in
set_option maxRecDepth 100000 in
theorem c_X2_leastMinutes (l : Launch) (D : va_G) (cy : Nat → ClassId) (ad : Nat → Nat) (A : Nat → Prop) (Q : Int32 → gS → Prop) (σ : gS) (h : w_X2_leastMinutes Q σ) : Met l yX2_leastMinutes ws_X2_leastMinutes rm_X2_leastMinutes (va_Pc [.ref (ad 4)] (gB D cy ad A σ)) (va_Qi Q (gB D cy ad A) A) 0 0 A := by
  refine Met.ofW (cc := cX2_leastMinutes) (maxL := 1) (ret := (some .int)) (by decide) rfl ?_
  intro p e s m args below meth c s₁ B hml hv
  obtain ⟨rfl, hB⟩ := hv
  have hC : gC p c cX2_leastMinutes s m ([.ref (ad 4)] : List Value).toArray RX2 D cy ad A := g_start B hB
  have hI := g_first hB
  have hx := hC.1
  have hb := hC.2.1
  have hr := B.returns
  have hlocks := B.notSynchronized
  clear B hB
  have hl := lv_entry ([.ref (ad 4)]) (n := 1) (Nat.le_of_ble_eq_true rfl)
  rw [lg_entry_eq]
  generalize (lg_sl ([.ref (ad 4)]) ++ List.replicate (1 - (lg_sl ([.ref (ad 4)])).length) Slot.unset).toArray = ls at hl ⊢
  have hl : lv_has ls 1 [(0, .ref (ad 4))] := hl
  unfold w_X2_leastMinutes at h
  refine lv_aload_n hx hb dX2_leastMinutes_0 rfl (lv_at hl 0 rfl) ?_
  refine gg_X2_knownEmpty hC hI gw_1_162 dX2_leastMinutes_1 ?_
  refine lv_bipush (v := (-2)) hx hb dX2_leastMinutes_4 (by decide) ?_
  refine lv_icmp_ne (tgt := 22) hx hb dX2_leastMinutes_6 (by decide) (fun c1 => ?_) (fun c1 => ?_)
  · have h := h.1 c1
    refine lv_aload_n hx hb dX2_leastMinutes_22 rfl (lv_at hl 0 rfl) ?_
    refine gg_X2_knownEmpty hC hI gw_1_162 dX2_leastMinutes_23 ?_
    exact g_iret hC hr hlocks hI h dX2_leastMinutes_26
  · have h := h.2 c1
    refine lv_aload_n hx hb dX2_leastMinutes_9 rfl (lv_at hl 0 rfl) ?_
    refine lv_aload_n hx hb dX2_leastMinutes_10 rfl (lv_at hl 0 rfl) ?_
    refine gg_X2_escape hC hI gw_1_161 dX2_leastMinutes_11 ?_
    refine lv_aload_n hx hb dX2_leastMinutes_14 rfl (lv_at hl 0 rfl) ?_
    refine lv_iconst (v := (-1)) hx hb dX2_leastMinutes_15 (by decide) ?_
    refine g_backi hI (g_runV (As := [.ref (ad 4), .int (-1)]) (rest := [.ref (ad 4)]) hC hml hI (c_X0_fewestMinutes l D cy ad A _  _ _ h) k_X0_fewestMinutes gw_2_103 ⟨rfl, rfl⟩ ⟨Nat.le_of_ble_eq_true rfl, Nat.le_of_ble_eq_true rfl⟩ (grv_5 hC hI) rfl hl.1 rfl (Nat.le_of_ble_eq_true rfl) dX2_leastMinutes_16 ⟨Nat.le_of_ble_eq_true rfl, Nat.le_of_ble_eq_true rfl⟩) (fun r3 s2 H locs h hI => ?_)
    refine gp_X2_knownEmpty hC hI gw_1_162 dX2_leastMinutes_19 (fun s4 H locs es4 hI => ?_)
    have h := h s4 es4
    refine lv_aload_n hx hb dX2_leastMinutes_22 rfl (lv_at hl 0 rfl) ?_
    refine gg_X2_knownEmpty hC hI gw_1_162 dX2_leastMinutes_23 ?_
    exact g_iret hC hr hlocks hI h dX2_leastMinutes_26

theorem dX2_worstMinutes_0 : decode cX2_worstMinutes 0 = .ok (.aload_n 0, 1) := by decide +kernel
theorem dX2_worstMinutes_1 : decode cX2_worstMinutes 1 = .ok (.getfield 41, 3) := by decide +kernel
theorem dX2_worstMinutes_4 : decode cX2_worstMinutes 4 = .ok (.bipush (-2), 2) := by decide +kernel
theorem dX2_worstMinutes_6 : decode cX2_worstMinutes 6 = .ok (.if_icmp .eq 8, 3) := by decide +kernel
theorem dX2_worstMinutes_9 : decode cX2_worstMinutes 9 = .ok (.aload_n 0, 1) := by decide +kernel
theorem dX2_worstMinutes_10 : decode cX2_worstMinutes 10 = .ok (.getfield 41, 3) := by decide +kernel
theorem dX2_worstMinutes_13 : decode cX2_worstMinutes 13 = .ok (.ireturn, 1) := by decide +kernel
theorem dX2_worstMinutes_14 : decode cX2_worstMinutes 14 = .ok (.aload_n 0, 1) := by decide +kernel
theorem dX2_worstMinutes_15 : decode cX2_worstMinutes 15 = .ok (.iconst (-1), 1) := by decide +kernel
theorem dX2_worstMinutes_16 : decode cX2_worstMinutes 16 = .ok (.putfield 41, 3) := by decide +kernel
theorem dX2_worstMinutes_19 : decode cX2_worstMinutes 19 = .ok (.aload_n 0, 1) := by decide +kernel
theorem dX2_worstMinutes_20 : decode cX2_worstMinutes 20 = .ok (.getfield 37, 3) := by decide +kernel
theorem dX2_worstMinutes_23 : decode cX2_worstMinutes 23 = .ok (.iconst (-1), 1) := by decide +kernel
theorem dX2_worstMinutes_24 : decode cX2_worstMinutes 24 = .ok (.if_icmp .eq 7, 3) := by decide +kernel
theorem dX2_worstMinutes_27 : decode cX2_worstMinutes 27 = .ok (.iconst 1, 1) := by decide +kernel
theorem dX2_worstMinutes_28 : decode cX2_worstMinutes 28 = .ok (.goto 4, 3) := by decide +kernel
theorem dX2_worstMinutes_31 : decode cX2_worstMinutes 31 = .ok (.iconst 0, 1) := by decide +kernel
theorem dX2_worstMinutes_32 : decode cX2_worstMinutes 32 = .ok (.istore_n 1, 1) := by decide +kernel
theorem dX2_worstMinutes_33 : decode cX2_worstMinutes 33 = .ok (.iconst 0, 1) := by decide +kernel
theorem dX2_worstMinutes_34 : decode cX2_worstMinutes 34 = .ok (.istore_n 2, 1) := by decide +kernel
theorem dX2_worstMinutes_35 : decode cX2_worstMinutes 35 = .ok (.iload_n 2, 1) := by decide +kernel
theorem dX2_worstMinutes_36 : decode cX2_worstMinutes 36 = .ok (.aload_n 0, 1) := by decide +kernel
theorem dX2_worstMinutes_37 : decode cX2_worstMinutes 37 = .ok (.getfield 51, 3) := by decide +kernel
theorem dX2_worstMinutes_40 : decode cX2_worstMinutes 40 = .ok (.if_icmp .ge 62, 3) := by decide +kernel
theorem dX2_worstMinutes_43 : decode cX2_worstMinutes 43 = .ok (.iload_n 1, 1) := by decide +kernel
theorem dX2_worstMinutes_44 : decode cX2_worstMinutes 44 = .ok (.ifCond .eq 58, 3) := by decide +kernel
theorem dX2_worstMinutes_47 : decode cX2_worstMinutes 47 = .ok (.aload_n 0, 1) := by decide +kernel
theorem dX2_worstMinutes_48 : decode cX2_worstMinutes 48 = .ok (.iload_n 2, 1) := by decide +kernel
theorem dX2_worstMinutes_49 : decode cX2_worstMinutes 49 = .ok (.invokevirtual 68, 3) := by decide +kernel
theorem dX2_worstMinutes_52 : decode cX2_worstMinutes 52 = .ok (.ifCond .eq 44, 3) := by decide +kernel
theorem dX2_worstMinutes_55 : decode cX2_worstMinutes 55 = .ok (.aload_n 0, 1) := by decide +kernel
theorem dX2_worstMinutes_56 : decode cX2_worstMinutes 56 = .ok (.getfield 47, 3) := by decide +kernel
theorem dX2_worstMinutes_59 : decode cX2_worstMinutes 59 = .ok (.aload_n 0, 1) := by decide +kernel
theorem dX2_worstMinutes_60 : decode cX2_worstMinutes 60 = .ok (.iload_n 2, 1) := by decide +kernel
theorem dX2_worstMinutes_61 : decode cX2_worstMinutes 61 = .ok (.invokevirtual 64, 3) := by decide +kernel
theorem dX2_worstMinutes_64 : decode cX2_worstMinutes 64 = .ok (.istore_n 3, 1) := by decide +kernel
theorem dX2_worstMinutes_65 : decode cX2_worstMinutes 65 = .ok (.iload_n 3, 1) := by decide +kernel
theorem dX2_worstMinutes_66 : decode cX2_worstMinutes 66 = .ok (.iconst (-1), 1) := by decide +kernel
theorem dX2_worstMinutes_67 : decode cX2_worstMinutes 67 = .ok (.if_icmp .eq 7, 3) := by decide +kernel
theorem dX2_worstMinutes_70 : decode cX2_worstMinutes 70 = .ok (.iconst 1, 1) := by decide +kernel
theorem dX2_worstMinutes_71 : decode cX2_worstMinutes 71 = .ok (.goto 4, 3) := by decide +kernel
theorem dX2_worstMinutes_74 : decode cX2_worstMinutes 74 = .ok (.iconst 0, 1) := by decide +kernel
theorem dX2_worstMinutes_75 : decode cX2_worstMinutes 75 = .ok (.istore_n 1, 1) := by decide +kernel
theorem dX2_worstMinutes_76 : decode cX2_worstMinutes 76 = .ok (.aload_n 0, 1) := by decide +kernel
theorem dX2_worstMinutes_77 : decode cX2_worstMinutes 77 = .ok (.iload_n 1, 1) := by decide +kernel
theorem dX2_worstMinutes_78 : decode cX2_worstMinutes 78 = .ok (.ifCond .eq 14, 3) := by decide +kernel
theorem dX2_worstMinutes_81 : decode cX2_worstMinutes 81 = .ok (.aload_n 0, 1) := by decide +kernel
theorem dX2_worstMinutes_82 : decode cX2_worstMinutes 82 = .ok (.getfield 41, 3) := by decide +kernel
theorem dX2_worstMinutes_85 : decode cX2_worstMinutes 85 = .ok (.iload_n 3, 1) := by decide +kernel
theorem dX2_worstMinutes_86 : decode cX2_worstMinutes 86 = .ok (.invokestatic 72, 3) := by decide +kernel
theorem dX2_worstMinutes_89 : decode cX2_worstMinutes 89 = .ok (.goto 4, 3) := by decide +kernel
theorem dX2_worstMinutes_92 : decode cX2_worstMinutes 92 = .ok (.iconst (-1), 1) := by decide +kernel
theorem dX2_worstMinutes_93 : decode cX2_worstMinutes 93 = .ok (.putfield 41, 3) := by decide +kernel
theorem dX2_worstMinutes_96 : decode cX2_worstMinutes 96 = .ok (.iinc 2 1, 3) := by decide +kernel
theorem dX2_worstMinutes_99 : decode cX2_worstMinutes 99 = .ok (.goto (-64), 3) := by decide +kernel
theorem dX2_worstMinutes_102 : decode cX2_worstMinutes 102 = .ok (.aload_n 0, 1) := by decide +kernel
theorem dX2_worstMinutes_103 : decode cX2_worstMinutes 103 = .ok (.getfield 41, 3) := by decide +kernel
theorem dX2_worstMinutes_106 : decode cX2_worstMinutes 106 = .ok (.ireturn, 1) := by decide +kernel
def w_X2_worstMinutes_93 (Q : Int32 → gS → Prop) (k35 : Int32 → Int32 → gS → Prop) (x1 : Int32) (x2 : Int32) (v0 : Int32) (σ : gS) : Prop :=
    ∀ s1 : gS, s1 = gu σ 34 0 v0 → ∀ y2 : Int32, y2 = x2 + 1 → k35 x1 y2 s1
def w_X2_worstMinutes_75 (Q : Int32 → gS → Prop) (k35 : Int32 → Int32 → gS → Prop) (x2 : Int32) (x3 : Int32) (v0 : Int32) (σ : gS) : Prop :=
    (v0 = 0 → w_X2_worstMinutes_93 Q k35 v0 x2 (-1) σ) ∧ (¬ v0 = 0 → w_X2_worstMinutes_93 Q k35 v0 x2 (if (σ 34 0) < x3 then x3 else (σ 34 0)) σ)
def w_X2_worstMinutes_35 (Q : Int32 → gS → Prop) : Nat → Int32 → Int32 → gS → Prop
  | 0, _, _, _ => False
  | n35 + 1, x1, x2, σ =>
    ((σ 26 0) ≤ x2 → Q (σ 34 0) σ) ∧ (¬ (σ 26 0) ≤ x2 → (x1 = 0 → Q (σ 34 0) σ) ∧ (¬ x1 = 0 → w_X2_isOpen  (fun (r7 : Int32) (s6 : gS) => (r7 = 0 → ∀ y9 : Int32, y9 = x2 + 1 → w_X2_worstMinutes_35 Q n35 x1 y9 s6) ∧ (¬ r7 = 0 → w_X0_fewestMinutes  (fun (r11 : Int32) (s10 : gS) => (r11 = (-1) → w_X2_worstMinutes_75 Q (w_X2_worstMinutes_35 Q n35) x2 r11 0 s10) ∧ (¬ r11 = (-1) → w_X2_worstMinutes_75 Q (w_X2_worstMinutes_35 Q n35) x2 r11 1 s10)) s6 x2)) σ x2))
def w_X2_worstMinutes_32 (Q : Int32 → gS → Prop) (v0 : Int32) (σ : gS) : Prop :=
    ∃ n35, w_X2_worstMinutes_35 Q n35 v0 0 σ
def w_X2_worstMinutes (Q : Int32 → gS → Prop) (σ : gS) : Prop :=
    ((σ 34 0) = (-2) → ∀ s14 : gS, s14 = gu σ 34 0 (-1) → ((s14 33 0) = (-1) → w_X2_worstMinutes_32 Q 0 s14) ∧ (¬ (s14 33 0) = (-1) → w_X2_worstMinutes_32 Q 1 s14)) ∧ (¬ (σ 34 0) = (-2) → Q (σ 34 0) σ)
abbrev ws_X2_worstMinutes : List Cond := Cond.code yX2_worstMinutes cX2_worstMinutes 4 (some .int) :: gG
abbrev rm_X2_worstMinutes : Room := { frames := 4, cells := 0, slots := 0, locals := 106 }
theorem k_X2_worstMinutes : gCV yX2_worstMinutes RX2 cX2_worstMinutes 4 (some .int) 0 := ⟨gw_2_180, gw_2_181, gw_1_6, gw_2_182, rfl, by decide +kernel⟩
set_option maxHeartbeats 4000000 in
set_option maxRecDepth 100000 in
theorem c_X2_worstMinutes (l : Launch) (D : va_G) (cy : Nat → ClassId) (ad : Nat → Nat) (A : Nat → Prop) (Q : Int32 → gS → Prop) (σ : gS) (h : w_X2_worstMinutes Q σ) : Met l yX2_worstMinutes ws_X2_worstMinutes rm_X2_worstMinutes (va_Pc [.ref (ad 4)] (gB D cy ad A σ)) (va_Qi Q (gB D cy ad A) A) 0 0 A := by
  refine Met.ofW (cc := cX2_worstMinutes) (maxL := 4) (ret := (some .int)) (by decide) rfl ?_
  intro p e s m args below meth c s₁ B hml hv
  obtain ⟨rfl, hB⟩ := hv
  have hC : gC p c cX2_worstMinutes s m ([.ref (ad 4)] : List Value).toArray RX2 D cy ad A := g_start B hB
  have hI := g_first hB
  have hx := hC.1
  have hb := hC.2.1
  have hr := B.returns
  have hlocks := B.notSynchronized
  clear B hB
  have J35 : ∀ (n35 : Nat) (x1 : Int32) (x2 : Int32) (σ : gS) (H : Heap) (locs : List Loc) (ls : Array Slot), w_X2_worstMinutes_35 Q n35 x1 x2 σ → gI D cy ad A s.heap σ H locs → lv_has ls 4 [(0, .ref (ad 4)), (1, .int x1), (2, .int x2)] → W p l e (headSpec ws_X2_worstMinutes rm_X2_worstMinutes).room s m ([.ref (ad 4)] : List Value).toArray below meth c H locs 0 0 (MQ below (va_Qi Q (gB D cy ad A) A) ([.ref (ad 4)] : List Value).toArray s 0 0 A) (F0 m 35 ls []) := by
    intro n35
    induction n35 with
    | zero => intro x1 x2 σ H locs ls h; exact absurd h (fun h => h)
    | succ n35 ih35 =>
      have J93 : ∀ (x1 : Int32) (x2 : Int32) (v0 : Int32) (σ : gS) (H : Heap) (locs : List Loc) (ls : Array Slot), w_X2_worstMinutes_93 Q (w_X2_worstMinutes_35 Q n35) x1 x2 v0 σ → gI D cy ad A s.heap σ H locs → lv_has ls 4 [(0, .ref (ad 4)), (1, .int x1), (2, .int x2)] → W p l e (headSpec ws_X2_worstMinutes rm_X2_worstMinutes).room s m ([.ref (ad 4)] : List Value).toArray below meth c H locs 0 0 (MQ below (va_Qi Q (gB D cy ad A) A) ([.ref (ad 4)] : List Value).toArray s 0 0 A) (F0 m 93 ls [.int v0, .ref (ad 4)]) := by
        intro x1 x2 v0 σ H locs ls h hI hl
        unfold w_X2_worstMinutes_93 at h
        refine gp_X2_knownWorst hC hI gw_1_163 dX2_worstMinutes_93 (fun s1 H locs es1 hI => ?_)
        have h := h s1 es1
        obtain ⟨y2, ey2⟩ : ∃ y : Int32, y = x2 + 1 := ⟨_, rfl⟩
        have h := h y2 ey2
        refine lv_iinc (v := y2) (lv' := [(2, .int y2), (0, .ref (ad 4)), (1, .int x1)]) hx hb dX2_worstMinutes_96 hl (k := 2) rfl (by rw [ey2]; rfl) (by decide) rfl (fun ls hl => ?_)
        refine lv_goto (tgt := 35) hx hb dX2_worstMinutes_99 (by decide) ?_
        exact ih35 _ _ _ _ _ _ h hI (lv_sub hl [1, 2, 0] rfl)
      have J75 : ∀ (x2 : Int32) (x3 : Int32) (v0 : Int32) (σ : gS) (H : Heap) (locs : List Loc) (ls : Array Slot), w_X2_worstMinutes_75 Q (w_X2_worstMinutes_35 Q n35) x2 x3 v0 σ → gI D cy ad A s.heap σ H locs → lv_has ls 4 [(0, .ref (ad 4)), (2, .int x2), (3, .int x3)] → W p l e (headSpec ws_X2_worstMinutes rm_X2_worstMinutes).room s m ([.ref (ad 4)] : List Value).toArray below meth c H locs 0 0 (MQ below (va_Qi Q (gB D cy ad A) A) ([.ref (ad 4)] : List Value).toArray s 0 0 A) (F0 m 75 ls [.int v0]) := by
        intro x2 x3 v0 σ H locs ls h hI hl
        unfold w_X2_worstMinutes_75 at h
        refine lv_istore_n (lv' := [(1, .int v0), (0, .ref (ad 4)), (2, .int x2), (3, .int x3)]) hx hb dX2_worstMinutes_75 rfl hl (by decide) rfl (fun ls hl => ?_)
        refine lv_aload_n hx hb dX2_worstMinutes_76 rfl (lv_at hl 1 rfl) ?_
        refine lv_iload_n hx hb dX2_worstMinutes_77 rfl (lv_at hl 0 rfl) ?_
        refine lv_if_eq (tgt := 92) hx hb dX2_worstMinutes_78 (by decide) (fun c3 => ?_) (fun c3 => ?_)
        · have h := h.1 c3
          refine lv_iconst (v := (-1)) hx hb dX2_worstMinutes_92 (by decide) ?_
          exact J93 _ _ _ _ _ _ _ h hI (lv_sub hl [1, 0, 2] rfl)
        · have h := h.2 c3
          refine lv_aload_n hx hb dX2_worstMinutes_81 rfl (lv_at hl 1 rfl) ?_
          refine gg_X2_knownWorst hC hI gw_1_163 dX2_worstMinutes_82 ?_
          refine lv_iload_n hx hb dX2_worstMinutes_85 rfl (lv_at hl 3 rfl) ?_
          refine va_mmax hx hb (by rw [hml]; exact hl.1.symm) hC.2.2.2.1 (hC.2.2.1 _ gw_2_184) (hC.2.2.1 _ gw_2_156) (hC.2.2.1 _ gw_1_18) (hC.2.2.1 _ gw_2_157) (Nat.le_of_ble_eq_true rfl) (Nat.le_of_ble_eq_true rfl) (Nat.le_of_ble_eq_true rfl) (Nat.le_of_ble_eq_true rfl) dX2_worstMinutes_86 ?_
          refine lv_goto (tgt := 93) hx hb dX2_worstMinutes_89 (by decide) ?_
          exact J93 _ _ _ _ _ _ _ h hI (lv_sub hl [1, 0, 2] rfl)
      intro x1 x2 σ H locs ls h hI hl
      unfold w_X2_worstMinutes_35 at h
      refine lv_iload_n hx hb dX2_worstMinutes_35 rfl (lv_at hl 2 rfl) ?_
      refine lv_aload_n hx hb dX2_worstMinutes_36 rfl (lv_at hl 0 rfl) ?_
      refine gg_X2_places hC hI gw_1_145 dX2_worstMinutes_37 ?_
      refine lv_icmp_ge (tgt := 102) hx hb dX2_worstMinutes_40 (by decide) (fun c4 => ?_) (fun c4 => ?_)
      · have h := h.1 c4
        refine lv_aload_n hx hb dX2_worstMinutes_102 rfl (lv_at hl 0 rfl) ?_
        refine gg_X2_knownWorst hC hI gw_1_163 dX2_worstMinutes_103 ?_
        exact g_iret hC hr hlocks hI h dX2_worstMinutes_106
      · have h := h.2 c4
        refine lv_iload_n hx hb dX2_worstMinutes_43 rfl (lv_at hl 1 rfl) ?_
        refine lv_if_eq (tgt := 102) hx hb dX2_worstMinutes_44 (by decide) (fun c5 => ?_) (fun c5 => ?_)
        · have h := h.1 c5
          refine lv_aload_n hx hb dX2_worstMinutes_102 rfl (lv_at hl 0 rfl) ?_
          refine gg_X2_knownWorst hC hI gw_1_163 dX2_worstMinutes_103 ?_
          exact g_iret hC hr hlocks hI h dX2_worstMinutes_106
        · have h := h.2 c5
          refine lv_aload_n hx hb dX2_worstMinutes_47 rfl (lv_at hl 0 rfl) ?_
          refine lv_iload_n hx hb dX2_worstMinutes_48 rfl (lv_at hl 2 rfl) ?_
          refine g_backi hI (g_runV (As := [.int x2]) (rest := []) hC hml hI (c_X2_isOpen l D cy ad A _  _ _ h) k_X2_isOpen gw_2_183 ⟨rfl, rfl⟩ ⟨Nat.le_of_ble_eq_true rfl, Nat.le_of_ble_eq_true rfl⟩ (grv_4 hC hI) rfl hl.1 rfl (Nat.le_of_ble_eq_true rfl) dX2_worstMinutes_49 ⟨Nat.le_of_ble_eq_true rfl, Nat.le_of_ble_eq_true rfl⟩) (fun r7 s6 H locs h hI => ?_)
          refine lv_if_eq (tgt := 96) hx hb dX2_worstMinutes_52 (by decide) (fun c8 => ?_) (fun c8 => ?_)
          · have h := h.1 c8
            obtain ⟨y9, ey9⟩ : ∃ y : Int32, y = x2 + 1 := ⟨_, rfl⟩
            have h := h y9 ey9
            refine lv_iinc (v := y9) (lv' := [(2, .int y9), (0, .ref (ad 4)), (1, .int x1)]) hx hb dX2_worstMinutes_96 hl (k := 2) rfl (by rw [ey9]; rfl) (by decide) rfl (fun ls hl => ?_)
            refine lv_goto (tgt := 35) hx hb dX2_worstMinutes_99 (by decide) ?_
            exact ih35 _ _ _ _ _ _ h hI (lv_sub hl [1, 2, 0] rfl)
          · have h := h.2 c8
            refine lv_aload_n hx hb dX2_worstMinutes_55 rfl (lv_at hl 0 rfl) ?_
            refine gg_X2_escape hC hI gw_1_161 dX2_worstMinutes_56 ?_
            refine lv_aload_n hx hb dX2_worstMinutes_59 rfl (lv_at hl 0 rfl) ?_
            refine lv_iload_n hx hb dX2_worstMinutes_60 rfl (lv_at hl 2 rfl) ?_
            refine g_backi hI (g_runV (As := [.ref (ad 4), .int x2]) (rest := []) hC hml hI (c_X0_fewestMinutes l D cy ad A _  _ _ h) k_X0_fewestMinutes gw_2_103 ⟨rfl, rfl⟩ ⟨Nat.le_of_ble_eq_true rfl, Nat.le_of_ble_eq_true rfl⟩ (grv_5 hC hI) rfl hl.1 rfl (Nat.le_of_ble_eq_true rfl) dX2_worstMinutes_61 ⟨Nat.le_of_ble_eq_true rfl, Nat.le_of_ble_eq_true rfl⟩) (fun r11 s10 H locs h hI => ?_)
            refine lv_istore_n (lv' := [(3, .int r11), (0, .ref (ad 4)), (1, .int x1), (2, .int x2)]) hx hb dX2_worstMinutes_64 rfl hl (by decide) rfl (fun ls hl => ?_)
            refine lv_iload_n hx hb dX2_worstMinutes_65 rfl (lv_at hl 0 rfl) ?_
            refine lv_iconst (v := (-1)) hx hb dX2_worstMinutes_66 (by decide) ?_
            refine lv_icmp_eq (tgt := 74) hx hb dX2_worstMinutes_67 (by decide) (fun c12 => ?_) (fun c12 => ?_)
            · have h := h.1 c12
              refine lv_iconst (v := 0) hx hb dX2_worstMinutes_74 (by decide) ?_
              exact J75 _ _ _ _ _ _ _ h hI (lv_sub hl [1, 3, 0] rfl)
            · have h := h.2 c12
              refine lv_iconst (v := 1) hx hb dX2_worstMinutes_70 (by decide) ?_
              refine lv_goto (tgt := 75) hx hb dX2_worstMinutes_71 (by decide) ?_
              exact J75 _ _ _ _ _ _ _ h hI (lv_sub hl [1, 3, 0] rfl)
  have J32 : ∀ (v0 : Int32) (σ : gS) (H : Heap) (locs : List Loc) (ls : Array Slot), w_X2_worstMinutes_32 Q v0 σ → gI D cy ad A s.heap σ H locs → lv_has ls 4 [(0, .ref (ad 4))] → W p l e (headSpec ws_X2_worstMinutes rm_X2_worstMinutes).room s m ([.ref (ad 4)] : List Value).toArray below meth c H locs 0 0 (MQ below (va_Qi Q (gB D cy ad A) A) ([.ref (ad 4)] : List Value).toArray s 0 0 A) (F0 m 32 ls [.int v0]) := by
    intro v0 σ H locs ls h hI hl
    unfold w_X2_worstMinutes_32 at h
    refine lv_istore_n (lv' := [(1, .int v0), (0, .ref (ad 4))]) hx hb dX2_worstMinutes_32 rfl hl (by decide) rfl (fun ls hl => ?_)
    refine lv_iconst (v := 0) hx hb dX2_worstMinutes_33 (by decide) ?_
    refine lv_istore_n (lv' := [(2, .int 0), (1, .int v0), (0, .ref (ad 4))]) hx hb dX2_worstMinutes_34 rfl hl (by decide) rfl (fun ls hl => ?_)
    obtain ⟨n9, h⟩ := h
    exact J35 n9 _ _ _ _ _ _ h hI (lv_sub hl [2, 1, 0] rfl)
  have hl := lv_entry ([.ref (ad 4)]) (n := 4) (Nat.le_of_ble_eq_true rfl)
  rw [lg_entry_eq]
  generalize (lg_sl ([.ref (ad 4)]) ++ List.replicate (4 - (lg_sl ([.ref (ad 4)])).length) Slot.unset).toArray = ls at hl ⊢
  have hl : lv_has ls 4 [(0, .ref (ad 4))] := hl
  unfold w_X2_worstMinutes at h
  refine lv_aload_n hx hb dX2_worstMinutes_0 rfl (lv_at hl 0 rfl) ?_
  refine gg_X2_knownWorst hC hI gw_1_163 dX2_worstMinutes_1 ?_
  refine lv_bipush (v := (-2)) hx hb dX2_worstMinutes_4 (by decide) ?_
  refine lv_icmp_eq (tgt := 14) hx hb dX2_worstMinutes_6 (by decide) (fun c13 => ?_) (fun c13 => ?_)
  · have h := h.1 c13
    refine lv_aload_n hx hb dX2_worstMinutes_14 rfl (lv_at hl 0 rfl) ?_
    refine lv_iconst (v := (-1)) hx hb dX2_worstMinutes_15 (by decide) ?_
    refine gp_X2_knownWorst hC hI gw_1_163 dX2_worstMinutes_16 (fun s14 H locs es14 hI => ?_)
    have h := h s14 es14
    refine lv_aload_n hx hb dX2_worstMinutes_19 rfl (lv_at hl 0 rfl) ?_
    refine gg_X2_knownEmpty hC hI gw_1_162 dX2_worstMinutes_20 ?_
    refine lv_iconst (v := (-1)) hx hb dX2_worstMinutes_23 (by decide) ?_
    refine lv_icmp_eq (tgt := 31) hx hb dX2_worstMinutes_24 (by decide) (fun c15 => ?_) (fun c15 => ?_)
    · have h := h.1 c15
      refine lv_iconst (v := 0) hx hb dX2_worstMinutes_31 (by decide) ?_
      exact J32 _ _ _ _ _ h hI (lv_sub hl [0] rfl)
    · have h := h.2 c15
      refine lv_iconst (v := 1) hx hb dX2_worstMinutes_27 (by decide) ?_
      refine lv_goto (tgt := 32) hx hb dX2_worstMinutes_28 (by decide) ?_
      exact J32 _ _ _ _ _ h hI (lv_sub hl [0] rfl)
  · have h := h.2 c13
    refine lv_aload_n hx hb dX2_worstMinutes_9 rfl (lv_at hl 0 rfl) ?_
    refine gg_X2_knownWorst hC hI gw_1_163 dX2_worstMinutes_10 ?_
    exact g_iret hC hr hlocks hI h dX2_worstMinutes_13
