/-! CONSTRUCTORS: printed by wip/gen/ctor.py -/
theorem dX6_init_0 : decode cX6_init 0 = .ok (.aload_n 0, 1) := by decide +kernel
theorem dX6_init_1 : decode cX6_init 1 = .ok (.invokespecial 3, 3) := by decide +kernel
theorem dX6_init_4 : decode cX6_init 4 = .ok (.aload_n 0, 1) := by decide +kernel
theorem dX6_init_5 : decode cX6_init 5 = .ok (.sipush 400, 3) := by decide +kernel
theorem dX6_init_8 : decode cX6_init 8 = .ok (.newarray .int, 2) := by decide +kernel
theorem dX6_init_10 : decode cX6_init 10 = .ok (.putfield 11, 3) := by decide +kernel
theorem dX6_init_13 : decode cX6_init 13 = .ok (.return_, 1) := by decide +kernel
abbrev cc_X6_init (cy : Nat → ClassId) (h0 : Nat) (u : Nat → Nat) : va_W := [(h0, .inr (6, [.ref (u 0), .int 0])), ((u 0), .inl (cy 0, 400, .inl (fun _ => 0)))]
abbrev ws_X6_init : List Cond := Cond.code yX6_init cX6_init 1 none :: gG
abbrev rm_X6_init : Room := { frames := 1, cells := 1, slots := 400, locals := 20 }
theorem k_X6_init : gCI yX6_init cX6_init 1 0 := ⟨gw_1_35, gw_1_2, gw_1_36, rfl, by decide +kernel⟩
set_option maxHeartbeats 4000000 in
set_option maxRecDepth 100000 in
theorem i_X6_init (l : Launch) (D : va_G) (cy : Nat → ClassId) (A : Nat → Prop) (w0 : va_W) (h0 : Nat) : Met l yX6_init ws_X6_init rm_X6_init (va_Pc [.ref h0] (hB0 D cy A (w0 ++ [(h0, .inr (6, [.null, .int 0]))]))) (va_Qv (fun _ : Nat → Nat => True) (fun u t => hB0 D cy A (w0 ++ cc_X6_init cy h0 u) t) A) 1 400 A := by
  refine Met.ofW (cc := cX6_init) (maxL := 1) (ret := none) (by decide) rfl ?_
  intro p e s m args below meth c s₁ B hml hv
  obtain ⟨rfl, hB⟩ := hv
  have hC : hC0 p c cX6_init s m ([.ref h0] : List Value).toArray RX6 D cy A := h_start B hB
  have hI : hI0 D A s.heap (w0 ++ [(h0, .inr (6, [.null, .int 0]))]) s.heap [] := ⟨hB.1, hB.2.2.1, va_S.rf⟩
  have hx := hC.1
  have hb := hC.2.1
  have hr := B.returns
  have hlocks := B.notSynchronized
  have hin : meth.name = "<init>" := (name_of_methodNamed B.named B.method).1
  clear B hB
  have hl := lv_entry ([.ref h0]) (n := 1) (Nat.le_of_ble_eq_true rfl)
  rw [lg_entry_eq]
  generalize (lg_sl ([.ref h0]) ++ List.replicate (1 - (lg_sl ([.ref h0])).length) Slot.unset).toArray = ls at hl ⊢
  have hl : lv_has ls 1 [(0, .ref h0)] := hl
  refine lv_aload_n hx hb dX6_init_0 rfl (lv_at hl 0 rfl) ?_
  refine h_obj hC (by rw [hml]; exact hl.1.symm) gw_1_37 gw_1_30 gw_1_31 dX6_init_1 (Nat.le_of_ble_eq_true rfl) (Nat.le_of_ble_eq_true rfl) ?_
  refine lv_aload_n hx hb dX6_init_4 rfl (lv_at hl 0 rfl) ?_
  refine lv_sipush (v := 400) hx hb dX6_init_5 (by decide) ?_
  refine h_arr (k := 0) (N := 400) (a0 := (400, .inl (fun _ => 0))) hC hI gw_1_47 rfl rfl rfl (fun _ => rfl) (by decide) (by decide) (by decide) (Nat.le_of_ble_eq_true rfl) (Nat.le_of_ble_eq_true rfl) dX6_init_8 (fun q1 H hJ => ?_)
  clear hI
  have hI : hI0 D A s.heap (w0 ++ [(h0, .inr (6, [.null, .int 0])), (q1, .inl (cy 0, 400, .inl (fun _ => 0)))]) H _ := hJ
  clear hJ
  refine h_putF (C := RX6) (T := TX6) (N := 2) (ty0 := tyX6) (v := .ref q1) tyX6_ok nmX6 gin_X6 hC hI 0 rfl rfl 0 (by decide) gw_1_38 rfl hin rfl rfl rfl (Nat.le_of_ble_eq_true rfl) dX6_init_10 (fun H locs hJ => ?_)
  clear hI
  have hI : hI0 D A s.heap (w0 ++ [(h0, .inr (6, [.ref q1, .int 0])), (q1, .inl (cy 0, 400, .inl (fun _ => 0)))]) H _ := hJ
  clear hJ
  refine W.eq (g2 := F0 m 13 ls []) rfl ?_
  refine W.widen (k := 1) (n := 400) (Nat.le_of_ble_eq_true rfl) (Nat.le_of_ble_eq_true rfl) ?_
  exact h_vret (u := fun k => [q1].getD k 0) (F := fun u => w0 ++ cc_X6_init cy h0 u) hC hr hlocks hI rfl trivial (Nat.le_of_ble_eq_true rfl) (Nat.le_of_ble_eq_true rfl) dX6_init_13

theorem dX5_init_0 : decode cX5_init 0 = .ok (.aload_n 0, 1) := by decide +kernel
theorem dX5_init_1 : decode cX5_init 1 = .ok (.invokespecial 3, 3) := by decide +kernel
theorem dX5_init_4 : decode cX5_init 4 = .ok (.aload_n 0, 1) := by decide +kernel
theorem dX5_init_5 : decode cX5_init 5 = .ok (.aload_n 1, 1) := by decide +kernel
theorem dX5_init_6 : decode cX5_init 6 = .ok (.putfield 9, 3) := by decide +kernel
theorem dX5_init_9 : decode cX5_init 9 = .ok (.return_, 1) := by decide +kernel
abbrev cc_X5_init (cy : Nat → ClassId) (h0 : Nat) (ta : Nat) (u : Nat → Nat) : va_W := [(h0, .inr (5, [.ref ta, .int 0, .int 0]))]
abbrev ws_X5_init : List Cond := Cond.code yX5_init cX5_init 2 none :: gG
abbrev rm_X5_init : Room := { frames := 1, cells := 0, slots := 0, locals := 20 }
theorem k_X5_init : gCI yX5_init cX5_init 2 1 := ⟨gw_1_51, gw_1_3, gw_1_52, rfl, by decide +kernel⟩
set_option maxHeartbeats 4000000 in
set_option maxRecDepth 100000 in
theorem i_X5_init (l : Launch) (D : va_G) (cy : Nat → ClassId) (A : Nat → Prop) (w0 : va_W) (h0 : Nat) (ta : Nat) : Met l yX5_init ws_X5_init rm_X5_init (va_Pc [.ref h0, .ref ta] (hB0 D cy A (w0 ++ [(h0, .inr (5, [.null, .int 0, .int 0]))]))) (va_Qv (fun _ : Nat → Nat => True) (fun u t => hB0 D cy A (w0 ++ cc_X5_init cy h0 ta u) t) A) 0 0 A := by
  refine Met.ofW (cc := cX5_init) (maxL := 2) (ret := none) (by decide) rfl ?_
  intro p e s m args below meth c s₁ B hml hv
  obtain ⟨rfl, hB⟩ := hv
  have hC : hC0 p c cX5_init s m ([.ref h0, .ref ta] : List Value).toArray RX5 D cy A := h_start B hB
  have hI : hI0 D A s.heap (w0 ++ [(h0, .inr (5, [.null, .int 0, .int 0]))]) s.heap [] := ⟨hB.1, hB.2.2.1, va_S.rf⟩
  have hx := hC.1
  have hb := hC.2.1
  have hr := B.returns
  have hlocks := B.notSynchronized
  have hin : meth.name = "<init>" := (name_of_methodNamed B.named B.method).1
  clear B hB
  have hl := lv_entry ([.ref h0, .ref ta]) (n := 2) (Nat.le_of_ble_eq_true rfl)
  rw [lg_entry_eq]
  generalize (lg_sl ([.ref h0, .ref ta]) ++ List.replicate (2 - (lg_sl ([.ref h0, .ref ta])).length) Slot.unset).toArray = ls at hl ⊢
  have hl : lv_has ls 2 [(0, .ref h0), (1, .ref ta)] := hl
  refine lv_aload_n hx hb dX5_init_0 rfl (lv_at hl 0 rfl) ?_
  refine h_obj hC (by rw [hml]; exact hl.1.symm) gw_1_53 gw_1_30 gw_1_31 dX5_init_1 (Nat.le_of_ble_eq_true rfl) (Nat.le_of_ble_eq_true rfl) ?_
  refine lv_aload_n hx hb dX5_init_4 rfl (lv_at hl 0 rfl) ?_
  refine lv_aload_n hx hb dX5_init_5 rfl (lv_at hl 1 rfl) ?_
  refine h_putF (C := RX5) (T := TX5) (N := 3) (ty0 := tyX5) (v := .ref ta) tyX5_ok nmX5 gin_X5 hC hI 0 rfl rfl 0 (by decide) gw_1_54 rfl hin rfl rfl rfl (Nat.le_of_ble_eq_true rfl) dX5_init_6 (fun H locs hJ => ?_)
  clear hI
  have hI : hI0 D A s.heap (w0 ++ [(h0, .inr (5, [.ref ta, .int 0, .int 0]))]) H _ := hJ
  clear hJ
  refine W.eq (g2 := F0 m 9 ls []) rfl ?_
  refine W.widen (k := 0) (n := 0) (Nat.le_of_ble_eq_true rfl) (Nat.le_of_ble_eq_true rfl) ?_
  exact h_vret (u := fun k => [].getD k 0) (F := fun u => w0 ++ cc_X5_init cy h0 ta u) hC hr hlocks hI rfl trivial (Nat.le_of_ble_eq_true rfl) (Nat.le_of_ble_eq_true rfl) dX5_init_9

theorem dX3_init_0 : decode cX3_init 0 = .ok (.aload_n 0, 1) := by decide +kernel
theorem dX3_init_1 : decode cX3_init 1 = .ok (.invokespecial 3, 3) := by decide +kernel
theorem dX3_init_4 : decode cX3_init 4 = .ok (.aload_n 0, 1) := by decide +kernel
theorem dX3_init_5 : decode cX3_init 5 = .ok (.sipush 192, 3) := by decide +kernel
theorem dX3_init_8 : decode cX3_init 8 = .ok (.newarray .int, 2) := by decide +kernel
theorem dX3_init_10 : decode cX3_init 10 = .ok (.putfield 11, 3) := by decide +kernel
theorem dX3_init_13 : decode cX3_init 13 = .ok (.aload_n 0, 1) := by decide +kernel
theorem dX3_init_14 : decode cX3_init 14 = .ok (.getfield 11, 3) := by decide +kernel
theorem dX3_init_17 : decode cX3_init 17 = .ok (.iconst (-1), 1) := by decide +kernel
theorem dX3_init_18 : decode cX3_init 18 = .ok (.invokestatic 15, 3) := by decide +kernel
theorem dX3_init_21 : decode cX3_init 21 = .ok (.return_, 1) := by decide +kernel
abbrev cc_X3_init (cy : Nat → ClassId) (h0 : Nat) (u : Nat → Nat) : va_W := [(h0, .inr (3, [.ref (u 0), .int 0, .int 0, .int 0])), ((u 0), .inl (cy 0, 192, .inl (hfill (fun _ => 0) (-1) 192)))]
abbrev ws_X3_init : List Cond := Cond.code yX3_init cX3_init 1 none :: gG
abbrev rm_X3_init : Room := { frames := 1, cells := 1, slots := 192, locals := 23 }
theorem k_X3_init : gCI yX3_init cX3_init 1 0 := ⟨gw_1_67, gw_1_4, gw_1_68, rfl, by decide +kernel⟩
set_option maxHeartbeats 4000000 in
set_option maxRecDepth 100000 in
theorem i_X3_init (l : Launch) (D : va_G) (cy : Nat → ClassId) (A : Nat → Prop) (w0 : va_W) (h0 : Nat) : Met l yX3_init ws_X3_init rm_X3_init (va_Pc [.ref h0] (hB0 D cy A (w0 ++ [(h0, .inr (3, [.null, .int 0, .int 0, .int 0]))]))) (va_Qv (fun _ : Nat → Nat => True) (fun u t => hB0 D cy A (w0 ++ cc_X3_init cy h0 u) t) A) 1 192 A := by
  refine Met.ofW (cc := cX3_init) (maxL := 1) (ret := none) (by decide) rfl ?_
  intro p e s m args below meth c s₁ B hml hv
  obtain ⟨rfl, hB⟩ := hv
  have hC : hC0 p c cX3_init s m ([.ref h0] : List Value).toArray RX3 D cy A := h_start B hB
  have hI : hI0 D A s.heap (w0 ++ [(h0, .inr (3, [.null, .int 0, .int 0, .int 0]))]) s.heap [] := ⟨hB.1, hB.2.2.1, va_S.rf⟩
  have hx := hC.1
  have hb := hC.2.1
  have hr := B.returns
  have hlocks := B.notSynchronized
  have hin : meth.name = "<init>" := (name_of_methodNamed B.named B.method).1
  clear B hB
  have hl := lv_entry ([.ref h0]) (n := 1) (Nat.le_of_ble_eq_true rfl)
  rw [lg_entry_eq]
  generalize (lg_sl ([.ref h0]) ++ List.replicate (1 - (lg_sl ([.ref h0])).length) Slot.unset).toArray = ls at hl ⊢
  have hl : lv_has ls 1 [(0, .ref h0)] := hl
  refine lv_aload_n hx hb dX3_init_0 rfl (lv_at hl 0 rfl) ?_
  refine h_obj hC (by rw [hml]; exact hl.1.symm) gw_1_69 gw_1_30 gw_1_31 dX3_init_1 (Nat.le_of_ble_eq_true rfl) (Nat.le_of_ble_eq_true rfl) ?_
  refine lv_aload_n hx hb dX3_init_4 rfl (lv_at hl 0 rfl) ?_
  refine lv_sipush (v := 192) hx hb dX3_init_5 (by decide) ?_
  refine h_arr (k := 0) (N := 192) (a0 := (192, .inl (fun _ => 0))) hC hI gw_1_47 rfl rfl rfl (fun _ => rfl) (by decide) (by decide) (by decide) (Nat.le_of_ble_eq_true rfl) (Nat.le_of_ble_eq_true rfl) dX3_init_8 (fun q1 H hJ => ?_)
  clear hI
  have hI : hI0 D A s.heap (w0 ++ [(h0, .inr (3, [.null, .int 0, .int 0, .int 0])), (q1, .inl (cy 0, 192, .inl (fun _ => 0)))]) H _ := hJ
  clear hJ
  refine h_putF (C := RX3) (T := TX3) (N := 4) (ty0 := tyX3) (v := .ref q1) tyX3_ok nmX3 gin_X3 hC hI 0 rfl rfl 0 (by decide) gw_1_73 rfl hin rfl rfl rfl (Nat.le_of_ble_eq_true rfl) dX3_init_10 (fun H locs hJ => ?_)
  clear hI
  have hI : hI0 D A s.heap (w0 ++ [(h0, .inr (3, [.ref q1, .int 0, .int 0, .int 0])), (q1, .inl (cy 0, 192, .inl (fun _ => 0)))]) H _ := hJ
  clear hJ
  refine W.eq (g2 := F0 m 13 ls []) rfl ?_
  refine W.widen (k := 1) (n := 192) (Nat.le_of_ble_eq_true rfl) (Nat.le_of_ble_eq_true rfl) ?_
  refine lv_aload_n hx hb dX3_init_13 rfl (lv_at hl 0 rfl) ?_
  refine h_get (C := RX3) (T := TX3) (N := 4) (v := .ref q1) gin_X3 hC hI 0 rfl rfl 0 (by decide) gw_1_73 rfl dX3_init_14 ?_
  refine lv_iconst (v := (-1)) hx hb dX3_init_17 (by decide) ?_
  refine h_callS (l := l) hC hml hI (c_fillW l D cy A w0 [(h0, .inr (3, [.ref q1, .int 0, .int 0, .int 0])), (q1, .inl (cy 0, 192, .inl (fun _ => 0)))] 1 q1 192 _ (-1) (by decide) rfl) k_J7_fill_53178 gw_1_70 ⟨rfl, rfl⟩ ⟨Nat.le_of_ble_eq_true rfl, Nat.le_of_ble_eq_true rfl⟩ rfl hl.1 rfl (Nat.le_of_ble_eq_true rfl) dX3_init_18 ⟨Nat.le_of_ble_eq_true rfl, Nat.le_of_ble_eq_true rfl⟩ (fun _ H locs _ hJ => ?_)
  clear hI
  have hI : hI0 D A s.heap (w0 ++ [(h0, .inr (3, [.ref q1, .int 0, .int 0, .int 0])), (q1, .inl (cy 0, 192, .inl (hfill (fun _ => 0) (-1) 192)))]) H _ := hJ
  clear hJ
  exact h_vret (u := fun k => [q1].getD k 0) (F := fun u => w0 ++ cc_X3_init cy h0 u) hC hr hlocks hI rfl trivial (Nat.le_of_ble_eq_true rfl) (Nat.le_of_ble_eq_true rfl) dX3_init_21

theorem dX0_init_0 : decode cX0_init 0 = .ok (.aload_n 0, 1) := by decide +kernel
theorem dX0_init_1 : decode cX0_init 1 = .ok (.invokespecial 5, 3) := by decide +kernel
theorem dX0_init_4 : decode cX0_init 4 = .ok (.aload_n 0, 1) := by decide +kernel
theorem dX0_init_5 : decode cX0_init 5 = .ok (.sipush 1120, 3) := by decide +kernel
theorem dX0_init_8 : decode cX0_init 8 = .ok (.newarray .int, 2) := by decide +kernel
theorem dX0_init_10 : decode cX0_init 10 = .ok (.putfield 13, 3) := by decide +kernel
theorem dX0_init_13 : decode cX0_init 13 = .ok (.aload_n 0, 1) := by decide +kernel
theorem dX0_init_14 : decode cX0_init 14 = .ok (.sipush 320, 3) := by decide +kernel
theorem dX0_init_17 : decode cX0_init 17 = .ok (.newarray .int, 2) := by decide +kernel
theorem dX0_init_19 : decode cX0_init 19 = .ok (.putfield 17, 3) := by decide +kernel
theorem dX0_init_22 : decode cX0_init 22 = .ok (.aload_n 0, 1) := by decide +kernel
theorem dX0_init_23 : decode cX0_init 23 = .ok (.bipush 28, 2) := by decide +kernel
theorem dX0_init_25 : decode cX0_init 25 = .ok (.newarray .int, 2) := by decide +kernel
theorem dX0_init_27 : decode cX0_init 27 = .ok (.putfield 20, 3) := by decide +kernel
theorem dX0_init_30 : decode cX0_init 30 = .ok (.aload_n 0, 1) := by decide +kernel
theorem dX0_init_31 : decode cX0_init 31 = .ok (.bipush 8, 2) := by decide +kernel
theorem dX0_init_33 : decode cX0_init 33 = .ok (.newarray .int, 2) := by decide +kernel
theorem dX0_init_35 : decode cX0_init 35 = .ok (.putfield 23, 3) := by decide +kernel
theorem dX0_init_38 : decode cX0_init 38 = .ok (.aload_n 0, 1) := by decide +kernel
theorem dX0_init_39 : decode cX0_init 39 = .ok (.bipush 8, 2) := by decide +kernel
theorem dX0_init_41 : decode cX0_init 41 = .ok (.newarray .int, 2) := by decide +kernel
theorem dX0_init_43 : decode cX0_init 43 = .ok (.putfield 26, 3) := by decide +kernel
theorem dX0_init_46 : decode cX0_init 46 = .ok (.aload_n 0, 1) := by decide +kernel
theorem dX0_init_47 : decode cX0_init 47 = .ok (.bipush 8, 2) := by decide +kernel
theorem dX0_init_49 : decode cX0_init 49 = .ok (.newarray .int, 2) := by decide +kernel
theorem dX0_init_51 : decode cX0_init 51 = .ok (.putfield 29, 3) := by decide +kernel
theorem dX0_init_54 : decode cX0_init 54 = .ok (.aload_n 0, 1) := by decide +kernel
theorem dX0_init_55 : decode cX0_init 55 = .ok (.bipush 8, 2) := by decide +kernel
theorem dX0_init_57 : decode cX0_init 57 = .ok (.newarray .boolean, 2) := by decide +kernel
theorem dX0_init_59 : decode cX0_init 59 = .ok (.putfield 32, 3) := by decide +kernel
theorem dX0_init_62 : decode cX0_init 62 = .ok (.aload_n 0, 1) := by decide +kernel
theorem dX0_init_63 : decode cX0_init 63 = .ok (.sipush 320, 3) := by decide +kernel
theorem dX0_init_66 : decode cX0_init 66 = .ok (.newarray .int, 2) := by decide +kernel
theorem dX0_init_68 : decode cX0_init 68 = .ok (.putfield 36, 3) := by decide +kernel
theorem dX0_init_71 : decode cX0_init 71 = .ok (.aload_n 0, 1) := by decide +kernel
theorem dX0_init_72 : decode cX0_init 72 = .ok (.sipush 320, 3) := by decide +kernel
theorem dX0_init_75 : decode cX0_init 75 = .ok (.newarray .int, 2) := by decide +kernel
theorem dX0_init_77 : decode cX0_init 77 = .ok (.putfield 39, 3) := by decide +kernel
theorem dX0_init_80 : decode cX0_init 80 = .ok (.aload_n 0, 1) := by decide +kernel
theorem dX0_init_81 : decode cX0_init 81 = .ok (.sipush 320, 3) := by decide +kernel
theorem dX0_init_84 : decode cX0_init 84 = .ok (.newarray .int, 2) := by decide +kernel
theorem dX0_init_86 : decode cX0_init 86 = .ok (.putfield 42, 3) := by decide +kernel
theorem dX0_init_89 : decode cX0_init 89 = .ok (.return_, 1) := by decide +kernel
abbrev cc_X0_init (cy : Nat → ClassId) (h0 : Nat) (u : Nat → Nat) : va_W := [(h0, .inr (0, [.null, .int 0, .ref (u 0), .ref (u 1), .ref (u 2), .ref (u 3), .ref (u 4), .ref (u 5), .ref (u 6), .ref (u 7), .ref (u 8), .ref (u 9)])), ((u 0), .inl (cy 0, 1120, .inl (fun _ => 0))), ((u 1), .inl (cy 0, 320, .inl (fun _ => 0))), ((u 2), .inl (cy 0, 28, .inl (fun _ => 0))), ((u 3), .inl (cy 0, 8, .inl (fun _ => 0))), ((u 4), .inl (cy 0, 8, .inl (fun _ => 0))), ((u 5), .inl (cy 0, 8, .inl (fun _ => 0))), ((u 6), .inl (cy 1, 8, .inl (fun _ => 0))), ((u 7), .inl (cy 0, 320, .inl (fun _ => 0))), ((u 8), .inl (cy 0, 320, .inl (fun _ => 0))), ((u 9), .inl (cy 0, 320, .inl (fun _ => 0)))]
abbrev ws_X0_init : List Cond := Cond.code yX0_init cX0_init 1 none :: gG
abbrev rm_X0_init : Room := { frames := 1, cells := 10, slots := 2460, locals := 20 }
theorem k_X0_init : gCI yX0_init cX0_init 1 0 := ⟨gw_1_99, gw_1_7, gw_1_100, rfl, by decide +kernel⟩
set_option maxHeartbeats 4000000 in
set_option maxRecDepth 100000 in
theorem i_X0_init (l : Launch) (D : va_G) (cy : Nat → ClassId) (A : Nat → Prop) (w0 : va_W) (h0 : Nat) : Met l yX0_init ws_X0_init rm_X0_init (va_Pc [.ref h0] (hB0 D cy A (w0 ++ [(h0, .inr (0, [.null, .int 0, .null, .null, .null, .null, .null, .null, .null, .null, .null, .null]))]))) (va_Qv (fun _ : Nat → Nat => True) (fun u t => hB0 D cy A (w0 ++ cc_X0_init cy h0 u) t) A) 10 2460 A := by
  refine Met.ofW (cc := cX0_init) (maxL := 1) (ret := none) (by decide) rfl ?_
  intro p e s m args below meth c s₁ B hml hv
  obtain ⟨rfl, hB⟩ := hv
  have hC : hC0 p c cX0_init s m ([.ref h0] : List Value).toArray RX0 D cy A := h_start B hB
  have hI : hI0 D A s.heap (w0 ++ [(h0, .inr (0, [.null, .int 0, .null, .null, .null, .null, .null, .null, .null, .null, .null, .null]))]) s.heap [] := ⟨hB.1, hB.2.2.1, va_S.rf⟩
  have hx := hC.1
  have hb := hC.2.1
  have hr := B.returns
  have hlocks := B.notSynchronized
  have hin : meth.name = "<init>" := (name_of_methodNamed B.named B.method).1
  clear B hB
  have hl := lv_entry ([.ref h0]) (n := 1) (Nat.le_of_ble_eq_true rfl)
  rw [lg_entry_eq]
  generalize (lg_sl ([.ref h0]) ++ List.replicate (1 - (lg_sl ([.ref h0])).length) Slot.unset).toArray = ls at hl ⊢
  have hl : lv_has ls 1 [(0, .ref h0)] := hl
  refine lv_aload_n hx hb dX0_init_0 rfl (lv_at hl 0 rfl) ?_
  refine h_obj hC (by rw [hml]; exact hl.1.symm) gw_1_101 gw_1_30 gw_1_31 dX0_init_1 (Nat.le_of_ble_eq_true rfl) (Nat.le_of_ble_eq_true rfl) ?_
  refine lv_aload_n hx hb dX0_init_4 rfl (lv_at hl 0 rfl) ?_
  refine lv_sipush (v := 1120) hx hb dX0_init_5 (by decide) ?_
  refine h_arr (k := 0) (N := 1120) (a0 := (1120, .inl (fun _ => 0))) hC hI gw_1_47 rfl rfl rfl (fun _ => rfl) (by decide) (by decide) (by decide) (Nat.le_of_ble_eq_true rfl) (Nat.le_of_ble_eq_true rfl) dX0_init_8 (fun q1 H hJ => ?_)
  clear hI
  have hI : hI0 D A s.heap (w0 ++ [(h0, .inr (0, [.null, .int 0, .null, .null, .null, .null, .null, .null, .null, .null, .null, .null])), (q1, .inl (cy 0, 1120, .inl (fun _ => 0)))]) H _ := hJ
  clear hJ
  refine h_putF (C := RX0) (T := TX0) (N := 12) (ty0 := tyX0) (v := .ref q1) tyX0_ok nmX0 gin_X0 hC hI 0 rfl rfl 2 (by decide) gw_1_104 rfl hin rfl rfl rfl (Nat.le_of_ble_eq_true rfl) dX0_init_10 (fun H locs hJ => ?_)
  clear hI
  have hI : hI0 D A s.heap (w0 ++ [(h0, .inr (0, [.null, .int 0, .ref q1, .null, .null, .null, .null, .null, .null, .null, .null, .null])), (q1, .inl (cy 0, 1120, .inl (fun _ => 0)))]) H _ := hJ
  clear hJ
  refine W.eq (g2 := F0 m 13 ls []) rfl ?_
  refine W.widen (k := 1) (n := 1120) (Nat.le_of_ble_eq_true rfl) (Nat.le_of_ble_eq_true rfl) ?_
  refine lv_aload_n hx hb dX0_init_13 rfl (lv_at hl 0 rfl) ?_
  refine lv_sipush (v := 320) hx hb dX0_init_14 (by decide) ?_
  refine h_arr (k := 0) (N := 320) (a0 := (320, .inl (fun _ => 0))) hC hI gw_1_47 rfl rfl rfl (fun _ => rfl) (by decide) (by decide) (by decide) (Nat.le_of_ble_eq_true rfl) (Nat.le_of_ble_eq_true rfl) dX0_init_17 (fun q2 H hJ => ?_)
  clear hI
  have hI : hI0 D A s.heap (w0 ++ [(h0, .inr (0, [.null, .int 0, .ref q1, .null, .null, .null, .null, .null, .null, .null, .null, .null])), (q1, .inl (cy 0, 1120, .inl (fun _ => 0))), (q2, .inl (cy 0, 320, .inl (fun _ => 0)))]) H _ := hJ
  clear hJ
  refine h_putF (C := RX0) (T := TX0) (N := 12) (ty0 := tyX0) (v := .ref q2) tyX0_ok nmX0 gin_X0 hC hI 0 rfl rfl 3 (by decide) gw_1_105 rfl hin rfl rfl rfl (Nat.le_of_ble_eq_true rfl) dX0_init_19 (fun H locs hJ => ?_)
  clear hI
  have hI : hI0 D A s.heap (w0 ++ [(h0, .inr (0, [.null, .int 0, .ref q1, .ref q2, .null, .null, .null, .null, .null, .null, .null, .null])), (q1, .inl (cy 0, 1120, .inl (fun _ => 0))), (q2, .inl (cy 0, 320, .inl (fun _ => 0)))]) H _ := hJ
  clear hJ
  refine W.eq (g2 := F0 m 22 ls []) rfl ?_
  refine W.widen (k := 2) (n := 1440) (Nat.le_of_ble_eq_true rfl) (Nat.le_of_ble_eq_true rfl) ?_
  refine lv_aload_n hx hb dX0_init_22 rfl (lv_at hl 0 rfl) ?_
  refine lv_bipush (v := 28) hx hb dX0_init_23 (by decide) ?_
  refine h_arr (k := 0) (N := 28) (a0 := (28, .inl (fun _ => 0))) hC hI gw_1_47 rfl rfl rfl (fun _ => rfl) (by decide) (by decide) (by decide) (Nat.le_of_ble_eq_true rfl) (Nat.le_of_ble_eq_true rfl) dX0_init_25 (fun q3 H hJ => ?_)
  clear hI
  have hI : hI0 D A s.heap (w0 ++ [(h0, .inr (0, [.null, .int 0, .ref q1, .ref q2, .null, .null, .null, .null, .null, .null, .null, .null])), (q1, .inl (cy 0, 1120, .inl (fun _ => 0))), (q2, .inl (cy 0, 320, .inl (fun _ => 0))), (q3, .inl (cy 0, 28, .inl (fun _ => 0)))]) H _ := hJ
  clear hJ
  refine h_putF (C := RX0) (T := TX0) (N := 12) (ty0 := tyX0) (v := .ref q3) tyX0_ok nmX0 gin_X0 hC hI 0 rfl rfl 4 (by decide) gw_1_106 rfl hin rfl rfl rfl (Nat.le_of_ble_eq_true rfl) dX0_init_27 (fun H locs hJ => ?_)
  clear hI
  have hI : hI0 D A s.heap (w0 ++ [(h0, .inr (0, [.null, .int 0, .ref q1, .ref q2, .ref q3, .null, .null, .null, .null, .null, .null, .null])), (q1, .inl (cy 0, 1120, .inl (fun _ => 0))), (q2, .inl (cy 0, 320, .inl (fun _ => 0))), (q3, .inl (cy 0, 28, .inl (fun _ => 0)))]) H _ := hJ
  clear hJ
  refine W.eq (g2 := F0 m 30 ls []) rfl ?_
  refine W.widen (k := 3) (n := 1468) (Nat.le_of_ble_eq_true rfl) (Nat.le_of_ble_eq_true rfl) ?_
  refine lv_aload_n hx hb dX0_init_30 rfl (lv_at hl 0 rfl) ?_
  refine lv_bipush (v := 8) hx hb dX0_init_31 (by decide) ?_
  refine h_arr (k := 0) (N := 8) (a0 := (8, .inl (fun _ => 0))) hC hI gw_1_47 rfl rfl rfl (fun _ => rfl) (by decide) (by decide) (by decide) (Nat.le_of_ble_eq_true rfl) (Nat.le_of_ble_eq_true rfl) dX0_init_33 (fun q4 H hJ => ?_)
  clear hI
  have hI : hI0 D A s.heap (w0 ++ [(h0, .inr (0, [.null, .int 0, .ref q1, .ref q2, .ref q3, .null, .null, .null, .null, .null, .null, .null])), (q1, .inl (cy 0, 1120, .inl (fun _ => 0))), (q2, .inl (cy 0, 320, .inl (fun _ => 0))), (q3, .inl (cy 0, 28, .inl (fun _ => 0))), (q4, .inl (cy 0, 8, .inl (fun _ => 0)))]) H _ := hJ
  clear hJ
  refine h_putF (C := RX0) (T := TX0) (N := 12) (ty0 := tyX0) (v := .ref q4) tyX0_ok nmX0 gin_X0 hC hI 0 rfl rfl 5 (by decide) gw_1_107 rfl hin rfl rfl rfl (Nat.le_of_ble_eq_true rfl) dX0_init_35 (fun H locs hJ => ?_)
  clear hI
  have hI : hI0 D A s.heap (w0 ++ [(h0, .inr (0, [.null, .int 0, .ref q1, .ref q2, .ref q3, .ref q4, .null, .null, .null, .null, .null, .null])), (q1, .inl (cy 0, 1120, .inl (fun _ => 0))), (q2, .inl (cy 0, 320, .inl (fun _ => 0))), (q3, .inl (cy 0, 28, .inl (fun _ => 0))), (q4, .inl (cy 0, 8, .inl (fun _ => 0)))]) H _ := hJ
  clear hJ
  refine W.eq (g2 := F0 m 38 ls []) rfl ?_
  refine W.widen (k := 4) (n := 1476) (Nat.le_of_ble_eq_true rfl) (Nat.le_of_ble_eq_true rfl) ?_
  refine lv_aload_n hx hb dX0_init_38 rfl (lv_at hl 0 rfl) ?_
  refine lv_bipush (v := 8) hx hb dX0_init_39 (by decide) ?_
  refine h_arr (k := 0) (N := 8) (a0 := (8, .inl (fun _ => 0))) hC hI gw_1_47 rfl rfl rfl (fun _ => rfl) (by decide) (by decide) (by decide) (Nat.le_of_ble_eq_true rfl) (Nat.le_of_ble_eq_true rfl) dX0_init_41 (fun q5 H hJ => ?_)
  clear hI
  have hI : hI0 D A s.heap (w0 ++ [(h0, .inr (0, [.null, .int 0, .ref q1, .ref q2, .ref q3, .ref q4, .null, .null, .null, .null, .null, .null])), (q1, .inl (cy 0, 1120, .inl (fun _ => 0))), (q2, .inl (cy 0, 320, .inl (fun _ => 0))), (q3, .inl (cy 0, 28, .inl (fun _ => 0))), (q4, .inl (cy 0, 8, .inl (fun _ => 0))), (q5, .inl (cy 0, 8, .inl (fun _ => 0)))]) H _ := hJ
  clear hJ
  refine h_putF (C := RX0) (T := TX0) (N := 12) (ty0 := tyX0) (v := .ref q5) tyX0_ok nmX0 gin_X0 hC hI 0 rfl rfl 6 (by decide) gw_1_108 rfl hin rfl rfl rfl (Nat.le_of_ble_eq_true rfl) dX0_init_43 (fun H locs hJ => ?_)
  clear hI
  have hI : hI0 D A s.heap (w0 ++ [(h0, .inr (0, [.null, .int 0, .ref q1, .ref q2, .ref q3, .ref q4, .ref q5, .null, .null, .null, .null, .null])), (q1, .inl (cy 0, 1120, .inl (fun _ => 0))), (q2, .inl (cy 0, 320, .inl (fun _ => 0))), (q3, .inl (cy 0, 28, .inl (fun _ => 0))), (q4, .inl (cy 0, 8, .inl (fun _ => 0))), (q5, .inl (cy 0, 8, .inl (fun _ => 0)))]) H _ := hJ
  clear hJ
  refine W.eq (g2 := F0 m 46 ls []) rfl ?_
  refine W.widen (k := 5) (n := 1484) (Nat.le_of_ble_eq_true rfl) (Nat.le_of_ble_eq_true rfl) ?_
  refine lv_aload_n hx hb dX0_init_46 rfl (lv_at hl 0 rfl) ?_
  refine lv_bipush (v := 8) hx hb dX0_init_47 (by decide) ?_
  refine h_arr (k := 0) (N := 8) (a0 := (8, .inl (fun _ => 0))) hC hI gw_1_47 rfl rfl rfl (fun _ => rfl) (by decide) (by decide) (by decide) (Nat.le_of_ble_eq_true rfl) (Nat.le_of_ble_eq_true rfl) dX0_init_49 (fun q6 H hJ => ?_)
  clear hI
  have hI : hI0 D A s.heap (w0 ++ [(h0, .inr (0, [.null, .int 0, .ref q1, .ref q2, .ref q3, .ref q4, .ref q5, .null, .null, .null, .null, .null])), (q1, .inl (cy 0, 1120, .inl (fun _ => 0))), (q2, .inl (cy 0, 320, .inl (fun _ => 0))), (q3, .inl (cy 0, 28, .inl (fun _ => 0))), (q4, .inl (cy 0, 8, .inl (fun _ => 0))), (q5, .inl (cy 0, 8, .inl (fun _ => 0))), (q6, .inl (cy 0, 8, .inl (fun _ => 0)))]) H _ := hJ
  clear hJ
  refine h_putF (C := RX0) (T := TX0) (N := 12) (ty0 := tyX0) (v := .ref q6) tyX0_ok nmX0 gin_X0 hC hI 0 rfl rfl 7 (by decide) gw_1_109 rfl hin rfl rfl rfl (Nat.le_of_ble_eq_true rfl) dX0_init_51 (fun H locs hJ => ?_)
  clear hI
  have hI : hI0 D A s.heap (w0 ++ [(h0, .inr (0, [.null, .int 0, .ref q1, .ref q2, .ref q3, .ref q4, .ref q5, .ref q6, .null, .null, .null, .null])), (q1, .inl (cy 0, 1120, .inl (fun _ => 0))), (q2, .inl (cy 0, 320, .inl (fun _ => 0))), (q3, .inl (cy 0, 28, .inl (fun _ => 0))), (q4, .inl (cy 0, 8, .inl (fun _ => 0))), (q5, .inl (cy 0, 8, .inl (fun _ => 0))), (q6, .inl (cy 0, 8, .inl (fun _ => 0)))]) H _ := hJ
  clear hJ
  refine W.eq (g2 := F0 m 54 ls []) rfl ?_
  refine W.widen (k := 6) (n := 1492) (Nat.le_of_ble_eq_true rfl) (Nat.le_of_ble_eq_true rfl) ?_
  refine lv_aload_n hx hb dX0_init_54 rfl (lv_at hl 0 rfl) ?_
  refine lv_bipush (v := 8) hx hb dX0_init_55 (by decide) ?_
  refine h_arr (k := 1) (N := 8) (a0 := (8, .inl (fun _ => 0))) hC hI gw_1_139 rfl rfl rfl (fun _ => rfl) (by decide) (by decide) (by decide) (Nat.le_of_ble_eq_true rfl) (Nat.le_of_ble_eq_true rfl) dX0_init_57 (fun q7 H hJ => ?_)
  clear hI
  have hI : hI0 D A s.heap (w0 ++ [(h0, .inr (0, [.null, .int 0, .ref q1, .ref q2, .ref q3, .ref q4, .ref q5, .ref q6, .null, .null, .null, .null])), (q1, .inl (cy 0, 1120, .inl (fun _ => 0))), (q2, .inl (cy 0, 320, .inl (fun _ => 0))), (q3, .inl (cy 0, 28, .inl (fun _ => 0))), (q4, .inl (cy 0, 8, .inl (fun _ => 0))), (q5, .inl (cy 0, 8, .inl (fun _ => 0))), (q6, .inl (cy 0, 8, .inl (fun _ => 0))), (q7, .inl (cy 1, 8, .inl (fun _ => 0)))]) H _ := hJ
  clear hJ
  refine h_putF (C := RX0) (T := TX0) (N := 12) (ty0 := tyX0) (v := .ref q7) tyX0_ok nmX0 gin_X0 hC hI 0 rfl rfl 8 (by decide) gw_1_110 rfl hin rfl rfl rfl (Nat.le_of_ble_eq_true rfl) dX0_init_59 (fun H locs hJ => ?_)
  clear hI
  have hI : hI0 D A s.heap (w0 ++ [(h0, .inr (0, [.null, .int 0, .ref q1, .ref q2, .ref q3, .ref q4, .ref q5, .ref q6, .ref q7, .null, .null, .null])), (q1, .inl (cy 0, 1120, .inl (fun _ => 0))), (q2, .inl (cy 0, 320, .inl (fun _ => 0))), (q3, .inl (cy 0, 28, .inl (fun _ => 0))), (q4, .inl (cy 0, 8, .inl (fun _ => 0))), (q5, .inl (cy 0, 8, .inl (fun _ => 0))), (q6, .inl (cy 0, 8, .inl (fun _ => 0))), (q7, .inl (cy 1, 8, .inl (fun _ => 0)))]) H _ := hJ
  clear hJ
  refine W.eq (g2 := F0 m 62 ls []) rfl ?_
  refine W.widen (k := 7) (n := 1500) (Nat.le_of_ble_eq_true rfl) (Nat.le_of_ble_eq_true rfl) ?_
  refine lv_aload_n hx hb dX0_init_62 rfl (lv_at hl 0 rfl) ?_
  refine lv_sipush (v := 320) hx hb dX0_init_63 (by decide) ?_
  refine h_arr (k := 0) (N := 320) (a0 := (320, .inl (fun _ => 0))) hC hI gw_1_47 rfl rfl rfl (fun _ => rfl) (by decide) (by decide) (by decide) (Nat.le_of_ble_eq_true rfl) (Nat.le_of_ble_eq_true rfl) dX0_init_66 (fun q8 H hJ => ?_)
  clear hI
  have hI : hI0 D A s.heap (w0 ++ [(h0, .inr (0, [.null, .int 0, .ref q1, .ref q2, .ref q3, .ref q4, .ref q5, .ref q6, .ref q7, .null, .null, .null])), (q1, .inl (cy 0, 1120, .inl (fun _ => 0))), (q2, .inl (cy 0, 320, .inl (fun _ => 0))), (q3, .inl (cy 0, 28, .inl (fun _ => 0))), (q4, .inl (cy 0, 8, .inl (fun _ => 0))), (q5, .inl (cy 0, 8, .inl (fun _ => 0))), (q6, .inl (cy 0, 8, .inl (fun _ => 0))), (q7, .inl (cy 1, 8, .inl (fun _ => 0))), (q8, .inl (cy 0, 320, .inl (fun _ => 0)))]) H _ := hJ
  clear hJ
  refine h_putF (C := RX0) (T := TX0) (N := 12) (ty0 := tyX0) (v := .ref q8) tyX0_ok nmX0 gin_X0 hC hI 0 rfl rfl 9 (by decide) gw_1_111 rfl hin rfl rfl rfl (Nat.le_of_ble_eq_true rfl) dX0_init_68 (fun H locs hJ => ?_)
  clear hI
  have hI : hI0 D A s.heap (w0 ++ [(h0, .inr (0, [.null, .int 0, .ref q1, .ref q2, .ref q3, .ref q4, .ref q5, .ref q6, .ref q7, .ref q8, .null, .null])), (q1, .inl (cy 0, 1120, .inl (fun _ => 0))), (q2, .inl (cy 0, 320, .inl (fun _ => 0))), (q3, .inl (cy 0, 28, .inl (fun _ => 0))), (q4, .inl (cy 0, 8, .inl (fun _ => 0))), (q5, .inl (cy 0, 8, .inl (fun _ => 0))), (q6, .inl (cy 0, 8, .inl (fun _ => 0))), (q7, .inl (cy 1, 8, .inl (fun _ => 0))), (q8, .inl (cy 0, 320, .inl (fun _ => 0)))]) H _ := hJ
  clear hJ
  refine W.eq (g2 := F0 m 71 ls []) rfl ?_
  refine W.widen (k := 8) (n := 1820) (Nat.le_of_ble_eq_true rfl) (Nat.le_of_ble_eq_true rfl) ?_
  refine lv_aload_n hx hb dX0_init_71 rfl (lv_at hl 0 rfl) ?_
  refine lv_sipush (v := 320) hx hb dX0_init_72 (by decide) ?_
  refine h_arr (k := 0) (N := 320) (a0 := (320, .inl (fun _ => 0))) hC hI gw_1_47 rfl rfl rfl (fun _ => rfl) (by decide) (by decide) (by decide) (Nat.le_of_ble_eq_true rfl) (Nat.le_of_ble_eq_true rfl) dX0_init_75 (fun q9 H hJ => ?_)
  clear hI
  have hI : hI0 D A s.heap (w0 ++ [(h0, .inr (0, [.null, .int 0, .ref q1, .ref q2, .ref q3, .ref q4, .ref q5, .ref q6, .ref q7, .ref q8, .null, .null])), (q1, .inl (cy 0, 1120, .inl (fun _ => 0))), (q2, .inl (cy 0, 320, .inl (fun _ => 0))), (q3, .inl (cy 0, 28, .inl (fun _ => 0))), (q4, .inl (cy 0, 8, .inl (fun _ => 0))), (q5, .inl (cy 0, 8, .inl (fun _ => 0))), (q6, .inl (cy 0, 8, .inl (fun _ => 0))), (q7, .inl (cy 1, 8, .inl (fun _ => 0))), (q8, .inl (cy 0, 320, .inl (fun _ => 0))), (q9, .inl (cy 0, 320, .inl (fun _ => 0)))]) H _ := hJ
  clear hJ
  refine h_putF (C := RX0) (T := TX0) (N := 12) (ty0 := tyX0) (v := .ref q9) tyX0_ok nmX0 gin_X0 hC hI 0 rfl rfl 10 (by decide) gw_1_112 rfl hin rfl rfl rfl (Nat.le_of_ble_eq_true rfl) dX0_init_77 (fun H locs hJ => ?_)
  clear hI
  have hI : hI0 D A s.heap (w0 ++ [(h0, .inr (0, [.null, .int 0, .ref q1, .ref q2, .ref q3, .ref q4, .ref q5, .ref q6, .ref q7, .ref q8, .ref q9, .null])), (q1, .inl (cy 0, 1120, .inl (fun _ => 0))), (q2, .inl (cy 0, 320, .inl (fun _ => 0))), (q3, .inl (cy 0, 28, .inl (fun _ => 0))), (q4, .inl (cy 0, 8, .inl (fun _ => 0))), (q5, .inl (cy 0, 8, .inl (fun _ => 0))), (q6, .inl (cy 0, 8, .inl (fun _ => 0))), (q7, .inl (cy 1, 8, .inl (fun _ => 0))), (q8, .inl (cy 0, 320, .inl (fun _ => 0))), (q9, .inl (cy 0, 320, .inl (fun _ => 0)))]) H _ := hJ
  clear hJ
  refine W.eq (g2 := F0 m 80 ls []) rfl ?_
  refine W.widen (k := 9) (n := 2140) (Nat.le_of_ble_eq_true rfl) (Nat.le_of_ble_eq_true rfl) ?_
  refine lv_aload_n hx hb dX0_init_80 rfl (lv_at hl 0 rfl) ?_
  refine lv_sipush (v := 320) hx hb dX0_init_81 (by decide) ?_
  refine h_arr (k := 0) (N := 320) (a0 := (320, .inl (fun _ => 0))) hC hI gw_1_47 rfl rfl rfl (fun _ => rfl) (by decide) (by decide) (by decide) (Nat.le_of_ble_eq_true rfl) (Nat.le_of_ble_eq_true rfl) dX0_init_84 (fun q10 H hJ => ?_)
  clear hI
  have hI : hI0 D A s.heap (w0 ++ [(h0, .inr (0, [.null, .int 0, .ref q1, .ref q2, .ref q3, .ref q4, .ref q5, .ref q6, .ref q7, .ref q8, .ref q9, .null])), (q1, .inl (cy 0, 1120, .inl (fun _ => 0))), (q2, .inl (cy 0, 320, .inl (fun _ => 0))), (q3, .inl (cy 0, 28, .inl (fun _ => 0))), (q4, .inl (cy 0, 8, .inl (fun _ => 0))), (q5, .inl (cy 0, 8, .inl (fun _ => 0))), (q6, .inl (cy 0, 8, .inl (fun _ => 0))), (q7, .inl (cy 1, 8, .inl (fun _ => 0))), (q8, .inl (cy 0, 320, .inl (fun _ => 0))), (q9, .inl (cy 0, 320, .inl (fun _ => 0))), (q10, .inl (cy 0, 320, .inl (fun _ => 0)))]) H _ := hJ
  clear hJ
  refine h_putF (C := RX0) (T := TX0) (N := 12) (ty0 := tyX0) (v := .ref q10) tyX0_ok nmX0 gin_X0 hC hI 0 rfl rfl 11 (by decide) gw_1_113 rfl hin rfl rfl rfl (Nat.le_of_ble_eq_true rfl) dX0_init_86 (fun H locs hJ => ?_)
  clear hI
  have hI : hI0 D A s.heap (w0 ++ [(h0, .inr (0, [.null, .int 0, .ref q1, .ref q2, .ref q3, .ref q4, .ref q5, .ref q6, .ref q7, .ref q8, .ref q9, .ref q10])), (q1, .inl (cy 0, 1120, .inl (fun _ => 0))), (q2, .inl (cy 0, 320, .inl (fun _ => 0))), (q3, .inl (cy 0, 28, .inl (fun _ => 0))), (q4, .inl (cy 0, 8, .inl (fun _ => 0))), (q5, .inl (cy 0, 8, .inl (fun _ => 0))), (q6, .inl (cy 0, 8, .inl (fun _ => 0))), (q7, .inl (cy 1, 8, .inl (fun _ => 0))), (q8, .inl (cy 0, 320, .inl (fun _ => 0))), (q9, .inl (cy 0, 320, .inl (fun _ => 0))), (q10, .inl (cy 0, 320, .inl (fun _ => 0)))]) H _ := hJ
  clear hJ
  refine W.eq (g2 := F0 m 89 ls []) rfl ?_
  refine W.widen (k := 10) (n := 2460) (Nat.le_of_ble_eq_true rfl) (Nat.le_of_ble_eq_true rfl) ?_
  exact h_vret (u := fun k => [q1, q2, q3, q4, q5, q6, q7, q8, q9, q10].getD k 0) (F := fun u => w0 ++ cc_X0_init cy h0 u) hC hr hlocks hI rfl trivial (Nat.le_of_ble_eq_true rfl) (Nat.le_of_ble_eq_true rfl) dX0_init_89

theorem dX2_init_0 : decode cX2_init 0 = .ok (.aload_n 0, 1) := by decide +kernel
theorem dX2_init_1 : decode cX2_init 1 = .ok (.invokespecial 3, 3) := by decide +kernel
theorem dX2_init_4 : decode cX2_init 4 = .ok (.aload_n 0, 1) := by decide +kernel
theorem dX2_init_5 : decode cX2_init 5 = .ok (.bipush 8, 2) := by decide +kernel
theorem dX2_init_7 : decode cX2_init 7 = .ok (.newarray .int, 2) := by decide +kernel
theorem dX2_init_9 : decode cX2_init 9 = .ok (.putfield 11, 3) := by decide +kernel
theorem dX2_init_12 : decode cX2_init 12 = .ok (.aload_n 0, 1) := by decide +kernel
theorem dX2_init_13 : decode cX2_init 13 = .ok (.bipush 8, 2) := by decide +kernel
theorem dX2_init_15 : decode cX2_init 15 = .ok (.newarray .int, 2) := by decide +kernel
theorem dX2_init_17 : decode cX2_init 17 = .ok (.putfield 15, 3) := by decide +kernel
theorem dX2_init_20 : decode cX2_init 20 = .ok (.aload_n 0, 1) := by decide +kernel
theorem dX2_init_21 : decode cX2_init 21 = .ok (.bipush 8, 2) := by decide +kernel
theorem dX2_init_23 : decode cX2_init 23 = .ok (.newarray .boolean, 2) := by decide +kernel
theorem dX2_init_25 : decode cX2_init 25 = .ok (.putfield 18, 3) := by decide +kernel
theorem dX2_init_28 : decode cX2_init 28 = .ok (.aload_n 0, 1) := by decide +kernel
theorem dX2_init_29 : decode cX2_init 29 = .ok (.bipush 28, 2) := by decide +kernel
theorem dX2_init_31 : decode cX2_init 31 = .ok (.newarray .int, 2) := by decide +kernel
theorem dX2_init_33 : decode cX2_init 33 = .ok (.putfield 22, 3) := by decide +kernel
theorem dX2_init_36 : decode cX2_init 36 = .ok (.aload_n 0, 1) := by decide +kernel
theorem dX2_init_37 : decode cX2_init 37 = .ok (.bipush 28, 2) := by decide +kernel
theorem dX2_init_39 : decode cX2_init 39 = .ok (.newarray .int, 2) := by decide +kernel
theorem dX2_init_41 : decode cX2_init 41 = .ok (.putfield 25, 3) := by decide +kernel
theorem dX2_init_44 : decode cX2_init 44 = .ok (.aload_n 0, 1) := by decide +kernel
theorem dX2_init_45 : decode cX2_init 45 = .ok (.bipush 28, 2) := by decide +kernel
theorem dX2_init_47 : decode cX2_init 47 = .ok (.newarray .int, 2) := by decide +kernel
theorem dX2_init_49 : decode cX2_init 49 = .ok (.putfield 28, 3) := by decide +kernel
theorem dX2_init_52 : decode cX2_init 52 = .ok (.aload_n 0, 1) := by decide +kernel
theorem dX2_init_53 : decode cX2_init 53 = .ok (.bipush 112, 2) := by decide +kernel
theorem dX2_init_55 : decode cX2_init 55 = .ok (.newarray .int, 2) := by decide +kernel
theorem dX2_init_57 : decode cX2_init 57 = .ok (.putfield 31, 3) := by decide +kernel
theorem dX2_init_60 : decode cX2_init 60 = .ok (.aload_n 0, 1) := by decide +kernel
theorem dX2_init_61 : decode cX2_init 61 = .ok (.bipush 8, 2) := by decide +kernel
theorem dX2_init_63 : decode cX2_init 63 = .ok (.newarray .int, 2) := by decide +kernel
theorem dX2_init_65 : decode cX2_init 65 = .ok (.putfield 34, 3) := by decide +kernel
theorem dX2_init_68 : decode cX2_init 68 = .ok (.aload_n 0, 1) := by decide +kernel
theorem dX2_init_69 : decode cX2_init 69 = .ok (.bipush (-2), 2) := by decide +kernel
theorem dX2_init_71 : decode cX2_init 71 = .ok (.putfield 37, 3) := by decide +kernel
theorem dX2_init_74 : decode cX2_init 74 = .ok (.aload_n 0, 1) := by decide +kernel
theorem dX2_init_75 : decode cX2_init 75 = .ok (.bipush (-2), 2) := by decide +kernel
theorem dX2_init_77 : decode cX2_init 77 = .ok (.putfield 41, 3) := by decide +kernel
theorem dX2_init_80 : decode cX2_init 80 = .ok (.aload_n 0, 1) := by decide +kernel
theorem dX2_init_81 : decode cX2_init 81 = .ok (.new 44, 3) := by decide +kernel
theorem dX2_init_84 : decode cX2_init 84 = .ok (.dup, 1) := by decide +kernel
theorem dX2_init_85 : decode cX2_init 85 = .ok (.invokespecial 46, 3) := by decide +kernel
theorem dX2_init_88 : decode cX2_init 88 = .ok (.putfield 47, 3) := by decide +kernel
theorem dX2_init_91 : decode cX2_init 91 = .ok (.return_, 1) := by decide +kernel
abbrev cc_X2_init (cy : Nat → ClassId) (h0 : Nat) (u : Nat → Nat) : va_W := ((h0, .inr (2, [.ref (u 0), .ref (u 1), .ref (u 2), .int 0, .ref (u 3), .ref (u 4), .ref (u 5), .int 0, .ref (u 6), .ref (u 7), .ref (u 8), .int (-2), .int (-2)])) :: ((u 0), .inl (cy 0, 8, .inl (fun _ => 0))) :: ((u 1), .inl (cy 0, 8, .inl (fun _ => 0))) :: ((u 2), .inl (cy 1, 8, .inl (fun _ => 0))) :: ((u 3), .inl (cy 0, 28, .inl (fun _ => 0))) :: ((u 4), .inl (cy 0, 28, .inl (fun _ => 0))) :: ((u 5), .inl (cy 0, 28, .inl (fun _ => 0))) :: ((u 6), .inl (cy 0, 112, .inl (fun _ => 0))) :: ((u 7), .inl (cy 0, 8, .inl (fun _ => 0))) :: ((u 8), .inr (0, [.null, .int 0, .ref (u 9), .ref (u 10), .ref (u 11), .ref (u 12), .ref (u 13), .ref (u 14), .ref (u 15), .ref (u 16), .ref (u 17), .ref (u 18)])) :: ((u 9), .inl (cy 0, 1120, .inl (fun _ => 0))) :: ((u 10), .inl (cy 0, 320, .inl (fun _ => 0))) :: ((u 11), .inl (cy 0, 28, .inl (fun _ => 0))) :: ((u 12), .inl (cy 0, 8, .inl (fun _ => 0))) :: ((u 13), .inl (cy 0, 8, .inl (fun _ => 0))) :: ((u 14), .inl (cy 0, 8, .inl (fun _ => 0))) :: ((u 15), .inl (cy 1, 8, .inl (fun _ => 0))) :: ((u 16), .inl (cy 0, 320, .inl (fun _ => 0))) :: ((u 17), .inl (cy 0, 320, .inl (fun _ => 0))) :: ((u 18), .inl (cy 0, 320, .inl (fun _ => 0))) :: [] : va_W)
abbrev ws_X2_init : List Cond := Cond.code yX2_init cX2_init 1 none :: gG
abbrev rm_X2_init : Room := { frames := 2, cells := 19, slots := 2700, locals := 40 }
theorem k_X2_init : gCI yX2_init cX2_init 1 0 := ⟨gw_1_93, gw_1_6, gw_1_94, rfl, by decide +kernel⟩
set_option maxHeartbeats 4000000 in
set_option maxRecDepth 100000 in
theorem i_X2_init (l : Launch) (D : va_G) (cy : Nat → ClassId) (A : Nat → Prop) (w0 : va_W) (h0 : Nat) : Met l yX2_init ws_X2_init rm_X2_init (va_Pc [.ref h0] (hB0 D cy A (w0 ++ [(h0, .inr (2, [.null, .null, .null, .int 0, .null, .null, .null, .int 0, .null, .null, .null, .int 0, .int 0]))]))) (va_Qv (fun _ : Nat → Nat => True) (fun u t => hB0 D cy A (w0 ++ cc_X2_init cy h0 u) t) A) 19 2700 A := by
  refine Met.ofW (cc := cX2_init) (maxL := 1) (ret := none) (by decide) rfl ?_
  intro p e s m args below meth c s₁ B hml hv
  obtain ⟨rfl, hB⟩ := hv
  have hC : hC0 p c cX2_init s m ([.ref h0] : List Value).toArray RX2 D cy A := h_start B hB
  have hI : hI0 D A s.heap (w0 ++ [(h0, .inr (2, [.null, .null, .null, .int 0, .null, .null, .null, .int 0, .null, .null, .null, .int 0, .int 0]))]) s.heap [] := ⟨hB.1, hB.2.2.1, va_S.rf⟩
  have hx := hC.1
  have hb := hC.2.1
  have hr := B.returns
  have hlocks := B.notSynchronized
  have hin : meth.name = "<init>" := (name_of_methodNamed B.named B.method).1
  clear B hB
  have hl := lv_entry ([.ref h0]) (n := 1) (Nat.le_of_ble_eq_true rfl)
  rw [lg_entry_eq]
  generalize (lg_sl ([.ref h0]) ++ List.replicate (1 - (lg_sl ([.ref h0])).length) Slot.unset).toArray = ls at hl ⊢
  have hl : lv_has ls 1 [(0, .ref h0)] := hl
  refine lv_aload_n hx hb dX2_init_0 rfl (lv_at hl 0 rfl) ?_
  refine h_obj hC (by rw [hml]; exact hl.1.symm) gw_1_95 gw_1_30 gw_1_31 dX2_init_1 (Nat.le_of_ble_eq_true rfl) (Nat.le_of_ble_eq_true rfl) ?_
  refine lv_aload_n hx hb dX2_init_4 rfl (lv_at hl 0 rfl) ?_
  refine lv_bipush (v := 8) hx hb dX2_init_5 (by decide) ?_
  refine h_arr (k := 0) (N := 8) (a0 := (8, .inl (fun _ => 0))) hC hI gw_1_47 rfl rfl rfl (fun _ => rfl) (by decide) (by decide) (by decide) (Nat.le_of_ble_eq_true rfl) (Nat.le_of_ble_eq_true rfl) dX2_init_7 (fun q1 H hJ => ?_)
  clear hI
  have hI : hI0 D A s.heap (w0 ++ [(h0, .inr (2, [.null, .null, .null, .int 0, .null, .null, .null, .int 0, .null, .null, .null, .int 0, .int 0])), (q1, .inl (cy 0, 8, .inl (fun _ => 0)))]) H _ := hJ
  clear hJ
  refine h_putF (C := RX2) (T := TX2) (N := 13) (ty0 := tyX2) (v := .ref q1) tyX2_ok nmX2 gin_X2 hC hI 0 rfl rfl 0 (by decide) gw_1_140 rfl hin rfl rfl rfl (Nat.le_of_ble_eq_true rfl) dX2_init_9 (fun H locs hJ => ?_)
  clear hI
  have hI : hI0 D A s.heap (w0 ++ [(h0, .inr (2, [.ref q1, .null, .null, .int 0, .null, .null, .null, .int 0, .null, .null, .null, .int 0, .int 0])), (q1, .inl (cy 0, 8, .inl (fun _ => 0)))]) H _ := hJ
  clear hJ
  refine W.eq (g2 := F0 m 12 ls []) rfl ?_
  refine W.widen (k := 1) (n := 8) (Nat.le_of_ble_eq_true rfl) (Nat.le_of_ble_eq_true rfl) ?_
  refine lv_aload_n hx hb dX2_init_12 rfl (lv_at hl 0 rfl) ?_
  refine lv_bipush (v := 8) hx hb dX2_init_13 (by decide) ?_
  refine h_arr (k := 0) (N := 8) (a0 := (8, .inl (fun _ => 0))) hC hI gw_1_47 rfl rfl rfl (fun _ => rfl) (by decide) (by decide) (by decide) (Nat.le_of_ble_eq_true rfl) (Nat.le_of_ble_eq_true rfl) dX2_init_15 (fun q2 H hJ => ?_)
  clear hI
  have hI : hI0 D A s.heap (w0 ++ [(h0, .inr (2, [.ref q1, .null, .null, .int 0, .null, .null, .null, .int 0, .null, .null, .null, .int 0, .int 0])), (q1, .inl (cy 0, 8, .inl (fun _ => 0))), (q2, .inl (cy 0, 8, .inl (fun _ => 0)))]) H _ := hJ
  clear hJ
  refine h_putF (C := RX2) (T := TX2) (N := 13) (ty0 := tyX2) (v := .ref q2) tyX2_ok nmX2 gin_X2 hC hI 0 rfl rfl 1 (by decide) gw_1_142 rfl hin rfl rfl rfl (Nat.le_of_ble_eq_true rfl) dX2_init_17 (fun H locs hJ => ?_)
  clear hI
  have hI : hI0 D A s.heap (w0 ++ [(h0, .inr (2, [.ref q1, .ref q2, .null, .int 0, .null, .null, .null, .int 0, .null, .null, .null, .int 0, .int 0])), (q1, .inl (cy 0, 8, .inl (fun _ => 0))), (q2, .inl (cy 0, 8, .inl (fun _ => 0)))]) H _ := hJ
  clear hJ
  refine W.eq (g2 := F0 m 20 ls []) rfl ?_
  refine W.widen (k := 2) (n := 16) (Nat.le_of_ble_eq_true rfl) (Nat.le_of_ble_eq_true rfl) ?_
  refine lv_aload_n hx hb dX2_init_20 rfl (lv_at hl 0 rfl) ?_
  refine lv_bipush (v := 8) hx hb dX2_init_21 (by decide) ?_
  refine h_arr (k := 1) (N := 8) (a0 := (8, .inl (fun _ => 0))) hC hI gw_1_139 rfl rfl rfl (fun _ => rfl) (by decide) (by decide) (by decide) (Nat.le_of_ble_eq_true rfl) (Nat.le_of_ble_eq_true rfl) dX2_init_23 (fun q3 H hJ => ?_)
  clear hI
  have hI : hI0 D A s.heap (w0 ++ [(h0, .inr (2, [.ref q1, .ref q2, .null, .int 0, .null, .null, .null, .int 0, .null, .null, .null, .int 0, .int 0])), (q1, .inl (cy 0, 8, .inl (fun _ => 0))), (q2, .inl (cy 0, 8, .inl (fun _ => 0))), (q3, .inl (cy 1, 8, .inl (fun _ => 0)))]) H _ := hJ
  clear hJ
  refine h_putF (C := RX2) (T := TX2) (N := 13) (ty0 := tyX2) (v := .ref q3) tyX2_ok nmX2 gin_X2 hC hI 0 rfl rfl 2 (by decide) gw_1_144 rfl hin rfl rfl rfl (Nat.le_of_ble_eq_true rfl) dX2_init_25 (fun H locs hJ => ?_)
  clear hI
  have hI : hI0 D A s.heap (w0 ++ [(h0, .inr (2, [.ref q1, .ref q2, .ref q3, .int 0, .null, .null, .null, .int 0, .null, .null, .null, .int 0, .int 0])), (q1, .inl (cy 0, 8, .inl (fun _ => 0))), (q2, .inl (cy 0, 8, .inl (fun _ => 0))), (q3, .inl (cy 1, 8, .inl (fun _ => 0)))]) H _ := hJ
  clear hJ
  refine W.eq (g2 := F0 m 28 ls []) rfl ?_
  refine W.widen (k := 3) (n := 24) (Nat.le_of_ble_eq_true rfl) (Nat.le_of_ble_eq_true rfl) ?_
  refine lv_aload_n hx hb dX2_init_28 rfl (lv_at hl 0 rfl) ?_
  refine lv_bipush (v := 28) hx hb dX2_init_29 (by decide) ?_
  refine h_arr (k := 0) (N := 28) (a0 := (28, .inl (fun _ => 0))) hC hI gw_1_47 rfl rfl rfl (fun _ => rfl) (by decide) (by decide) (by decide) (Nat.le_of_ble_eq_true rfl) (Nat.le_of_ble_eq_true rfl) dX2_init_31 (fun q4 H hJ => ?_)
  clear hI
  have hI : hI0 D A s.heap (w0 ++ [(h0, .inr (2, [.ref q1, .ref q2, .ref q3, .int 0, .null, .null, .null, .int 0, .null, .null, .null, .int 0, .int 0])), (q1, .inl (cy 0, 8, .inl (fun _ => 0))), (q2, .inl (cy 0, 8, .inl (fun _ => 0))), (q3, .inl (cy 1, 8, .inl (fun _ => 0))), (q4, .inl (cy 0, 28, .inl (fun _ => 0)))]) H _ := hJ
  clear hJ
  refine h_putF (C := RX2) (T := TX2) (N := 13) (ty0 := tyX2) (v := .ref q4) tyX2_ok nmX2 gin_X2 hC hI 0 rfl rfl 4 (by decide) gw_1_148 rfl hin rfl rfl rfl (Nat.le_of_ble_eq_true rfl) dX2_init_33 (fun H locs hJ => ?_)
  clear hI
  have hI : hI0 D A s.heap (w0 ++ [(h0, .inr (2, [.ref q1, .ref q2, .ref q3, .int 0, .ref q4, .null, .null, .int 0, .null, .null, .null, .int 0, .int 0])), (q1, .inl (cy 0, 8, .inl (fun _ => 0))), (q2, .inl (cy 0, 8, .inl (fun _ => 0))), (q3, .inl (cy 1, 8, .inl (fun _ => 0))), (q4, .inl (cy 0, 28, .inl (fun _ => 0)))]) H _ := hJ
  clear hJ
  refine W.eq (g2 := F0 m 36 ls []) rfl ?_
  refine W.widen (k := 4) (n := 52) (Nat.le_of_ble_eq_true rfl) (Nat.le_of_ble_eq_true rfl) ?_
  refine lv_aload_n hx hb dX2_init_36 rfl (lv_at hl 0 rfl) ?_
  refine lv_bipush (v := 28) hx hb dX2_init_37 (by decide) ?_
  refine h_arr (k := 0) (N := 28) (a0 := (28, .inl (fun _ => 0))) hC hI gw_1_47 rfl rfl rfl (fun _ => rfl) (by decide) (by decide) (by decide) (Nat.le_of_ble_eq_true rfl) (Nat.le_of_ble_eq_true rfl) dX2_init_39 (fun q5 H hJ => ?_)
  clear hI
  have hI : hI0 D A s.heap (w0 ++ [(h0, .inr (2, [.ref q1, .ref q2, .ref q3, .int 0, .ref q4, .null, .null, .int 0, .null, .null, .null, .int 0, .int 0])), (q1, .inl (cy 0, 8, .inl (fun _ => 0))), (q2, .inl (cy 0, 8, .inl (fun _ => 0))), (q3, .inl (cy 1, 8, .inl (fun _ => 0))), (q4, .inl (cy 0, 28, .inl (fun _ => 0))), (q5, .inl (cy 0, 28, .inl (fun _ => 0)))]) H _ := hJ
  clear hJ
  refine h_putF (C := RX2) (T := TX2) (N := 13) (ty0 := tyX2) (v := .ref q5) tyX2_ok nmX2 gin_X2 hC hI 0 rfl rfl 5 (by decide) gw_1_150 rfl hin rfl rfl rfl (Nat.le_of_ble_eq_true rfl) dX2_init_41 (fun H locs hJ => ?_)
  clear hI
  have hI : hI0 D A s.heap (w0 ++ [(h0, .inr (2, [.ref q1, .ref q2, .ref q3, .int 0, .ref q4, .ref q5, .null, .int 0, .null, .null, .null, .int 0, .int 0])), (q1, .inl (cy 0, 8, .inl (fun _ => 0))), (q2, .inl (cy 0, 8, .inl (fun _ => 0))), (q3, .inl (cy 1, 8, .inl (fun _ => 0))), (q4, .inl (cy 0, 28, .inl (fun _ => 0))), (q5, .inl (cy 0, 28, .inl (fun _ => 0)))]) H _ := hJ
  clear hJ
  refine W.eq (g2 := F0 m 44 ls []) rfl ?_
  refine W.widen (k := 5) (n := 80) (Nat.le_of_ble_eq_true rfl) (Nat.le_of_ble_eq_true rfl) ?_
  refine lv_aload_n hx hb dX2_init_44 rfl (lv_at hl 0 rfl) ?_
  refine lv_bipush (v := 28) hx hb dX2_init_45 (by decide) ?_
  refine h_arr (k := 0) (N := 28) (a0 := (28, .inl (fun _ => 0))) hC hI gw_1_47 rfl rfl rfl (fun _ => rfl) (by decide) (by decide) (by decide) (Nat.le_of_ble_eq_true rfl) (Nat.le_of_ble_eq_true rfl) dX2_init_47 (fun q6 H hJ => ?_)
  clear hI
  have hI : hI0 D A s.heap (w0 ++ [(h0, .inr (2, [.ref q1, .ref q2, .ref q3, .int 0, .ref q4, .ref q5, .null, .int 0, .null, .null, .null, .int 0, .int 0])), (q1, .inl (cy 0, 8, .inl (fun _ => 0))), (q2, .inl (cy 0, 8, .inl (fun _ => 0))), (q3, .inl (cy 1, 8, .inl (fun _ => 0))), (q4, .inl (cy 0, 28, .inl (fun _ => 0))), (q5, .inl (cy 0, 28, .inl (fun _ => 0))), (q6, .inl (cy 0, 28, .inl (fun _ => 0)))]) H _ := hJ
  clear hJ
  refine h_putF (C := RX2) (T := TX2) (N := 13) (ty0 := tyX2) (v := .ref q6) tyX2_ok nmX2 gin_X2 hC hI 0 rfl rfl 6 (by decide) gw_1_152 rfl hin rfl rfl rfl (Nat.le_of_ble_eq_true rfl) dX2_init_49 (fun H locs hJ => ?_)
  clear hI
  have hI : hI0 D A s.heap (w0 ++ [(h0, .inr (2, [.ref q1, .ref q2, .ref q3, .int 0, .ref q4, .ref q5, .ref q6, .int 0, .null, .null, .null, .int 0, .int 0])), (q1, .inl (cy 0, 8, .inl (fun _ => 0))), (q2, .inl (cy 0, 8, .inl (fun _ => 0))), (q3, .inl (cy 1, 8, .inl (fun _ => 0))), (q4, .inl (cy 0, 28, .inl (fun _ => 0))), (q5, .inl (cy 0, 28, .inl (fun _ => 0))), (q6, .inl (cy 0, 28, .inl (fun _ => 0)))]) H _ := hJ
  clear hJ
  refine W.eq (g2 := F0 m 52 ls []) rfl ?_
  refine W.widen (k := 6) (n := 108) (Nat.le_of_ble_eq_true rfl) (Nat.le_of_ble_eq_true rfl) ?_
  refine lv_aload_n hx hb dX2_init_52 rfl (lv_at hl 0 rfl) ?_
  refine lv_bipush (v := 112) hx hb dX2_init_53 (by decide) ?_
  refine h_arr (k := 0) (N := 112) (a0 := (112, .inl (fun _ => 0))) hC hI gw_1_47 rfl rfl rfl (fun _ => rfl) (by decide) (by decide) (by decide) (Nat.le_of_ble_eq_true rfl) (Nat.le_of_ble_eq_true rfl) dX2_init_55 (fun q7 H hJ => ?_)
  clear hI
  have hI : hI0 D A s.heap (w0 ++ [(h0, .inr (2, [.ref q1, .ref q2, .ref q3, .int 0, .ref q4, .ref q5, .ref q6, .int 0, .null, .null, .null, .int 0, .int 0])), (q1, .inl (cy 0, 8, .inl (fun _ => 0))), (q2, .inl (cy 0, 8, .inl (fun _ => 0))), (q3, .inl (cy 1, 8, .inl (fun _ => 0))), (q4, .inl (cy 0, 28, .inl (fun _ => 0))), (q5, .inl (cy 0, 28, .inl (fun _ => 0))), (q6, .inl (cy 0, 28, .inl (fun _ => 0))), (q7, .inl (cy 0, 112, .inl (fun _ => 0)))]) H _ := hJ
  clear hJ
  refine h_putF (C := RX2) (T := TX2) (N := 13) (ty0 := tyX2) (v := .ref q7) tyX2_ok nmX2 gin_X2 hC hI 0 rfl rfl 8 (by decide) gw_1_157 rfl hin rfl rfl rfl (Nat.le_of_ble_eq_true rfl) dX2_init_57 (fun H locs hJ => ?_)
  clear hI
  have hI : hI0 D A s.heap (w0 ++ [(h0, .inr (2, [.ref q1, .ref q2, .ref q3, .int 0, .ref q4, .ref q5, .ref q6, .int 0, .ref q7, .null, .null, .int 0, .int 0])), (q1, .inl (cy 0, 8, .inl (fun _ => 0))), (q2, .inl (cy 0, 8, .inl (fun _ => 0))), (q3, .inl (cy 1, 8, .inl (fun _ => 0))), (q4, .inl (cy 0, 28, .inl (fun _ => 0))), (q5, .inl (cy 0, 28, .inl (fun _ => 0))), (q6, .inl (cy 0, 28, .inl (fun _ => 0))), (q7, .inl (cy 0, 112, .inl (fun _ => 0)))]) H _ := hJ
  clear hJ
  refine W.eq (g2 := F0 m 60 ls []) rfl ?_
  refine W.widen (k := 7) (n := 220) (Nat.le_of_ble_eq_true rfl) (Nat.le_of_ble_eq_true rfl) ?_
  refine lv_aload_n hx hb dX2_init_60 rfl (lv_at hl 0 rfl) ?_
  refine lv_bipush (v := 8) hx hb dX2_init_61 (by decide) ?_
  refine h_arr (k := 0) (N := 8) (a0 := (8, .inl (fun _ => 0))) hC hI gw_1_47 rfl rfl rfl (fun _ => rfl) (by decide) (by decide) (by decide) (Nat.le_of_ble_eq_true rfl) (Nat.le_of_ble_eq_true rfl) dX2_init_63 (fun q8 H hJ => ?_)
  clear hI
  have hI : hI0 D A s.heap (w0 ++ [(h0, .inr (2, [.ref q1, .ref q2, .ref q3, .int 0, .ref q4, .ref q5, .ref q6, .int 0, .ref q7, .null, .null, .int 0, .int 0])), (q1, .inl (cy 0, 8, .inl (fun _ => 0))), (q2, .inl (cy 0, 8, .inl (fun _ => 0))), (q3, .inl (cy 1, 8, .inl (fun _ => 0))), (q4, .inl (cy 0, 28, .inl (fun _ => 0))), (q5, .inl (cy 0, 28, .inl (fun _ => 0))), (q6, .inl (cy 0, 28, .inl (fun _ => 0))), (q7, .inl (cy 0, 112, .inl (fun _ => 0))), (q8, .inl (cy 0, 8, .inl (fun _ => 0)))]) H _ := hJ
  clear hJ
  refine h_putF (C := RX2) (T := TX2) (N := 13) (ty0 := tyX2) (v := .ref q8) tyX2_ok nmX2 gin_X2 hC hI 0 rfl rfl 9 (by decide) gw_1_159 rfl hin rfl rfl rfl (Nat.le_of_ble_eq_true rfl) dX2_init_65 (fun H locs hJ => ?_)
  clear hI
  have hI : hI0 D A s.heap (w0 ++ [(h0, .inr (2, [.ref q1, .ref q2, .ref q3, .int 0, .ref q4, .ref q5, .ref q6, .int 0, .ref q7, .ref q8, .null, .int 0, .int 0])), (q1, .inl (cy 0, 8, .inl (fun _ => 0))), (q2, .inl (cy 0, 8, .inl (fun _ => 0))), (q3, .inl (cy 1, 8, .inl (fun _ => 0))), (q4, .inl (cy 0, 28, .inl (fun _ => 0))), (q5, .inl (cy 0, 28, .inl (fun _ => 0))), (q6, .inl (cy 0, 28, .inl (fun _ => 0))), (q7, .inl (cy 0, 112, .inl (fun _ => 0))), (q8, .inl (cy 0, 8, .inl (fun _ => 0)))]) H _ := hJ
  clear hJ
  refine W.eq (g2 := F0 m 68 ls []) rfl ?_
  refine W.widen (k := 8) (n := 228) (Nat.le_of_ble_eq_true rfl) (Nat.le_of_ble_eq_true rfl) ?_
  refine lv_aload_n hx hb dX2_init_68 rfl (lv_at hl 0 rfl) ?_
  refine lv_bipush (v := (-2)) hx hb dX2_init_69 (by decide) ?_
  refine h_put (C := RX2) (T := TX2) (N := 13) (ty0 := tyX2) (v := .int (-2)) tyX2_ok nmX2 gin_X2 hC hI 0 rfl rfl 11 (by decide) gw_1_162 rfl rfl rfl (Nat.le_of_ble_eq_true rfl) dX2_init_71 (fun H locs hJ => ?_)
  clear hI
  have hI : hI0 D A s.heap (w0 ++ [(h0, .inr (2, [.ref q1, .ref q2, .ref q3, .int 0, .ref q4, .ref q5, .ref q6, .int 0, .ref q7, .ref q8, .null, .int (-2), .int 0])), (q1, .inl (cy 0, 8, .inl (fun _ => 0))), (q2, .inl (cy 0, 8, .inl (fun _ => 0))), (q3, .inl (cy 1, 8, .inl (fun _ => 0))), (q4, .inl (cy 0, 28, .inl (fun _ => 0))), (q5, .inl (cy 0, 28, .inl (fun _ => 0))), (q6, .inl (cy 0, 28, .inl (fun _ => 0))), (q7, .inl (cy 0, 112, .inl (fun _ => 0))), (q8, .inl (cy 0, 8, .inl (fun _ => 0)))]) H _ := hJ
  clear hJ
  refine W.eq (g2 := F0 m 74 ls []) rfl ?_
  refine W.widen (k := 8) (n := 228) (Nat.le_of_ble_eq_true rfl) (Nat.le_of_ble_eq_true rfl) ?_
  refine lv_aload_n hx hb dX2_init_74 rfl (lv_at hl 0 rfl) ?_
  refine lv_bipush (v := (-2)) hx hb dX2_init_75 (by decide) ?_
  refine h_put (C := RX2) (T := TX2) (N := 13) (ty0 := tyX2) (v := .int (-2)) tyX2_ok nmX2 gin_X2 hC hI 0 rfl rfl 12 (by decide) gw_1_163 rfl rfl rfl (Nat.le_of_ble_eq_true rfl) dX2_init_77 (fun H locs hJ => ?_)
  clear hI
  have hI : hI0 D A s.heap (w0 ++ [(h0, .inr (2, [.ref q1, .ref q2, .ref q3, .int 0, .ref q4, .ref q5, .ref q6, .int 0, .ref q7, .ref q8, .null, .int (-2), .int (-2)])), (q1, .inl (cy 0, 8, .inl (fun _ => 0))), (q2, .inl (cy 0, 8, .inl (fun _ => 0))), (q3, .inl (cy 1, 8, .inl (fun _ => 0))), (q4, .inl (cy 0, 28, .inl (fun _ => 0))), (q5, .inl (cy 0, 28, .inl (fun _ => 0))), (q6, .inl (cy 0, 28, .inl (fun _ => 0))), (q7, .inl (cy 0, 112, .inl (fun _ => 0))), (q8, .inl (cy 0, 8, .inl (fun _ => 0)))]) H _ := hJ
  clear hJ
  refine W.eq (g2 := F0 m 80 ls []) rfl ?_
  refine W.widen (k := 8) (n := 228) (Nat.le_of_ble_eq_true rfl) (Nat.le_of_ble_eq_true rfl) ?_
  refine lv_aload_n hx hb dX2_init_80 rfl (lv_at hl 0 rfl) ?_
  refine h_new (C := RX0) (T := TX0) (N := 12) (ci := 0) (fs := [.null, .int 0, .null, .null, .null, .null, .null, .null, .null, .null, .null, .null]) tyX0 tyX0_ok gin_X0 hC hI gw_1_96 gw_1_97 gw_1_7 rfl (by decide) (Nat.le_of_ble_eq_true rfl) (Nat.le_of_ble_eq_true rfl) dX2_init_81 (fun q9 H hJ => ?_)
  clear hI
  have hI : hI0 D A s.heap (w0 ++ [(h0, .inr (2, [.ref q1, .ref q2, .ref q3, .int 0, .ref q4, .ref q5, .ref q6, .int 0, .ref q7, .ref q8, .null, .int (-2), .int (-2)])), (q1, .inl (cy 0, 8, .inl (fun _ => 0))), (q2, .inl (cy 0, 8, .inl (fun _ => 0))), (q3, .inl (cy 1, 8, .inl (fun _ => 0))), (q4, .inl (cy 0, 28, .inl (fun _ => 0))), (q5, .inl (cy 0, 28, .inl (fun _ => 0))), (q6, .inl (cy 0, 28, .inl (fun _ => 0))), (q7, .inl (cy 0, 112, .inl (fun _ => 0))), (q8, .inl (cy 0, 8, .inl (fun _ => 0))), (q9, .inr (0, [.null, .int 0, .null, .null, .null, .null, .null, .null, .null, .null, .null, .null]))]) H _ := hJ
  clear hJ
  refine lv_dup hx hb dX2_init_84 rfl ?_
  replace hI := hI0.cast hI (List.append_assoc w0 [(h0, .inr (2, [.ref q1, .ref q2, .ref q3, .int 0, .ref q4, .ref q5, .ref q6, .int 0, .ref q7, .ref q8, .null, .int (-2), .int (-2)])), (q1, .inl (cy 0, 8, .inl (fun _ => 0))), (q2, .inl (cy 0, 8, .inl (fun _ => 0))), (q3, .inl (cy 1, 8, .inl (fun _ => 0))), (q4, .inl (cy 0, 28, .inl (fun _ => 0))), (q5, .inl (cy 0, 28, .inl (fun _ => 0))), (q6, .inl (cy 0, 28, .inl (fun _ => 0))), (q7, .inl (cy 0, 112, .inl (fun _ => 0))), (q8, .inl (cy 0, 8, .inl (fun _ => 0)))] [(q9, .inr (0, [.null, .int 0, .null, .null, .null, .null, .null, .null, .null, .null, .null, .null]))]).symm
  refine h_callN (host := "FestivalFields") (As := []) (rest := [.ref q9, .ref h0]) hC hml hI (i_X0_init l D cy A (w0 ++ [(h0, .inr (2, [.ref q1, .ref q2, .ref q3, .int 0, .ref q4, .ref q5, .ref q6, .int 0, .ref q7, .ref q8, .null, .int (-2), .int (-2)])), (q1, .inl (cy 0, 8, .inl (fun _ => 0))), (q2, .inl (cy 0, 8, .inl (fun _ => 0))), (q3, .inl (cy 1, 8, .inl (fun _ => 0))), (q4, .inl (cy 0, 28, .inl (fun _ => 0))), (q5, .inl (cy 0, 28, .inl (fun _ => 0))), (q6, .inl (cy 0, 28, .inl (fun _ => 0))), (q7, .inl (cy 0, 112, .inl (fun _ => 0))), (q8, .inl (cy 0, 8, .inl (fun _ => 0)))]) q9) k_X0_init (by decide) ⟨rfl, rfl⟩ ⟨Nat.le_of_ble_eq_true rfl, Nat.le_of_ble_eq_true rfl⟩ rfl hl.1 rfl (Nat.le_of_ble_eq_true rfl) dX2_init_85 ⟨Nat.le_of_ble_eq_true rfl, Nat.le_of_ble_eq_true rfl⟩ (fun u10 H locs _ hJ => ?_)
  clear hI
  have hI : hI0 D A s.heap (w0 ++ ((h0, .inr (2, [.ref q1, .ref q2, .ref q3, .int 0, .ref q4, .ref q5, .ref q6, .int 0, .ref q7, .ref q8, .null, .int (-2), .int (-2)])) :: (q1, .inl (cy 0, 8, .inl (fun _ => 0))) :: (q2, .inl (cy 0, 8, .inl (fun _ => 0))) :: (q3, .inl (cy 1, 8, .inl (fun _ => 0))) :: (q4, .inl (cy 0, 28, .inl (fun _ => 0))) :: (q5, .inl (cy 0, 28, .inl (fun _ => 0))) :: (q6, .inl (cy 0, 28, .inl (fun _ => 0))) :: (q7, .inl (cy 0, 112, .inl (fun _ => 0))) :: (q8, .inl (cy 0, 8, .inl (fun _ => 0))) :: (q9, .inr (0, [.null, .int 0, .ref (u10 0), .ref (u10 1), .ref (u10 2), .ref (u10 3), .ref (u10 4), .ref (u10 5), .ref (u10 6), .ref (u10 7), .ref (u10 8), .ref (u10 9)])) :: ((u10 0), .inl (cy 0, 1120, .inl (fun _ => 0))) :: ((u10 1), .inl (cy 0, 320, .inl (fun _ => 0))) :: ((u10 2), .inl (cy 0, 28, .inl (fun _ => 0))) :: ((u10 3), .inl (cy 0, 8, .inl (fun _ => 0))) :: ((u10 4), .inl (cy 0, 8, .inl (fun _ => 0))) :: ((u10 5), .inl (cy 0, 8, .inl (fun _ => 0))) :: ((u10 6), .inl (cy 1, 8, .inl (fun _ => 0))) :: ((u10 7), .inl (cy 0, 320, .inl (fun _ => 0))) :: ((u10 8), .inl (cy 0, 320, .inl (fun _ => 0))) :: ((u10 9), .inl (cy 0, 320, .inl (fun _ => 0))) :: [] : va_W)) H locs := hI0.cast hJ (List.append_assoc w0 [(h0, .inr (2, [.ref q1, .ref q2, .ref q3, .int 0, .ref q4, .ref q5, .ref q6, .int 0, .ref q7, .ref q8, .null, .int (-2), .int (-2)])), (q1, .inl (cy 0, 8, .inl (fun _ => 0))), (q2, .inl (cy 0, 8, .inl (fun _ => 0))), (q3, .inl (cy 1, 8, .inl (fun _ => 0))), (q4, .inl (cy 0, 28, .inl (fun _ => 0))), (q5, .inl (cy 0, 28, .inl (fun _ => 0))), (q6, .inl (cy 0, 28, .inl (fun _ => 0))), (q7, .inl (cy 0, 112, .inl (fun _ => 0))), (q8, .inl (cy 0, 8, .inl (fun _ => 0)))] _)
  clear hJ
  refine h_putF (C := RX2) (T := TX2) (N := 13) (ty0 := tyX2) (v := .ref q9) tyX2_ok nmX2 gin_X2 hC hI 0 rfl rfl 10 (by decide) gw_1_161 rfl hin rfl rfl rfl (Nat.le_of_ble_eq_true rfl) dX2_init_88 (fun H locs hJ => ?_)
  clear hI
  have hI : hI0 D A s.heap (w0 ++ ((h0, .inr (2, [.ref q1, .ref q2, .ref q3, .int 0, .ref q4, .ref q5, .ref q6, .int 0, .ref q7, .ref q8, .ref q9, .int (-2), .int (-2)])) :: (q1, .inl (cy 0, 8, .inl (fun _ => 0))) :: (q2, .inl (cy 0, 8, .inl (fun _ => 0))) :: (q3, .inl (cy 1, 8, .inl (fun _ => 0))) :: (q4, .inl (cy 0, 28, .inl (fun _ => 0))) :: (q5, .inl (cy 0, 28, .inl (fun _ => 0))) :: (q6, .inl (cy 0, 28, .inl (fun _ => 0))) :: (q7, .inl (cy 0, 112, .inl (fun _ => 0))) :: (q8, .inl (cy 0, 8, .inl (fun _ => 0))) :: (q9, .inr (0, [.null, .int 0, .ref (u10 0), .ref (u10 1), .ref (u10 2), .ref (u10 3), .ref (u10 4), .ref (u10 5), .ref (u10 6), .ref (u10 7), .ref (u10 8), .ref (u10 9)])) :: ((u10 0), .inl (cy 0, 1120, .inl (fun _ => 0))) :: ((u10 1), .inl (cy 0, 320, .inl (fun _ => 0))) :: ((u10 2), .inl (cy 0, 28, .inl (fun _ => 0))) :: ((u10 3), .inl (cy 0, 8, .inl (fun _ => 0))) :: ((u10 4), .inl (cy 0, 8, .inl (fun _ => 0))) :: ((u10 5), .inl (cy 0, 8, .inl (fun _ => 0))) :: ((u10 6), .inl (cy 1, 8, .inl (fun _ => 0))) :: ((u10 7), .inl (cy 0, 320, .inl (fun _ => 0))) :: ((u10 8), .inl (cy 0, 320, .inl (fun _ => 0))) :: ((u10 9), .inl (cy 0, 320, .inl (fun _ => 0))) :: [] : va_W)) H _ := hJ
  clear hJ
  refine W.eq (g2 := F0 m 91 ls []) rfl ?_
  refine W.widen (k := 19) (n := 2700) (Nat.le_of_ble_eq_true rfl) (Nat.le_of_ble_eq_true rfl) ?_
  exact h_vret (u := fun k => [q1, q2, q3, q4, q5, q6, q7, q8, q9, (u10 0), (u10 1), (u10 2), (u10 3), (u10 4), (u10 5), (u10 6), (u10 7), (u10 8), (u10 9)].getD k 0) (F := fun u => w0 ++ cc_X2_init cy h0 u) hC hr hlocks hI rfl trivial (Nat.le_of_ble_eq_true rfl) (Nat.le_of_ble_eq_true rfl) dX2_init_91

theorem dX4_init_0 : decode cX4_init 0 = .ok (.aload_n 0, 1) := by decide +kernel
theorem dX4_init_1 : decode cX4_init 1 = .ok (.invokespecial 3, 3) := by decide +kernel
theorem dX4_init_4 : decode cX4_init 4 = .ok (.aload_n 0, 1) := by decide +kernel
theorem dX4_init_5 : decode cX4_init 5 = .ok (.bipush 6, 2) := by decide +kernel
theorem dX4_init_7 : decode cX4_init 7 = .ok (.newarray .int, 2) := by decide +kernel
theorem dX4_init_9 : decode cX4_init 9 = .ok (.putfield 11, 3) := by decide +kernel
theorem dX4_init_12 : decode cX4_init 12 = .ok (.aload_n 0, 1) := by decide +kernel
theorem dX4_init_13 : decode cX4_init 13 = .ok (.bipush 6, 2) := by decide +kernel
theorem dX4_init_15 : decode cX4_init 15 = .ok (.newarray .int, 2) := by decide +kernel
theorem dX4_init_17 : decode cX4_init 17 = .ok (.putfield 15, 3) := by decide +kernel
theorem dX4_init_20 : decode cX4_init 20 = .ok (.aload_n 0, 1) := by decide +kernel
theorem dX4_init_21 : decode cX4_init 21 = .ok (.bipush 6, 2) := by decide +kernel
theorem dX4_init_23 : decode cX4_init 23 = .ok (.newarray .int, 2) := by decide +kernel
theorem dX4_init_25 : decode cX4_init 25 = .ok (.putfield 18, 3) := by decide +kernel
theorem dX4_init_28 : decode cX4_init 28 = .ok (.aload_n 0, 1) := by decide +kernel
theorem dX4_init_29 : decode cX4_init 29 = .ok (.bipush 6, 2) := by decide +kernel
theorem dX4_init_31 : decode cX4_init 31 = .ok (.newarray .int, 2) := by decide +kernel
theorem dX4_init_33 : decode cX4_init 33 = .ok (.putfield 21, 3) := by decide +kernel
theorem dX4_init_36 : decode cX4_init 36 = .ok (.aload_n 0, 1) := by decide +kernel
theorem dX4_init_37 : decode cX4_init 37 = .ok (.bipush 6, 2) := by decide +kernel
theorem dX4_init_39 : decode cX4_init 39 = .ok (.newarray .int, 2) := by decide +kernel
theorem dX4_init_41 : decode cX4_init 41 = .ok (.putfield 24, 3) := by decide +kernel
theorem dX4_init_44 : decode cX4_init 44 = .ok (.aload_n 0, 1) := by decide +kernel
theorem dX4_init_45 : decode cX4_init 45 = .ok (.bipush 6, 2) := by decide +kernel
theorem dX4_init_47 : decode cX4_init 47 = .ok (.newarray .int, 2) := by decide +kernel
theorem dX4_init_49 : decode cX4_init 49 = .ok (.putfield 27, 3) := by decide +kernel
theorem dX4_init_52 : decode cX4_init 52 = .ok (.return_, 1) := by decide +kernel
abbrev cc_X4_init (cy : Nat → ClassId) (h0 : Nat) (u : Nat → Nat) : va_W := [(h0, .inr (4, [.ref (u 0), .ref (u 1), .ref (u 2), .ref (u 3), .int 0, .ref (u 4), .ref (u 5), .int 0, .int 0, .int 0])), ((u 0), .inl (cy 0, 6, .inl (fun _ => 0))), ((u 1), .inl (cy 0, 6, .inl (fun _ => 0))), ((u 2), .inl (cy 0, 6, .inl (fun _ => 0))), ((u 3), .inl (cy 0, 6, .inl (fun _ => 0))), ((u 4), .inl (cy 0, 6, .inl (fun _ => 0))), ((u 5), .inl (cy 0, 6, .inl (fun _ => 0)))]
abbrev ws_X4_init : List Cond := Cond.code yX4_init cX4_init 1 none :: gG
abbrev rm_X4_init : Room := { frames := 1, cells := 6, slots := 36, locals := 20 }
theorem k_X4_init : gCI yX4_init cX4_init 1 0 := ⟨gw_1_194, gw_1_8, gw_1_195, rfl, by decide +kernel⟩
set_option maxHeartbeats 4000000 in
set_option maxRecDepth 100000 in
theorem i_X4_init (l : Launch) (D : va_G) (cy : Nat → ClassId) (A : Nat → Prop) (w0 : va_W) (h0 : Nat) : Met l yX4_init ws_X4_init rm_X4_init (va_Pc [.ref h0] (hB0 D cy A (w0 ++ [(h0, .inr (4, [.null, .null, .null, .null, .int 0, .null, .null, .int 0, .int 0, .int 0]))]))) (va_Qv (fun _ : Nat → Nat => True) (fun u t => hB0 D cy A (w0 ++ cc_X4_init cy h0 u) t) A) 6 36 A := by
  refine Met.ofW (cc := cX4_init) (maxL := 1) (ret := none) (by decide) rfl ?_
  intro p e s m args below meth c s₁ B hml hv
  obtain ⟨rfl, hB⟩ := hv
  have hC : hC0 p c cX4_init s m ([.ref h0] : List Value).toArray RX4 D cy A := h_start B hB
  have hI : hI0 D A s.heap (w0 ++ [(h0, .inr (4, [.null, .null, .null, .null, .int 0, .null, .null, .int 0, .int 0, .int 0]))]) s.heap [] := ⟨hB.1, hB.2.2.1, va_S.rf⟩
  have hx := hC.1
  have hb := hC.2.1
  have hr := B.returns
  have hlocks := B.notSynchronized
  have hin : meth.name = "<init>" := (name_of_methodNamed B.named B.method).1
  clear B hB
  have hl := lv_entry ([.ref h0]) (n := 1) (Nat.le_of_ble_eq_true rfl)
  rw [lg_entry_eq]
  generalize (lg_sl ([.ref h0]) ++ List.replicate (1 - (lg_sl ([.ref h0])).length) Slot.unset).toArray = ls at hl ⊢
  have hl : lv_has ls 1 [(0, .ref h0)] := hl
  refine lv_aload_n hx hb dX4_init_0 rfl (lv_at hl 0 rfl) ?_
  refine h_obj hC (by rw [hml]; exact hl.1.symm) gw_1_196 gw_1_30 gw_1_31 dX4_init_1 (Nat.le_of_ble_eq_true rfl) (Nat.le_of_ble_eq_true rfl) ?_
  refine lv_aload_n hx hb dX4_init_4 rfl (lv_at hl 0 rfl) ?_
  refine lv_bipush (v := 6) hx hb dX4_init_5 (by decide) ?_
  refine h_arr (k := 0) (N := 6) (a0 := (6, .inl (fun _ => 0))) hC hI gw_1_47 rfl rfl rfl (fun _ => rfl) (by decide) (by decide) (by decide) (Nat.le_of_ble_eq_true rfl) (Nat.le_of_ble_eq_true rfl) dX4_init_7 (fun q1 H hJ => ?_)
  clear hI
  have hI : hI0 D A s.heap (w0 ++ [(h0, .inr (4, [.null, .null, .null, .null, .int 0, .null, .null, .int 0, .int 0, .int 0])), (q1, .inl (cy 0, 6, .inl (fun _ => 0)))]) H _ := hJ
  clear hJ
  refine h_putF (C := RX4) (T := TX4) (N := 10) (ty0 := tyX4) (v := .ref q1) tyX4_ok nmX4 gin_X4 hC hI 0 rfl rfl 0 (by decide) gw_1_197 rfl hin rfl rfl rfl (Nat.le_of_ble_eq_true rfl) dX4_init_9 (fun H locs hJ => ?_)
  clear hI
  have hI : hI0 D A s.heap (w0 ++ [(h0, .inr (4, [.ref q1, .null, .null, .null, .int 0, .null, .null, .int 0, .int 0, .int 0])), (q1, .inl (cy 0, 6, .inl (fun _ => 0)))]) H _ := hJ
  clear hJ
  refine W.eq (g2 := F0 m 12 ls []) rfl ?_
  refine W.widen (k := 1) (n := 6) (Nat.le_of_ble_eq_true rfl) (Nat.le_of_ble_eq_true rfl) ?_
  refine lv_aload_n hx hb dX4_init_12 rfl (lv_at hl 0 rfl) ?_
  refine lv_bipush (v := 6) hx hb dX4_init_13 (by decide) ?_
  refine h_arr (k := 0) (N := 6) (a0 := (6, .inl (fun _ => 0))) hC hI gw_1_47 rfl rfl rfl (fun _ => rfl) (by decide) (by decide) (by decide) (Nat.le_of_ble_eq_true rfl) (Nat.le_of_ble_eq_true rfl) dX4_init_15 (fun q2 H hJ => ?_)
  clear hI
  have hI : hI0 D A s.heap (w0 ++ [(h0, .inr (4, [.ref q1, .null, .null, .null, .int 0, .null, .null, .int 0, .int 0, .int 0])), (q1, .inl (cy 0, 6, .inl (fun _ => 0))), (q2, .inl (cy 0, 6, .inl (fun _ => 0)))]) H _ := hJ
  clear hJ
  refine h_putF (C := RX4) (T := TX4) (N := 10) (ty0 := tyX4) (v := .ref q2) tyX4_ok nmX4 gin_X4 hC hI 0 rfl rfl 1 (by decide) gw_1_198 rfl hin rfl rfl rfl (Nat.le_of_ble_eq_true rfl) dX4_init_17 (fun H locs hJ => ?_)
  clear hI
  have hI : hI0 D A s.heap (w0 ++ [(h0, .inr (4, [.ref q1, .ref q2, .null, .null, .int 0, .null, .null, .int 0, .int 0, .int 0])), (q1, .inl (cy 0, 6, .inl (fun _ => 0))), (q2, .inl (cy 0, 6, .inl (fun _ => 0)))]) H _ := hJ
  clear hJ
  refine W.eq (g2 := F0 m 20 ls []) rfl ?_
  refine W.widen (k := 2) (n := 12) (Nat.le_of_ble_eq_true rfl) (Nat.le_of_ble_eq_true rfl) ?_
  refine lv_aload_n hx hb dX4_init_20 rfl (lv_at hl 0 rfl) ?_
  refine lv_bipush (v := 6) hx hb dX4_init_21 (by decide) ?_
  refine h_arr (k := 0) (N := 6) (a0 := (6, .inl (fun _ => 0))) hC hI gw_1_47 rfl rfl rfl (fun _ => rfl) (by decide) (by decide) (by decide) (Nat.le_of_ble_eq_true rfl) (Nat.le_of_ble_eq_true rfl) dX4_init_23 (fun q3 H hJ => ?_)
  clear hI
  have hI : hI0 D A s.heap (w0 ++ [(h0, .inr (4, [.ref q1, .ref q2, .null, .null, .int 0, .null, .null, .int 0, .int 0, .int 0])), (q1, .inl (cy 0, 6, .inl (fun _ => 0))), (q2, .inl (cy 0, 6, .inl (fun _ => 0))), (q3, .inl (cy 0, 6, .inl (fun _ => 0)))]) H _ := hJ
  clear hJ
  refine h_putF (C := RX4) (T := TX4) (N := 10) (ty0 := tyX4) (v := .ref q3) tyX4_ok nmX4 gin_X4 hC hI 0 rfl rfl 2 (by decide) gw_1_199 rfl hin rfl rfl rfl (Nat.le_of_ble_eq_true rfl) dX4_init_25 (fun H locs hJ => ?_)
  clear hI
  have hI : hI0 D A s.heap (w0 ++ [(h0, .inr (4, [.ref q1, .ref q2, .ref q3, .null, .int 0, .null, .null, .int 0, .int 0, .int 0])), (q1, .inl (cy 0, 6, .inl (fun _ => 0))), (q2, .inl (cy 0, 6, .inl (fun _ => 0))), (q3, .inl (cy 0, 6, .inl (fun _ => 0)))]) H _ := hJ
  clear hJ
  refine W.eq (g2 := F0 m 28 ls []) rfl ?_
  refine W.widen (k := 3) (n := 18) (Nat.le_of_ble_eq_true rfl) (Nat.le_of_ble_eq_true rfl) ?_
  refine lv_aload_n hx hb dX4_init_28 rfl (lv_at hl 0 rfl) ?_
  refine lv_bipush (v := 6) hx hb dX4_init_29 (by decide) ?_
  refine h_arr (k := 0) (N := 6) (a0 := (6, .inl (fun _ => 0))) hC hI gw_1_47 rfl rfl rfl (fun _ => rfl) (by decide) (by decide) (by decide) (Nat.le_of_ble_eq_true rfl) (Nat.le_of_ble_eq_true rfl) dX4_init_31 (fun q4 H hJ => ?_)
  clear hI
  have hI : hI0 D A s.heap (w0 ++ [(h0, .inr (4, [.ref q1, .ref q2, .ref q3, .null, .int 0, .null, .null, .int 0, .int 0, .int 0])), (q1, .inl (cy 0, 6, .inl (fun _ => 0))), (q2, .inl (cy 0, 6, .inl (fun _ => 0))), (q3, .inl (cy 0, 6, .inl (fun _ => 0))), (q4, .inl (cy 0, 6, .inl (fun _ => 0)))]) H _ := hJ
  clear hJ
  refine h_putF (C := RX4) (T := TX4) (N := 10) (ty0 := tyX4) (v := .ref q4) tyX4_ok nmX4 gin_X4 hC hI 0 rfl rfl 3 (by decide) gw_1_200 rfl hin rfl rfl rfl (Nat.le_of_ble_eq_true rfl) dX4_init_33 (fun H locs hJ => ?_)
  clear hI
  have hI : hI0 D A s.heap (w0 ++ [(h0, .inr (4, [.ref q1, .ref q2, .ref q3, .ref q4, .int 0, .null, .null, .int 0, .int 0, .int 0])), (q1, .inl (cy 0, 6, .inl (fun _ => 0))), (q2, .inl (cy 0, 6, .inl (fun _ => 0))), (q3, .inl (cy 0, 6, .inl (fun _ => 0))), (q4, .inl (cy 0, 6, .inl (fun _ => 0)))]) H _ := hJ
  clear hJ
  refine W.eq (g2 := F0 m 36 ls []) rfl ?_
  refine W.widen (k := 4) (n := 24) (Nat.le_of_ble_eq_true rfl) (Nat.le_of_ble_eq_true rfl) ?_
  refine lv_aload_n hx hb dX4_init_36 rfl (lv_at hl 0 rfl) ?_
  refine lv_bipush (v := 6) hx hb dX4_init_37 (by decide) ?_
  refine h_arr (k := 0) (N := 6) (a0 := (6, .inl (fun _ => 0))) hC hI gw_1_47 rfl rfl rfl (fun _ => rfl) (by decide) (by decide) (by decide) (Nat.le_of_ble_eq_true rfl) (Nat.le_of_ble_eq_true rfl) dX4_init_39 (fun q5 H hJ => ?_)
  clear hI
  have hI : hI0 D A s.heap (w0 ++ [(h0, .inr (4, [.ref q1, .ref q2, .ref q3, .ref q4, .int 0, .null, .null, .int 0, .int 0, .int 0])), (q1, .inl (cy 0, 6, .inl (fun _ => 0))), (q2, .inl (cy 0, 6, .inl (fun _ => 0))), (q3, .inl (cy 0, 6, .inl (fun _ => 0))), (q4, .inl (cy 0, 6, .inl (fun _ => 0))), (q5, .inl (cy 0, 6, .inl (fun _ => 0)))]) H _ := hJ
  clear hJ
  refine h_putF (C := RX4) (T := TX4) (N := 10) (ty0 := tyX4) (v := .ref q5) tyX4_ok nmX4 gin_X4 hC hI 0 rfl rfl 5 (by decide) gw_1_203 rfl hin rfl rfl rfl (Nat.le_of_ble_eq_true rfl) dX4_init_41 (fun H locs hJ => ?_)
  clear hI
  have hI : hI0 D A s.heap (w0 ++ [(h0, .inr (4, [.ref q1, .ref q2, .ref q3, .ref q4, .int 0, .ref q5, .null, .int 0, .int 0, .int 0])), (q1, .inl (cy 0, 6, .inl (fun _ => 0))), (q2, .inl (cy 0, 6, .inl (fun _ => 0))), (q3, .inl (cy 0, 6, .inl (fun _ => 0))), (q4, .inl (cy 0, 6, .inl (fun _ => 0))), (q5, .inl (cy 0, 6, .inl (fun _ => 0)))]) H _ := hJ
  clear hJ
  refine W.eq (g2 := F0 m 44 ls []) rfl ?_
  refine W.widen (k := 5) (n := 30) (Nat.le_of_ble_eq_true rfl) (Nat.le_of_ble_eq_true rfl) ?_
  refine lv_aload_n hx hb dX4_init_44 rfl (lv_at hl 0 rfl) ?_
  refine lv_bipush (v := 6) hx hb dX4_init_45 (by decide) ?_
  refine h_arr (k := 0) (N := 6) (a0 := (6, .inl (fun _ => 0))) hC hI gw_1_47 rfl rfl rfl (fun _ => rfl) (by decide) (by decide) (by decide) (Nat.le_of_ble_eq_true rfl) (Nat.le_of_ble_eq_true rfl) dX4_init_47 (fun q6 H hJ => ?_)
  clear hI
  have hI : hI0 D A s.heap (w0 ++ [(h0, .inr (4, [.ref q1, .ref q2, .ref q3, .ref q4, .int 0, .ref q5, .null, .int 0, .int 0, .int 0])), (q1, .inl (cy 0, 6, .inl (fun _ => 0))), (q2, .inl (cy 0, 6, .inl (fun _ => 0))), (q3, .inl (cy 0, 6, .inl (fun _ => 0))), (q4, .inl (cy 0, 6, .inl (fun _ => 0))), (q5, .inl (cy 0, 6, .inl (fun _ => 0))), (q6, .inl (cy 0, 6, .inl (fun _ => 0)))]) H _ := hJ
  clear hJ
  refine h_putF (C := RX4) (T := TX4) (N := 10) (ty0 := tyX4) (v := .ref q6) tyX4_ok nmX4 gin_X4 hC hI 0 rfl rfl 6 (by decide) gw_1_204 rfl hin rfl rfl rfl (Nat.le_of_ble_eq_true rfl) dX4_init_49 (fun H locs hJ => ?_)
  clear hI
  have hI : hI0 D A s.heap (w0 ++ [(h0, .inr (4, [.ref q1, .ref q2, .ref q3, .ref q4, .int 0, .ref q5, .ref q6, .int 0, .int 0, .int 0])), (q1, .inl (cy 0, 6, .inl (fun _ => 0))), (q2, .inl (cy 0, 6, .inl (fun _ => 0))), (q3, .inl (cy 0, 6, .inl (fun _ => 0))), (q4, .inl (cy 0, 6, .inl (fun _ => 0))), (q5, .inl (cy 0, 6, .inl (fun _ => 0))), (q6, .inl (cy 0, 6, .inl (fun _ => 0)))]) H _ := hJ
  clear hJ
  refine W.eq (g2 := F0 m 52 ls []) rfl ?_
  refine W.widen (k := 6) (n := 36) (Nat.le_of_ble_eq_true rfl) (Nat.le_of_ble_eq_true rfl) ?_
  exact h_vret (u := fun k => [q1, q2, q3, q4, q5, q6].getD k 0) (F := fun u => w0 ++ cc_X4_init cy h0 u) hC hr hlocks hI rfl trivial (Nat.le_of_ble_eq_true rfl) (Nat.le_of_ble_eq_true rfl) dX4_init_52

theorem dX1_init_0 : decode cX1_init 0 = .ok (.aload_n 0, 1) := by decide +kernel
theorem dX1_init_1 : decode cX1_init 1 = .ok (.invokespecial 3, 3) := by decide +kernel
theorem dX1_init_4 : decode cX1_init 4 = .ok (.aload_n 0, 1) := by decide +kernel
theorem dX1_init_5 : decode cX1_init 5 = .ok (.sipush 200, 3) := by decide +kernel
theorem dX1_init_8 : decode cX1_init 8 = .ok (.newarray .int, 2) := by decide +kernel
theorem dX1_init_10 : decode cX1_init 10 = .ok (.putfield 11, 3) := by decide +kernel
theorem dX1_init_13 : decode cX1_init 13 = .ok (.aload_n 0, 1) := by decide +kernel
theorem dX1_init_14 : decode cX1_init 14 = .ok (.sipush 200, 3) := by decide +kernel
theorem dX1_init_17 : decode cX1_init 17 = .ok (.newarray .boolean, 2) := by decide +kernel
theorem dX1_init_19 : decode cX1_init 19 = .ok (.putfield 15, 3) := by decide +kernel
theorem dX1_init_22 : decode cX1_init 22 = .ok (.aload_n 0, 1) := by decide +kernel
theorem dX1_init_23 : decode cX1_init 23 = .ok (.sipush 200, 3) := by decide +kernel
theorem dX1_init_26 : decode cX1_init 26 = .ok (.newarray .int, 2) := by decide +kernel
theorem dX1_init_28 : decode cX1_init 28 = .ok (.putfield 19, 3) := by decide +kernel
theorem dX1_init_31 : decode cX1_init 31 = .ok (.aload_n 0, 1) := by decide +kernel
theorem dX1_init_32 : decode cX1_init 32 = .ok (.sipush 200, 3) := by decide +kernel
theorem dX1_init_35 : decode cX1_init 35 = .ok (.newarray .int, 2) := by decide +kernel
theorem dX1_init_37 : decode cX1_init 37 = .ok (.putfield 22, 3) := by decide +kernel
theorem dX1_init_40 : decode cX1_init 40 = .ok (.aload_n 0, 1) := by decide +kernel
theorem dX1_init_41 : decode cX1_init 41 = .ok (.sipush 200, 3) := by decide +kernel
theorem dX1_init_44 : decode cX1_init 44 = .ok (.newarray .int, 2) := by decide +kernel
theorem dX1_init_46 : decode cX1_init 46 = .ok (.putfield 25, 3) := by decide +kernel
theorem dX1_init_49 : decode cX1_init 49 = .ok (.return_, 1) := by decide +kernel
abbrev cc_X1_init (cy : Nat → ClassId) (h0 : Nat) (u : Nat → Nat) : va_W := [(h0, .inr (1, [.ref (u 0), .ref (u 1), .ref (u 2), .ref (u 3), .ref (u 4), .int 0])), ((u 0), .inl (cy 0, 200, .inl (fun _ => 0))), ((u 1), .inl (cy 1, 200, .inl (fun _ => 0))), ((u 2), .inl (cy 0, 200, .inl (fun _ => 0))), ((u 3), .inl (cy 0, 200, .inl (fun _ => 0))), ((u 4), .inl (cy 0, 200, .inl (fun _ => 0)))]
abbrev ws_X1_init : List Cond := Cond.code yX1_init cX1_init 1 none :: gG
abbrev rm_X1_init : Room := { frames := 1, cells := 5, slots := 1000, locals := 20 }
theorem k_X1_init : gCI yX1_init cX1_init 1 0 := ⟨gw_1_234, gw_1_9, gw_1_235, rfl, by decide +kernel⟩
set_option maxHeartbeats 4000000 in
set_option maxRecDepth 100000 in
theorem i_X1_init (l : Launch) (D : va_G) (cy : Nat → ClassId) (A : Nat → Prop) (w0 : va_W) (h0 : Nat) : Met l yX1_init ws_X1_init rm_X1_init (va_Pc [.ref h0] (hB0 D cy A (w0 ++ [(h0, .inr (1, [.null, .null, .null, .null, .null, .int 0]))]))) (va_Qv (fun _ : Nat → Nat => True) (fun u t => hB0 D cy A (w0 ++ cc_X1_init cy h0 u) t) A) 5 1000 A := by
  refine Met.ofW (cc := cX1_init) (maxL := 1) (ret := none) (by decide) rfl ?_
  intro p e s m args below meth c s₁ B hml hv
  obtain ⟨rfl, hB⟩ := hv
  have hC : hC0 p c cX1_init s m ([.ref h0] : List Value).toArray RX1 D cy A := h_start B hB
  have hI : hI0 D A s.heap (w0 ++ [(h0, .inr (1, [.null, .null, .null, .null, .null, .int 0]))]) s.heap [] := ⟨hB.1, hB.2.2.1, va_S.rf⟩
  have hx := hC.1
  have hb := hC.2.1
  have hr := B.returns
  have hlocks := B.notSynchronized
  have hin : meth.name = "<init>" := (name_of_methodNamed B.named B.method).1
  clear B hB
  have hl := lv_entry ([.ref h0]) (n := 1) (Nat.le_of_ble_eq_true rfl)
  rw [lg_entry_eq]
  generalize (lg_sl ([.ref h0]) ++ List.replicate (1 - (lg_sl ([.ref h0])).length) Slot.unset).toArray = ls at hl ⊢
  have hl : lv_has ls 1 [(0, .ref h0)] := hl
  refine lv_aload_n hx hb dX1_init_0 rfl (lv_at hl 0 rfl) ?_
  refine h_obj hC (by rw [hml]; exact hl.1.symm) gw_1_236 gw_1_30 gw_1_31 dX1_init_1 (Nat.le_of_ble_eq_true rfl) (Nat.le_of_ble_eq_true rfl) ?_
  refine lv_aload_n hx hb dX1_init_4 rfl (lv_at hl 0 rfl) ?_
  refine lv_sipush (v := 200) hx hb dX1_init_5 (by decide) ?_
  refine h_arr (k := 0) (N := 200) (a0 := (200, .inl (fun _ => 0))) hC hI gw_1_47 rfl rfl rfl (fun _ => rfl) (by decide) (by decide) (by decide) (Nat.le_of_ble_eq_true rfl) (Nat.le_of_ble_eq_true rfl) dX1_init_8 (fun q1 H hJ => ?_)
  clear hI
  have hI : hI0 D A s.heap (w0 ++ [(h0, .inr (1, [.null, .null, .null, .null, .null, .int 0])), (q1, .inl (cy 0, 200, .inl (fun _ => 0)))]) H _ := hJ
  clear hJ
  refine h_putF (C := RX1) (T := TX1) (N := 6) (ty0 := tyX1) (v := .ref q1) tyX1_ok nmX1 gin_X1 hC hI 0 rfl rfl 0 (by decide) gw_1_237 rfl hin rfl rfl rfl (Nat.le_of_ble_eq_true rfl) dX1_init_10 (fun H locs hJ => ?_)
  clear hI
  have hI : hI0 D A s.heap (w0 ++ [(h0, .inr (1, [.ref q1, .null, .null, .null, .null, .int 0])), (q1, .inl (cy 0, 200, .inl (fun _ => 0)))]) H _ := hJ
  clear hJ
  refine W.eq (g2 := F0 m 13 ls []) rfl ?_
  refine W.widen (k := 1) (n := 200) (Nat.le_of_ble_eq_true rfl) (Nat.le_of_ble_eq_true rfl) ?_
  refine lv_aload_n hx hb dX1_init_13 rfl (lv_at hl 0 rfl) ?_
  refine lv_sipush (v := 200) hx hb dX1_init_14 (by decide) ?_
  refine h_arr (k := 1) (N := 200) (a0 := (200, .inl (fun _ => 0))) hC hI gw_1_139 rfl rfl rfl (fun _ => rfl) (by decide) (by decide) (by decide) (Nat.le_of_ble_eq_true rfl) (Nat.le_of_ble_eq_true rfl) dX1_init_17 (fun q2 H hJ => ?_)
  clear hI
  have hI : hI0 D A s.heap (w0 ++ [(h0, .inr (1, [.ref q1, .null, .null, .null, .null, .int 0])), (q1, .inl (cy 0, 200, .inl (fun _ => 0))), (q2, .inl (cy 1, 200, .inl (fun _ => 0)))]) H _ := hJ
  clear hJ
  refine h_putF (C := RX1) (T := TX1) (N := 6) (ty0 := tyX1) (v := .ref q2) tyX1_ok nmX1 gin_X1 hC hI 0 rfl rfl 1 (by decide) gw_1_238 rfl hin rfl rfl rfl (Nat.le_of_ble_eq_true rfl) dX1_init_19 (fun H locs hJ => ?_)
  clear hI
  have hI : hI0 D A s.heap (w0 ++ [(h0, .inr (1, [.ref q1, .ref q2, .null, .null, .null, .int 0])), (q1, .inl (cy 0, 200, .inl (fun _ => 0))), (q2, .inl (cy 1, 200, .inl (fun _ => 0)))]) H _ := hJ
  clear hJ
  refine W.eq (g2 := F0 m 22 ls []) rfl ?_
  refine W.widen (k := 2) (n := 400) (Nat.le_of_ble_eq_true rfl) (Nat.le_of_ble_eq_true rfl) ?_
  refine lv_aload_n hx hb dX1_init_22 rfl (lv_at hl 0 rfl) ?_
  refine lv_sipush (v := 200) hx hb dX1_init_23 (by decide) ?_
  refine h_arr (k := 0) (N := 200) (a0 := (200, .inl (fun _ => 0))) hC hI gw_1_47 rfl rfl rfl (fun _ => rfl) (by decide) (by decide) (by decide) (Nat.le_of_ble_eq_true rfl) (Nat.le_of_ble_eq_true rfl) dX1_init_26 (fun q3 H hJ => ?_)
  clear hI
  have hI : hI0 D A s.heap (w0 ++ [(h0, .inr (1, [.ref q1, .ref q2, .null, .null, .null, .int 0])), (q1, .inl (cy 0, 200, .inl (fun _ => 0))), (q2, .inl (cy 1, 200, .inl (fun _ => 0))), (q3, .inl (cy 0, 200, .inl (fun _ => 0)))]) H _ := hJ
  clear hJ
  refine h_putF (C := RX1) (T := TX1) (N := 6) (ty0 := tyX1) (v := .ref q3) tyX1_ok nmX1 gin_X1 hC hI 0 rfl rfl 2 (by decide) gw_1_239 rfl hin rfl rfl rfl (Nat.le_of_ble_eq_true rfl) dX1_init_28 (fun H locs hJ => ?_)
  clear hI
  have hI : hI0 D A s.heap (w0 ++ [(h0, .inr (1, [.ref q1, .ref q2, .ref q3, .null, .null, .int 0])), (q1, .inl (cy 0, 200, .inl (fun _ => 0))), (q2, .inl (cy 1, 200, .inl (fun _ => 0))), (q3, .inl (cy 0, 200, .inl (fun _ => 0)))]) H _ := hJ
  clear hJ
  refine W.eq (g2 := F0 m 31 ls []) rfl ?_
  refine W.widen (k := 3) (n := 600) (Nat.le_of_ble_eq_true rfl) (Nat.le_of_ble_eq_true rfl) ?_
  refine lv_aload_n hx hb dX1_init_31 rfl (lv_at hl 0 rfl) ?_
  refine lv_sipush (v := 200) hx hb dX1_init_32 (by decide) ?_
  refine h_arr (k := 0) (N := 200) (a0 := (200, .inl (fun _ => 0))) hC hI gw_1_47 rfl rfl rfl (fun _ => rfl) (by decide) (by decide) (by decide) (Nat.le_of_ble_eq_true rfl) (Nat.le_of_ble_eq_true rfl) dX1_init_35 (fun q4 H hJ => ?_)
  clear hI
  have hI : hI0 D A s.heap (w0 ++ [(h0, .inr (1, [.ref q1, .ref q2, .ref q3, .null, .null, .int 0])), (q1, .inl (cy 0, 200, .inl (fun _ => 0))), (q2, .inl (cy 1, 200, .inl (fun _ => 0))), (q3, .inl (cy 0, 200, .inl (fun _ => 0))), (q4, .inl (cy 0, 200, .inl (fun _ => 0)))]) H _ := hJ
  clear hJ
  refine h_putF (C := RX1) (T := TX1) (N := 6) (ty0 := tyX1) (v := .ref q4) tyX1_ok nmX1 gin_X1 hC hI 0 rfl rfl 3 (by decide) gw_2_0 rfl hin rfl rfl rfl (Nat.le_of_ble_eq_true rfl) dX1_init_37 (fun H locs hJ => ?_)
  clear hI
  have hI : hI0 D A s.heap (w0 ++ [(h0, .inr (1, [.ref q1, .ref q2, .ref q3, .ref q4, .null, .int 0])), (q1, .inl (cy 0, 200, .inl (fun _ => 0))), (q2, .inl (cy 1, 200, .inl (fun _ => 0))), (q3, .inl (cy 0, 200, .inl (fun _ => 0))), (q4, .inl (cy 0, 200, .inl (fun _ => 0)))]) H _ := hJ
  clear hJ
  refine W.eq (g2 := F0 m 40 ls []) rfl ?_
  refine W.widen (k := 4) (n := 800) (Nat.le_of_ble_eq_true rfl) (Nat.le_of_ble_eq_true rfl) ?_
  refine lv_aload_n hx hb dX1_init_40 rfl (lv_at hl 0 rfl) ?_
  refine lv_sipush (v := 200) hx hb dX1_init_41 (by decide) ?_
  refine h_arr (k := 0) (N := 200) (a0 := (200, .inl (fun _ => 0))) hC hI gw_1_47 rfl rfl rfl (fun _ => rfl) (by decide) (by decide) (by decide) (Nat.le_of_ble_eq_true rfl) (Nat.le_of_ble_eq_true rfl) dX1_init_44 (fun q5 H hJ => ?_)
  clear hI
  have hI : hI0 D A s.heap (w0 ++ [(h0, .inr (1, [.ref q1, .ref q2, .ref q3, .ref q4, .null, .int 0])), (q1, .inl (cy 0, 200, .inl (fun _ => 0))), (q2, .inl (cy 1, 200, .inl (fun _ => 0))), (q3, .inl (cy 0, 200, .inl (fun _ => 0))), (q4, .inl (cy 0, 200, .inl (fun _ => 0))), (q5, .inl (cy 0, 200, .inl (fun _ => 0)))]) H _ := hJ
  clear hJ
  refine h_putF (C := RX1) (T := TX1) (N := 6) (ty0 := tyX1) (v := .ref q5) tyX1_ok nmX1 gin_X1 hC hI 0 rfl rfl 4 (by decide) gw_2_1 rfl hin rfl rfl rfl (Nat.le_of_ble_eq_true rfl) dX1_init_46 (fun H locs hJ => ?_)
  clear hI
  have hI : hI0 D A s.heap (w0 ++ [(h0, .inr (1, [.ref q1, .ref q2, .ref q3, .ref q4, .ref q5, .int 0])), (q1, .inl (cy 0, 200, .inl (fun _ => 0))), (q2, .inl (cy 1, 200, .inl (fun _ => 0))), (q3, .inl (cy 0, 200, .inl (fun _ => 0))), (q4, .inl (cy 0, 200, .inl (fun _ => 0))), (q5, .inl (cy 0, 200, .inl (fun _ => 0)))]) H _ := hJ
  clear hJ
  refine W.eq (g2 := F0 m 49 ls []) rfl ?_
  refine W.widen (k := 5) (n := 1000) (Nat.le_of_ble_eq_true rfl) (Nat.le_of_ble_eq_true rfl) ?_
  exact h_vret (u := fun k => [q1, q2, q3, q4, q5].getD k 0) (F := fun u => w0 ++ cc_X1_init cy h0 u) hC hr hlocks hI rfl trivial (Nat.le_of_ble_eq_true rfl) (Nat.le_of_ble_eq_true rfl) dX1_init_49

theorem dX7_init_0 : decode cX7_init 0 = .ok (.aload_n 0, 1) := by decide +kernel
theorem dX7_init_1 : decode cX7_init 1 = .ok (.invokespecial 1, 3) := by decide +kernel
theorem dX7_init_4 : decode cX7_init 4 = .ok (.aload_n 0, 1) := by decide +kernel
theorem dX7_init_5 : decode cX7_init 5 = .ok (.bipush 12, 2) := by decide +kernel
theorem dX7_init_7 : decode cX7_init 7 = .ok (.newarray .int, 2) := by decide +kernel
theorem dX7_init_9 : decode cX7_init 9 = .ok (.putfield 9, 3) := by decide +kernel
theorem dX7_init_12 : decode cX7_init 12 = .ok (.aload_n 0, 1) := by decide +kernel
theorem dX7_init_13 : decode cX7_init 13 = .ok (.bipush 12, 2) := by decide +kernel
theorem dX7_init_15 : decode cX7_init 15 = .ok (.newarray .int, 2) := by decide +kernel
theorem dX7_init_17 : decode cX7_init 17 = .ok (.putfield 13, 3) := by decide +kernel
theorem dX7_init_20 : decode cX7_init 20 = .ok (.aload_n 0, 1) := by decide +kernel
theorem dX7_init_21 : decode cX7_init 21 = .ok (.bipush 12, 2) := by decide +kernel
theorem dX7_init_23 : decode cX7_init 23 = .ok (.newarray .int, 2) := by decide +kernel
theorem dX7_init_25 : decode cX7_init 25 = .ok (.putfield 16, 3) := by decide +kernel
theorem dX7_init_28 : decode cX7_init 28 = .ok (.aload_n 0, 1) := by decide +kernel
theorem dX7_init_29 : decode cX7_init 29 = .ok (.bipush 12, 2) := by decide +kernel
theorem dX7_init_31 : decode cX7_init 31 = .ok (.newarray .int, 2) := by decide +kernel
theorem dX7_init_33 : decode cX7_init 33 = .ok (.putfield 19, 3) := by decide +kernel
theorem dX7_init_36 : decode cX7_init 36 = .ok (.return_, 1) := by decide +kernel
abbrev cc_X7_init (cy : Nat → ClassId) (h0 : Nat) (u : Nat → Nat) : va_W := [(h0, .inr (7, [.ref (u 0), .ref (u 1), .ref (u 2), .ref (u 3), .int 0])), ((u 0), .inl (cy 0, 12, .inl (fun _ => 0))), ((u 1), .inl (cy 0, 12, .inl (fun _ => 0))), ((u 2), .inl (cy 0, 12, .inl (fun _ => 0))), ((u 3), .inl (cy 0, 12, .inl (fun _ => 0)))]
abbrev ws_X7_init : List Cond := Cond.code yX7_init cX7_init 1 none :: gG
abbrev rm_X7_init : Room := { frames := 1, cells := 4, slots := 48, locals := 20 }
theorem k_X7_init : gCI yX7_init cX7_init 1 0 := ⟨gw_2_20, gw_1_10, gw_2_21, rfl, by decide +kernel⟩
set_option maxHeartbeats 4000000 in
set_option maxRecDepth 100000 in
theorem i_X7_init (l : Launch) (D : va_G) (cy : Nat → ClassId) (A : Nat → Prop) (w0 : va_W) (h0 : Nat) : Met l yX7_init ws_X7_init rm_X7_init (va_Pc [.ref h0] (hB0 D cy A (w0 ++ [(h0, .inr (7, [.null, .null, .null, .null, .int 0]))]))) (va_Qv (fun _ : Nat → Nat => True) (fun u t => hB0 D cy A (w0 ++ cc_X7_init cy h0 u) t) A) 4 48 A := by
  refine Met.ofW (cc := cX7_init) (maxL := 1) (ret := none) (by decide) rfl ?_
  intro p e s m args below meth c s₁ B hml hv
  obtain ⟨rfl, hB⟩ := hv
  have hC : hC0 p c cX7_init s m ([.ref h0] : List Value).toArray RX7 D cy A := h_start B hB
  have hI : hI0 D A s.heap (w0 ++ [(h0, .inr (7, [.null, .null, .null, .null, .int 0]))]) s.heap [] := ⟨hB.1, hB.2.2.1, va_S.rf⟩
  have hx := hC.1
  have hb := hC.2.1
  have hr := B.returns
  have hlocks := B.notSynchronized
  have hin : meth.name = "<init>" := (name_of_methodNamed B.named B.method).1
  clear B hB
  have hl := lv_entry ([.ref h0]) (n := 1) (Nat.le_of_ble_eq_true rfl)
  rw [lg_entry_eq]
  generalize (lg_sl ([.ref h0]) ++ List.replicate (1 - (lg_sl ([.ref h0])).length) Slot.unset).toArray = ls at hl ⊢
  have hl : lv_has ls 1 [(0, .ref h0)] := hl
  refine lv_aload_n hx hb dX7_init_0 rfl (lv_at hl 0 rfl) ?_
  refine h_obj hC (by rw [hml]; exact hl.1.symm) gw_2_22 gw_1_30 gw_1_31 dX7_init_1 (Nat.le_of_ble_eq_true rfl) (Nat.le_of_ble_eq_true rfl) ?_
  refine lv_aload_n hx hb dX7_init_4 rfl (lv_at hl 0 rfl) ?_
  refine lv_bipush (v := 12) hx hb dX7_init_5 (by decide) ?_
  refine h_arr (k := 0) (N := 12) (a0 := (12, .inl (fun _ => 0))) hC hI gw_1_47 rfl rfl rfl (fun _ => rfl) (by decide) (by decide) (by decide) (Nat.le_of_ble_eq_true rfl) (Nat.le_of_ble_eq_true rfl) dX7_init_7 (fun q1 H hJ => ?_)
  clear hI
  have hI : hI0 D A s.heap (w0 ++ [(h0, .inr (7, [.null, .null, .null, .null, .int 0])), (q1, .inl (cy 0, 12, .inl (fun _ => 0)))]) H _ := hJ
  clear hJ
  refine h_putF (C := RX7) (T := TX7) (N := 5) (ty0 := tyX7) (v := .ref q1) tyX7_ok nmX7 gin_X7 hC hI 0 rfl rfl 0 (by decide) gw_2_23 rfl hin rfl rfl rfl (Nat.le_of_ble_eq_true rfl) dX7_init_9 (fun H locs hJ => ?_)
  clear hI
  have hI : hI0 D A s.heap (w0 ++ [(h0, .inr (7, [.ref q1, .null, .null, .null, .int 0])), (q1, .inl (cy 0, 12, .inl (fun _ => 0)))]) H _ := hJ
  clear hJ
  refine W.eq (g2 := F0 m 12 ls []) rfl ?_
  refine W.widen (k := 1) (n := 12) (Nat.le_of_ble_eq_true rfl) (Nat.le_of_ble_eq_true rfl) ?_
  refine lv_aload_n hx hb dX7_init_12 rfl (lv_at hl 0 rfl) ?_
  refine lv_bipush (v := 12) hx hb dX7_init_13 (by decide) ?_
  refine h_arr (k := 0) (N := 12) (a0 := (12, .inl (fun _ => 0))) hC hI gw_1_47 rfl rfl rfl (fun _ => rfl) (by decide) (by decide) (by decide) (Nat.le_of_ble_eq_true rfl) (Nat.le_of_ble_eq_true rfl) dX7_init_15 (fun q2 H hJ => ?_)
  clear hI
  have hI : hI0 D A s.heap (w0 ++ [(h0, .inr (7, [.ref q1, .null, .null, .null, .int 0])), (q1, .inl (cy 0, 12, .inl (fun _ => 0))), (q2, .inl (cy 0, 12, .inl (fun _ => 0)))]) H _ := hJ
  clear hJ
  refine h_putF (C := RX7) (T := TX7) (N := 5) (ty0 := tyX7) (v := .ref q2) tyX7_ok nmX7 gin_X7 hC hI 0 rfl rfl 1 (by decide) gw_2_25 rfl hin rfl rfl rfl (Nat.le_of_ble_eq_true rfl) dX7_init_17 (fun H locs hJ => ?_)
  clear hI
  have hI : hI0 D A s.heap (w0 ++ [(h0, .inr (7, [.ref q1, .ref q2, .null, .null, .int 0])), (q1, .inl (cy 0, 12, .inl (fun _ => 0))), (q2, .inl (cy 0, 12, .inl (fun _ => 0)))]) H _ := hJ
  clear hJ
  refine W.eq (g2 := F0 m 20 ls []) rfl ?_
  refine W.widen (k := 2) (n := 24) (Nat.le_of_ble_eq_true rfl) (Nat.le_of_ble_eq_true rfl) ?_
  refine lv_aload_n hx hb dX7_init_20 rfl (lv_at hl 0 rfl) ?_
  refine lv_bipush (v := 12) hx hb dX7_init_21 (by decide) ?_
  refine h_arr (k := 0) (N := 12) (a0 := (12, .inl (fun _ => 0))) hC hI gw_1_47 rfl rfl rfl (fun _ => rfl) (by decide) (by decide) (by decide) (Nat.le_of_ble_eq_true rfl) (Nat.le_of_ble_eq_true rfl) dX7_init_23 (fun q3 H hJ => ?_)
  clear hI
  have hI : hI0 D A s.heap (w0 ++ [(h0, .inr (7, [.ref q1, .ref q2, .null, .null, .int 0])), (q1, .inl (cy 0, 12, .inl (fun _ => 0))), (q2, .inl (cy 0, 12, .inl (fun _ => 0))), (q3, .inl (cy 0, 12, .inl (fun _ => 0)))]) H _ := hJ
  clear hJ
  refine h_putF (C := RX7) (T := TX7) (N := 5) (ty0 := tyX7) (v := .ref q3) tyX7_ok nmX7 gin_X7 hC hI 0 rfl rfl 2 (by decide) gw_2_27 rfl hin rfl rfl rfl (Nat.le_of_ble_eq_true rfl) dX7_init_25 (fun H locs hJ => ?_)
  clear hI
  have hI : hI0 D A s.heap (w0 ++ [(h0, .inr (7, [.ref q1, .ref q2, .ref q3, .null, .int 0])), (q1, .inl (cy 0, 12, .inl (fun _ => 0))), (q2, .inl (cy 0, 12, .inl (fun _ => 0))), (q3, .inl (cy 0, 12, .inl (fun _ => 0)))]) H _ := hJ
  clear hJ
  refine W.eq (g2 := F0 m 28 ls []) rfl ?_
  refine W.widen (k := 3) (n := 36) (Nat.le_of_ble_eq_true rfl) (Nat.le_of_ble_eq_true rfl) ?_
  refine lv_aload_n hx hb dX7_init_28 rfl (lv_at hl 0 rfl) ?_
  refine lv_bipush (v := 12) hx hb dX7_init_29 (by decide) ?_
  refine h_arr (k := 0) (N := 12) (a0 := (12, .inl (fun _ => 0))) hC hI gw_1_47 rfl rfl rfl (fun _ => rfl) (by decide) (by decide) (by decide) (Nat.le_of_ble_eq_true rfl) (Nat.le_of_ble_eq_true rfl) dX7_init_31 (fun q4 H hJ => ?_)
  clear hI
  have hI : hI0 D A s.heap (w0 ++ [(h0, .inr (7, [.ref q1, .ref q2, .ref q3, .null, .int 0])), (q1, .inl (cy 0, 12, .inl (fun _ => 0))), (q2, .inl (cy 0, 12, .inl (fun _ => 0))), (q3, .inl (cy 0, 12, .inl (fun _ => 0))), (q4, .inl (cy 0, 12, .inl (fun _ => 0)))]) H _ := hJ
  clear hJ
  refine h_putF (C := RX7) (T := TX7) (N := 5) (ty0 := tyX7) (v := .ref q4) tyX7_ok nmX7 gin_X7 hC hI 0 rfl rfl 3 (by decide) gw_2_29 rfl hin rfl rfl rfl (Nat.le_of_ble_eq_true rfl) dX7_init_33 (fun H locs hJ => ?_)
  clear hI
  have hI : hI0 D A s.heap (w0 ++ [(h0, .inr (7, [.ref q1, .ref q2, .ref q3, .ref q4, .int 0])), (q1, .inl (cy 0, 12, .inl (fun _ => 0))), (q2, .inl (cy 0, 12, .inl (fun _ => 0))), (q3, .inl (cy 0, 12, .inl (fun _ => 0))), (q4, .inl (cy 0, 12, .inl (fun _ => 0)))]) H _ := hJ
  clear hJ
  refine W.eq (g2 := F0 m 36 ls []) rfl ?_
  refine W.widen (k := 4) (n := 48) (Nat.le_of_ble_eq_true rfl) (Nat.le_of_ble_eq_true rfl) ?_
  exact h_vret (u := fun k => [q1, q2, q3, q4].getD k 0) (F := fun u => w0 ++ cc_X7_init cy h0 u) hC hr hlocks hI rfl trivial (Nat.le_of_ble_eq_true rfl) (Nat.le_of_ble_eq_true rfl) dX7_init_36
