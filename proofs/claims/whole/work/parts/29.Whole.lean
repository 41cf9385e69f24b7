def st_ad (lst : List Nat) (k1 v1 k2 v2 : Nat → Nat) (i : Nat) : Nat := if i < 200 then lst.getD i 0 else if i < 207 then k1 (i - 200) else if i < 220 then k2 (i - 207) else if i < 227 then v1 (i - 220) else v2 (i - 227)
section START2
variable {p : Program} {l : Launch} {e : Env} {s : State} {m : MethodId} {below : List Frame} {meth : Method} {c : Code} {b L : Nat} {xs : Nat → Int32} {args : Array Value}
set_option maxRecDepth 100000 in
theorem st_Z {A : Nat → Prop} (lst : List Nat) {k1 v1 k2 v2 : Nat → Nat} (hts : ∀ w ∈ lw_tbl, w.before args s = true) (hs : ∀ c ∈ flatC (Jvm.Cond.and given_1 narrow_1), c.before args s = true) (hA : ∀ a : Nat, a < s.heap.size → ¬ A a) (h5 : vk_S 7 [6, 7, 5, 5, 5, 4, 2] [[112, 101, 111, 112, 108, 101], [109, 105, 110, 117, 116, 101, 115], [119, 111, 114, 115, 116], [116, 101, 110, 116, 115], [110, 111, 105, 115, 101], [102, 114, 111, 109], [116, 111]] k1 v1 A s s.heap) (e5 : ∀ i : Nat, i < 7 → (Term.string RX5 ([67, 73, 75, 77, 79, 55, 61].getD i 0)).eval args s none [] s = some (.ref (k1 i))) (h9 : vk_S 7 [6, 7, 5, 5, 5, 4, 2] [[112, 101, 111, 112, 108, 101], [109, 105, 110, 117, 116, 101, 115], [119, 111, 114, 115, 116], [116, 101, 110, 116, 115], [110, 111, 105, 115, 101], [102, 114, 111, 109], [116, 111]] k2 v2 A s s.heap) (e9 : ∀ i : Nat, i < 7 → (Term.string RX9 ([254, 259, 261, 263, 264, 269, 270].getD i 0)).eval args s none [] s = some (.ref (k2 i))) : gZ (st_ad lst k1 v1 k2 v2) A s s.heap := by
  refine ⟨vx_Zqof (hts _ (by decide +kernel)) (hts _ (by decide +kernel)) (hs _ (by decide +kernel)) hA, vx_Zqof (hts _ (by decide +kernel)) (hts _ (by decide +kernel)) (hs _ (by decide +kernel)) hA, va_Zof (hts _ (by decide +kernel)) (hts _ (by decide +kernel)) (va_eqi (hs _ (by decide +kernel))) hA, va_Zqof (hts _ (by decide +kernel)) (hts _ (by decide +kernel)) (hs _ (by decide +kernel)) hA, ?_, ?_, ?_, ?_⟩
  · intro i hi
    match i, hi with
    | 0, _ => exact h5.1 0 (by decide)
    | 1, _ => exact h5.1 1 (by decide)
    | 2, _ => exact h5.1 2 (by decide)
    | 3, _ => exact h5.1 3 (by decide)
    | 4, _ => exact h5.1 4 (by decide)
    | 5, _ => exact h5.1 5 (by decide)
    | 6, _ => exact h5.1 6 (by decide)
    | 7, _ => exact h9.1 0 (by decide)
    | 8, _ => exact h9.1 1 (by decide)
    | 9, _ => exact h9.1 2 (by decide)
    | 10, _ => exact h9.1 3 (by decide)
    | 11, _ => exact h9.1 4 (by decide)
    | 12, _ => exact h9.1 5 (by decide)
    | 13, _ => exact h9.1 6 (by decide)
    | i + 14, hi => omega
  · intro q hq
    simp only [gRl, List.mem_cons, List.not_mem_nil, or_false] at hq
    rcases hq with rfl | rfl | rfl | rfl | rfl | rfl | rfl | rfl | rfl | rfl | rfl | rfl | rfl | rfl
    · exact vk_R.of (hts _ (by decide +kernel)) (e5 0 (by decide))
    · exact vk_R.of (hts _ (by decide +kernel)) (e5 1 (by decide))
    · exact vk_R.of (hts _ (by decide +kernel)) (e5 2 (by decide))
    · exact vk_R.of (hts _ (by decide +kernel)) (e5 3 (by decide))
    · exact vk_R.of (hts _ (by decide +kernel)) (e5 4 (by decide))
    · exact vk_R.of (hts _ (by decide +kernel)) (e5 5 (by decide))
    · exact vk_R.of (hts _ (by decide +kernel)) (e5 6 (by decide))
    · exact vk_R.of (hts _ (by decide +kernel)) (e9 0 (by decide))
    · exact vk_R.of (hts _ (by decide +kernel)) (e9 1 (by decide))
    · exact vk_R.of (hts _ (by decide +kernel)) (e9 2 (by decide))
    · exact vk_R.of (hts _ (by decide +kernel)) (e9 3 (by decide))
    · exact vk_R.of (hts _ (by decide +kernel)) (e9 4 (by decide))
    · exact vk_R.of (hts _ (by decide +kernel)) (e9 5 (by decide))
    · exact vk_R.of (hts _ (by decide +kernel)) (e9 6 (by decide))
  · intro w hw
    exact va_Nw.of (gNl_on w hw) (hts w ((by decide +kernel : ∀ w ∈ gNl, w ∈ lw_tbl) w hw))
  · intro i j hi hj hij
    match i, hi, j, hj, hij with
    | 0, _, 0, _, hij => exact absurd rfl hij
    | 0, _, 1, _, _ => exact va_Nc.of (hs _ (by decide +kernel))
    | 0, _, 2, _, _ => exact va_Nc.of (hs _ (by decide +kernel))
    | 1, _, 0, _, _ => exact va_Nc.of (hs _ (by decide +kernel))
    | 1, _, 1, _, hij => exact absurd rfl hij
    | 1, _, 2, _, _ => exact va_Nc.of (hs _ (by decide +kernel))
    | 2, _, 0, _, _ => exact va_Nc.of (hs _ (by decide +kernel))
    | 2, _, 1, _, _ => exact va_Nc.of (hs _ (by decide +kernel))
    | 2, _, 2, _, hij => exact absurd rfl hij
    | i + 3, hi, _, _, _ => omega
    | _, _, j + 3, hj, _ => omega
set_option maxHeartbeats 8000000 in
set_option maxRecDepth 100000 in
/-- the law, from its entry, where its loop holds -/
theorem whole_open (l : Launch) (hst : l.stackTraces = false) (hL : L ≤ 3072) (C0 : lw_At p s m meth c b L xs) (hw : w_L_law_23 () L xs 513 0 gS0) : W p l e room_1 s m #[Value.ref b] below meth c s.heap [] 0 0 (lw_Z below #[Value.ref b] s) (entryFrame m ([Value.ref b] : List Value).toArray 7) := by
  obtain ⟨hx, hb, hr, hml, hown, hts, hX, hbl, hlocks, hgv⟩ := C0
  have hs := flat_of_before _ hgv
  have hG : ∀ w ∈ gG, w.before #[Value.ref b] s = true := fun w h => hts w (gG_lw w h)
  obtain ⟨D, cy, hK⟩ := st_K hG
  obtain ⟨A, hAe⟩ : ∃ A : Nat → Prop, A = fun q => s.heap.size ≤ q := ⟨_, rfl⟩
  have hA : ∀ q, s.heap.size ≤ q → A q := fun q h => by rw [hAe]; exact h
  have hAs : ∀ q, A q → s.heap.size ≤ q := fun q h => by rw [hAe] at h; exact h
  have hAn : ∀ a : Nat, a < s.heap.size → ¬ A a := fun a h q => absurd (hAs a q) (by omega)
  obtain ⟨k1, v1, h5, e5⟩ := st_SX5 hs hAn
  obtain ⟨k2, v2, h9, e9⟩ := st_SX9 hs hAn
  have hC : hC0 p c cL_law s m #[Value.ref b] RL D cy A := ⟨hx, hb, hG, hown, hK, hA, fun w h => va_Nw.of (gMl_on w h) (hts w ((by decide +kernel : ∀ w ∈ gMl, w ∈ lw_tbl) w h))⟩
  have hI : hI0 D A s.heap ([] ++ []) s.heap [] := ⟨fun k q h => by simp at h, ⟨fun i j p q h => by simp at h, fun k q h => by simp at h⟩, va_S.rf⟩
  have hl := lv_entry ([.ref b]) (n := 7) (Nat.le_of_ble_eq_true rfl)
  rw [lg_entry_eq]
  generalize (lg_sl ([.ref b]) ++ List.replicate (7 - (lg_sl ([.ref b])).length) Slot.unset).toArray = ls at hl ⊢
  have hl : lv_has ls 7 [(0, .ref b)] := hl
  refine h_new (C := RX8) (T := TX8) (N := 11) (ci := 8) (fs := [.null, .null, .null, .null, .null, .null, .null, .null, .null, .int 0, .int 0]) tyX8 tyX8_ok gin_X8 hC hI gw_1_24 gw_1_25 gw_1_1 rfl (by decide) (Nat.le_of_ble_eq_true rfl) (Nat.le_of_ble_eq_true rfl) dL_law_0 (fun x0 H hJ => ?_)
  clear hI
  refine lv_dup hx hb dL_law_3 rfl ?_
  refine h_call (As := []) (rest := [.ref x0]) hC hml hJ (i_X8_init l D cy A [] x0) k_X8_init gw_1_26 ⟨rfl, rfl⟩ ⟨Nat.le_of_ble_eq_true rfl, Nat.le_of_ble_eq_true rfl⟩ rfl hl.1 rfl (Nat.le_of_ble_eq_true rfl) dL_law_4 ⟨Nat.le_of_ble_eq_true rfl, Nat.le_of_ble_eq_true rfl⟩ (fun u8 H locs _ hI => ?_)
  clear hJ
  replace hI := hI0.cast hI (show [] ++ cc_X8_init cy x0 u8 = cc_X8_init cy x0 u8 ++ [] from (List.append_nil _).symm)
  refine lv_astore_n (lv' := [(1, .ref x0), (0, .ref b)]) hx hb dL_law_7 rfl hl (by decide) rfl (fun ls hl => ?_)
  refine h_new (C := RX9) (T := TX9) (N := 47) (ci := 9) (fs := [.int 0, .null, .null, .int 0, .int 0, .null, .null, .null, .int 0, .null, .null, .null, .null, .int 0, .null, .null, .null, .null, .null, .null, .null, .null, .null, .int 0, .null, .null, .null, .int 0, .null, .null, .int 0, .null, .null, .null, .null, .int 0, .null, .null, .int 0, .null, .null, .int 0, .int 0, .int 0, .int 0, .int 0, .null]) tyX9 tyX9_ok gin_X9 hC hI gw_4_182 gw_4_183 gw_1_11 rfl (by decide) (Nat.le_of_ble_eq_true rfl) (Nat.le_of_ble_eq_true rfl) dL_law_8 (fun m0 H hJ => ?_)
  clear hI
  refine lv_dup hx hb dL_law_11 rfl ?_
  refine h_call (As := []) (rest := [.ref m0]) hC hml hJ (i_X9_init l D cy A (cc_X8_init cy x0 u8) m0) k_X9_init gw_4_184 ⟨rfl, rfl⟩ ⟨Nat.le_of_ble_eq_true rfl, Nat.le_of_ble_eq_true rfl⟩ rfl hl.1 rfl (Nat.le_of_ble_eq_true rfl) dL_law_12 ⟨Nat.le_of_ble_eq_true rfl, Nat.le_of_ble_eq_true rfl⟩ (fun u9 H locs _ hI => ?_)
  clear hJ
  refine lv_astore_n (lv' := [(2, .ref m0), (1, .ref x0), (0, .ref b)]) hx hb dL_law_15 rfl hl (by decide) rfl (fun ls hl => ?_)
  refine lv_iconst (v := 1) hx hb dL_law_16 (by decide) ?_
  refine h_arr (k := 3) (N := 1) (a0 := (1, .inr (.inl (fun _ => 0)))) hC hI gw_6_88 rfl rfl rfl (fun _ => rfl) (by decide) (by decide) (by decide) (Nat.le_of_ble_eq_true rfl) (Nat.le_of_ble_eq_true rfl) dL_law_17 (fun qo H hJ => ?_)
  clear hI
  refine lv_astore_n (lv' := [(3, .ref qo), (2, .ref m0), (1, .ref x0), (0, .ref b)]) hx hb dL_law_19 rfl hl (by decide) rfl (fun ls hl => ?_)
  refine lv_iconst (v := 0) hx hb dL_law_20 (by decide) ?_
  refine lv_istore (lv' := [(4, .int 0), (3, .ref qo), (2, .ref m0), (1, .ref x0), (0, .ref b)]) hx hb dL_law_21 hl (by decide) rfl (fun ls hl => ?_)
  obtain ⟨ad, hade⟩ : ∃ ad : Nat → Nat, ad = st_ad (x0 :: (u8 0) :: (u8 2) :: (u8 3) :: (u8 5) :: (u8 14) :: (u8 25) :: (u8 32) :: (u8 39) :: (u8 44) :: m0 :: (u8 40) :: (u8 41) :: (u8 42) :: (u8 43) :: (u8 45) :: (u8 46) :: (u8 47) :: (u8 48) :: (u8 38) :: (u8 1) :: (u8 4) :: (u8 6) :: (u8 7) :: (u8 8) :: (u8 9) :: (u8 10) :: (u8 11) :: (u8 12) :: (u8 13) :: (u8 15) :: (u8 16) :: (u8 17) :: (u8 18) :: (u8 19) :: (u8 20) :: (u8 21) :: (u8 22) :: (u8 23) :: (u8 24) :: (u8 26) :: (u8 27) :: (u8 28) :: (u8 29) :: (u8 30) :: (u8 31) :: (u8 33) :: (u8 34) :: (u8 35) :: (u8 36) :: (u8 37) :: (u9 0) :: (u9 1) :: (u9 2) :: (u9 3) :: (u9 4) :: (u9 5) :: (u9 6) :: (u9 7) :: (u9 8) :: (u9 9) :: (u9 10) :: (u9 11) :: (u9 12) :: (u9 13) :: (u9 14) :: (u9 15) :: (u9 16) :: (u9 17) :: (u9 18) :: (u9 19) :: (u9 20) :: (u9 21) :: (u9 22) :: (u9 23) :: (u9 24) :: (u9 25) :: (u9 26) :: (u9 27) :: (u9 28) :: (u9 29) :: (u9 30) :: (u9 31) :: qo :: []) k1 v1 k2 v2 := ⟨_, rfl⟩
  have hZ : gZ ad A s s.heap := by rw [hade]; exact st_Z _ hts hs hAn h5 e5 h9 e9
  have hg : gC p c cL_law s m #[Value.ref b] RL D cy ad A := ⟨hx, hb, hG, hown, hK, hA, hZ⟩
  have hW : gI D cy ad A s.heap gS0 H locs := by
    rw [hade]
    exact ⟨hJ.1.sub [0, 1, 3, 4, 6, 15, 26, 33, 40, 45, 50, 41, 42, 43, 44, 46, 47, 48, 49, 39, 2, 5, 7, 8, 9, 10, 11, 12, 13, 14, 16, 17, 18, 19, 20, 21, 22, 23, 24, 25, 27, 28, 29, 30, 31, 32, 34, 35, 36, 37, 38, 51, 52, 53, 54, 55, 56, 57, 58, 59, 60, 61, 62, 63, 64, 65, 66, 67, 68, 69, 70, 71, 72, 73, 74, 75, 76, 77, 78, 79, 80, 81, 82, 83] rfl, hJ.2.1.sub [0, 1, 3, 4, 6, 15, 26, 33, 40, 45, 50, 41, 42, 43, 44, 46, 47, 48, 49, 39, 2, 5, 7, 8, 9, 10, 11, 12, 13, 14, 16, 17, 18, 19, 20, 21, 22, 23, 24, 25, 27, 28, 29, 30, 31, 32, 34, 35, 36, 37, 38, 51, 52, 53, 54, 55, 56, 57, 58, 59, 60, 61, 62, 63, 64, 65, 66, 67, 68, 69, 70, 71, 72, 73, 74, 75, 76, 77, 78, 79, 80, 81, 82, 83] (by decide) rfl, hJ.2.2⟩
  have hll : lv_has ls 7 [(0, .ref b), (1, .ref (ad 0)), (2, .ref (ad 10)), (3, .ref (ad 83)), (4, .int 0)] := by rw [hade]; exact lv_sub hl [4, 3, 2, 1, 0] rfl
  refine W.eq (g2 := F0 m 23 ls []) rfl ?_
  exact law_loop () hst hg hml hr hlocks hX hbl (hAn b hbl) hAs 513 _ _ 0 gS0 H locs ls (by decide) (by decide) hw hW hll
end START2
