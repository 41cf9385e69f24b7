/-! MAKING: a constructor's world is any list, and its own cells behind it -/
def gMl : List Cond := [.methodLinkNest RX8 9 yX6_init "FestivalFields", .methodLinkNest RX2 46 yX0_init "FestivalFields", .methodLinkNest RX8 41 yX4_init "FestivalFields", .methodLinkNest RX8 48 yX1_init "FestivalFields", .methodLinkNest RX8 59 yX7_init "FestivalFields"]
def gM (U : State) : Prop := ∀ w ∈ gMl, va_Nw w U
theorem gMl_on : ∀ w ∈ gMl, w.onTables = true := by decide +kernel
theorem gM.warm {u U : State} (hW : u.WarmedH U.vm) (h : gM u) : gM U := by
  intro w hw
  have h1 := h w hw
  simp only [gMl, List.mem_cons, List.not_mem_nil, or_false] at hw
  rcases hw with rfl | rfl | rfl | rfl | rfl
  all_goals exact va_Nw.warmM hW h1
theorem gM.same {u U : State} (hv : u.vm = U.vm) (h : gM u) : gM U := fun w hw => va_Nw.same (gMl_on w hw) hv (h w hw)
def hB0 (D : va_G) (cy : Nat → ClassId) (A : Nat → Prop) (ws : va_W) (U : State) : Prop := va_P D vwCl ws U.heap ∧ va_K D vwCl (gT cy) U ∧ va_D A ws ∧ (∀ q, U.heap.size ≤ q → A q) ∧ gM U
theorem hPc_blind {D : va_G} {cy : Nat → ClassId} {A : Nat → Prop} {ws : va_W} {av : List Value} : FrameBlind (va_Pc av (hB0 D cy A ws)) := fun a U g mk q => ⟨q.1, q.2.1, va_K.moved (u := U) (U := U.calling g mk a) (Vm.Alike.refl U.vm) q.2.2.1, q.2.2.2.1, q.2.2.2.2.1, gM.same (u := U) (U := U.calling g mk a) rfl q.2.2.2.2.2⟩
def hC0 (p : Program) (c : Code) (cc : ByteArray) (s : State) (m : MethodId) (args : Array Value) (own : String) (D : va_G) (cy : Nat → ClassId) (A : Nat → Prop) : Prop := p.tables.exec = Jvm.exec ∧ c.code = cc ∧ (∀ w ∈ gG, w.before args s = true) ∧ s.vm.findClass own = some m.cls ∧ va_K D vwCl (gT cy) s ∧ (∀ q, s.heap.size ≤ q → A q) ∧ gM s
def hI0 (D : va_G) (A : Nat → Prop) (H0 : Heap) (ws : va_W) (H : Heap) (locs : List Loc) : Prop := va_P D vwCl ws H ∧ va_D A ws ∧ va_S A H0 H locs
theorem hI0.cast {D : va_G} {A : Nat → Prop} {H0 H : Heap} {ws ws' : va_W} {locs : List Loc} (h : hI0 D A H0 ws H locs) (e : ws = ws') : hI0 D A H0 ws' H locs := by subst e; exact h
theorem hat_r {w0 L : va_W} {k : Nat} {x : Nat × va_E} (h : L[k]? = some x) : (w0 ++ L)[w0.length + k]? = some x := by rw [List.getElem?_append_right (Nat.le_add_right _ _), Nat.add_sub_cancel_left]; exact h
theorem hset_r (w0 L : va_W) (k : Nat) (x : Nat × va_E) : (w0 ++ L).set (w0.length + k) x = w0 ++ L.set k x := by rw [List.set_append_right _ _ (Nat.le_add_right _ _), Nat.add_sub_cancel_left]
theorem hset_same {L : va_W} {i : Nat} {x : Nat × va_E} (h : L[i]? = some x) : L.set i x = L := by
  apply List.ext_getElem?
  intro k
  by_cases hk : k = i
  · subst hk; rw [List.getElem?_set_self (List.getElem?_eq_some_iff.mp h).1, h]
  · rw [List.getElem?_set_ne (Ne.symm hk)]
section HMAKE
variable {p : Program} {l : Launch} {e : Env} {R : Room} {s s₁ : State} {m : MethodId} {args : Array Value} {below : List Frame} {meth : Method} {c : Code} {H : Heap} {locs : List Loc} {cells slots : Nat} {Q : State → Prop} {cc : ByteArray} {pc : Nat} {ls : Array Slot} {rest : List Value} {D : va_G} {cy : Nat → ClassId} {A : Nat → Prop} {own : String} {index : Nat} {w0 L : va_W}
theorem h_start {y : MethodName} {maxL : Nat} {ret : Option FieldType} {rm : Room} {ws : va_W} (B : BodyLoose p l y (headSpec (Cond.code y cc maxL ret :: gG) rm) cc maxL ret e s m args below meth c s₁) (hB : hB0 D cy A ws s) : hC0 p c cc s m args y.cls D cy A :=
  ⟨B.exec, B.bytes, fun w h => atoms_spec (ws := Cond.code y cc maxL ret :: gG) B.pre w (List.mem_cons_of_mem _ h), findClass_of_methodNamed B.named, hB.2.1, hB.2.2.2.1, hB.2.2.2.2⟩
theorem hI0.toB {ws : va_W} {t : State} (h : hI0 D A s.heap ws H locs) (hC : hC0 p c cc s m args own D cy A) (ht : t.heap = H) (hv : s.WarmedH t.vm) : hB0 D cy A ws t :=
  ⟨by rw [ht]; exact h.1, va_K.moved hv.alike hC.2.2.2.2.1, h.2.1, fun q hq => hC.2.2.2.2.2.1 q (Nat.le_trans h.2.2.1 (by rw [← ht]; exact hq)), gM.warm hv hC.2.2.2.2.2.2⟩
theorem h_obj {a : Addr} (hC : hC0 p c cc s m args own D cy A) (hml : c.maxLocals = ls.size) (w1 : Cond.methodLink own index objectInit ∈ gG) (w2 : Cond.instanceMethod objectInit ∈ gG) (w3 : Cond.code objectInit ⟨#[0xb1]⟩ 1 none ∈ gG) (hd : decode cc pc = .ok (.invokespecial index, 3)) (hf : 1 ≤ R.frames) (hlo : (rest.map fun v => v.category).sum + 12 ≤ R.locals)
    (kk : W p l e R s m args below meth c H locs cells slots Q (F0 m (pc + 3) ls rest)) : W p l e R s m args below meth c H locs cells slots Q (F0 m pc ls (.ref a :: rest)) :=
  W.objInit hC.1 hC.2.1 hC.2.2.2.1 (hC.2.2.1 _ w1) (hC.2.2.1 _ w2) (hC.2.2.1 _ w3) rfl (by rw [hml]) rfl hd hf (by show 2 * 0 + _ + 12 ≤ _; omega) kk
theorem h_arr {k : Nat} {ty : FieldType} {atype : ArrayType} {n : Int32} {N : Nat} {a0 : vp_A} (hC : hC0 p c cc s m args own D cy A) (hI : hI0 D A s.heap (w0 ++ L) H locs) (wa : Cond.arrayClass ty ∈ gG) (hty : newarray.typeOf atype = ty) (hp : refKind ty = false) (hk : (gT cy)[k]? = some (cy k, ty)) (ha : ∀ cA : ClassId, vp_cell cA a0 = arrV cA N (fun _ => defaultValue ty)) (hn : ¬ n < 0) (hN : n.toNatClampNeg = N) (hby : N * componentBytes ty ≤ 536870912) (hc : cells + 1 ≤ R.cells) (hs : slots + N ≤ R.slots) (hdg : decode cc pc = .ok (.newarray atype, 2))
    (kk : ∀ (q : Nat) (H1 : Heap), hI0 D A s.heap (w0 ++ (L ++ [(q, .inl (cy k, a0))])) H1 locs → W p l e R s m args below meth c H1 locs (cells + 1) (slots + N) Q (F0 m (pc + 2) ls (.ref q :: rest))) : W p l e R s m args below meth c H locs cells slots Q (F0 m pc ls (.int n :: rest)) := by
  refine va_newa hC.1 hC.2.1 (by rw [hty]; exact hC.2.2.1 _ wa) hty hC.2.2.2.2.1 hI.1 hI.2.1 hI.2.2 hC.2.2.2.2.2.1 ha hn hN hby hc hs hdg (fun q cA H1 hK1 hP1 hD1 hS1 => ?_)
  have h1 := (hK1.2 4 (cA, ty) rfl).2
  have h2 := (hC.2.2.2.2.1.2 k _ hk).2
  have e : cA = cy k := by
    cases ty <;> first | (exact Option.some.inj (h1.symm.trans h2)) | (exact absurd hp (by simp [refKind]))
  subst e
  exact kk q H1 ⟨by rw [← List.append_assoc]; exact hP1, by rw [← List.append_assoc]; exact hD1, hS1⟩
theorem h_new {C : String} {T : u_T} {N ci : Nat} {fs : List Value} (ty : Nat → FieldType) (hty : ∀ k, k < N → parseFieldDescriptor (T k).2.2.1 = some (ty k)) (hin : ∀ w ∈ u_ws C T N, w ∈ gG) (hC : hC0 p c cc s m args own D cy A) (hI : hI0 D A s.heap (w0 ++ L) H locs) (w1 : Cond.classLink own index C ∈ gG) (w2 : Cond.instantiable C N ∈ gG) (w3 : Cond.initialized C ∈ gG) (hc : vwCl[ci]? = some (C, T, N)) (hfs : ∀ j, j < N → defaultValue (ty j) = vp_V fs j) (hcc : cells + 1 ≤ R.cells) (hss : slots + N ≤ R.slots) (hdg : decode cc pc = .ok (.new index, 3))
    (kk : ∀ (q : Nat) (H1 : Heap), hI0 D A s.heap (w0 ++ (L ++ [(q, .inr (ci, fs))])) H1 locs → W p l e R s m args below meth c H1 locs (cells + 1) (slots + N) Q (F0 m (pc + 3) ls (.ref q :: rest))) : W p l e R s m args below meth c H locs cells slots Q (F0 m pc ls rest) :=
  va_new hC.1 hC.2.1 hC.2.2.1 hin ty hty hC.2.2.2.1 (hC.2.2.1 _ w1) (hC.2.2.1 _ w2) (hC.2.2.1 _ w3) hC.2.2.2.2.1 hI.1 hI.2.1 hI.2.2 hC.2.2.2.2.2.1 hc hfs hcc hss hdg (fun q H1 hP hD hS => kk q H1 ⟨by rw [← List.append_assoc]; exact hP, by rw [← List.append_assoc]; exact hD, hS⟩)
theorem h_put {C : String} {T : u_T} {N ci a : Nat} {fs : List Value} {ty0 : Nat → FieldType} {v : Value} (hty : ∀ k, k < N → parseFieldDescriptor (T k).2.2.1 = some (ty0 k)) (hnm : ∀ a, a < N → ∀ b, b < N → a ≠ b → (T a).2.1 ≠ (T b).2.1) (hin : ∀ w ∈ u_ws C T N, w ∈ gG) (hC : hC0 p c cc s m args own D cy A) (hI : hI0 D A s.heap (w0 ++ L) H locs) (i : Nat) (he : L[i]? = some (a, .inr (ci, fs))) (hc : vwCl[ci]? = some (C, T, N)) (k : Nat) (hk : k < N) (w1 : Cond.fieldLink own index (T k).1 (T k).2.1 (T k).2.2.1 ∈ gG) (hfin : (T k).2.2.2 = false) (hn : narrow (ty0 k) v = v) (hfit : fits (ty0 k) v = true) (hl : k < fs.length) (hdg : decode cc pc = .ok (.putfield index, 3))
    (kk : ∀ (H1 : Heap) (locs1 : List Loc), hI0 D A s.heap (w0 ++ L.set i (a, .inr (ci, fs.set k v))) H1 locs1 → W p l e R s m args below meth c H1 locs1 cells slots Q (F0 m (pc + 3) ls rest)) : W p l e R s m args below meth c H locs cells slots Q (F0 m pc ls (v :: .ref a :: rest)) :=
  va_put (ty := ty0 k) hC.1 hC.2.1 hC.2.2.1 hin ty0 hty hnm hC.2.2.2.1 hC.2.2.2.2.1 hI.1 hI.2.1 hI.2.2 (w0.length + i) (hat_r he) hc k hk (hC.2.2.1 _ w1) (fun _ h => h) hfin (hty k hk) hn hfit hl hdg (fun H1 locs1 hP hD hS => kk H1 locs1 ⟨by rw [← hset_r]; exact hP, by rw [← hset_r]; exact hD, hS⟩)
theorem h_putF {C : String} {T : u_T} {N ci a : Nat} {fs : List Value} {ty0 : Nat → FieldType} {v : Value} (hty : ∀ k, k < N → parseFieldDescriptor (T k).2.2.1 = some (ty0 k)) (hnm : ∀ a, a < N → ∀ b, b < N → a ≠ b → (T a).2.1 ≠ (T b).2.1) (hin : ∀ w ∈ u_ws C T N, w ∈ gG) (hC : hC0 p c cc s m args own D cy A) (hI : hI0 D A s.heap (w0 ++ L) H locs) (i : Nat) (he : L[i]? = some (a, .inr (ci, fs))) (hc : vwCl[ci]? = some (C, T, N)) (k : Nat) (hk : k < N) (w1 : Cond.fieldLink own index (T k).1 (T k).2.1 (T k).2.2.1 ∈ gG) (hfin : (T k).2.2.2 = true) (hini : meth.name = "<init>") (hdecl : (T k).1 = own) (hn : narrow (ty0 k) v = v) (hfit : fits (ty0 k) v = true) (hl : k < fs.length) (hdg : decode cc pc = .ok (.putfield index, 3))
    (kk : ∀ (H1 : Heap) (locs1 : List Loc), hI0 D A s.heap (w0 ++ L.set i (a, .inr (ci, fs.set k v))) H1 locs1 → W p l e R s m args below meth c H1 locs1 cells slots Q (F0 m (pc + 3) ls rest)) : W p l e R s m args below meth c H locs cells slots Q (F0 m pc ls (v :: .ref a :: rest)) :=
  va_putF (ty := ty0 k) hC.1 hC.2.1 hC.2.2.1 hin ty0 hty hnm hC.2.2.2.1 hC.2.2.2.2.1 hI.1 hI.2.1 hI.2.2 (w0.length + i) (hat_r he) hc k hk (hC.2.2.1 _ w1) (fun _ h => h) hfin hini hdecl (hty k hk) hn hfit hl hdg (fun H1 locs1 hP hD hS => kk H1 locs1 ⟨by rw [← hset_r]; exact hP, by rw [← hset_r]; exact hD, hS⟩)
theorem h_get {C : String} {T : u_T} {N ci a : Nat} {fs : List Value} {v : Value} (hin : ∀ w ∈ u_ws C T N, w ∈ gG) (hC : hC0 p c cc s m args own D cy A) (hI : hI0 D A s.heap (w0 ++ L) H locs) (i : Nat) (he : L[i]? = some (a, .inr (ci, fs))) (hc : vwCl[ci]? = some (C, T, N)) (k : Nat) (hk : k < N) (w1 : Cond.fieldLink own index (T k).1 (T k).2.1 (T k).2.2.1 ∈ gG) (hv : fs[k]? = some v) (hdg : decode cc pc = .ok (.getfield index, 3))
    (kk : W p l e R s m args below meth c H locs cells slots Q (F0 m (pc + 3) ls (v :: rest))) : W p l e R s m args below meth c H locs cells slots Q (F0 m pc ls (.ref a :: rest)) :=
  va_get hC.1 hC.2.1 hC.2.2.1 hin hC.2.2.2.1 hC.2.2.2.2.1 hI.1 (w0.length + i) (hat_r he) hc k hk (hC.2.2.1 _ w1) (fun _ h => h) hv hdg kk
theorem h_iast {a n : Nat} {f : Nat → Int32} {x v : Int32} (hC : hC0 p c cc s m args own D cy A) (hI : hI0 D A s.heap (w0 ++ L) H locs) (i : Nat) (he : L[i]? = some (a, .inl (cy 0, n, .inl f))) (hin : vp_in x n) (hdg : decode cc pc = .ok (.iastore, 1))
    (kk : ∀ (H1 : Heap) (locs1 : List Loc), hI0 D A s.heap (w0 ++ L.set i (a, .inl (cy 0, n, .inl (upd f x.toNatClampNeg v)))) H1 locs1 → W p l e R s m args below meth c H1 locs1 cells slots Q (F0 m (pc + 1) ls rest)) : W p l e R s m args below meth c H locs cells slots Q (F0 m pc ls (.int v :: .int x :: .ref a :: rest)) :=
  va_iast hC.1 hC.2.1 hC.2.2.2.2.1 hI.1 hI.2.1 hI.2.2 (w0.length + i) 0 (hat_r he) rfl hin hdg (fun H1 locs1 hP hD hS => kk H1 locs1 ⟨by rw [← hset_r]; exact hP, by rw [← hset_r]; exact hD, hS⟩)
theorem h_len {a n : Nat} {f : Nat → Int32} (hC : hC0 p c cc s m args own D cy A) (hI : hI0 D A s.heap (w0 ++ L) H locs) (i : Nat) (he : L[i]? = some (a, .inl (cy 0, n, .inl f))) (hdg : decode cc pc = .ok (.arraylength, 1))
    (kk : W p l e R s m args below meth c H locs cells slots Q (F0 m (pc + 1) ls (.int (nI n) :: rest))) : W p l e R s m args below meth c H locs cells slots Q (F0 m pc ls (.ref a :: rest)) :=
  va_alen hC.1 hC.2.1 hC.2.2.2.2.1 hI.1 (w0.length + i) 0 (hat_r he) rfl rfl hdg kk
theorem h_vret {S : Type} {post : S → Prop} {F : S → va_W} {u : S} {mc ms : Nat} (hC : hC0 p c cc s m args own D cy A) (hr : meth.sig.returnType = none) (hlocks : meth.locks = false) {ws : va_W} (hI : hI0 D A s.heap ws H locs) (hu : ws = F u) (h : post u) (hc : cells ≤ mc) (hs : slots ≤ ms) (hdg : decode cc pc = .ok (.return_, 1)) :
    W p l e R s m args below meth c H locs cells slots (MQ below (va_Qv post (fun u t => hB0 D cy A (F u) t) A) args s mc ms A) (F0 m pc ls []) := by
  subst hu
  exact W.widen hc hs (W.vret hC.1 hC.2.1 hr (fun _ ht hW => ⟨⟨u, rfl, h, hI.toB hC ht hW⟩, hI.2.2.F ht⟩) hI.2.2.2.2 hdg hlocks)
variable {y : MethodName} {bytes : ByteArray} {maxL n nL : Nat} {rm : Room} {As st0 : List Value} {b : Nat} {mc1 ms1 : Nat}
/-- what the tables say of a constructor -/
def gCI (y : MethodName) (bytes : ByteArray) (maxL n : Nat) : Prop := Cond.instanceMethod y ∈ gG ∧ Cond.initialized y.cls ∈ gG ∧ Cond.code y bytes maxL none ∈ gG ∧ y.name = "<init>" ∧ (y.cls ≠ "java/lang/invoke/MethodHandle" ∧ y.cls ≠ "java/lang/invoke/VarHandle" ∧ (parseMethodDescriptor y.desc).map (fun d => d.parameters.length) = some n)
theorem h_call {S : Type} {post : S → Prop} {F : S → va_W} {ws : va_W} (hC : hC0 p c cc s m args own D cy A) (hml : c.maxLocals = nL) (hI : hI0 D A s.heap ws H locs) (hM : Met l y (Cond.code y bytes maxL none :: gG) rm (va_Pc (.ref b :: As) (hB0 D cy A ws)) (va_Qv post (fun u t => hB0 D cy A (F u) t) A) mc1 ms1 A) (hk : gCI y bytes maxL n)
    (w1 : Cond.methodLink own index y ∈ gG) (hcz : rm.cells = mc1 ∧ rm.slots = ms1) (hR : rm.frames + 1 ≤ R.frames ∧ 8 + (maxL + 11) + rm.locals ≤ R.locals) (hn : As.length = n) (hsize : ls.size = nL) (hst : st0 = As.reverse ++ .ref b :: rest) (hW : (rest.map fun v => v.category).sum ≤ 8) (hdg : decode cc pc = .ok (.invokespecial index, 3)) (hcs : cells + mc1 ≤ R.cells ∧ slots + ms1 ≤ R.slots)
    (kk : ∀ (u : S) (H1 : Heap) (locs1 : List Loc), post u → hI0 D A s.heap (F u) H1 locs1 → W p l e R s m args below meth c H1 locs1 (cells + mc1) (slots + ms1) Q (F0 m (pc + 3) ls rest)) : W p l e R s m args below meth c H locs cells slots Q (F0 m pc ls st0) := by
  subst hst
  obtain ⟨k1, k2, k3, k4, k5⟩ := hk
  exact va_callv (va_runI (S := ⟨hC.1, hC.2.1, hml, hC.2.2.2.1, hC.2.2.1⟩) hM ⟨callB_of n hC.2.2.1 (g_good k3) rfl hcz.1 hcz.2 (hC.2.2.1 _ k2) (hC.2.2.1 _ w1) k5 hR, k4, hC.2.2.1 _ k1⟩ ⟨hPc_blind, fun U hU hw => ⟨rfl, hI.toB hC hU hw⟩⟩ rfl hn hsize rfl (lv_room hW) hdg hcs) hI.2.2 (fun _ _ h => h) (fun _ h => h) (fun u _ H1 locs1 ht _ hp hb _ _ hS => kk u H1 locs1 hp ⟨by rw [← ht]; exact hb.1, hb.2.2.1, hS⟩)
theorem h_callN {S : Type} {post : S → Prop} {F : S → va_W} {ws : va_W} {host : String} (hC : hC0 p c cc s m args own D cy A) (hml : c.maxLocals = nL) (hI : hI0 D A s.heap ws H locs) (hM : Met l y (Cond.code y bytes maxL none :: gG) rm (va_Pc (.ref b :: As) (hB0 D cy A ws)) (va_Qv post (fun u t => hB0 D cy A (F u) t) A) mc1 ms1 A) (hk : gCI y bytes maxL n)
    (w1 : Cond.methodLinkNest own index y host ∈ gMl) (hcz : rm.cells = mc1 ∧ rm.slots = ms1) (hR : rm.frames + 1 ≤ R.frames ∧ 8 + (maxL + 11) + rm.locals ≤ R.locals) (hn : As.length = n) (hsize : ls.size = nL) (hst : st0 = As.reverse ++ .ref b :: rest) (hW : (rest.map fun v => v.category).sum ≤ 8) (hdg : decode cc pc = .ok (.invokespecial index, 3)) (hcs : cells + mc1 ≤ R.cells ∧ slots + ms1 ≤ R.slots)
    (kk : ∀ (u : S) (H1 : Heap) (locs1 : List Loc), post u → hI0 D A s.heap (F u) H1 locs1 → W p l e R s m args below meth c H1 locs1 (cells + mc1) (slots + ms1) Q (F0 m (pc + 3) ls rest)) : W p l e R s m args below meth c H locs cells slots Q (F0 m pc ls st0) := by
  subst hst
  obtain ⟨k1, k2, k3, k4, k5⟩ := hk
  exact va_callv (va_runIN (S := ⟨hC.1, hC.2.1, hml, hC.2.2.2.1, hC.2.2.1⟩) hM ⟨va_cnB n hC.2.2.1 (g_good k3) rfl hcz.1 hcz.2 (hC.2.2.2.2.2.2 _ w1) (hC.2.2.1 _ k2) k5 hR, k4, hC.2.2.1 _ k1⟩ ⟨hPc_blind, fun U hU hw => ⟨rfl, hI.toB hC hU hw⟩⟩ rfl hn hsize rfl (lv_room hW) hdg hcs) hI.2.2 (fun _ _ h => h) (fun _ h => h) (fun u _ H1 locs1 ht _ hp hb _ _ hS => kk u H1 locs1 hp ⟨by rw [← ht]; exact hb.1, hb.2.2.1, hS⟩)
theorem h_callS {S : Type} {ret : Option FieldType} {post : S → Prop} {F : S → va_W} {ws : va_W} (hC : hC0 p c cc s m args own D cy A) (hml : c.maxLocals = nL) (hI : hI0 D A s.heap ws H locs) (hM : Met l y (Cond.code y bytes maxL ret :: gG) rm (va_Pc As (hB0 D cy A ws)) (va_Qv post (fun u t => hB0 D cy A (F u) t) A) 0 0 A) (hk : gCS y bytes maxL ret n)
    (w1 : Cond.methodLink own index y ∈ gG) (hcz : rm.cells = 0 ∧ rm.slots = 0) (hR : rm.frames + 1 ≤ R.frames ∧ 8 + (maxL + 11) + rm.locals ≤ R.locals) (hn : As.length = n) (hsize : ls.size = nL) (hst : st0 = As.reverse ++ rest) (hW : (rest.map fun v => v.category).sum ≤ 8) (hdg : decode cc pc = .ok (.invokestatic index, 3)) (hcs : cells ≤ R.cells ∧ slots ≤ R.slots)
    (kk : ∀ (u : S) (H1 : Heap) (locs1 : List Loc), post u → hI0 D A s.heap (F u) H1 locs1 → W p l e R s m args below meth c H1 locs1 cells slots Q (F0 m (pc + 3) ls rest)) : W p l e R s m args below meth c H locs cells slots Q (F0 m pc ls st0) := by
  subst hst
  obtain ⟨k1, k2, k3, k5⟩ := hk
  exact va_callv (va_runS (S := ⟨hC.1, hC.2.1, hml, hC.2.2.2.1, hC.2.2.1⟩) hM ⟨callB_of n hC.2.2.1 (g_good k3) rfl hcz.1 hcz.2 (hC.2.2.1 _ k2) (hC.2.2.1 _ w1) k5 hR, hC.2.2.1 _ k1⟩ ⟨hPc_blind, fun U hU hw => ⟨rfl, hI.toB hC hU hw⟩⟩ rfl hn hsize rfl (lv_room hW) hdg hcs) hI.2.2 (fun _ _ h => h) (fun _ h => h) (fun u _ H1 locs1 ht _ hp hb _ _ hS => kk u H1 locs1 hp ⟨by rw [← ht]; exact hb.1, hb.2.2.1, hS⟩)
/-- Arrays.fill over any world -/
def hfill (f : Nat → Int32) (v : Int32) (i : Nat) : Nat → Int32 := fun j => if j < i then v else f j
theorem hfill_s (f : Nat → Int32) (v : Int32) (i : Nat) : upd (hfill f v i) i v = hfill f v (i + 1) := by
  funext j
  simp only [upd, hfill]
  by_cases h : j = i
  · subst h; simp
  · by_cases h2 : j < i
    · simp [h, h2, Nat.lt_succ_of_lt h2]
    · simp [h, h2, show ¬ j < i + 1 by omega]
set_option maxHeartbeats 4000000 in
theorem c_fillW (l : Launch) (D : va_G) (cy : Nat → ClassId) (A : Nat → Prop) (w0 L : va_W) (i a n : Nat) (f : Nat → Int32) (v : Int32) (hn : n < 2 ^ 31) (he : L[i]? = some (a, .inl (cy 0, n, .inl f))) : Met l yJ7_fill_53178 ws_J7_fill_53178 rm_J7_fill_53178 (va_Pc [.ref a, .int v] (hB0 D cy A (w0 ++ L))) (va_Qv (fun _ : Unit => True) (fun _ t => hB0 D cy A (w0 ++ L.set i (a, .inl (cy 0, n, .inl (hfill f v n)))) t) A) 0 0 A := by
  have hi : i < L.length := (List.getElem?_eq_some_iff.mp he).1
  refine Met.ofW (cc := cJ7_fill_53178) (maxL := 4) (ret := none) (by decide) rfl ?_
  intro p e s m args below meth c s₁ B hml hv
  obtain ⟨rfl, hB⟩ := hv
  have hC : hC0 p c cJ7_fill_53178 s m ([.ref a, .int v] : List Value).toArray RJ7 D cy A := h_start B hB
  have hI : hI0 D A s.heap (w0 ++ L) s.heap [] := ⟨hB.1, hB.2.2.1, va_S.rf⟩
  have hx := hC.1
  have hb := hC.2.1
  have hr := B.returns
  have hlocks := B.notSynchronized
  clear B hB
  have J : ∀ (k t : Nat) (H : Heap) (locs : List Loc) (ls : Array Slot), t ≤ n → n - t < k → hI0 D A s.heap (w0 ++ L.set i (a, .inl (cy 0, n, .inl (hfill f v t)))) H locs → lv_has ls 4 [(0, .ref a), (1, .int v), (2, .int (nI t)), (3, .int (nI n))] → W p l e (headSpec ws_J7_fill_53178 rm_J7_fill_53178).room s m ([.ref a, .int v] : List Value).toArray below meth c H locs 0 0 (MQ below (va_Qv (fun _ : Unit => True) (fun _ t => hB0 D cy A (w0 ++ L.set i (a, .inl (cy 0, n, .inl (hfill f v n)))) t) A) ([.ref a, .int v] : List Value).toArray s 0 0 A) (F0 m 5 ls []) := by
    intro k
    induction k with
    | zero => intro t H locs ls h1 h2; omega
    | succ k ih =>
      intro t H locs ls h1 h2 hI hl
      refine lv_iload_n hx hb dJ7_fill_53178_5 rfl (lv_at hl 2 rfl) ?_
      refine lv_iload_n hx hb dJ7_fill_53178_6 rfl (lv_at hl 3 rfl) ?_
      refine lv_icmp_ge (tgt := 20) hx hb dJ7_fill_53178_7 (by decide) (fun c1 => ?_) (fun c1 => ?_)
      · have e1 : t = n := Nat.le_antisymm h1 ((nI_leI hn (by omega)).mp c1)
        subst e1
        exact h_vret (u := ()) (F := fun _ => w0 ++ L.set i (a, .inl (cy 0, t, .inl (hfill f v t)))) hC hr hlocks hI rfl trivial (Nat.le_refl _) (Nat.le_refl _) dJ7_fill_53178_20
      · have e1 : t < n := Nat.lt_of_not_le (fun q => c1 ((nI_leI hn (by omega)).mpr q))
        refine lv_aload_n hx hb dJ7_fill_53178_10 rfl (lv_at hl 0 rfl) ?_
        refine lv_iload_n hx hb dJ7_fill_53178_11 rfl (lv_at hl 2 rfl) ?_
        refine lv_iload_n hx hb dJ7_fill_53178_12 rfl (lv_at hl 1 rfl) ?_
        refine h_iast hC hI i (List.getElem?_set_self hi) (vp_in_nI e1 hn) dJ7_fill_53178_13 (fun H locs hI => ?_)
        rw [List.set_set, nI_clamp (by omega), hfill_s] at hI
        refine lv_iinc (v := nI (t + 1)) (lv' := [(2, .int (nI (t + 1))), (0, .ref a), (1, .int v), (3, .int (nI n))]) hx hb dJ7_fill_53178_14 hl (k := 2) rfl (by rw [nI_succ]; rfl) (by decide) rfl (fun ls hl => ?_)
        refine lv_goto (tgt := 5) hx hb dJ7_fill_53178_17 (by decide) ?_
        exact ih (t + 1) H locs ls (by omega) (by omega) hI (lv_sub hl [1, 2, 0, 3] rfl)
  have hl := lv_entry ([.ref a, .int v]) (n := 4) (Nat.le_of_ble_eq_true rfl)
  rw [lg_entry_eq]
  generalize (lg_sl ([.ref a, .int v]) ++ List.replicate (4 - (lg_sl ([.ref a, .int v])).length) Slot.unset).toArray = ls at hl ⊢
  have hl : lv_has ls 4 [(0, .ref a), (1, .int v)] := hl
  refine lv_iconst (v := 0) hx hb dJ7_fill_53178_0 (by decide) ?_
  refine lv_istore_n (lv' := [(2, .int 0), (0, .ref a), (1, .int v)]) hx hb dJ7_fill_53178_1 rfl hl (by decide) rfl (fun ls hl => ?_)
  refine lv_aload_n hx hb dJ7_fill_53178_2 rfl (lv_at hl 1 rfl) ?_
  refine h_len hC hI i he dJ7_fill_53178_3 ?_
  refine lv_istore_n (lv' := [(3, .int (nI n)), (2, .int 0), (0, .ref a), (1, .int v)]) hx hb dJ7_fill_53178_4 rfl hl (by decide) rfl (fun ls hl => ?_)
  refine J (n + 1) 0 _ _ _ (Nat.zero_le _) (by omega) ?_ (lv_sub hl [2, 3, 1, 0] rfl)
  rw [show L.set i (a, .inl (cy 0, n, .inl (hfill f v 0))) = L from by
    have e0 : hfill f v 0 = f := by funext j; simp [hfill]
    rw [e0]
    exact hset_same he]
  exact hI
end HMAKE
