/-! CALLS AND RETURNS over the one world -/
section GCALLS
variable {p : Program} {l : Launch} {e : Env} {R : Room} {s s₁ : State} {m : MethodId} {args : Array Value} {below : List Frame} {meth : Method} {c : Code} {H : Heap} {locs : List Loc} {cells slots : Nat} {Z : State → Prop} {cc : ByteArray} {pc : Nat} {ls : Array Slot} {rest : List Value} {D : va_G} {cy : Nat → ClassId} {ad : Nat → Nat} {A : Nat → Prop} {σ : gS} {own : String} {index : Nat}
/-- a boolean answer -/
def gz (v : Int32) : Prop := narrow .boolean (.int v) = .int v
theorem g_start {y : MethodName} {maxL : Nat} {ret : Option FieldType} {rm : Room} (B : BodyLoose p l y (headSpec (Cond.code y cc maxL ret :: gG) rm) cc maxL ret e s m args below meth c s₁) (hB : gB D cy ad A σ s) : gC p c cc s m args y.cls D cy ad A :=
  ⟨B.exec, B.bytes, fun w h => atoms_spec (ws := Cond.code y cc maxL ret :: gG) B.pre w (List.mem_cons_of_mem _ h), findClass_of_methodNamed B.named, hB.2.1, hB.2.2.2.1, hB.2.2.2.2⟩
theorem g_first (hB : gB D cy ad A σ s) : gI D cy ad A s.heap σ s.heap [] := ⟨hB.1, hB.2.2.1, va_S.rf⟩
theorem g_iret {Q : Int32 → gS → Prop} {v : Int32} (hC : gC p c cc s m args own D cy ad A) (hr : meth.sig.returnType = some .int) (hlocks : meth.locks = false) (hI : gI D cy ad A s.heap σ H locs) (h : Q v σ) (hdg : decode cc pc = .ok (.ireturn, 1)) :
    W p l e R s m args below meth c H locs cells slots (MQ below (va_Qi Q (gB D cy ad A) A) args s cells slots A) (F0 m pc ls [.int v]) :=
  W.iret (v := v) hC.1 hC.2.1 hr (fun _ ht hW => ⟨⟨v, σ, rfl, h, hI.toB hC ht hW⟩, hI.2.2.F ht⟩) hI.2.2.2.2 hdg hlocks
theorem g_zret {Q : Int32 → gS → Prop} {v : Int32} (hC : gC p c cc s m args own D cy ad A) (hr : meth.sig.returnType = some .boolean) (hlocks : meth.locks = false) (hz : gz v) (hI : gI D cy ad A s.heap σ H locs) (h : Q v σ) (hdg : decode cc pc = .ok (.ireturn, 1)) :
    W p l e R s m args below meth c H locs cells slots (MQ below (va_Qi Q (gB D cy ad A) A) args s cells slots A) (F0 m pc ls [.int v]) :=
  W.zret (v := v) hC.1 hC.2.1 hr hz (fun _ ht hW => ⟨⟨v, σ, rfl, h, hI.toB hC ht hW⟩, hI.2.2.F ht⟩) hI.2.2.2.2 hdg hlocks
theorem g_vret {Q : gS → Prop} (hC : gC p c cc s m args own D cy ad A) (hr : meth.sig.returnType = none) (hlocks : meth.locks = false) (hI : gI D cy ad A s.heap σ H locs) (h : Q σ) (hdg : decode cc pc = .ok (.return_, 1)) :
    W p l e R s m args below meth c H locs cells slots (MQ below (va_Qv Q (gB D cy ad A) A) args s cells slots A) (F0 m pc ls []) :=
  W.vret hC.1 hC.2.1 hr (fun _ ht hW => ⟨⟨σ, rfl, h, hI.toB hC ht hW⟩, hI.2.2.F ht⟩) hI.2.2.2.2 hdg hlocks
/-- what the tables say of an instance method that is called by its own class's name -/
def gCV (y : MethodName) (C : String) (bytes : ByteArray) (maxL : Nat) (ret : Option FieldType) (n : Nat) : Prop := Cond.instanceMethod y ∈ gG ∧ Cond.selects C y y ∈ gG ∧ Cond.initialized C ∈ gG ∧ Cond.code y bytes maxL ret ∈ gG ∧ y.cls = C ∧ (y.cls ≠ "java/lang/invoke/MethodHandle" ∧ y.cls ≠ "java/lang/invoke/VarHandle" ∧ (parseMethodDescriptor y.desc).map (fun d => d.parameters.length) = some n)
def gCS (y : MethodName) (bytes : ByteArray) (maxL : Nat) (ret : Option FieldType) (n : Nat) : Prop := Cond.static y ∈ gG ∧ Cond.initialized y.cls ∈ gG ∧ Cond.code y bytes maxL ret ∈ gG ∧ (y.cls ≠ "java/lang/invoke/MethodHandle" ∧ y.cls ≠ "java/lang/invoke/VarHandle" ∧ (parseMethodDescriptor y.desc).map (fun d => d.parameters.length) = some n)
variable {y : MethodName} {C : String} {bytes : ByteArray} {maxL n nL : Nat} {ret : Option FieldType} {rm : Room} {As st0 : List Value} {b : Nat}
theorem g_good (hc : Cond.code y bytes maxL ret ∈ gG) : GoodIn gG (Cond.code y bytes maxL ret :: gG) := fun w h => (List.mem_cons.mp h).elim (fun q => by rw [q]; exact ⟨hc, good_of_word (gG_good _ hc)⟩) (fun q => ⟨q, good_of_word (gG_good _ q)⟩)
theorem g_cb (hC : gC p c cc s m args own D cy ad A) (w1 : Cond.methodLink own index y ∈ gG) (hc : Cond.code y bytes maxL ret ∈ gG) (hi : Cond.initialized y.cls ∈ gG) (hd : y.cls ≠ "java/lang/invoke/MethodHandle" ∧ y.cls ≠ "java/lang/invoke/VarHandle" ∧ (parseMethodDescriptor y.desc).map (fun d => d.parameters.length) = some n) (hcz : rm.cells = 0 ∧ rm.slots = 0) (hR : rm.frames + 1 ≤ R.frames ∧ 8 + (maxL + 11) + rm.locals ≤ R.locals) :
    CallB R s args own index y bytes maxL ret (Cond.code y bytes maxL ret :: gG) rm 0 0 n :=
  callB_of n hC.2.2.1 (g_good hc) rfl hcz.1 hcz.2 (hC.2.2.1 _ hi) (hC.2.2.1 _ w1) hd hR
theorem g_runV {Qc : Array Value → State → Outcome → State → Prop} (hC : gC p c cc s m args own D cy ad A) (hml : c.maxLocals = nL) (hI : gI D cy ad A s.heap σ H locs) (hM : Met l y (Cond.code y bytes maxL ret :: gG) rm (va_Pc (.ref b :: As) (gB D cy ad A σ)) Qc 0 0 A) (hk : gCV y C bytes maxL ret n) (w1 : Cond.methodLink own index y ∈ gG) (hcz : rm.cells = 0 ∧ rm.slots = 0) (hR : rm.frames + 1 ≤ R.frames ∧ 8 + (maxL + 11) + rm.locals ≤ R.locals)
    (hv : ∃ cell : Cell, H[b]? = some cell ∧ cell.vm.isStatics = false ∧ s.vm.findClass C = some cell.cls) (hn : As.length = n) (hsize : ls.size = nL) (hst : st0 = As.reverse ++ .ref b :: rest) (hW : (rest.map fun v => v.category).sum ≤ 8) (hdg : decode cc pc = .ok (.invokevirtual index, 3)) (hcs : cells ≤ R.cells ∧ slots ≤ R.slots) :
    va_Run p l e R s m args below meth c H locs cells slots 0 0 (F0 m pc ls st0) rest (Qc (Value.ref b :: As).toArray) A := by
  subst hst
  obtain ⟨k1, k2, k3, k4, k5, k6⟩ := hk
  exact va_runV (C := C) ⟨hC.1, hC.2.1, hml, hC.2.2.2.1, hC.2.2.1⟩ hM ⟨g_cb hC w1 k4 (by rw [k5]; exact k3) k6 hcz hR, hC.2.2.1 _ k1, hC.2.2.1 _ k2⟩ ⟨gPc_blind, hv, fun U hU hw => ⟨rfl, hI.toB hC hU hw⟩⟩ rfl hn hsize rfl (lv_room hW) hdg hcs
theorem g_runS {Qc : Array Value → State → Outcome → State → Prop} (hC : gC p c cc s m args own D cy ad A) (hml : c.maxLocals = nL) (hI : gI D cy ad A s.heap σ H locs) (hM : Met l y (Cond.code y bytes maxL ret :: gG) rm (va_Pc As (gB D cy ad A σ)) Qc 0 0 A) (hk : gCS y bytes maxL ret n) (w1 : Cond.methodLink own index y ∈ gG) (hcz : rm.cells = 0 ∧ rm.slots = 0) (hR : rm.frames + 1 ≤ R.frames ∧ 8 + (maxL + 11) + rm.locals ≤ R.locals)
    (hn : As.length = n) (hsize : ls.size = nL) (hst : st0 = As.reverse ++ rest) (hW : (rest.map fun v => v.category).sum ≤ 8) (hdg : decode cc pc = .ok (.invokestatic index, 3)) (hcs : cells ≤ R.cells ∧ slots ≤ R.slots) :
    va_Run p l e R s m args below meth c H locs cells slots 0 0 (F0 m pc ls st0) rest (Qc As.toArray) A := by
  subst hst
  obtain ⟨k1, k2, k3, k4⟩ := hk
  exact va_runS ⟨hC.1, hC.2.1, hml, hC.2.2.2.1, hC.2.2.1⟩ hM ⟨g_cb hC w1 k3 k2 k4 hcz hR, hC.2.2.1 _ k1⟩ ⟨gPc_blind, fun U hU hw => ⟨rfl, hI.toB hC hU hw⟩⟩ rfl hn hsize rfl (lv_room hW) hdg hcs
theorem g_backi {Q : Int32 → gS → Prop} {a : Array Value} (hI : gI D cy ad A s.heap σ H locs) (hr : va_Run p l e R s m args below meth c H locs cells slots 0 0 (F0 m pc ls st0) rest (va_Qi Q (gB D cy ad A) A a) A)
    (kk : ∀ (r : Int32) (σ1 : gS) (H1 : Heap) (locs1 : List Loc), Q r σ1 → gI D cy ad A s.heap σ1 H1 locs1 → W p l e R s m args below meth c H1 locs1 cells slots Z (F0 m (pc + 3) ls (.int r :: rest))) : W p l e R s m args below meth c H locs cells slots Z (F0 m pc ls st0) :=
  va_calli hr hI.2.2 (fun _ _ h => h) (fun _ h => h) (fun r u _ H1 locs1 ht _ hp hb _ _ hS => kk r u H1 locs1 hp ⟨by rw [← ht]; exact hb.1, hb.2.2.1, hS⟩)
theorem g_backv {Q : gS → Prop} {a : Array Value} (hI : gI D cy ad A s.heap σ H locs) (hr : va_Run p l e R s m args below meth c H locs cells slots 0 0 (F0 m pc ls st0) rest (va_Qv Q (gB D cy ad A) A a) A)
    (kk : ∀ (σ1 : gS) (H1 : Heap) (locs1 : List Loc), Q σ1 → gI D cy ad A s.heap σ1 H1 locs1 → W p l e R s m args below meth c H1 locs1 cells slots Z (F0 m (pc + 3) ls rest)) : W p l e R s m args below meth c H locs cells slots Z (F0 m pc ls st0) :=
  va_callv hr hI.2.2 (fun _ _ h => h) (fun _ h => h) (fun u _ H1 locs1 ht _ hp hb _ _ hS => kk u H1 locs1 hp ⟨by rw [← ht]; exact hb.1, hb.2.2.1, hS⟩)
end GCALLS
