/-! THE CLAIM OUT OF ONE WALK OF THE LAW'S BODY. Your part is whole_start (and what it stands on); all else here is the same for every law, but numbers. -/
def R_law : String := "FestivalFieldsLaw"
def lw_P (b : Addr) (xs : List Int32) (args : Array Value) (s : State) : Prop := args = #[.ref b] ∧ s.IntsAt b xs ∧ xs.length ≤ 3072 ∧ (Jvm.Cond.and given_1 narrow_1).before args s = true
def lw_Q (_ : Array Value) (s : State) (o : Outcome) (t : State) : Prop := o = .returned (some (.int 1)) ∧ Framed s o t [] 601024 7293034
def lw_Z (below : List Frame) (a : Array Value) (s : State) : State → Prop := fun t => ∃ o, t.status = .running ∧ Ended t below o ∧ lw_Q a s o t
/-- the law's own end, with 1 on the stack, nothing written that was there before, its room as the claim has it -/
theorem lw_ret {p : Program} {l : Launch} {e : Env} {s : State} {m : MethodId} {below : List Frame} {meth : Method} {c : Code} {b : Nat} (hx : p.tables.exec = Jvm.exec) (hb : c.code = code) (hr : meth.sig.returnType = ret) (hlocks : meth.locks = false) {pc : Nat} {H : Heap} {ls : Array Slot} (hdg : decode code pc = .ok (.ireturn, 1)) : W p l e room_1 s m #[Value.ref b] below meth c H [] 601024 7293034 (lw_Z below #[Value.ref b] s) (F0 m pc ls [.int 1]) := by
  intro T hT X
  obtain ⟨fs, hret, hrun, hended, hW, hframe⟩ := X.leave (v := some (.int 1)) (hlocks := hlocks) (fun h => by rw [hr] at h; cases h)
  have hmeth' : T.vm.method? m = some meth := X.method'
  refine ⟨T.setFrames fs, ?_, .returned (some (.int 1)), hrun, hended, rfl, ⟨_, rfl⟩, hW, hframe⟩
  jvm_step X.here [X.here.top, hx, hb, hdg, hmeth', hr, ret, narrow_b1]
  (try refine ⟨rfl, ?_⟩); (try refine ⟨rfl, ?_⟩)
  first | (intro acts; rw [hret _ acts rfl rfl rfl]) | rw [hret _ _ rfl rfl rfl]
  exact Steps.refl _
/-- what holds at the law's entry: the machine, the code, the tables' words (any of lw_tbl by 'hts w (by decide +kernel)'), the script of L ints xs at the cell b, what the Statement gives of the start (any of its parts by flat_of_before) -/
def lw_At (p : Program) (s : State) (m : MethodId) (meth : Method) (c : Code) (b L : Nat) (xs : Nat → Int32) : Prop :=
  p.tables.exec = Jvm.exec ∧ c.code = code ∧ meth.sig.returnType = ret ∧ c.maxLocals = 7 ∧ s.vm.findClass R_law = some m.cls ∧ (∀ w ∈ lw_tbl, w.before #[Value.ref b] s = true) ∧ va_X b L xs s s.heap ∧ b < s.heap.size ∧ meth.locks = false ∧ (Jvm.Cond.and given_1 narrow_1).before #[Value.ref b] s = true
section LAWROWS
variable {p : Program} {l : Launch} {e : Env} {R : Room} {s : State} {m : MethodId} {args : Array Value} {below : List Frame} {meth : Method} {c : Code} {H : Heap} {locs : List Loc} {cells slots : Nat} {Z : State → Prop} {cc : ByteArray} {pc : Nat} {ls : Array Slot} {rest : List Value} {D : va_G} {cy : Nat → ClassId} {ad : Nat → Nat} {A : Nat → Prop} {σ : gS} {own : String} {index : Nat}
variable {y : MethodName} {bytes : ByteArray} {maxL n nL : Nat} {ret' : Option FieldType} {rm : Room} {As st0 : List Value} {mc1 ms1 : Nat} {hh : List (Nat × Nat × Nat × Nat)}
theorem gw_runS {Qc : Array Value → State → Outcome → State → Prop} (hC : gC p c cc s m args own D cy ad A) (hml : c.maxLocals = nL) (hI : gI D cy ad A s.heap σ H locs) (hM : Met l y (Cond.codeWith y bytes maxL ret' hh :: gG) rm (va_Pc As (gB D cy ad A σ)) Qc mc1 ms1 A) (hk : gCW y bytes maxL ret' hh n) (w1 : Cond.methodLink own index y ∈ gG) (hcz : rm.cells = mc1 ∧ rm.slots = ms1) (hR : rm.frames + 1 ≤ R.frames ∧ 8 + (maxL + 11) + rm.locals ≤ R.locals)
    (hn : As.length = n) (hsize : ls.size = nL) (hst : st0 = As.reverse ++ rest) (hW : (rest.map fun v => v.category).sum ≤ 8) (hdg : decode cc pc = .ok (.invokestatic index, 3)) (hcs : cells + mc1 ≤ R.cells ∧ slots + ms1 ≤ R.slots) :
    va_Run p l e R s m args below meth c H locs cells slots mc1 ms1 (F0 m pc ls st0) rest (Qc As.toArray) A := by
  subst hst
  obtain ⟨k1, k2, k3, k4⟩ := hk
  refine vx_runSW ⟨hC.1, hC.2.1, hml, hC.2.2.2.1, hC.2.2.1⟩ hM ⟨⟨hcz.1, hcz.2, hR.1, hR.2, pay_in hC.2.2.1 (g_goodW k3), List.mem_cons_self⟩, hC.2.2.1 _ k3, hC.2.2.1 _ k2, ⟨k4.1, k4.2.1⟩, fun sig h => ?_, hC.2.2.1 _ w1, hC.2.2.1 _ k1⟩ ⟨gPc_blind, fun U hU hw => ⟨rfl, hI.toB hC hU hw⟩⟩ rfl hn hsize rfl (lv_room hW) hdg hcs
  have h2 := k4.2.2
  rw [h] at h2
  exact (Option.some.inj h2).symm
theorem gw_backi {Q : Int32 → gS → Prop} {a : Array Value} (hI : gI D cy ad A s.heap σ H locs) (hr : va_Run p l e R s m args below meth c H locs cells slots mc1 ms1 (F0 m pc ls st0) rest (va_Qi Q (gB D cy ad A) A a) A)
    (kk : ∀ (r : Int32) (σ1 : gS) (H1 : Heap) (locs1 : List Loc), Q r σ1 → gI D cy ad A s.heap σ1 H1 locs1 → W p l e R s m args below meth c H1 locs1 (cells + mc1) (slots + ms1) Z (F0 m (pc + 3) ls (.int r :: rest))) : W p l e R s m args below meth c H locs cells slots Z (F0 m pc ls st0) :=
  va_calli hr hI.2.2 (fun _ _ h => h) (fun _ h => h) (fun r u _ H1 locs1 ht _ hp hb _ _ hS => kk r u H1 locs1 hp ⟨by rw [← ht]; exact hb.1, hb.2.2.1, hS⟩)
theorem lw_end {b : Nat} (hC : gC p c cL_law s m #[Value.ref b] own D cy ad A) (hr : meth.sig.returnType = ret) (hlocks : meth.locks = false) (hI : gI D cy ad A s.heap σ H locs) (hAs : ∀ q, A q → s.heap.size ≤ q) (hc : cells ≤ 601024) (hs : slots ≤ 7293034) (hdg : decode cL_law pc = .ok (.ireturn, 1)) :
    W p l e room_1 s m #[Value.ref b] below meth c H locs cells slots (lw_Z below #[Value.ref b] s) (F0 m pc ls [.int 1]) :=
  va_forget (fun q hq => hAs _ (hI.2.2.2.2 q hq)) (W.widen hc hs (lw_ret hC.1 hC.2.1 hr hlocks hdg))
end LAWROWS
