/-! ARRAYS BY A VARIABLE, AND System.arraycopy -/
section GMORE
variable {p : Program} {l : Launch} {e : Env} {R : Room} {s : State} {m : MethodId} {args : Array Value} {below : List Frame} {meth : Method} {c : Code} {H : Heap} {locs : List Loc} {cells slots : Nat} {Q : State → Prop} {cc : ByteArray} {pc : Nat} {ls : Array Slot} {rest : List Value} {D : va_G} {cy : Nat → ClassId} {ad : Nat → Nat} {A : Nat → Prop} {σ : gS} {own : String} {index : Nat}
def gArr (cy : Nat → ClassId) (ad : Nat → Nat) (ca ka na : Nat) : Prop := ∀ σ : gS, (gW cy ad σ)[ca]? = some (ad ca, .inl (cy 0, na, .inl (σ ka))) ∧ ∀ (i : Nat) (v : Int32), (gW cy ad σ).set ca (ad ca, .inl (cy 0, na, .inl (upd (σ ka) i v))) = gW cy ad (gu σ ka i v)
theorem gax {ca ka na : Nat} (ha : gArr cy ad ca ka na) (hC : gC p c cc s m args own D cy ad A) (hI : gI D cy ad A s.heap σ H locs) {i : Int32} (hin : vp_in i na) (hdg : decode cc pc = .ok (.iaload, 1)) (kk : W p l e R s m args below meth c H locs cells slots Q (F0 m (pc + 1) ls (.int (σ ka i.toNatClampNeg) :: rest))) : W p l e R s m args below meth c H locs cells slots Q (F0 m pc ls (.int i :: .ref (ad ca) :: rest)) :=
  va_iald hC.1 hC.2.1 hC.2.2.2.2.1 hI.1 ca 0 (ha σ).1 rfl hin hdg kk
theorem gsx {ca ka na : Nat} (ha : gArr cy ad ca ka na) (hC : gC p c cc s m args own D cy ad A) (hI : gI D cy ad A s.heap σ H locs) {i v : Int32} (hin : vp_in i na) (hdg : decode cc pc = .ok (.iastore, 1)) (kk : ∀ (σ1 : gS) (H1 : Heap) (locs1 : List Loc), σ1 = gu σ ka i.toNatClampNeg v → gI D cy ad A s.heap σ1 H1 locs1 → W p l e R s m args below meth c H1 locs1 cells slots Q (F0 m (pc + 1) ls rest)) : W p l e R s m args below meth c H locs cells slots Q (F0 m pc ls (.int v :: .int i :: .ref (ad ca) :: rest)) :=
  va_iast hC.1 hC.2.1 hC.2.2.2.2.1 hI.1 hI.2.1 hI.2.2 ca 0 (ha σ).1 rfl hin hdg (fun H1 locs1 hP hD hS => kk _ H1 locs1 rfl ⟨cast (congrArg (fun w => va_P D vwCl w H1) ((ha σ).2 _ _)) hP, cast (congrArg (fun w => va_D A w) ((ha σ).2 _ _)) hD, hS⟩)
theorem glx {ca ka na : Nat} (ha : gArr cy ad ca ka na) (hC : gC p c cc s m args own D cy ad A) (hI : gI D cy ad A s.heap σ H locs) (hdg : decode cc pc = .ok (.arraylength, 1)) (kk : W p l e R s m args below meth c H locs cells slots Q (F0 m (pc + 1) ls (.int (nI na) :: rest))) : W p l e R s m args below meth c H locs cells slots Q (F0 m pc ls (.ref (ad ca) :: rest)) :=
  va_alen hC.1 hC.2.1 hC.2.2.2.2.1 hI.1 ca 0 (ha σ).1 rfl rfl hdg kk
/-- the first n places of one row copied into another's -/
def gcp (σ : gS) (k0 k1 n : Nat) : gS := fun k => if k = k1 then va_cpy (σ k0) (σ k1) 0 0 n else σ k
end GMORE
/-! TEXTS: String's members over the constants -/
section GTEXT
variable {p : Program} {l : Launch} {e : Env} {R : Room} {s : State} {m : MethodId} {args : Array Value} {below : List Frame} {meth : Method} {c : Code} {H : Heap} {locs : List Loc} {cells slots : Nat} {Q : State → Prop} {cc : ByteArray} {pc : Nat} {ls : Array Slot} {rest : List Value} {D : va_G} {cy : Nat → ClassId} {ad : Nat → Nat} {A : Nat → Prop} {σ : gS} {own : String} {index : Nat}
theorem gC.Z (hC : gC p c cc s m args own D cy ad A) : gZ ad A s s.heap := hC.2.2.2.2.2.2
theorem gx_coder {i : Nat} (hi : i < 14) (hC : gC p c cc s m args own D cy ad A) (hI : gI D cy ad A s.heap σ H locs) (hL : Cond.fieldLink own index "java/lang/String" "coder" "B" ∈ gG) (hdg : decode cc pc = .ok (.getfield index, 3)) (kk : W p l e R s m args below meth c H locs cells slots Q (F0 m (pc + 3) ls (.int 0 :: rest))) : W p l e R s m args below meth c H locs cells slots Q (F0 m pc ls (.ref (ad (200 + i)) :: rest)) :=
  vk_getf hC.1 hC.2.1 (hC.Z.2.2.2.2.1 i hi).2.1 hI.2.2 hC.2.2.2.1 (hC.2.2.1 _ hL) (fun _ h => h) hdg kk
theorem gx_value {i : Nat} (hi : i < 14) (hC : gC p c cc s m args own D cy ad A) (hI : gI D cy ad A s.heap σ H locs) (hL : Cond.fieldLink own index "java/lang/String" "value" "[B" ∈ gG) (hdg : decode cc pc = .ok (.getfield index, 3)) (kk : W p l e R s m args below meth c H locs cells slots Q (F0 m (pc + 3) ls (.ref (ad (220 + i)) :: rest))) : W p l e R s m args below meth c H locs cells slots Q (F0 m pc ls (.ref (ad (200 + i)) :: rest)) :=
  vk_getf hC.1 hC.2.1 (hC.Z.2.2.2.2.1 i hi).2.2.1 hI.2.2 hC.2.2.2.1 (hC.2.2.1 _ hL) (fun _ h => h) hdg kk
theorem gx_compact (hC : gC p c cc s m args own D cy ad A) (hI : gI D cy ad A s.heap σ H locs) (hL : Cond.fieldLink own index "java/lang/String" "COMPACT_STRINGS" "Z" ∈ gG) (hdg : decode cc pc = .ok (.getstatic index, 3)) (kk : W p l e R s m args below meth c H locs cells slots Q (F0 m (pc + 3) ls (.int 1 :: rest))) : W p l e R s m args below meth c H locs cells slots Q (F0 m pc ls rest) :=
  va_gets hC.1 hC.2.1 hC.Z.2.2.1 hI.2.2 hC.2.2.2.1 (hC.2.2.1 _ hL) (fun _ h => h) hdg kk
theorem gx_form (hC : gC p c cc s m args own D cy ad A) (hI : gI D cy ad A s.heap σ H locs) (hL : Cond.fieldLink own index "jdk/internal/util/Preconditions" "SIOOBE_FORMATTER" "Ljava/util/function/BiFunction;" ∈ gG) (hdg : decode cc pc = .ok (.getstatic index, 3)) (k0 : W p l e R s m args below meth c H locs cells slots Q (F0 m (pc + 3) ls (.null :: rest))) (k1 : ∀ a : Nat, W p l e R s m args below meth c H locs cells slots Q (F0 m (pc + 3) ls (.ref a :: rest))) : W p l e R s m args below meth c H locs cells slots Q (F0 m pc ls rest) := by
  rcases hC.Z.2.2.2.1 with h | ⟨a, h⟩
  · exact va_gets hC.1 hC.2.1 h hI.2.2 hC.2.2.2.1 (hC.2.2.1 _ hL) (fun _ h => h) hdg k0
  · exact va_gets hC.1 hC.2.1 h hI.2.2 hC.2.2.2.1 (hC.2.2.1 _ hL) (fun _ h => h) hdg (k1 a)
theorem gx_len {i : Nat} (hi : i < 14) (hC : gC p c cc s m args own D cy ad A) (hI : gI D cy ad A s.heap σ H locs) (hdg : decode cc pc = .ok (.arraylength, 1)) (kk : W p l e R s m args below meth c H locs cells slots Q (F0 m (pc + 1) ls (.int (nI (gTn i)) :: rest))) : W p l e R s m args below meth c H locs cells slots Q (F0 m pc ls (.ref (ad (220 + i)) :: rest)) :=
  va_tlen hC.1 hC.2.1 (hC.Z.2.2.2.2.1 i hi).2.2.2 hI.2.2 rfl hdg kk
theorem gx_at {i : Nat} (hi : i < 14) (hC : gC p c cc s m args own D cy ad A) (hI : gI D cy ad A s.heap σ H locs) {x : Int32} (hin : vp_in x (gTn i)) (hdg : decode cc pc = .ok (.baload, 1)) (kk : W p l e R s m args below meth c H locs cells slots Q (F0 m (pc + 1) ls (.int (gTc i x.toNatClampNeg) :: rest))) : W p l e R s m args below meth c H locs cells slots Q (F0 m pc ls (.int x :: .ref (ad (220 + i)) :: rest)) :=
  va_tb hC.1 hC.2.1 (hC.Z.2.2.2.2.1 i hi).2.2.2 hI.2.2 hin rfl hdg kk
theorem gx_recv {i : Nat} (hi : i < 14) (hC : gC p c cc s m args own D cy ad A) (hI : gI D cy ad A s.heap σ H locs) : ∃ cell : Cell, H[ad (200 + i)]? = some cell ∧ cell.vm.isStatics = false ∧ s.vm.findClass "java/lang/String" = some cell.cls := by
  obtain ⟨cell, h1, h2, h3, -⟩ := (hC.Z.2.2.2.2.1 i hi).1.kept hI.2.2.2.1
  exact ⟨cell, h1, h2, h3⟩
theorem gx_ldc {tx : String} {i : Nat} (hq : (own, index, tx, i) ∈ gRl) (hC : gC p c cc s m args own D cy ad A) (hdg : decode cc pc = .ok (.ldc index, 2)) (kk : W p l e R s m args below meth c H locs cells slots Q (F0 m (pc + 2) ls (.ref (ad (200 + i)) :: rest))) : W p l e R s m args below meth c H locs cells slots Q (F0 m pc ls rest) :=
  va_ldcS hC.1 hC.2.1 hC.2.2.2.1 (hC.Z.2.2.2.2.2.1 _ hq) hdg kk
theorem gx_ldcw {tx : String} {i : Nat} (hq : (own, index, tx, i) ∈ gRl) (hC : gC p c cc s m args own D cy ad A) (hdg : decode cc pc = .ok (.ldc_w index, 3)) (kk : W p l e R s m args below meth c H locs cells slots Q (F0 m (pc + 3) ls (.ref (ad (200 + i)) :: rest))) : W p l e R s m args below meth c H locs cells slots Q (F0 m pc ls rest) := by
  intro T hT X
  obtain ⟨t, a1, b1⟩ := kk T hT X
  have hZ := hC.Z.2.2.2.2.2.1 _ hq
  exact ⟨t, X.ldcStringW hC.1 hC.2.2.2.1 (text := tx) (a := ad (200 + i)) hZ.1 hZ.2 (g := F0 m pc ls rest) rfl (by rw [hC.2.1]; exact hdg) t a1, b1⟩
/-- a char answer -/
def gc16 (v : Int32) : Prop := narrow .char (.int v) = .int v
theorem g_nret {ty : FieldType} {Q : Int32 → gS → Prop} {v : Int32} (hC : gC p c cc s m args own D cy ad A) (hr : meth.sig.returnType = some ty) (hlocks : meth.locks = false) (hz : narrow ty (.int v) = .int v) (hI : gI D cy ad A s.heap σ H locs) (h : Q v σ) (hdg : decode cc pc = .ok (.ireturn, 1)) :
    W p l e R s m args below meth c H locs cells slots (MQ below (va_Qi Q (gB D cy ad A) A) args s cells slots A) (F0 m pc ls [.int v]) :=
  W.zret (v := v) hC.1 hC.2.1 hr hz (fun _ ht hW => ⟨⟨v, σ, rfl, h, hI.toB hC ht hW⟩, hI.2.2.F ht⟩) hI.2.2.2.2 hdg hlocks
end GTEXT
