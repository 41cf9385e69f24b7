/-! ARRAYS BY A VARIABLE, AND System.arraycopy -/
section GMORE
variable {p : Program} {l : Launch} {e : Env} {R : Room} {s : State} {m : MethodId} {args : Array Value} {below : List Frame} {meth : Method} {c : Code} {H : Heap} {locs : List Loc} {cells slots : Nat} {Q : State → Prop} {cc : ByteArray} {pc : Nat} {ls : Array Slot} {rest : List Value} {D : va_G} {cy : Nat → ClassId} {ad : Nat → Nat} {A : Nat → Prop} {σ : gS} {own : String} {index : Nat}
def gArr (cy : Nat → ClassId) (ad : Nat → Nat) (ca ka na : Nat) : Prop := ∀ σ : gS, (gW cy ad σ)[ca]? = some (ad ca, .inl (cy 0, na, .inl (σ ka))) ∧ ∀ (i : Nat) (v : Int32), (gW cy ad σ).set ca (ad ca, .inl (cy 0, na, .inl (upd (σ ka) i v))) = gW cy ad (gu σ ka i v)
theorem gax {ca ka na : Nat} (ha : gArr cy ad ca ka na) (hC : gC p c cc s m args own D cy A) (hI : gI D cy ad A s.heap σ H locs) {i : Int32} (hin : vp_in i na) (hdg : decode cc pc = .ok (.iaload, 1)) (kk : W p l e R s m args below meth c H locs cells slots Q (F0 m (pc + 1) ls (.int (σ ka i.toNatClampNeg) :: rest))) : W p l e R s m args below meth c H locs cells slots Q (F0 m pc ls (.int i :: .ref (ad ca) :: rest)) :=
  va_iald hC.1 hC.2.1 hC.2.2.2.2.1 hI.1 ca 0 (ha σ).1 rfl hin hdg kk
theorem gsx {ca ka na : Nat} (ha : gArr cy ad ca ka na) (hC : gC p c cc s m args own D cy A) (hI : gI D cy ad A s.heap σ H locs) {i v : Int32} (hin : vp_in i na) (hdg : decode cc pc = .ok (.iastore, 1)) (kk : ∀ (σ1 : gS) (H1 : Heap) (locs1 : List Loc), σ1 = gu σ ka i.toNatClampNeg v → gI D cy ad A s.heap σ1 H1 locs1 → W p l e R s m args below meth c H1 locs1 cells slots Q (F0 m (pc + 1) ls rest)) : W p l e R s m args below meth c H locs cells slots Q (F0 m pc ls (.int v :: .int i :: .ref (ad ca) :: rest)) :=
  va_iast hC.1 hC.2.1 hC.2.2.2.2.1 hI.1 hI.2.1 hI.2.2 ca 0 (ha σ).1 rfl hin hdg (fun H1 locs1 hP hD hS => kk _ H1 locs1 rfl ⟨by rw [← (ha σ).2]; exact hP, by rw [← (ha σ).2]; exact hD, hS⟩)
theorem glx {ca ka na : Nat} (ha : gArr cy ad ca ka na) (hC : gC p c cc s m args own D cy A) (hI : gI D cy ad A s.heap σ H locs) (hdg : decode cc pc = .ok (.arraylength, 1)) (kk : W p l e R s m args below meth c H locs cells slots Q (F0 m (pc + 1) ls (.int (nI na) :: rest))) : W p l e R s m args below meth c H locs cells slots Q (F0 m pc ls (.ref (ad ca) :: rest)) :=
  va_alen hC.1 hC.2.1 hC.2.2.2.2.1 hI.1 ca 0 (ha σ).1 rfl rfl hdg kk
/-- the first n places of one row copied into another's -/
def gcp (σ : gS) (k0 k1 n : Nat) : gS := fun k => if k = k1 then va_cpy (σ k0) (σ k1) 0 0 n else σ k
end GMORE
