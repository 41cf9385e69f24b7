/-! THE LAW: printed by wip/gen/law.py -/
def w_L_law_160 (Q : Unit) (LN : Nat) (xs : Nat → Int32) (k23 : Int32 → gS → Prop) (x4 : Int32) (σ : gS) : Prop :=
    vp_in (x4 + 1) LN ∧ vp_in (x4 + 2) LN ∧ vp_in (x4 + 3) LN ∧ vp_in (x4 + 4) LN ∧ vp_in (x4 + 5) LN ∧ w_X8_feed  (fun (r103 : Int32) (s102 : gS) => vp_in (x4 + 1) LN ∧ vp_in (x4 + 2) LN ∧ vp_in (x4 + 3) LN ∧ vp_in (x4 + 4) LN ∧ vp_in (x4 + 5) LN ∧ w_X9_feed  (fun (r110 : Int32) (s109 : gS) => (r103 = r110 → ∀ y112 : Int32, y112 = x4 + 6 → k23 y112 s109) ∧ (¬ r103 = r110 → False)) s102 (xs (x4 + 1).toNatClampNeg) (xs (x4 + 2).toNatClampNeg) (xs (x4 + 3).toNatClampNeg) (xs (x4 + 4).toNatClampNeg) (xs (x4 + 5).toNatClampNeg)) σ (xs (x4 + 1).toNatClampNeg) (xs (x4 + 2).toNatClampNeg) (xs (x4 + 3).toNatClampNeg) (xs (x4 + 4).toNatClampNeg) (xs (x4 + 5).toNatClampNeg)
def w_L_law_233 (Q : Unit) (LN : Nat) (xs : Nat → Int32) (k23 : Int32 → gS → Prop) (x4 : Int32) (σ : gS) : Prop :=
    vp_in (x4 + 1) LN ∧ w_X8_end  (fun (r115 : Int32) (s114 : gS) => vp_in (x4 + 1) LN ∧ w_X9_end  (fun (r118 : Int32) (s117 : gS) => (r115 = r118 → ∀ y120 : Int32, y120 = x4 + 6 → k23 y120 s117) ∧ (¬ r115 = r118 → False)) s114 (xs (x4 + 1).toNatClampNeg)) σ (xs (x4 + 1).toNatClampNeg)
def w_L_law_306 (Q : Unit) (LN : Nat) (xs : Nat → Int32) (k23 : Int32 → gS → Prop) (x4 : Int32) (x5 : Int32) (v0 : Int32) (v1 : Int32) (σ : gS) : Prop :=
    w_X9_lane  (fun (r122 : Int32) (s121 : gS) => w_X9_thrown  (fun (r124 : Int32) (s123 : gS) => (r124 = x5 → (¬ x5 = 0 → ∀ y127 : Int32, y127 = x4 + 6 → k23 y127 s123) ∧ (x5 = 0 → (r122 = 0 → ((lg_cmp ((s123 110 (0 : Int32).toNatClampNeg).toInt64) (0 : Int64)) = 0 → ∀ y131 : Int32, y131 = x4 + 6 → k23 y131 s123) ∧ (¬ (lg_cmp ((s123 110 (0 : Int32).toNatClampNeg).toInt64) (0 : Int64)) = 0 → False)) ∧ (¬ r122 = 0 → ((lg_cmp ((s123 110 (0 : Int32).toNatClampNeg).toInt64) (1 : Int64)) = 0 → ∀ y133 : Int32, y133 = x4 + 6 → k23 y133 s123) ∧ (¬ (lg_cmp ((s123 110 (0 : Int32).toNatClampNeg).toInt64) (1 : Int64)) = 0 → False)))) ∧ (¬ r124 = x5 → False)) s121) σ v1 v0
def w_L_law_279 (Q : Unit) (LN : Nat) (xs : Nat → Int32) (k23 : Int32 → gS → Prop) (x4 : Int32) (v0 : Int32) (v1 : Int32) (σ : gS) : Prop :=
    w_L_lane  (fun (r135 : Int32) (s134 : gS) => vp_in (x4 + 1) LN ∧ vp_in (x4 + 2) LN ∧ ((xs (x4 + 2).toNatClampNeg) = 0 → w_L_law_306 Q LN xs k23 x4 r135 0 (xs (x4 + 1).toNatClampNeg) s134) ∧ (¬ (xs (x4 + 2).toNatClampNeg) = 0 → w_L_law_306 Q LN xs k23 x4 r135 1 (xs (x4 + 1).toNatClampNeg) s134)) σ v1 v0
def w_L_law_258 (Q : Unit) (LN : Nat) (xs : Nat → Int32) (k23 : Int32 → gS → Prop) (x4 : Int32) (σ : gS) : Prop :=
    vp_in (x4 + 1) LN ∧ vp_in (x4 + 2) LN ∧ ((xs (x4 + 2).toNatClampNeg) = 0 → w_L_law_279 Q LN xs k23 x4 0 (xs (x4 + 1).toNatClampNeg) σ) ∧ (¬ (xs (x4 + 2).toNatClampNeg) = 0 → w_L_law_279 Q LN xs k23 x4 1 (xs (x4 + 1).toNatClampNeg) σ)
def w_L_law_349 (Q : Unit) (LN : Nat) (xs : Nat → Int32) (k23 : Int32 → gS → Prop) (x4 : Int32) (σ : gS) : Prop :=
    vp_in (x4 + 1) LN ∧ w_L_gate  (fun (r144 : Int32) (s143 : gS) => vp_in (x4 + 1) LN ∧ w_X9_gate  (fun (s146 : gS) => w_X9_thrown  (fun (r149 : Int32) (s148 : gS) => (r149 = r144 → ∀ y151 : Int32, y151 = x4 + 6 → k23 y151 s148) ∧ (¬ r149 = r144 → False)) s146) s143 (xs (x4 + 1).toNatClampNeg)) σ (xs (x4 + 1).toNatClampNeg)
def w_L_law_385 (Q : Unit) (LN : Nat) (xs : Nat → Int32) (k23 : Int32 → gS → Prop) (x4 : Int32) (σ : gS) : Prop :=
    vp_in (x4 + 1) LN ∧ vp_in (x4 + 2) LN ∧ w_L_tent  (fun (r155 : Int32) (s154 : gS) => vp_in (x4 + 1) LN ∧ vp_in (x4 + 2) LN ∧ w_X9_tent  (fun (r159 : Int32) (s158 : gS) => w_X9_thrown  (fun (r161 : Int32) (s160 : gS) => (r161 = r155 → (¬ r155 = 0 → ∀ y164 : Int32, y164 = x4 + 6 → k23 y164 s160) ∧ (r155 = 0 → ((lg_cmp ((s160 110 (0 : Int32).toNatClampNeg).toInt64) (r159.toInt64)) = 0 → ∀ y167 : Int32, y167 = x4 + 6 → k23 y167 s160) ∧ (¬ (lg_cmp ((s160 110 (0 : Int32).toNatClampNeg).toInt64) (r159.toInt64)) = 0 → False))) ∧ (¬ r161 = r155 → False)) s158) s154 (xs (x4 + 1).toNatClampNeg) (xs (x4 + 2).toNatClampNeg)) σ (xs (x4 + 1).toNatClampNeg) (xs (x4 + 2).toNatClampNeg)
def w_L_law_453 (Q : Unit) (LN : Nat) (xs : Nat → Int32) (k23 : Int32 → gS → Prop) (x4 : Int32) (σ : gS) : Prop :=
    vp_in (x4 + 1) LN ∧ w_L_strike  (fun (r170 : Int32) (s169 : gS) => vp_in (x4 + 1) LN ∧ w_X9_strike  (fun (r173 : Int32) (s172 : gS) => w_X9_thrown  (fun (r175 : Int32) (s174 : gS) => (r175 = r170 → (¬ r170 = 0 → ∀ y178 : Int32, y178 = x4 + 6 → k23 y178 s174) ∧ (r170 = 0 → (r173 = 0 → ((lg_cmp ((s174 110 (0 : Int32).toNatClampNeg).toInt64) (0 : Int64)) = 0 → ∀ y182 : Int32, y182 = x4 + 6 → k23 y182 s174) ∧ (¬ (lg_cmp ((s174 110 (0 : Int32).toNatClampNeg).toInt64) (0 : Int64)) = 0 → False)) ∧ (¬ r173 = 0 → ((lg_cmp ((s174 110 (0 : Int32).toNatClampNeg).toInt64) (1 : Int64)) = 0 → ∀ y184 : Int32, y184 = x4 + 6 → k23 y184 s174) ∧ (¬ (lg_cmp ((s174 110 (0 : Int32).toNatClampNeg).toInt64) (1 : Int64)) = 0 → False)))) ∧ (¬ r175 = r170 → False)) s172) s169 (xs (x4 + 1).toNatClampNeg)) σ (xs (x4 + 1).toNatClampNeg)
def w_L_law_516 (Q : Unit) (LN : Nat) (xs : Nat → Int32) (k23 : Int32 → gS → Prop) (x4 : Int32) (σ : gS) : Prop :=
    vp_in (x4 + 1) LN ∧ w_L_at  (fun (r187 : Int32) (s186 : gS) => vp_in (x4 + 1) LN ∧ w_X9_at  (fun (r190 : Int32) (s189 : gS) => w_X9_thrown  (fun (r192 : Int32) (s191 : gS) => (r192 = r187 → (¬ r187 = 0 → ∀ y195 : Int32, y195 = x4 + 6 → k23 y195 s191) ∧ (r187 = 0 → ((lg_cmp ((s191 110 (0 : Int32).toNatClampNeg).toInt64) (r190.toInt64)) = 0 → ∀ y198 : Int32, y198 = x4 + 6 → k23 y198 s191) ∧ (¬ (lg_cmp ((s191 110 (0 : Int32).toNatClampNeg).toInt64) (r190.toInt64)) = 0 → False))) ∧ (¬ r192 = r187 → False)) s189) s186 (xs (x4 + 1).toNatClampNeg)) σ (xs (x4 + 1).toNatClampNeg)
def w_L_law_572 (Q : Unit) (LN : Nat) (xs : Nat → Int32) (k23 : Int32 → gS → Prop) (x4 : Int32) (σ : gS) : Prop :=
    vp_in (x4 + 1) LN ∧ vp_in (x4 + 2) LN ∧ w_L_place  (fun (r202 : Int32) (s201 : gS) => vp_in (x4 + 1) LN ∧ vp_in (x4 + 2) LN ∧ w_X9_place  (fun (r206 : Int32) (s205 : gS) => w_X9_thrown  (fun (r208 : Int32) (s207 : gS) => (r208 = r202 → (¬ r202 = 0 → ∀ y211 : Int32, y211 = x4 + 6 → k23 y211 s207) ∧ (r202 = 0 → ((lg_cmp ((s207 110 (0 : Int32).toNatClampNeg).toInt64) (r206.toInt64)) = 0 → ∀ y214 : Int32, y214 = x4 + 6 → k23 y214 s207) ∧ (¬ (lg_cmp ((s207 110 (0 : Int32).toNatClampNeg).toInt64) (r206.toInt64)) = 0 → False))) ∧ (¬ r208 = r202 → False)) s205) s201 (xs (x4 + 1).toNatClampNeg) (xs (x4 + 2).toNatClampNeg)) σ (xs (x4 + 1).toNatClampNeg) (xs (x4 + 2).toNatClampNeg)
def w_L_law_640 (Q : Unit) (LN : Nat) (xs : Nat → Int32) (k23 : Int32 → gS → Prop) (x4 : Int32) (σ : gS) : Prop :=
    vp_in (x4 + 1) LN ∧ vp_in (x4 + 2) LN ∧ w_L_crowd  (fun (r218 : Int32) (s217 : gS) => vp_in (x4 + 1) LN ∧ vp_in (x4 + 2) LN ∧ w_X9_crowd  (fun (s221 : gS) => w_X9_thrown  (fun (r224 : Int32) (s223 : gS) => (r224 = r218 → ∀ y226 : Int32, y226 = x4 + 6 → k23 y226 s223) ∧ (¬ r224 = r218 → False)) s221) s217 (xs (x4 + 1).toNatClampNeg) (xs (x4 + 2).toNatClampNeg)) σ (xs (x4 + 1).toNatClampNeg) (xs (x4 + 2).toNatClampNeg)
def w_L_law_736 (Q : Unit) (LN : Nat) (xs : Nat → Int32) (k23 : Int32 → gS → Prop) (x4 : Int32) (x5 : Int32) (v0 : Int32) (v1 : Int32) (σ : gS) : Prop :=
    w_X9_shut  (fun (r228 : Int32) (s227 : gS) => w_X9_thrown  (fun (r230 : Int32) (s229 : gS) => (r230 = x5 → (¬ x5 = 0 → ∀ y233 : Int32, y233 = x4 + 6 → k23 y233 s229) ∧ (x5 = 0 → (r228 = 0 → ((lg_cmp ((s229 110 (0 : Int32).toNatClampNeg).toInt64) (0 : Int64)) = 0 → ∀ y237 : Int32, y237 = x4 + 6 → k23 y237 s229) ∧ (¬ (lg_cmp ((s229 110 (0 : Int32).toNatClampNeg).toInt64) (0 : Int64)) = 0 → False)) ∧ (¬ r228 = 0 → ((lg_cmp ((s229 110 (0 : Int32).toNatClampNeg).toInt64) (1 : Int64)) = 0 → ∀ y239 : Int32, y239 = x4 + 6 → k23 y239 s229) ∧ (¬ (lg_cmp ((s229 110 (0 : Int32).toNatClampNeg).toInt64) (1 : Int64)) = 0 → False)))) ∧ (¬ r230 = x5 → False)) s227) σ v1 v0
def w_L_law_709 (Q : Unit) (LN : Nat) (xs : Nat → Int32) (k23 : Int32 → gS → Prop) (x4 : Int32) (v0 : Int32) (v1 : Int32) (σ : gS) : Prop :=
    w_L_shut  (fun (r241 : Int32) (s240 : gS) => vp_in (x4 + 1) LN ∧ vp_in (x4 + 2) LN ∧ ((xs (x4 + 2).toNatClampNeg) = 0 → w_L_law_736 Q LN xs k23 x4 r241 0 (xs (x4 + 1).toNatClampNeg) s240) ∧ (¬ (xs (x4 + 2).toNatClampNeg) = 0 → w_L_law_736 Q LN xs k23 x4 r241 1 (xs (x4 + 1).toNatClampNeg) s240)) σ v1 v0
def w_L_law_688 (Q : Unit) (LN : Nat) (xs : Nat → Int32) (k23 : Int32 → gS → Prop) (x4 : Int32) (σ : gS) : Prop :=
    vp_in (x4 + 1) LN ∧ vp_in (x4 + 2) LN ∧ ((xs (x4 + 2).toNatClampNeg) = 0 → w_L_law_709 Q LN xs k23 x4 0 (xs (x4 + 1).toNatClampNeg) σ) ∧ (¬ (xs (x4 + 2).toNatClampNeg) = 0 → w_L_law_709 Q LN xs k23 x4 1 (xs (x4 + 1).toNatClampNeg) σ)
def w_L_law_779 (Q : Unit) (LN : Nat) (xs : Nat → Int32) (k23 : Int32 → gS → Prop) (x4 : Int32) (σ : gS) : Prop :=
    vp_in (x4 + 1) LN ∧ vp_in (x4 + 2) LN ∧ vp_in (x4 + 3) LN ∧ vp_in (x4 + 4) LN ∧ w_L_way  (fun (r253 : Int32) (s252 : gS) => vp_in (x4 + 1) LN ∧ vp_in (x4 + 2) LN ∧ vp_in (x4 + 3) LN ∧ vp_in (x4 + 4) LN ∧ w_X9_way  (fun (r259 : Int32) (s258 : gS) => w_X9_thrown  (fun (r261 : Int32) (s260 : gS) => (r261 = r253 → (¬ r253 = 0 → ∀ y264 : Int32, y264 = x4 + 6 → k23 y264 s260) ∧ (r253 = 0 → ((lg_cmp ((s260 110 (0 : Int32).toNatClampNeg).toInt64) (r259.toInt64)) = 0 → ∀ y267 : Int32, y267 = x4 + 6 → k23 y267 s260) ∧ (¬ (lg_cmp ((s260 110 (0 : Int32).toNatClampNeg).toInt64) (r259.toInt64)) = 0 → False))) ∧ (¬ r261 = r253 → False)) s258) s252 (xs (x4 + 1).toNatClampNeg) (xs (x4 + 2).toNatClampNeg) (xs (x4 + 3).toNatClampNeg) (xs (x4 + 4).toNatClampNeg)) σ (xs (x4 + 1).toNatClampNeg) (xs (x4 + 2).toNatClampNeg) (xs (x4 + 3).toNatClampNeg) (xs (x4 + 4).toNatClampNeg)
def w_L_law_871 (Q : Unit) (LN : Nat) (xs : Nat → Int32) (k23 : Int32 → gS → Prop) (x4 : Int32) (σ : gS) : Prop :=
    w_X8_empty  (fun (r269 : Int32) (s268 : gS) => w_X9_empty  (fun (r271 : Int32) (s270 : gS) => (r269 = r271 → ∀ y273 : Int32, y273 = x4 + 6 → k23 y273 s270) ∧ (¬ r269 = r271 → False)) s268) σ
def w_L_law_884 (Q : Unit) (LN : Nat) (xs : Nat → Int32) (k23 : Int32 → gS → Prop) (x4 : Int32) (σ : gS) : Prop :=
    w_X8_worst  (fun (r275 : Int32) (s274 : gS) => w_X9_worst  (fun (r277 : Int32) (s276 : gS) => (r275 = r277 → ∀ y279 : Int32, y279 = x4 + 6 → k23 y279 s276) ∧ (¬ r275 = r277 → False)) s274) σ
def w_L_law_957 (Q : Unit) (LN : Nat) (xs : Nat → Int32) (k23 : Int32 → gS → Prop) (x4 : Int32) (x5 : Int32) (v0 : Int32) (v1 : Int32) (σ : gS) : Prop :=
    vp_in (x4 + 3) LN ∧ vp_in (x4 + 4) LN ∧ w_X9_act  (fun (r283 : Int32) (s282 : gS) => w_X9_thrown  (fun (r285 : Int32) (s284 : gS) => (r285 = x5 → (¬ x5 = 0 → ∀ y288 : Int32, y288 = x4 + 6 → k23 y288 s284) ∧ (x5 = 0 → ((lg_cmp ((s284 110 (0 : Int32).toNatClampNeg).toInt64) (r283.toInt64)) = 0 → ∀ y291 : Int32, y291 = x4 + 6 → k23 y291 s284) ∧ (¬ (lg_cmp ((s284 110 (0 : Int32).toNatClampNeg).toInt64) (r283.toInt64)) = 0 → False))) ∧ (¬ r285 = x5 → False)) s282) σ v1 v0 (xs (x4 + 3).toNatClampNeg) (xs (x4 + 4).toNatClampNeg)
def w_L_law_918 (Q : Unit) (LN : Nat) (xs : Nat → Int32) (k23 : Int32 → gS → Prop) (x4 : Int32) (v0 : Int32) (v1 : Int32) (σ : gS) : Prop :=
    vp_in (x4 + 3) LN ∧ vp_in (x4 + 4) LN ∧ w_L_act  (fun (r295 : Int32) (s294 : gS) => vp_in (x4 + 1) LN ∧ vp_in (x4 + 2) LN ∧ ((xs (x4 + 2).toNatClampNeg) = 0 → w_L_law_957 Q LN xs k23 x4 r295 0 (xs (x4 + 1).toNatClampNeg) s294) ∧ (¬ (xs (x4 + 2).toNatClampNeg) = 0 → w_L_law_957 Q LN xs k23 x4 r295 1 (xs (x4 + 1).toNatClampNeg) s294)) σ v1 v0 (xs (x4 + 3).toNatClampNeg) (xs (x4 + 4).toNatClampNeg)
def w_L_law_897 (Q : Unit) (LN : Nat) (xs : Nat → Int32) (k23 : Int32 → gS → Prop) (x4 : Int32) (σ : gS) : Prop :=
    vp_in (x4 + 1) LN ∧ vp_in (x4 + 2) LN ∧ ((xs (x4 + 2).toNatClampNeg) = 0 → w_L_law_918 Q LN xs k23 x4 0 (xs (x4 + 1).toNatClampNeg) σ) ∧ (¬ (xs (x4 + 2).toNatClampNeg) = 0 → w_L_law_918 Q LN xs k23 x4 1 (xs (x4 + 1).toNatClampNeg) σ)
def w_L_law_1005 (Q : Unit) (LN : Nat) (xs : Nat → Int32) (k23 : Int32 → gS → Prop) (x4 : Int32) (σ : gS) : Prop :=
    w_X8_tooMany  (fun (r303 : Int32) (s302 : gS) => w_X9_tooMany  (fun (r305 : Int32) (s304 : gS) => (r303 = r305 → ∀ y307 : Int32, y307 = x4 + 6 → k23 y307 s304) ∧ (¬ r303 = r305 → False)) s302) σ
def w_L_law_1018 (Q : Unit) (LN : Nat) (xs : Nat → Int32) (k23 : Int32 → gS → Prop) (x4 : Int32) (σ : gS) : Prop :=
    vp_in (x4 + 1) LN ∧ w_L_shift  (fun (r310 : Int32) (s309 : gS) => vp_in (x4 + 1) LN ∧ w_X9_shift  (fun (r313 : Int32) (s312 : gS) => w_X9_thrown  (fun (r315 : Int32) (s314 : gS) => (r315 = r310 → (¬ r310 = 0 → ∀ y318 : Int32, y318 = x4 + 6 → k23 y318 s314) ∧ (r310 = 0 → ((lg_cmp ((s314 110 (0 : Int32).toNatClampNeg).toInt64) (r313.toInt64)) = 0 → ∀ y321 : Int32, y321 = x4 + 6 → k23 y321 s314) ∧ (¬ (lg_cmp ((s314 110 (0 : Int32).toNatClampNeg).toInt64) (r313.toInt64)) = 0 → False))) ∧ (¬ r315 = r310 → False)) s312) s309 (xs (x4 + 1).toNatClampNeg)) σ (xs (x4 + 1).toNatClampNeg)
def w_L_law_1074 (Q : Unit) (LN : Nat) (xs : Nat → Int32) (k23 : Int32 → gS → Prop) (x4 : Int32) (σ : gS) : Prop :=
    w_X8_forget  (fun (r323 : Int32) (s322 : gS) => w_X9_forget  (fun (r325 : Int32) (s324 : gS) => (r323 = r325 → ∀ y327 : Int32, y327 = x4 + 6 → k23 y327 s324) ∧ (¬ r323 = r325 → False)) s322) σ
def w_L_law_1087 (Q : Unit) (LN : Nat) (xs : Nat → Int32) (k23 : Int32 → gS → Prop) (x4 : Int32) (σ : gS) : Prop :=
    vp_in (x4 + 1) LN ∧ w_L_minutes  (fun (r330 : Int32) (s329 : gS) => vp_in (x4 + 1) LN ∧ w_X9_minutes  (fun (r333 : Int32) (s332 : gS) => w_X9_thrown  (fun (r335 : Int32) (s334 : gS) => (r335 = r330 → (¬ r330 = 0 → ∀ y338 : Int32, y338 = x4 + 6 → k23 y338 s334) ∧ (r330 = 0 → ((lg_cmp ((s334 110 (0 : Int32).toNatClampNeg).toInt64) (r333.toInt64)) = 0 → ∀ y341 : Int32, y341 = x4 + 6 → k23 y341 s334) ∧ (¬ (lg_cmp ((s334 110 (0 : Int32).toNatClampNeg).toInt64) (r333.toInt64)) = 0 → False))) ∧ (¬ r335 = r330 → False)) s332) s329 (xs (x4 + 1).toNatClampNeg)) σ (xs (x4 + 1).toNatClampNeg)
def w_L_law_1197 (Q : Unit) (LN : Nat) (xs : Nat → Int32) (k23 : Int32 → gS → Prop) (x4 : Int32) (x5 : Int32) (v0 : Int32) (v1 : Int32) (σ : gS) : Prop :=
    vp_in (x4 + 3) LN ∧ w_X9_pass  (fun (r344 : Int32) (s343 : gS) => w_X9_thrown  (fun (r346 : Int32) (s345 : gS) => (r346 = x5 → (¬ x5 = 0 → ∀ y349 : Int32, y349 = x4 + 6 → k23 y349 s345) ∧ (x5 = 0 → ((lg_cmp ((s345 110 (0 : Int32).toNatClampNeg).toInt64) (r344.toInt64)) = 0 → ∀ y352 : Int32, y352 = x4 + 6 → k23 y352 s345) ∧ (¬ (lg_cmp ((s345 110 (0 : Int32).toNatClampNeg).toInt64) (r344.toInt64)) = 0 → False))) ∧ (¬ r346 = x5 → False)) s343) σ v1 v0 (xs (x4 + 3).toNatClampNeg)
def w_L_law_1164 (Q : Unit) (LN : Nat) (xs : Nat → Int32) (k23 : Int32 → gS → Prop) (x4 : Int32) (v0 : Int32) (v1 : Int32) (σ : gS) : Prop :=
    vp_in (x4 + 3) LN ∧ w_L_pass  (fun (r355 : Int32) (s354 : gS) => vp_in (x4 + 1) LN ∧ vp_in (x4 + 2) LN ∧ ((xs (x4 + 2).toNatClampNeg) = 0 → w_L_law_1197 Q LN xs k23 x4 r355 0 (xs (x4 + 1).toNatClampNeg) s354) ∧ (¬ (xs (x4 + 2).toNatClampNeg) = 0 → w_L_law_1197 Q LN xs k23 x4 r355 1 (xs (x4 + 1).toNatClampNeg) s354)) σ v1 v0 (xs (x4 + 3).toNatClampNeg)
def w_L_law_1143 (Q : Unit) (LN : Nat) (xs : Nat → Int32) (k23 : Int32 → gS → Prop) (x4 : Int32) (σ : gS) : Prop :=
    vp_in (x4 + 1) LN ∧ vp_in (x4 + 2) LN ∧ ((xs (x4 + 2).toNatClampNeg) = 0 → w_L_law_1164 Q LN xs k23 x4 0 (xs (x4 + 1).toNatClampNeg) σ) ∧ (¬ (xs (x4 + 2).toNatClampNeg) = 0 → w_L_law_1164 Q LN xs k23 x4 1 (xs (x4 + 1).toNatClampNeg) σ)
def w_L_law_1239 (Q : Unit) (LN : Nat) (xs : Nat → Int32) (k23 : Int32 → gS → Prop) (x4 : Int32) (σ : gS) : Prop :=
    vp_in (x4 + 1) LN ∧ vp_in (x4 + 2) LN ∧ vp_in (x4 + 3) LN ∧ w_L_inside  (fun (r366 : Int32) (s365 : gS) => vp_in (x4 + 1) LN ∧ vp_in (x4 + 2) LN ∧ vp_in (x4 + 3) LN ∧ w_X9_inside  (fun (r371 : Int32) (s370 : gS) => w_X9_thrown  (fun (r373 : Int32) (s372 : gS) => (r373 = r366 → (¬ r366 = 0 → ∀ y376 : Int32, y376 = x4 + 6 → k23 y376 s372) ∧ (r366 = 0 → (r371 = 0 → ((lg_cmp ((s372 110 (0 : Int32).toNatClampNeg).toInt64) (0 : Int64)) = 0 → ∀ y380 : Int32, y380 = x4 + 6 → k23 y380 s372) ∧ (¬ (lg_cmp ((s372 110 (0 : Int32).toNatClampNeg).toInt64) (0 : Int64)) = 0 → False)) ∧ (¬ r371 = 0 → ((lg_cmp ((s372 110 (0 : Int32).toNatClampNeg).toInt64) (1 : Int64)) = 0 → ∀ y382 : Int32, y382 = x4 + 6 → k23 y382 s372) ∧ (¬ (lg_cmp ((s372 110 (0 : Int32).toNatClampNeg).toInt64) (1 : Int64)) = 0 → False)))) ∧ (¬ r373 = r366 → False)) s370) s365 (xs (x4 + 1).toNatClampNeg) (xs (x4 + 2).toNatClampNeg) (xs (x4 + 3).toNatClampNeg)) σ (xs (x4 + 1).toNatClampNeg) (xs (x4 + 2).toNatClampNeg) (xs (x4 + 3).toNatClampNeg)
def w_L_law_1371 (Q : Unit) (LN : Nat) (xs : Nat → Int32) (k23 : Int32 → gS → Prop) (x4 : Int32) (v0 : Int32) (v2 : Int32) (σ : gS) : Prop :=
    vp_in (x4 + 2) LN ∧ vp_in (x4 + 3) LN ∧ w_X9_within  (fun (r386 : Int32) (s385 : gS) => (v2 = r386 → ∀ y388 : Int32, y388 = x4 + 6 → k23 y388 s385) ∧ (¬ v2 = r386 → False)) σ v0 (xs (x4 + 2).toNatClampNeg) (xs (x4 + 3).toNatClampNeg)
def w_L_law_1341 (Q : Unit) (LN : Nat) (xs : Nat → Int32) (k23 : Int32 → gS → Prop) (x4 : Int32) (v0 : Int32) (σ : gS) : Prop :=
    vp_in (x4 + 2) LN ∧ vp_in (x4 + 3) LN ∧ w_X8_within  (fun (r392 : Int32) (s391 : gS) => vp_in (x4 + 1) LN ∧ ((xs (x4 + 1).toNatClampNeg) = 0 → w_L_law_1371 Q LN xs k23 x4 0 r392 s391) ∧ (¬ (xs (x4 + 1).toNatClampNeg) = 0 → w_L_law_1371 Q LN xs k23 x4 1 r392 s391)) σ v0 (xs (x4 + 2).toNatClampNeg) (xs (x4 + 3).toNatClampNeg)
def w_L_law_1326 (Q : Unit) (LN : Nat) (xs : Nat → Int32) (k23 : Int32 → gS → Prop) (x4 : Int32) (σ : gS) : Prop :=
    vp_in (x4 + 1) LN ∧ ((xs (x4 + 1).toNatClampNeg) = 0 → w_L_law_1341 Q LN xs k23 x4 0 σ) ∧ (¬ (xs (x4 + 1).toNatClampNeg) = 0 → w_L_law_1341 Q LN xs k23 x4 1 σ)
def w_L_law_1391 (Q : Unit) (LN : Nat) (xs : Nat → Int32) (k23 : Int32 → gS → Prop) (x4 : Int32) (σ : gS) : Prop :=
    vp_in (x4 + 1) LN ∧ vp_in (x4 + 2) LN ∧ w_L_noise  (fun (r400 : Int32) (s399 : gS) => vp_in (x4 + 1) LN ∧ vp_in (x4 + 2) LN ∧ w_X9_noise  (fun (s403 : gS) => w_X9_thrown  (fun (r406 : Int32) (s405 : gS) => (r406 = r400 → ∀ y408 : Int32, y408 = x4 + 6 → k23 y408 s405) ∧ (¬ r406 = r400 → False)) s403) s399 (xs (x4 + 1).toNatClampNeg) (xs (x4 + 2).toNatClampNeg)) σ (xs (x4 + 1).toNatClampNeg) (xs (x4 + 2).toNatClampNeg)
def w_L_law_1439 (Q : Unit) (LN : Nat) (xs : Nat → Int32) (k23 : Int32 → gS → Prop) (x4 : Int32) (σ : gS) : Prop :=
    w_L_licence  (fun (r410 : Int32) (s409 : gS) => w_X9_licence  (fun (r412 : Int32) (s411 : gS) => w_X9_thrown  (fun (r414 : Int32) (s413 : gS) => (r414 = r410 → (¬ r410 = 0 → ∀ y417 : Int32, y417 = x4 + 6 → k23 y417 s413) ∧ (r410 = 0 → ((lg_cmp ((s413 110 (0 : Int32).toNatClampNeg).toInt64) (r412.toInt64)) = 0 → ∀ y420 : Int32, y420 = x4 + 6 → k23 y420 s413) ∧ (¬ (lg_cmp ((s413 110 (0 : Int32).toNatClampNeg).toInt64) (r412.toInt64)) = 0 → False))) ∧ (¬ r414 = r410 → False)) s411) s409) σ
def w_L_law_1483 (Q : Unit) (LN : Nat) (xs : Nat → Int32) (k23 : Int32 → gS → Prop) (x4 : Int32) (σ : gS) : Prop :=
    w_X8_fault  (fun (r422 : Int32) (s421 : gS) => w_X9_fault  (fun (r424 : Int32) (s423 : gS) => (r422 = r424 → ∀ y426 : Int32, y426 = x4 + 6 → k23 y426 s423) ∧ (¬ r422 = r424 → False)) s421) σ
def w_L_law_1496 (Q : Unit) (LN : Nat) (xs : Nat → Int32) (k23 : Int32 → gS → Prop) (x4 : Int32) (σ : gS) : Prop :=
    w_X8_broken  (fun (r428 : Int32) (s427 : gS) => w_X9_broken  (fun (r430 : Int32) (s429 : gS) => (r428 = r430 → ∀ y432 : Int32, y432 = x4 + 6 → k23 y432 s429) ∧ (¬ r428 = r430 → False)) s427) σ
def w_L_law_1509 (Q : Unit) (LN : Nat) (xs : Nat → Int32) (k23 : Int32 → gS → Prop) (x4 : Int32) (σ : gS) : Prop :=
    vp_in (x4 + 1) LN ∧ w_X8_count  (fun (r435 : Int32) (s434 : gS) => vp_in (x4 + 1) LN ∧ w_X9_count  (fun (r438 : Int32) (s437 : gS) => (r435 = r438 → ∀ y440 : Int32, y440 = x4 + 6 → k23 y440 s437) ∧ (¬ r435 = r438 → False)) s434 (xs (x4 + 1).toNatClampNeg)) σ (xs (x4 + 1).toNatClampNeg)
def w_L_law_23 (Q : Unit) (LN : Nat) (xs : Nat → Int32) : Nat → Int32 → gS → Prop
  | 0, _, _ => False
  | n23 + 1, x4, σ =>
    (((Int32.ofNat LN) - 6) < x4 → True) ∧ (¬ ((Int32.ofNat LN) - 6) < x4 → vp_in x4 LN ∧ (((xs x4.toNatClampNeg) &&& 31) = 0 → w_L_law_160 Q LN xs (w_L_law_23 Q LN xs n23) x4 σ) ∧ (¬ ((xs x4.toNatClampNeg) &&& 31) = 0 → (((xs x4.toNatClampNeg) &&& 31) = 1 → w_L_law_233 Q LN xs (w_L_law_23 Q LN xs n23) x4 σ) ∧ (¬ ((xs x4.toNatClampNeg) &&& 31) = 1 → (((xs x4.toNatClampNeg) &&& 31) = 2 → w_L_law_258 Q LN xs (w_L_law_23 Q LN xs n23) x4 σ) ∧ (¬ ((xs x4.toNatClampNeg) &&& 31) = 2 → (((xs x4.toNatClampNeg) &&& 31) = 3 → w_L_law_349 Q LN xs (w_L_law_23 Q LN xs n23) x4 σ) ∧ (¬ ((xs x4.toNatClampNeg) &&& 31) = 3 → (((xs x4.toNatClampNeg) &&& 31) = 4 → w_L_law_385 Q LN xs (w_L_law_23 Q LN xs n23) x4 σ) ∧ (¬ ((xs x4.toNatClampNeg) &&& 31) = 4 → (((xs x4.toNatClampNeg) &&& 31) = 5 → w_L_law_453 Q LN xs (w_L_law_23 Q LN xs n23) x4 σ) ∧ (¬ ((xs x4.toNatClampNeg) &&& 31) = 5 → (((xs x4.toNatClampNeg) &&& 31) = 6 → w_L_law_516 Q LN xs (w_L_law_23 Q LN xs n23) x4 σ) ∧ (¬ ((xs x4.toNatClampNeg) &&& 31) = 6 → (((xs x4.toNatClampNeg) &&& 31) = 7 → w_L_law_572 Q LN xs (w_L_law_23 Q LN xs n23) x4 σ) ∧ (¬ ((xs x4.toNatClampNeg) &&& 31) = 7 → (((xs x4.toNatClampNeg) &&& 31) = 8 → w_L_law_640 Q LN xs (w_L_law_23 Q LN xs n23) x4 σ) ∧ (¬ ((xs x4.toNatClampNeg) &&& 31) = 8 → (((xs x4.toNatClampNeg) &&& 31) = 9 → w_L_law_688 Q LN xs (w_L_law_23 Q LN xs n23) x4 σ) ∧ (¬ ((xs x4.toNatClampNeg) &&& 31) = 9 → (((xs x4.toNatClampNeg) &&& 31) = 10 → w_L_law_779 Q LN xs (w_L_law_23 Q LN xs n23) x4 σ) ∧ (¬ ((xs x4.toNatClampNeg) &&& 31) = 10 → (((xs x4.toNatClampNeg) &&& 31) = 11 → w_L_law_871 Q LN xs (w_L_law_23 Q LN xs n23) x4 σ) ∧ (¬ ((xs x4.toNatClampNeg) &&& 31) = 11 → (((xs x4.toNatClampNeg) &&& 31) = 12 → w_L_law_884 Q LN xs (w_L_law_23 Q LN xs n23) x4 σ) ∧ (¬ ((xs x4.toNatClampNeg) &&& 31) = 12 → (((xs x4.toNatClampNeg) &&& 31) = 13 → w_L_law_897 Q LN xs (w_L_law_23 Q LN xs n23) x4 σ) ∧ (¬ ((xs x4.toNatClampNeg) &&& 31) = 13 → (((xs x4.toNatClampNeg) &&& 31) = 14 → w_L_law_1005 Q LN xs (w_L_law_23 Q LN xs n23) x4 σ) ∧ (¬ ((xs x4.toNatClampNeg) &&& 31) = 14 → (((xs x4.toNatClampNeg) &&& 31) = 15 → w_L_law_1018 Q LN xs (w_L_law_23 Q LN xs n23) x4 σ) ∧ (¬ ((xs x4.toNatClampNeg) &&& 31) = 15 → (((xs x4.toNatClampNeg) &&& 31) = 16 → w_L_law_1074 Q LN xs (w_L_law_23 Q LN xs n23) x4 σ) ∧ (¬ ((xs x4.toNatClampNeg) &&& 31) = 16 → (((xs x4.toNatClampNeg) &&& 31) = 17 → w_L_law_1087 Q LN xs (w_L_law_23 Q LN xs n23) x4 σ) ∧ (¬ ((xs x4.toNatClampNeg) &&& 31) = 17 → (((xs x4.toNatClampNeg) &&& 31) = 18 → w_L_law_1143 Q LN xs (w_L_law_23 Q LN xs n23) x4 σ) ∧ (¬ ((xs x4.toNatClampNeg) &&& 31) = 18 → (((xs x4.toNatClampNeg) &&& 31) = 19 → w_L_law_1239 Q LN xs (w_L_law_23 Q LN xs n23) x4 σ) ∧ (¬ ((xs x4.toNatClampNeg) &&& 31) = 19 → (((xs x4.toNatClampNeg) &&& 31) = 20 → w_L_law_1326 Q LN xs (w_L_law_23 Q LN xs n23) x4 σ) ∧ (¬ ((xs x4.toNatClampNeg) &&& 31) = 20 → (((xs x4.toNatClampNeg) &&& 31) = 21 → w_L_law_1391 Q LN xs (w_L_law_23 Q LN xs n23) x4 σ) ∧ (¬ ((xs x4.toNatClampNeg) &&& 31) = 21 → (((xs x4.toNatClampNeg) &&& 31) = 22 → w_L_law_1439 Q LN xs (w_L_law_23 Q LN xs n23) x4 σ) ∧ (¬ ((xs x4.toNatClampNeg) &&& 31) = 22 → (((xs x4.toNatClampNeg) &&& 31) = 23 → w_L_law_1483 Q LN xs (w_L_law_23 Q LN xs n23) x4 σ) ∧ (¬ ((xs x4.toNatClampNeg) &&& 31) = 23 → (((xs x4.toNatClampNeg) &&& 31) = 24 → w_L_law_1496 Q LN xs (w_L_law_23 Q LN xs n23) x4 σ) ∧ (¬ ((xs x4.toNatClampNeg) &&& 31) = 24 → (((xs x4.toNatClampNeg) &&& 31) = 25 → w_L_law_1509 Q LN xs (w_L_law_23 Q LN xs n23) x4 σ) ∧ (¬ ((xs x4.toNatClampNeg) &&& 31) = 25 → ∀ y469 : Int32, y469 = x4 + 6 → w_L_law_23 Q LN xs n23 y469 σ)))))))))))))))))))))))))))
set_option maxHeartbeats 8000000 in
set_option maxRecDepth 100000 in
theorem law_loop {p : Program} {l : Launch} {e : Env} {s : State} {m : MethodId} {below : List Frame} {meth : Method} {c : Code} {D : va_G} {cy : Nat → ClassId} {ad : Nat → Nat} {A : Nat → Prop} {b LN : Nat} {xs : Nat → Int32} (Q : Unit) (hst : l.stackTraces = false) (hC : gC p c cL_law s m #[Value.ref b] RL D cy ad A) (hml : c.maxLocals = 7) (hr : meth.sig.returnType = ret) (hlocks : meth.locks = false) (hX : va_X b LN xs s s.heap) (hbl : b < s.heap.size) (hbA : ¬ A b) (hAs : ∀ q, A q → s.heap.size ≤ q) : ∀ (n23 : Nat) (cs sl : Nat) (x4 : Int32) (σ : gS) (H : Heap) (locs : List Loc) (ls : Array Slot), cs + 7 * n23 ≤ 600000 → sl + 42 * n23 ≤ 7000000 → w_L_law_23 Q LN xs n23 x4 σ → gI D cy ad A s.heap σ H locs → lv_has ls 7 [(0, .ref b), (1, .ref (ad 0)), (2, .ref (ad 10)), (3, .ref (ad 83)), (4, .int x4)] → W p l e room_1 s m #[Value.ref b] below meth c H locs cs sl (lw_Z below #[Value.ref b] s) (F0 m 23 ls []) := by
  have hx := hC.1
  have hb := hC.2.1
  have hRc : room_1.cells = 601024 := rfl
  have hRs : room_1.slots = 7293034 := rfl
  intro n23
  induction n23 with
  | zero => intro cs sl x4 σ H locs ls hcs hsl h; exact absurd h (fun h => h)
  | succ n23 ih23 =>
    have J160 : ∀ (cs sl : Nat) (x4 : Int32) (σ : gS) (H : Heap) (locs : List Loc) (ls : Array Slot), cs + 7 * n23 + 7 ≤ 600000 → sl + 42 * n23 + 42 ≤ 7000000 → w_L_law_160 Q LN xs (w_L_law_23 Q LN xs n23) x4 σ → gI D cy ad A s.heap σ H locs → lv_has ls 7 [(0, .ref b), (1, .ref (ad 0)), (2, .ref (ad 10)), (3, .ref (ad 83)), (4, .int x4)] → W p l e room_1 s m #[Value.ref b] below meth c H locs cs sl (lw_Z below #[Value.ref b] s) (F0 m 160 ls []) := by
      intro cs sl x4 σ H locs ls hcs hsl h hI hl
      unfold w_L_law_160 at h
      refine lv_aload_n hx hb dL_law_160 rfl (lv_at hl 1 rfl) ?_
      refine lv_aload_n hx hb dL_law_161 rfl (lv_at hl 0 rfl) ?_
      refine lv_iload hx hb dL_law_162 (lv_at hl 4 rfl) ?_
      refine lv_iconst (v := 1) hx hb dL_law_164 (by decide) ?_
      refine lv_iadd hx hb dL_law_165 ?_
      obtain ⟨hi97, h⟩ := h
      refine va_sld hx hb hX hbl hbA hI.2.2 hi97 dL_law_166 ?_
      refine lv_aload_n hx hb dL_law_167 rfl (lv_at hl 0 rfl) ?_
      refine lv_iload hx hb dL_law_168 (lv_at hl 4 rfl) ?_
      refine lv_iconst (v := 2) hx hb dL_law_170 (by decide) ?_
      refine lv_iadd hx hb dL_law_171 ?_
      obtain ⟨hi98, h⟩ := h
      refine va_sld hx hb hX hbl hbA hI.2.2 hi98 dL_law_172 ?_
      refine lv_aload_n hx hb dL_law_173 rfl (lv_at hl 0 rfl) ?_
      refine lv_iload hx hb dL_law_174 (lv_at hl 4 rfl) ?_
      refine lv_iconst (v := 3) hx hb dL_law_176 (by decide) ?_
      refine lv_iadd hx hb dL_law_177 ?_
      obtain ⟨hi99, h⟩ := h
      refine va_sld hx hb hX hbl hbA hI.2.2 hi99 dL_law_178 ?_
      refine lv_aload_n hx hb dL_law_179 rfl (lv_at hl 0 rfl) ?_
      refine lv_iload hx hb dL_law_180 (lv_at hl 4 rfl) ?_
      refine lv_iconst (v := 4) hx hb dL_law_182 (by decide) ?_
      refine lv_iadd hx hb dL_law_183 ?_
      obtain ⟨hi100, h⟩ := h
      refine va_sld hx hb hX hbl hbA hI.2.2 hi100 dL_law_184 ?_
      refine lv_aload_n hx hb dL_law_185 rfl (lv_at hl 0 rfl) ?_
      refine lv_iload hx hb dL_law_186 (lv_at hl 4 rfl) ?_
      refine lv_iconst (v := 5) hx hb dL_law_188 (by decide) ?_
      refine lv_iadd hx hb dL_law_189 ?_
      obtain ⟨hi101, h⟩ := h
      refine va_sld hx hb hX hbl hbA hI.2.2 hi101 dL_law_190 ?_
      refine g_backi hI (g_runV (As := [.int (xs (x4 + 1).toNatClampNeg), .int (xs (x4 + 2).toNatClampNeg), .int (xs (x4 + 3).toNatClampNeg), .int (xs (x4 + 4).toNatClampNeg), .int (xs (x4 + 5).toNatClampNeg)]) (rest := []) hC hml hI (c_X8_feed l D cy ad A _  _ _ _ _ _ _ h) k_X8_feed gw_2_79 ⟨rfl, rfl⟩ ⟨Nat.le_of_ble_eq_true rfl, Nat.le_of_ble_eq_true rfl⟩ (grv_0 hC hI) rfl hl.1 rfl (Nat.le_of_ble_eq_true rfl) dL_law_191 ⟨by rw [hRc]; omega, by rw [hRs]; omega⟩) (fun r103 s102 H locs h hI => ?_)
      refine lv_aload_n hx hb dL_law_194 rfl (lv_at hl 2 rfl) ?_
      refine lv_aload_n hx hb dL_law_195 rfl (lv_at hl 0 rfl) ?_
      refine lv_iload hx hb dL_law_196 (lv_at hl 4 rfl) ?_
      refine lv_iconst (v := 1) hx hb dL_law_198 (by decide) ?_
      refine lv_iadd hx hb dL_law_199 ?_
      obtain ⟨hi104, h⟩ := h
      refine va_sld hx hb hX hbl hbA hI.2.2 hi104 dL_law_200 ?_
      refine lv_aload_n hx hb dL_law_201 rfl (lv_at hl 0 rfl) ?_
      refine lv_iload hx hb dL_law_202 (lv_at hl 4 rfl) ?_
      refine lv_iconst (v := 2) hx hb dL_law_204 (by decide) ?_
      refine lv_iadd hx hb dL_law_205 ?_
      obtain ⟨hi105, h⟩ := h
      refine va_sld hx hb hX hbl hbA hI.2.2 hi105 dL_law_206 ?_
      refine lv_aload_n hx hb dL_law_207 rfl (lv_at hl 0 rfl) ?_
      refine lv_iload hx hb dL_law_208 (lv_at hl 4 rfl) ?_
      refine lv_iconst (v := 3) hx hb dL_law_210 (by decide) ?_
      refine lv_iadd hx hb dL_law_211 ?_
      obtain ⟨hi106, h⟩ := h
      refine va_sld hx hb hX hbl hbA hI.2.2 hi106 dL_law_212 ?_
      refine lv_aload_n hx hb dL_law_213 rfl (lv_at hl 0 rfl) ?_
      refine lv_iload hx hb dL_law_214 (lv_at hl 4 rfl) ?_
      refine lv_iconst (v := 4) hx hb dL_law_216 (by decide) ?_
      refine lv_iadd hx hb dL_law_217 ?_
      obtain ⟨hi107, h⟩ := h
      refine va_sld hx hb hX hbl hbA hI.2.2 hi107 dL_law_218 ?_
      refine lv_aload_n hx hb dL_law_219 rfl (lv_at hl 0 rfl) ?_
      refine lv_iload hx hb dL_law_220 (lv_at hl 4 rfl) ?_
      refine lv_iconst (v := 5) hx hb dL_law_222 (by decide) ?_
      refine lv_iadd hx hb dL_law_223 ?_
      obtain ⟨hi108, h⟩ := h
      refine va_sld hx hb hX hbl hbA hI.2.2 hi108 dL_law_224 ?_
      refine g_backi hI (g_runV (As := [.int (xs (x4 + 1).toNatClampNeg), .int (xs (x4 + 2).toNatClampNeg), .int (xs (x4 + 3).toNatClampNeg), .int (xs (x4 + 4).toNatClampNeg), .int (xs (x4 + 5).toNatClampNeg)]) (rest := [.int r103]) hC hml hI (c_X9_feed l D cy ad A _  _ _ _ _ _ _ h) k_X9_feed gw_6_10 ⟨rfl, rfl⟩ ⟨Nat.le_of_ble_eq_true rfl, Nat.le_of_ble_eq_true rfl⟩ (grv_10 hC hI) rfl hl.1 rfl (Nat.le_of_ble_eq_true rfl) dL_law_225 ⟨by rw [hRc]; omega, by rw [hRs]; omega⟩) (fun r110 s109 H locs h hI => ?_)
      refine lv_icmp_eq (tgt := 1534) hx hb dL_law_228 (by decide) (fun c111 => ?_) (fun c111 => ?_)
      · have h := h.1 c111
        obtain ⟨y112, ey112⟩ : ∃ y : Int32, y = x4 + 6 := ⟨_, rfl⟩
        have h := h y112 ey112
        refine lv_iinc (v := y112) (lv' := [(4, .int y112), (0, .ref b), (1, .ref (ad 0)), (2, .ref (ad 10)), (3, .ref (ad 83))]) hx hb dL_law_1534 hl (k := 4) rfl (by rw [ey112]; rfl) (by decide) rfl (fun ls hl => ?_)
        refine lv_goto (tgt := 23) hx hb dL_law_1537 (by decide) ?_
        exact ih23 _ _ _ _ _ _ _ (by omega) (by omega) h hI (lv_sub hl [1, 2, 3, 4, 0] rfl)
      · have h := h.2 c111
        refine lv_iconst (v := 0) hx hb dL_law_231 (by decide) ?_
        exact h.elim
    have J233 : ∀ (cs sl : Nat) (x4 : Int32) (σ : gS) (H : Heap) (locs : List Loc) (ls : Array Slot), cs + 7 * n23 + 7 ≤ 600000 → sl + 42 * n23 + 42 ≤ 7000000 → w_L_law_233 Q LN xs (w_L_law_23 Q LN xs n23) x4 σ → gI D cy ad A s.heap σ H locs → lv_has ls 7 [(0, .ref b), (1, .ref (ad 0)), (2, .ref (ad 10)), (3, .ref (ad 83)), (4, .int x4)] → W p l e room_1 s m #[Value.ref b] below meth c H locs cs sl (lw_Z below #[Value.ref b] s) (F0 m 233 ls []) := by
      intro cs sl x4 σ H locs ls hcs hsl h hI hl
      unfold w_L_law_233 at h
      refine lv_aload_n hx hb dL_law_233 rfl (lv_at hl 1 rfl) ?_
      refine lv_aload_n hx hb dL_law_234 rfl (lv_at hl 0 rfl) ?_
      refine lv_iload hx hb dL_law_235 (lv_at hl 4 rfl) ?_
      refine lv_iconst (v := 1) hx hb dL_law_237 (by decide) ?_
      refine lv_iadd hx hb dL_law_238 ?_
      obtain ⟨hi113, h⟩ := h
      refine va_sld hx hb hX hbl hbA hI.2.2 hi113 dL_law_239 ?_
      refine g_backi hI (g_runV (As := [.int (xs (x4 + 1).toNatClampNeg)]) (rest := []) hC hml hI (c_X8_end l D cy ad A _  _ _ h) k_X8_end gw_2_91 ⟨rfl, rfl⟩ ⟨Nat.le_of_ble_eq_true rfl, Nat.le_of_ble_eq_true rfl⟩ (grv_0 hC hI) rfl hl.1 rfl (Nat.le_of_ble_eq_true rfl) dL_law_240 ⟨by rw [hRc]; omega, by rw [hRs]; omega⟩) (fun r115 s114 H locs h hI => ?_)
      refine lv_aload_n hx hb dL_law_243 rfl (lv_at hl 2 rfl) ?_
      refine lv_aload_n hx hb dL_law_244 rfl (lv_at hl 0 rfl) ?_
      refine lv_iload hx hb dL_law_245 (lv_at hl 4 rfl) ?_
      refine lv_iconst (v := 1) hx hb dL_law_247 (by decide) ?_
      refine lv_iadd hx hb dL_law_248 ?_
      obtain ⟨hi116, h⟩ := h
      refine va_sld hx hb hX hbl hbA hI.2.2 hi116 dL_law_249 ?_
      refine g_backi hI (g_runV (As := [.int (xs (x4 + 1).toNatClampNeg)]) (rest := [.int r115]) hC hml hI (c_X9_end l D cy ad A _  _ _ h) k_X9_end gw_6_14 ⟨rfl, rfl⟩ ⟨Nat.le_of_ble_eq_true rfl, Nat.le_of_ble_eq_true rfl⟩ (grv_10 hC hI) rfl hl.1 rfl (Nat.le_of_ble_eq_true rfl) dL_law_250 ⟨by rw [hRc]; omega, by rw [hRs]; omega⟩) (fun r118 s117 H locs h hI => ?_)
      refine lv_icmp_eq (tgt := 1534) hx hb dL_law_253 (by decide) (fun c119 => ?_) (fun c119 => ?_)
      · have h := h.1 c119
        obtain ⟨y120, ey120⟩ : ∃ y : Int32, y = x4 + 6 := ⟨_, rfl⟩
        have h := h y120 ey120
        refine lv_iinc (v := y120) (lv' := [(4, .int y120), (0, .ref b), (1, .ref (ad 0)), (2, .ref (ad 10)), (3, .ref (ad 83))]) hx hb dL_law_1534 hl (k := 4) rfl (by rw [ey120]; rfl) (by decide) rfl (fun ls hl => ?_)
        refine lv_goto (tgt := 23) hx hb dL_law_1537 (by decide) ?_
        exact ih23 _ _ _ _ _ _ _ (by omega) (by omega) h hI (lv_sub hl [1, 2, 3, 4, 0] rfl)
      · have h := h.2 c119
        refine lv_iconst (v := 0) hx hb dL_law_256 (by decide) ?_
        exact h.elim
    have J306 : ∀ (cs sl : Nat) (x4 : Int32) (x5 : Int32) (v0 : Int32) (v1 : Int32) (σ : gS) (H : Heap) (locs : List Loc) (ls : Array Slot), cs + 7 * n23 + 6 ≤ 600000 → sl + 42 * n23 + 36 ≤ 7000000 → w_L_law_306 Q LN xs (w_L_law_23 Q LN xs n23) x4 x5 v0 v1 σ → gI D cy ad A s.heap σ H locs → lv_has ls 7 [(0, .ref b), (1, .ref (ad 0)), (2, .ref (ad 10)), (3, .ref (ad 83)), (4, .int x4), (5, .int x5)] → W p l e room_1 s m #[Value.ref b] below meth c H locs cs sl (lw_Z below #[Value.ref b] s) (F0 m 306 ls [.int v0, .int v1, .ref (ad 10)]) := by
      intro cs sl x4 x5 v0 v1 σ H locs ls hcs hsl h hI hl
      unfold w_L_law_306 at h
      refine g_backi hI (g_runV (As := [.int v1, .int v0]) (rest := []) hC hml hI (c_X9_lane l D cy ad A _  _ _ _ h) k_X9_lane gw_5_90 ⟨rfl, rfl⟩ ⟨Nat.le_of_ble_eq_true rfl, Nat.le_of_ble_eq_true rfl⟩ (grv_10 hC hI) rfl hl.1 rfl (Nat.le_of_ble_eq_true rfl) dL_law_306 ⟨by rw [hRc]; omega, by rw [hRs]; omega⟩) (fun r122 s121 H locs h hI => ?_)
      refine lv_istore (lv' := [(6, .int r122), (0, .ref b), (1, .ref (ad 0)), (2, .ref (ad 10)), (3, .ref (ad 83)), (4, .int x4), (5, .int x5)]) hx hb dL_law_309 hl (by decide) rfl (fun ls hl => ?_)
      refine lv_aload_n hx hb dL_law_311 rfl (lv_at hl 3 rfl) ?_
      refine g_backi hI (g_runV (As := []) (rest := []) hC hml hI (c_X9_thrown l D cy ad A _  _ h) k_X9_thrown gw_4_178 ⟨rfl, rfl⟩ ⟨Nat.le_of_ble_eq_true rfl, Nat.le_of_ble_eq_true rfl⟩ (grv_10 hC hI) rfl hl.1 rfl (Nat.le_of_ble_eq_true rfl) dL_law_312 ⟨by rw [hRc]; omega, by rw [hRs]; omega⟩) (fun r124 s123 H locs h hI => ?_)
      refine lv_iload hx hb dL_law_315 (lv_at hl 6 rfl) ?_
      refine lv_icmp_eq (tgt := 322) hx hb dL_law_317 (by decide) (fun c125 => ?_) (fun c125 => ?_)
      · have h := h.1 c125
        refine lv_iload hx hb dL_law_322 (lv_at hl 6 rfl) ?_
        refine lv_if_ne (tgt := 346) hx hb dL_law_324 (by decide) (fun c126 => ?_) (fun c126 => ?_)
        · have h := h.1 c126
          refine lv_goto (tgt := 1534) hx hb dL_law_346 (by decide) ?_
          obtain ⟨y127, ey127⟩ : ∃ y : Int32, y = x4 + 6 := ⟨_, rfl⟩
          have h := h y127 ey127
          refine lv_iinc (v := y127) (lv' := [(4, .int y127), (6, .int r122), (0, .ref b), (1, .ref (ad 0)), (2, .ref (ad 10)), (3, .ref (ad 83)), (5, .int x5)]) hx hb dL_law_1534 hl (k := 5) rfl (by rw [ey127]; rfl) (by decide) rfl (fun ls hl => ?_)
          refine lv_goto (tgt := 23) hx hb dL_law_1537 (by decide) ?_
          exact ih23 _ _ _ _ _ _ _ (by omega) (by omega) h hI (lv_sub hl [2, 3, 4, 5, 0] rfl)
        · have h := h.2 c126
          refine lv_aload_n hx hb dL_law_327 rfl (lv_at hl 4 rfl) ?_
          refine lv_iconst (v := 0) hx hb dL_law_328 (by decide) ?_
          refine ga_83 hC hI (by unfold vp_in; decide) dL_law_329 ?_
          refine lv_iload hx hb dL_law_330 (lv_at hl 0 rfl) ?_
          refine lv_if_eq (tgt := 339) hx hb dL_law_332 (by decide) (fun c129 => ?_) (fun c129 => ?_)
          · have h := h.1 c129
            refine lv_lconst (v := 0) hx hb dL_law_339 (by decide) ?_
            refine W.lcmp hx hb dL_law_340 ?_
            refine lv_if_eq (tgt := 346) hx hb dL_law_341 (by decide) (fun c130 => ?_) (fun c130 => ?_)
            · have h := h.1 c130
              refine lv_goto (tgt := 1534) hx hb dL_law_346 (by decide) ?_
              obtain ⟨y131, ey131⟩ : ∃ y : Int32, y = x4 + 6 := ⟨_, rfl⟩
              have h := h y131 ey131
              refine lv_iinc (v := y131) (lv' := [(4, .int y131), (6, .int r122), (0, .ref b), (1, .ref (ad 0)), (2, .ref (ad 10)), (3, .ref (ad 83)), (5, .int x5)]) hx hb dL_law_1534 hl (k := 5) rfl (by rw [ey131]; rfl) (by decide) rfl (fun ls hl => ?_)
              refine lv_goto (tgt := 23) hx hb dL_law_1537 (by decide) ?_
              exact ih23 _ _ _ _ _ _ _ (by omega) (by omega) h hI (lv_sub hl [2, 3, 4, 5, 0] rfl)
            · have h := h.2 c130
              refine lv_iconst (v := 0) hx hb dL_law_344 (by decide) ?_
              exact h.elim
          · have h := h.2 c129
            refine lv_lconst (v := 1) hx hb dL_law_335 (by decide) ?_
            refine lv_goto (tgt := 340) hx hb dL_law_336 (by decide) ?_
            refine W.lcmp hx hb dL_law_340 ?_
            refine lv_if_eq (tgt := 346) hx hb dL_law_341 (by decide) (fun c132 => ?_) (fun c132 => ?_)
            · have h := h.1 c132
              refine lv_goto (tgt := 1534) hx hb dL_law_346 (by decide) ?_
              obtain ⟨y133, ey133⟩ : ∃ y : Int32, y = x4 + 6 := ⟨_, rfl⟩
              have h := h y133 ey133
              refine lv_iinc (v := y133) (lv' := [(4, .int y133), (6, .int r122), (0, .ref b), (1, .ref (ad 0)), (2, .ref (ad 10)), (3, .ref (ad 83)), (5, .int x5)]) hx hb dL_law_1534 hl (k := 5) rfl (by rw [ey133]; rfl) (by decide) rfl (fun ls hl => ?_)
              refine lv_goto (tgt := 23) hx hb dL_law_1537 (by decide) ?_
              exact ih23 _ _ _ _ _ _ _ (by omega) (by omega) h hI (lv_sub hl [2, 3, 4, 5, 0] rfl)
            · have h := h.2 c132
              refine lv_iconst (v := 0) hx hb dL_law_344 (by decide) ?_
              exact h.elim
      · have h := h.2 c125
        refine lv_iconst (v := 0) hx hb dL_law_320 (by decide) ?_
        exact h.elim
    have J279 : ∀ (cs sl : Nat) (x4 : Int32) (v0 : Int32) (v1 : Int32) (σ : gS) (H : Heap) (locs : List Loc) (ls : Array Slot), cs + 7 * n23 + 7 ≤ 600000 → sl + 42 * n23 + 42 ≤ 7000000 → w_L_law_279 Q LN xs (w_L_law_23 Q LN xs n23) x4 v0 v1 σ → gI D cy ad A s.heap σ H locs → lv_has ls 7 [(0, .ref b), (1, .ref (ad 0)), (2, .ref (ad 10)), (3, .ref (ad 83)), (4, .int x4)] → W p l e room_1 s m #[Value.ref b] below meth c H locs cs sl (lw_Z below #[Value.ref b] s) (F0 m 279 ls [.int v0, .int v1, .ref (ad 0)]) := by
      intro cs sl x4 v0 v1 σ H locs ls hcs hsl h hI hl
      unfold w_L_law_279 at h
      refine lv_aload_n hx hb dL_law_279 rfl (lv_at hl 3 rfl) ?_
      refine gw_backi hI (gw_runS (As := [.ref (ad 0), .int v1, .int v0, .ref (ad 83)]) (rest := []) hC hml hI (c_L_lane l hst D cy ad A _  _ _ _ h) k_L_lane gw_3_25 ⟨rfl, rfl⟩ ⟨Nat.le_of_ble_eq_true rfl, Nat.le_of_ble_eq_true rfl⟩ rfl hl.1 rfl (Nat.le_of_ble_eq_true rfl) dL_law_280 ⟨by rw [hRc]; omega, by rw [hRs]; omega⟩) (fun r135 s134 H locs h hI => ?_)
      refine lv_istore (lv' := [(5, .int r135), (0, .ref b), (1, .ref (ad 0)), (2, .ref (ad 10)), (3, .ref (ad 83)), (4, .int x4)]) hx hb dL_law_283 hl (by decide) rfl (fun ls hl => ?_)
      refine lv_aload_n hx hb dL_law_285 rfl (lv_at hl 3 rfl) ?_
      refine lv_aload_n hx hb dL_law_286 rfl (lv_at hl 1 rfl) ?_
      refine lv_iload hx hb dL_law_287 (lv_at hl 5 rfl) ?_
      refine lv_iconst (v := 1) hx hb dL_law_289 (by decide) ?_
      refine lv_iadd hx hb dL_law_290 ?_
      obtain ⟨hi136, h⟩ := h
      refine va_sld hx hb hX hbl hbA hI.2.2 hi136 dL_law_291 ?_
      refine lv_aload_n hx hb dL_law_292 rfl (lv_at hl 1 rfl) ?_
      refine lv_iload hx hb dL_law_293 (lv_at hl 5 rfl) ?_
      refine lv_iconst (v := 2) hx hb dL_law_295 (by decide) ?_
      refine lv_iadd hx hb dL_law_296 ?_
      obtain ⟨hi137, h⟩ := h
      refine va_sld hx hb hX hbl hbA hI.2.2 hi137 dL_law_297 ?_
      refine lv_if_eq (tgt := 305) hx hb dL_law_298 (by decide) (fun c138 => ?_) (fun c138 => ?_)
      · have h := h.1 c138
        refine lv_iconst (v := 0) hx hb dL_law_305 (by decide) ?_
        exact J306 _ _ _ _ _ _ _ _ _ _ (by omega) (by omega) h hI (lv_sub hl [1, 2, 3, 4, 5, 0] rfl)
      · have h := h.2 c138
        refine lv_iconst (v := 1) hx hb dL_law_301 (by decide) ?_
        refine lv_goto (tgt := 306) hx hb dL_law_302 (by decide) ?_
        exact J306 _ _ _ _ _ _ _ _ _ _ (by omega) (by omega) h hI (lv_sub hl [1, 2, 3, 4, 5, 0] rfl)
    have J258 : ∀ (cs sl : Nat) (x4 : Int32) (σ : gS) (H : Heap) (locs : List Loc) (ls : Array Slot), cs + 7 * n23 + 7 ≤ 600000 → sl + 42 * n23 + 42 ≤ 7000000 → w_L_law_258 Q LN xs (w_L_law_23 Q LN xs n23) x4 σ → gI D cy ad A s.heap σ H locs → lv_has ls 7 [(0, .ref b), (1, .ref (ad 0)), (2, .ref (ad 10)), (3, .ref (ad 83)), (4, .int x4)] → W p l e room_1 s m #[Value.ref b] below meth c H locs cs sl (lw_Z below #[Value.ref b] s) (F0 m 258 ls []) := by
      intro cs sl x4 σ H locs ls hcs hsl h hI hl
      unfold w_L_law_258 at h
      refine lv_aload_n hx hb dL_law_258 rfl (lv_at hl 1 rfl) ?_
      refine lv_aload_n hx hb dL_law_259 rfl (lv_at hl 0 rfl) ?_
      refine lv_iload hx hb dL_law_260 (lv_at hl 4 rfl) ?_
      refine lv_iconst (v := 1) hx hb dL_law_262 (by decide) ?_
      refine lv_iadd hx hb dL_law_263 ?_
      obtain ⟨hi139, h⟩ := h
      refine va_sld hx hb hX hbl hbA hI.2.2 hi139 dL_law_264 ?_
      refine lv_aload_n hx hb dL_law_265 rfl (lv_at hl 0 rfl) ?_
      refine lv_iload hx hb dL_law_266 (lv_at hl 4 rfl) ?_
      refine lv_iconst (v := 2) hx hb dL_law_268 (by decide) ?_
      refine lv_iadd hx hb dL_law_269 ?_
      obtain ⟨hi140, h⟩ := h
      refine va_sld hx hb hX hbl hbA hI.2.2 hi140 dL_law_270 ?_
      refine lv_if_eq (tgt := 278) hx hb dL_law_271 (by decide) (fun c141 => ?_) (fun c141 => ?_)
      · have h := h.1 c141
        refine lv_iconst (v := 0) hx hb dL_law_278 (by decide) ?_
        exact J279 _ _ _ _ _ _ _ _ _ (by omega) (by omega) h hI (lv_sub hl [0, 1, 2, 3, 4] rfl)
      · have h := h.2 c141
        refine lv_iconst (v := 1) hx hb dL_law_274 (by decide) ?_
        refine lv_goto (tgt := 279) hx hb dL_law_275 (by decide) ?_
        exact J279 _ _ _ _ _ _ _ _ _ (by omega) (by omega) h hI (lv_sub hl [0, 1, 2, 3, 4] rfl)
    have J349 : ∀ (cs sl : Nat) (x4 : Int32) (σ : gS) (H : Heap) (locs : List Loc) (ls : Array Slot), cs + 7 * n23 + 7 ≤ 600000 → sl + 42 * n23 + 42 ≤ 7000000 → w_L_law_349 Q LN xs (w_L_law_23 Q LN xs n23) x4 σ → gI D cy ad A s.heap σ H locs → lv_has ls 7 [(0, .ref b), (1, .ref (ad 0)), (2, .ref (ad 10)), (3, .ref (ad 83)), (4, .int x4)] → W p l e room_1 s m #[Value.ref b] below meth c H locs cs sl (lw_Z below #[Value.ref b] s) (F0 m 349 ls []) := by
      intro cs sl x4 σ H locs ls hcs hsl h hI hl
      unfold w_L_law_349 at h
      refine lv_aload_n hx hb dL_law_349 rfl (lv_at hl 1 rfl) ?_
      refine lv_aload_n hx hb dL_law_350 rfl (lv_at hl 0 rfl) ?_
      refine lv_iload hx hb dL_law_351 (lv_at hl 4 rfl) ?_
      refine lv_iconst (v := 1) hx hb dL_law_353 (by decide) ?_
      refine lv_iadd hx hb dL_law_354 ?_
      obtain ⟨hi142, h⟩ := h
      refine va_sld hx hb hX hbl hbA hI.2.2 hi142 dL_law_355 ?_
      refine gw_backi hI (gw_runS (As := [.ref (ad 0), .int (xs (x4 + 1).toNatClampNeg)]) (rest := []) hC hml hI (c_L_gate l hst D cy ad A _  _ _ h) k_L_gate gw_3_103 ⟨rfl, rfl⟩ ⟨Nat.le_of_ble_eq_true rfl, Nat.le_of_ble_eq_true rfl⟩ rfl hl.1 rfl (Nat.le_of_ble_eq_true rfl) dL_law_356 ⟨by rw [hRc]; omega, by rw [hRs]; omega⟩) (fun r144 s143 H locs h hI => ?_)
      refine lv_istore (lv' := [(5, .int r144), (0, .ref b), (1, .ref (ad 0)), (2, .ref (ad 10)), (3, .ref (ad 83)), (4, .int x4)]) hx hb dL_law_359 hl (by decide) rfl (fun ls hl => ?_)
      refine lv_aload_n hx hb dL_law_361 rfl (lv_at hl 3 rfl) ?_
      refine lv_aload_n hx hb dL_law_362 rfl (lv_at hl 1 rfl) ?_
      refine lv_iload hx hb dL_law_363 (lv_at hl 5 rfl) ?_
      refine lv_iconst (v := 1) hx hb dL_law_365 (by decide) ?_
      refine lv_iadd hx hb dL_law_366 ?_
      obtain ⟨hi145, h⟩ := h
      refine va_sld hx hb hX hbl hbA hI.2.2 hi145 dL_law_367 ?_
      refine g_backv hI (g_runV (As := [.int (xs (x4 + 1).toNatClampNeg)]) (rest := []) hC hml hI (c_X9_gate l D cy ad A _  _ _ h) k_X9_gate gw_5_104 ⟨rfl, rfl⟩ ⟨Nat.le_of_ble_eq_true rfl, Nat.le_of_ble_eq_true rfl⟩ (grv_10 hC hI) rfl hl.1 rfl (Nat.le_of_ble_eq_true rfl) dL_law_368 ⟨by rw [hRc]; omega, by rw [hRs]; omega⟩) (fun s146 H locs h hI => ?_)
      refine lv_aload_n hx hb dL_law_371 rfl (lv_at hl 3 rfl) ?_
      refine g_backi hI (g_runV (As := []) (rest := []) hC hml hI (c_X9_thrown l D cy ad A _  _ h) k_X9_thrown gw_4_178 ⟨rfl, rfl⟩ ⟨Nat.le_of_ble_eq_true rfl, Nat.le_of_ble_eq_true rfl⟩ (grv_10 hC hI) rfl hl.1 rfl (Nat.le_of_ble_eq_true rfl) dL_law_372 ⟨by rw [hRc]; omega, by rw [hRs]; omega⟩) (fun r149 s148 H locs h hI => ?_)
      refine lv_iload hx hb dL_law_375 (lv_at hl 0 rfl) ?_
      refine lv_icmp_eq (tgt := 382) hx hb dL_law_377 (by decide) (fun c150 => ?_) (fun c150 => ?_)
      · have h := h.1 c150
        refine lv_goto (tgt := 1534) hx hb dL_law_382 (by decide) ?_
        obtain ⟨y151, ey151⟩ : ∃ y : Int32, y = x4 + 6 := ⟨_, rfl⟩
        have h := h y151 ey151
        refine lv_iinc (v := y151) (lv' := [(4, .int y151), (5, .int r144), (0, .ref b), (1, .ref (ad 0)), (2, .ref (ad 10)), (3, .ref (ad 83))]) hx hb dL_law_1534 hl (k := 5) rfl (by rw [ey151]; rfl) (by decide) rfl (fun ls hl => ?_)
        refine lv_goto (tgt := 23) hx hb dL_law_1537 (by decide) ?_
        exact ih23 _ _ _ _ _ _ _ (by omega) (by omega) h hI (lv_sub hl [2, 3, 4, 5, 0] rfl)
      · have h := h.2 c150
        refine lv_iconst (v := 0) hx hb dL_law_380 (by decide) ?_
        exact h.elim
    have J385 : ∀ (cs sl : Nat) (x4 : Int32) (σ : gS) (H : Heap) (locs : List Loc) (ls : Array Slot), cs + 7 * n23 + 7 ≤ 600000 → sl + 42 * n23 + 42 ≤ 7000000 → w_L_law_385 Q LN xs (w_L_law_23 Q LN xs n23) x4 σ → gI D cy ad A s.heap σ H locs → lv_has ls 7 [(0, .ref b), (1, .ref (ad 0)), (2, .ref (ad 10)), (3, .ref (ad 83)), (4, .int x4)] → W p l e room_1 s m #[Value.ref b] below meth c H locs cs sl (lw_Z below #[Value.ref b] s) (F0 m 385 ls []) := by
      intro cs sl x4 σ H locs ls hcs hsl h hI hl
      unfold w_L_law_385 at h
      refine lv_aload_n hx hb dL_law_385 rfl (lv_at hl 1 rfl) ?_
      refine lv_aload_n hx hb dL_law_386 rfl (lv_at hl 0 rfl) ?_
      refine lv_iload hx hb dL_law_387 (lv_at hl 4 rfl) ?_
      refine lv_iconst (v := 1) hx hb dL_law_389 (by decide) ?_
      refine lv_iadd hx hb dL_law_390 ?_
      obtain ⟨hi152, h⟩ := h
      refine va_sld hx hb hX hbl hbA hI.2.2 hi152 dL_law_391 ?_
      refine lv_aload_n hx hb dL_law_392 rfl (lv_at hl 0 rfl) ?_
      refine lv_iload hx hb dL_law_393 (lv_at hl 4 rfl) ?_
      refine lv_iconst (v := 2) hx hb dL_law_395 (by decide) ?_
      refine lv_iadd hx hb dL_law_396 ?_
      obtain ⟨hi153, h⟩ := h
      refine va_sld hx hb hX hbl hbA hI.2.2 hi153 dL_law_397 ?_
      refine lv_aload_n hx hb dL_law_398 rfl (lv_at hl 3 rfl) ?_
      refine gw_backi hI (gw_runS (As := [.ref (ad 0), .int (xs (x4 + 1).toNatClampNeg), .int (xs (x4 + 2).toNatClampNeg), .ref (ad 83)]) (rest := []) hC hml hI (c_L_tent l hst D cy ad A _  _ _ _ h) k_L_tent gw_3_110 ⟨rfl, rfl⟩ ⟨Nat.le_of_ble_eq_true rfl, Nat.le_of_ble_eq_true rfl⟩ rfl hl.1 rfl (Nat.le_of_ble_eq_true rfl) dL_law_399 ⟨by rw [hRc]; omega, by rw [hRs]; omega⟩) (fun r155 s154 H locs h hI => ?_)
      refine lv_istore (lv' := [(5, .int r155), (0, .ref b), (1, .ref (ad 0)), (2, .ref (ad 10)), (3, .ref (ad 83)), (4, .int x4)]) hx hb dL_law_402 hl (by decide) rfl (fun ls hl => ?_)
      refine lv_aload_n hx hb dL_law_404 rfl (lv_at hl 3 rfl) ?_
      refine lv_aload_n hx hb dL_law_405 rfl (lv_at hl 1 rfl) ?_
      refine lv_iload hx hb dL_law_406 (lv_at hl 5 rfl) ?_
      refine lv_iconst (v := 1) hx hb dL_law_408 (by decide) ?_
      refine lv_iadd hx hb dL_law_409 ?_
      obtain ⟨hi156, h⟩ := h
      refine va_sld hx hb hX hbl hbA hI.2.2 hi156 dL_law_410 ?_
      refine lv_aload_n hx hb dL_law_411 rfl (lv_at hl 1 rfl) ?_
      refine lv_iload hx hb dL_law_412 (lv_at hl 5 rfl) ?_
      refine lv_iconst (v := 2) hx hb dL_law_414 (by decide) ?_
      refine lv_iadd hx hb dL_law_415 ?_
      obtain ⟨hi157, h⟩ := h
      refine va_sld hx hb hX hbl hbA hI.2.2 hi157 dL_law_416 ?_
      refine g_backi hI (g_runV (As := [.int (xs (x4 + 1).toNatClampNeg), .int (xs (x4 + 2).toNatClampNeg)]) (rest := []) hC hml hI (c_X9_tent l D cy ad A _  _ _ _ h) k_X9_tent gw_5_108 ⟨rfl, rfl⟩ ⟨Nat.le_of_ble_eq_true rfl, Nat.le_of_ble_eq_true rfl⟩ (grv_10 hC hI) rfl hl.1 rfl (Nat.le_of_ble_eq_true rfl) dL_law_417 ⟨by rw [hRc]; omega, by rw [hRs]; omega⟩) (fun r159 s158 H locs h hI => ?_)
      refine lv_istore (lv' := [(6, .int r159), (5, .int r155), (0, .ref b), (1, .ref (ad 0)), (2, .ref (ad 10)), (3, .ref (ad 83)), (4, .int x4)]) hx hb dL_law_420 hl (by decide) rfl (fun ls hl => ?_)
      refine lv_aload_n hx hb dL_law_422 rfl (lv_at hl 4 rfl) ?_
      refine g_backi hI (g_runV (As := []) (rest := []) hC hml hI (c_X9_thrown l D cy ad A _  _ h) k_X9_thrown gw_4_178 ⟨rfl, rfl⟩ ⟨Nat.le_of_ble_eq_true rfl, Nat.le_of_ble_eq_true rfl⟩ (grv_10 hC hI) rfl hl.1 rfl (Nat.le_of_ble_eq_true rfl) dL_law_423 ⟨by rw [hRc]; omega, by rw [hRs]; omega⟩) (fun r161 s160 H locs h hI => ?_)
      refine lv_iload hx hb dL_law_426 (lv_at hl 1 rfl) ?_
      refine lv_icmp_eq (tgt := 433) hx hb dL_law_428 (by decide) (fun c162 => ?_) (fun c162 => ?_)
      · have h := h.1 c162
        refine lv_iload hx hb dL_law_433 (lv_at hl 1 rfl) ?_
        refine lv_if_ne (tgt := 450) hx hb dL_law_435 (by decide) (fun c163 => ?_) (fun c163 => ?_)
        · have h := h.1 c163
          refine lv_goto (tgt := 1534) hx hb dL_law_450 (by decide) ?_
          obtain ⟨y164, ey164⟩ : ∃ y : Int32, y = x4 + 6 := ⟨_, rfl⟩
          have h := h y164 ey164
          refine lv_iinc (v := y164) (lv' := [(4, .int y164), (6, .int r159), (5, .int r155), (0, .ref b), (1, .ref (ad 0)), (2, .ref (ad 10)), (3, .ref (ad 83))]) hx hb dL_law_1534 hl (k := 6) rfl (by rw [ey164]; rfl) (by decide) rfl (fun ls hl => ?_)
          refine lv_goto (tgt := 23) hx hb dL_law_1537 (by decide) ?_
          exact ih23 _ _ _ _ _ _ _ (by omega) (by omega) h hI (lv_sub hl [3, 4, 5, 6, 0] rfl)
        · have h := h.2 c163
          refine lv_aload_n hx hb dL_law_438 rfl (lv_at hl 5 rfl) ?_
          refine lv_iconst (v := 0) hx hb dL_law_439 (by decide) ?_
          refine ga_83 hC hI (by unfold vp_in; decide) dL_law_440 ?_
          refine lv_iload hx hb dL_law_441 (lv_at hl 0 rfl) ?_
          refine lv_i2l hx hb dL_law_443 rfl ?_
          refine W.lcmp hx hb dL_law_444 ?_
          refine lv_if_eq (tgt := 450) hx hb dL_law_445 (by decide) (fun c166 => ?_) (fun c166 => ?_)
          · have h := h.1 c166
            refine lv_goto (tgt := 1534) hx hb dL_law_450 (by decide) ?_
            obtain ⟨y167, ey167⟩ : ∃ y : Int32, y = x4 + 6 := ⟨_, rfl⟩
            have h := h y167 ey167
            refine lv_iinc (v := y167) (lv' := [(4, .int y167), (6, .int r159), (5, .int r155), (0, .ref b), (1, .ref (ad 0)), (2, .ref (ad 10)), (3, .ref (ad 83))]) hx hb dL_law_1534 hl (k := 6) rfl (by rw [ey167]; rfl) (by decide) rfl (fun ls hl => ?_)
            refine lv_goto (tgt := 23) hx hb dL_law_1537 (by decide) ?_
            exact ih23 _ _ _ _ _ _ _ (by omega) (by omega) h hI (lv_sub hl [3, 4, 5, 6, 0] rfl)
          · have h := h.2 c166
            refine lv_iconst (v := 0) hx hb dL_law_448 (by decide) ?_
            exact h.elim
      · have h := h.2 c162
        refine lv_iconst (v := 0) hx hb dL_law_431 (by decide) ?_
        exact h.elim
    have J453 : ∀ (cs sl : Nat) (x4 : Int32) (σ : gS) (H : Heap) (locs : List Loc) (ls : Array Slot), cs + 7 * n23 + 7 ≤ 600000 → sl + 42 * n23 + 42 ≤ 7000000 → w_L_law_453 Q LN xs (w_L_law_23 Q LN xs n23) x4 σ → gI D cy ad A s.heap σ H locs → lv_has ls 7 [(0, .ref b), (1, .ref (ad 0)), (2, .ref (ad 10)), (3, .ref (ad 83)), (4, .int x4)] → W p l e room_1 s m #[Value.ref b] below meth c H locs cs sl (lw_Z below #[Value.ref b] s) (F0 m 453 ls []) := by
      intro cs sl x4 σ H locs ls hcs hsl h hI hl
      unfold w_L_law_453 at h
      refine lv_aload_n hx hb dL_law_453 rfl (lv_at hl 1 rfl) ?_
      refine lv_aload_n hx hb dL_law_454 rfl (lv_at hl 0 rfl) ?_
      refine lv_iload hx hb dL_law_455 (lv_at hl 4 rfl) ?_
      refine lv_iconst (v := 1) hx hb dL_law_457 (by decide) ?_
      refine lv_iadd hx hb dL_law_458 ?_
      obtain ⟨hi168, h⟩ := h
      refine va_sld hx hb hX hbl hbA hI.2.2 hi168 dL_law_459 ?_
      refine lv_aload_n hx hb dL_law_460 rfl (lv_at hl 3 rfl) ?_
      refine gw_backi hI (gw_runS (As := [.ref (ad 0), .int (xs (x4 + 1).toNatClampNeg), .ref (ad 83)]) (rest := []) hC hml hI (c_L_strike l hst D cy ad A _  _ _ h) k_L_strike gw_3_172 ⟨rfl, rfl⟩ ⟨Nat.le_of_ble_eq_true rfl, Nat.le_of_ble_eq_true rfl⟩ rfl hl.1 rfl (Nat.le_of_ble_eq_true rfl) dL_law_461 ⟨by rw [hRc]; omega, by rw [hRs]; omega⟩) (fun r170 s169 H locs h hI => ?_)
      refine lv_istore (lv' := [(5, .int r170), (0, .ref b), (1, .ref (ad 0)), (2, .ref (ad 10)), (3, .ref (ad 83)), (4, .int x4)]) hx hb dL_law_464 hl (by decide) rfl (fun ls hl => ?_)
      refine lv_aload_n hx hb dL_law_466 rfl (lv_at hl 3 rfl) ?_
      refine lv_aload_n hx hb dL_law_467 rfl (lv_at hl 1 rfl) ?_
      refine lv_iload hx hb dL_law_468 (lv_at hl 5 rfl) ?_
      refine lv_iconst (v := 1) hx hb dL_law_470 (by decide) ?_
      refine lv_iadd hx hb dL_law_471 ?_
      obtain ⟨hi171, h⟩ := h
      refine va_sld hx hb hX hbl hbA hI.2.2 hi171 dL_law_472 ?_
      refine g_backi hI (g_runV (As := [.int (xs (x4 + 1).toNatClampNeg)]) (rest := []) hC hml hI (c_X9_strike l D cy ad A _  _ _ h) k_X9_strike gw_5_117 ⟨rfl, rfl⟩ ⟨Nat.le_of_ble_eq_true rfl, Nat.le_of_ble_eq_true rfl⟩ (grv_10 hC hI) rfl hl.1 rfl (Nat.le_of_ble_eq_true rfl) dL_law_473 ⟨by rw [hRc]; omega, by rw [hRs]; omega⟩) (fun r173 s172 H locs h hI => ?_)
      refine lv_istore (lv' := [(6, .int r173), (5, .int r170), (0, .ref b), (1, .ref (ad 0)), (2, .ref (ad 10)), (3, .ref (ad 83)), (4, .int x4)]) hx hb dL_law_476 hl (by decide) rfl (fun ls hl => ?_)
      refine lv_aload_n hx hb dL_law_478 rfl (lv_at hl 4 rfl) ?_
      refine g_backi hI (g_runV (As := []) (rest := []) hC hml hI (c_X9_thrown l D cy ad A _  _ h) k_X9_thrown gw_4_178 ⟨rfl, rfl⟩ ⟨Nat.le_of_ble_eq_true rfl, Nat.le_of_ble_eq_true rfl⟩ (grv_10 hC hI) rfl hl.1 rfl (Nat.le_of_ble_eq_true rfl) dL_law_479 ⟨by rw [hRc]; omega, by rw [hRs]; omega⟩) (fun r175 s174 H locs h hI => ?_)
      refine lv_iload hx hb dL_law_482 (lv_at hl 1 rfl) ?_
      refine lv_icmp_eq (tgt := 489) hx hb dL_law_484 (by decide) (fun c176 => ?_) (fun c176 => ?_)
      · have h := h.1 c176
        refine lv_iload hx hb dL_law_489 (lv_at hl 1 rfl) ?_
        refine lv_if_ne (tgt := 513) hx hb dL_law_491 (by decide) (fun c177 => ?_) (fun c177 => ?_)
        · have h := h.1 c177
          refine lv_goto (tgt := 1534) hx hb dL_law_513 (by decide) ?_
          obtain ⟨y178, ey178⟩ : ∃ y : Int32, y = x4 + 6 := ⟨_, rfl⟩
          have h := h y178 ey178
          refine lv_iinc (v := y178) (lv' := [(4, .int y178), (6, .int r173), (5, .int r170), (0, .ref b), (1, .ref (ad 0)), (2, .ref (ad 10)), (3, .ref (ad 83))]) hx hb dL_law_1534 hl (k := 6) rfl (by rw [ey178]; rfl) (by decide) rfl (fun ls hl => ?_)
          refine lv_goto (tgt := 23) hx hb dL_law_1537 (by decide) ?_
          exact ih23 _ _ _ _ _ _ _ (by omega) (by omega) h hI (lv_sub hl [3, 4, 5, 6, 0] rfl)
        · have h := h.2 c177
          refine lv_aload_n hx hb dL_law_494 rfl (lv_at hl 5 rfl) ?_
          refine lv_iconst (v := 0) hx hb dL_law_495 (by decide) ?_
          refine ga_83 hC hI (by unfold vp_in; decide) dL_law_496 ?_
          refine lv_iload hx hb dL_law_497 (lv_at hl 0 rfl) ?_
          refine lv_if_eq (tgt := 506) hx hb dL_law_499 (by decide) (fun c180 => ?_) (fun c180 => ?_)
          · have h := h.1 c180
            refine lv_lconst (v := 0) hx hb dL_law_506 (by decide) ?_
            refine W.lcmp hx hb dL_law_507 ?_
            refine lv_if_eq (tgt := 513) hx hb dL_law_508 (by decide) (fun c181 => ?_) (fun c181 => ?_)
            · have h := h.1 c181
              refine lv_goto (tgt := 1534) hx hb dL_law_513 (by decide) ?_
              obtain ⟨y182, ey182⟩ : ∃ y : Int32, y = x4 + 6 := ⟨_, rfl⟩
              have h := h y182 ey182
              refine lv_iinc (v := y182) (lv' := [(4, .int y182), (6, .int r173), (5, .int r170), (0, .ref b), (1, .ref (ad 0)), (2, .ref (ad 10)), (3, .ref (ad 83))]) hx hb dL_law_1534 hl (k := 6) rfl (by rw [ey182]; rfl) (by decide) rfl (fun ls hl => ?_)
              refine lv_goto (tgt := 23) hx hb dL_law_1537 (by decide) ?_
              exact ih23 _ _ _ _ _ _ _ (by omega) (by omega) h hI (lv_sub hl [3, 4, 5, 6, 0] rfl)
            · have h := h.2 c181
              refine lv_iconst (v := 0) hx hb dL_law_511 (by decide) ?_
              exact h.elim
          · have h := h.2 c180
            refine lv_lconst (v := 1) hx hb dL_law_502 (by decide) ?_
            refine lv_goto (tgt := 507) hx hb dL_law_503 (by decide) ?_
            refine W.lcmp hx hb dL_law_507 ?_
            refine lv_if_eq (tgt := 513) hx hb dL_law_508 (by decide) (fun c183 => ?_) (fun c183 => ?_)
            · have h := h.1 c183
              refine lv_goto (tgt := 1534) hx hb dL_law_513 (by decide) ?_
              obtain ⟨y184, ey184⟩ : ∃ y : Int32, y = x4 + 6 := ⟨_, rfl⟩
              have h := h y184 ey184
              refine lv_iinc (v := y184) (lv' := [(4, .int y184), (6, .int r173), (5, .int r170), (0, .ref b), (1, .ref (ad 0)), (2, .ref (ad 10)), (3, .ref (ad 83))]) hx hb dL_law_1534 hl (k := 6) rfl (by rw [ey184]; rfl) (by decide) rfl (fun ls hl => ?_)
              refine lv_goto (tgt := 23) hx hb dL_law_1537 (by decide) ?_
              exact ih23 _ _ _ _ _ _ _ (by omega) (by omega) h hI (lv_sub hl [3, 4, 5, 6, 0] rfl)
            · have h := h.2 c183
              refine lv_iconst (v := 0) hx hb dL_law_511 (by decide) ?_
              exact h.elim
      · have h := h.2 c176
        refine lv_iconst (v := 0) hx hb dL_law_487 (by decide) ?_
        exact h.elim
    have J516 : ∀ (cs sl : Nat) (x4 : Int32) (σ : gS) (H : Heap) (locs : List Loc) (ls : Array Slot), cs + 7 * n23 + 7 ≤ 600000 → sl + 42 * n23 + 42 ≤ 7000000 → w_L_law_516 Q LN xs (w_L_law_23 Q LN xs n23) x4 σ → gI D cy ad A s.heap σ H locs → lv_has ls 7 [(0, .ref b), (1, .ref (ad 0)), (2, .ref (ad 10)), (3, .ref (ad 83)), (4, .int x4)] → W p l e room_1 s m #[Value.ref b] below meth c H locs cs sl (lw_Z below #[Value.ref b] s) (F0 m 516 ls []) := by
      intro cs sl x4 σ H locs ls hcs hsl h hI hl
      unfold w_L_law_516 at h
      refine lv_aload_n hx hb dL_law_516 rfl (lv_at hl 1 rfl) ?_
      refine lv_aload_n hx hb dL_law_517 rfl (lv_at hl 0 rfl) ?_
      refine lv_iload hx hb dL_law_518 (lv_at hl 4 rfl) ?_
      refine lv_iconst (v := 1) hx hb dL_law_520 (by decide) ?_
      refine lv_iadd hx hb dL_law_521 ?_
      obtain ⟨hi185, h⟩ := h
      refine va_sld hx hb hX hbl hbA hI.2.2 hi185 dL_law_522 ?_
      refine lv_aload_n hx hb dL_law_523 rfl (lv_at hl 3 rfl) ?_
      refine gw_backi hI (gw_runS (As := [.ref (ad 0), .int (xs (x4 + 1).toNatClampNeg), .ref (ad 83)]) (rest := []) hC hml hI (c_L_at l hst D cy ad A _  _ _ h) k_L_at gw_3_183 ⟨rfl, rfl⟩ ⟨Nat.le_of_ble_eq_true rfl, Nat.le_of_ble_eq_true rfl⟩ rfl hl.1 rfl (Nat.le_of_ble_eq_true rfl) dL_law_524 ⟨by rw [hRc]; omega, by rw [hRs]; omega⟩) (fun r187 s186 H locs h hI => ?_)
      refine lv_istore (lv' := [(5, .int r187), (0, .ref b), (1, .ref (ad 0)), (2, .ref (ad 10)), (3, .ref (ad 83)), (4, .int x4)]) hx hb dL_law_527 hl (by decide) rfl (fun ls hl => ?_)
      refine lv_aload_n hx hb dL_law_529 rfl (lv_at hl 3 rfl) ?_
      refine lv_aload_n hx hb dL_law_530 rfl (lv_at hl 1 rfl) ?_
      refine lv_iload hx hb dL_law_531 (lv_at hl 5 rfl) ?_
      refine lv_iconst (v := 1) hx hb dL_law_533 (by decide) ?_
      refine lv_iadd hx hb dL_law_534 ?_
      obtain ⟨hi188, h⟩ := h
      refine va_sld hx hb hX hbl hbA hI.2.2 hi188 dL_law_535 ?_
      refine g_backi hI (g_runV (As := [.int (xs (x4 + 1).toNatClampNeg)]) (rest := []) hC hml hI (c_X9_at l D cy ad A _  _ _ h) k_X9_at gw_5_121 ⟨rfl, rfl⟩ ⟨Nat.le_of_ble_eq_true rfl, Nat.le_of_ble_eq_true rfl⟩ (grv_10 hC hI) rfl hl.1 rfl (Nat.le_of_ble_eq_true rfl) dL_law_536 ⟨by rw [hRc]; omega, by rw [hRs]; omega⟩) (fun r190 s189 H locs h hI => ?_)
      refine lv_istore (lv' := [(6, .int r190), (5, .int r187), (0, .ref b), (1, .ref (ad 0)), (2, .ref (ad 10)), (3, .ref (ad 83)), (4, .int x4)]) hx hb dL_law_539 hl (by decide) rfl (fun ls hl => ?_)
      refine lv_aload_n hx hb dL_law_541 rfl (lv_at hl 4 rfl) ?_
      refine g_backi hI (g_runV (As := []) (rest := []) hC hml hI (c_X9_thrown l D cy ad A _  _ h) k_X9_thrown gw_4_178 ⟨rfl, rfl⟩ ⟨Nat.le_of_ble_eq_true rfl, Nat.le_of_ble_eq_true rfl⟩ (grv_10 hC hI) rfl hl.1 rfl (Nat.le_of_ble_eq_true rfl) dL_law_542 ⟨by rw [hRc]; omega, by rw [hRs]; omega⟩) (fun r192 s191 H locs h hI => ?_)
      refine lv_iload hx hb dL_law_545 (lv_at hl 1 rfl) ?_
      refine lv_icmp_eq (tgt := 552) hx hb dL_law_547 (by decide) (fun c193 => ?_) (fun c193 => ?_)
      · have h := h.1 c193
        refine lv_iload hx hb dL_law_552 (lv_at hl 1 rfl) ?_
        refine lv_if_ne (tgt := 569) hx hb dL_law_554 (by decide) (fun c194 => ?_) (fun c194 => ?_)
        · have h := h.1 c194
          refine lv_goto (tgt := 1534) hx hb dL_law_569 (by decide) ?_
          obtain ⟨y195, ey195⟩ : ∃ y : Int32, y = x4 + 6 := ⟨_, rfl⟩
          have h := h y195 ey195
          refine lv_iinc (v := y195) (lv' := [(4, .int y195), (6, .int r190), (5, .int r187), (0, .ref b), (1, .ref (ad 0)), (2, .ref (ad 10)), (3, .ref (ad 83))]) hx hb dL_law_1534 hl (k := 6) rfl (by rw [ey195]; rfl) (by decide) rfl (fun ls hl => ?_)
          refine lv_goto (tgt := 23) hx hb dL_law_1537 (by decide) ?_
          exact ih23 _ _ _ _ _ _ _ (by omega) (by omega) h hI (lv_sub hl [3, 4, 5, 6, 0] rfl)
        · have h := h.2 c194
          refine lv_aload_n hx hb dL_law_557 rfl (lv_at hl 5 rfl) ?_
          refine lv_iconst (v := 0) hx hb dL_law_558 (by decide) ?_
          refine ga_83 hC hI (by unfold vp_in; decide) dL_law_559 ?_
          refine lv_iload hx hb dL_law_560 (lv_at hl 0 rfl) ?_
          refine lv_i2l hx hb dL_law_562 rfl ?_
          refine W.lcmp hx hb dL_law_563 ?_
          refine lv_if_eq (tgt := 569) hx hb dL_law_564 (by decide) (fun c197 => ?_) (fun c197 => ?_)
          · have h := h.1 c197
            refine lv_goto (tgt := 1534) hx hb dL_law_569 (by decide) ?_
            obtain ⟨y198, ey198⟩ : ∃ y : Int32, y = x4 + 6 := ⟨_, rfl⟩
            have h := h y198 ey198
            refine lv_iinc (v := y198) (lv' := [(4, .int y198), (6, .int r190), (5, .int r187), (0, .ref b), (1, .ref (ad 0)), (2, .ref (ad 10)), (3, .ref (ad 83))]) hx hb dL_law_1534 hl (k := 6) rfl (by rw [ey198]; rfl) (by decide) rfl (fun ls hl => ?_)
            refine lv_goto (tgt := 23) hx hb dL_law_1537 (by decide) ?_
            exact ih23 _ _ _ _ _ _ _ (by omega) (by omega) h hI (lv_sub hl [3, 4, 5, 6, 0] rfl)
          · have h := h.2 c197
            refine lv_iconst (v := 0) hx hb dL_law_567 (by decide) ?_
            exact h.elim
      · have h := h.2 c193
        refine lv_iconst (v := 0) hx hb dL_law_550 (by decide) ?_
        exact h.elim
    have J572 : ∀ (cs sl : Nat) (x4 : Int32) (σ : gS) (H : Heap) (locs : List Loc) (ls : Array Slot), cs + 7 * n23 + 7 ≤ 600000 → sl + 42 * n23 + 42 ≤ 7000000 → w_L_law_572 Q LN xs (w_L_law_23 Q LN xs n23) x4 σ → gI D cy ad A s.heap σ H locs → lv_has ls 7 [(0, .ref b), (1, .ref (ad 0)), (2, .ref (ad 10)), (3, .ref (ad 83)), (4, .int x4)] → W p l e room_1 s m #[Value.ref b] below meth c H locs cs sl (lw_Z below #[Value.ref b] s) (F0 m 572 ls []) := by
      intro cs sl x4 σ H locs ls hcs hsl h hI hl
      unfold w_L_law_572 at h
      refine lv_aload_n hx hb dL_law_572 rfl (lv_at hl 1 rfl) ?_
      refine lv_aload_n hx hb dL_law_573 rfl (lv_at hl 0 rfl) ?_
      refine lv_iload hx hb dL_law_574 (lv_at hl 4 rfl) ?_
      refine lv_iconst (v := 1) hx hb dL_law_576 (by decide) ?_
      refine lv_iadd hx hb dL_law_577 ?_
      obtain ⟨hi199, h⟩ := h
      refine va_sld hx hb hX hbl hbA hI.2.2 hi199 dL_law_578 ?_
      refine lv_aload_n hx hb dL_law_579 rfl (lv_at hl 0 rfl) ?_
      refine lv_iload hx hb dL_law_580 (lv_at hl 4 rfl) ?_
      refine lv_iconst (v := 2) hx hb dL_law_582 (by decide) ?_
      refine lv_iadd hx hb dL_law_583 ?_
      obtain ⟨hi200, h⟩ := h
      refine va_sld hx hb hX hbl hbA hI.2.2 hi200 dL_law_584 ?_
      refine lv_aload_n hx hb dL_law_585 rfl (lv_at hl 3 rfl) ?_
      refine gw_backi hI (gw_runS (As := [.ref (ad 0), .int (xs (x4 + 1).toNatClampNeg), .int (xs (x4 + 2).toNatClampNeg), .ref (ad 83)]) (rest := []) hC hml hI (c_L_place l hst D cy ad A _  _ _ _ h) k_L_place gw_3_190 ⟨rfl, rfl⟩ ⟨Nat.le_of_ble_eq_true rfl, Nat.le_of_ble_eq_true rfl⟩ rfl hl.1 rfl (Nat.le_of_ble_eq_true rfl) dL_law_586 ⟨by rw [hRc]; omega, by rw [hRs]; omega⟩) (fun r202 s201 H locs h hI => ?_)
      refine lv_istore (lv' := [(5, .int r202), (0, .ref b), (1, .ref (ad 0)), (2, .ref (ad 10)), (3, .ref (ad 83)), (4, .int x4)]) hx hb dL_law_589 hl (by decide) rfl (fun ls hl => ?_)
      refine lv_aload_n hx hb dL_law_591 rfl (lv_at hl 3 rfl) ?_
      refine lv_aload_n hx hb dL_law_592 rfl (lv_at hl 1 rfl) ?_
      refine lv_iload hx hb dL_law_593 (lv_at hl 5 rfl) ?_
      refine lv_iconst (v := 1) hx hb dL_law_595 (by decide) ?_
      refine lv_iadd hx hb dL_law_596 ?_
      obtain ⟨hi203, h⟩ := h
      refine va_sld hx hb hX hbl hbA hI.2.2 hi203 dL_law_597 ?_
      refine lv_aload_n hx hb dL_law_598 rfl (lv_at hl 1 rfl) ?_
      refine lv_iload hx hb dL_law_599 (lv_at hl 5 rfl) ?_
      refine lv_iconst (v := 2) hx hb dL_law_601 (by decide) ?_
      refine lv_iadd hx hb dL_law_602 ?_
      obtain ⟨hi204, h⟩ := h
      refine va_sld hx hb hX hbl hbA hI.2.2 hi204 dL_law_603 ?_
      refine g_backi hI (g_runV (As := [.int (xs (x4 + 1).toNatClampNeg), .int (xs (x4 + 2).toNatClampNeg)]) (rest := []) hC hml hI (c_X9_place l D cy ad A _  _ _ _ h) k_X9_place gw_5_125 ⟨rfl, rfl⟩ ⟨Nat.le_of_ble_eq_true rfl, Nat.le_of_ble_eq_true rfl⟩ (grv_10 hC hI) rfl hl.1 rfl (Nat.le_of_ble_eq_true rfl) dL_law_604 ⟨by rw [hRc]; omega, by rw [hRs]; omega⟩) (fun r206 s205 H locs h hI => ?_)
      refine lv_istore (lv' := [(6, .int r206), (5, .int r202), (0, .ref b), (1, .ref (ad 0)), (2, .ref (ad 10)), (3, .ref (ad 83)), (4, .int x4)]) hx hb dL_law_607 hl (by decide) rfl (fun ls hl => ?_)
      refine lv_aload_n hx hb dL_law_609 rfl (lv_at hl 4 rfl) ?_
      refine g_backi hI (g_runV (As := []) (rest := []) hC hml hI (c_X9_thrown l D cy ad A _  _ h) k_X9_thrown gw_4_178 ⟨rfl, rfl⟩ ⟨Nat.le_of_ble_eq_true rfl, Nat.le_of_ble_eq_true rfl⟩ (grv_10 hC hI) rfl hl.1 rfl (Nat.le_of_ble_eq_true rfl) dL_law_610 ⟨by rw [hRc]; omega, by rw [hRs]; omega⟩) (fun r208 s207 H locs h hI => ?_)
      refine lv_iload hx hb dL_law_613 (lv_at hl 1 rfl) ?_
      refine lv_icmp_eq (tgt := 620) hx hb dL_law_615 (by decide) (fun c209 => ?_) (fun c209 => ?_)
      · have h := h.1 c209
        refine lv_iload hx hb dL_law_620 (lv_at hl 1 rfl) ?_
        refine lv_if_ne (tgt := 637) hx hb dL_law_622 (by decide) (fun c210 => ?_) (fun c210 => ?_)
        · have h := h.1 c210
          refine lv_goto (tgt := 1534) hx hb dL_law_637 (by decide) ?_
          obtain ⟨y211, ey211⟩ : ∃ y : Int32, y = x4 + 6 := ⟨_, rfl⟩
          have h := h y211 ey211
          refine lv_iinc (v := y211) (lv' := [(4, .int y211), (6, .int r206), (5, .int r202), (0, .ref b), (1, .ref (ad 0)), (2, .ref (ad 10)), (3, .ref (ad 83))]) hx hb dL_law_1534 hl (k := 6) rfl (by rw [ey211]; rfl) (by decide) rfl (fun ls hl => ?_)
          refine lv_goto (tgt := 23) hx hb dL_law_1537 (by decide) ?_
          exact ih23 _ _ _ _ _ _ _ (by omega) (by omega) h hI (lv_sub hl [3, 4, 5, 6, 0] rfl)
        · have h := h.2 c210
          refine lv_aload_n hx hb dL_law_625 rfl (lv_at hl 5 rfl) ?_
          refine lv_iconst (v := 0) hx hb dL_law_626 (by decide) ?_
          refine ga_83 hC hI (by unfold vp_in; decide) dL_law_627 ?_
          refine lv_iload hx hb dL_law_628 (lv_at hl 0 rfl) ?_
          refine lv_i2l hx hb dL_law_630 rfl ?_
          refine W.lcmp hx hb dL_law_631 ?_
          refine lv_if_eq (tgt := 637) hx hb dL_law_632 (by decide) (fun c213 => ?_) (fun c213 => ?_)
          · have h := h.1 c213
            refine lv_goto (tgt := 1534) hx hb dL_law_637 (by decide) ?_
            obtain ⟨y214, ey214⟩ : ∃ y : Int32, y = x4 + 6 := ⟨_, rfl⟩
            have h := h y214 ey214
            refine lv_iinc (v := y214) (lv' := [(4, .int y214), (6, .int r206), (5, .int r202), (0, .ref b), (1, .ref (ad 0)), (2, .ref (ad 10)), (3, .ref (ad 83))]) hx hb dL_law_1534 hl (k := 6) rfl (by rw [ey214]; rfl) (by decide) rfl (fun ls hl => ?_)
            refine lv_goto (tgt := 23) hx hb dL_law_1537 (by decide) ?_
            exact ih23 _ _ _ _ _ _ _ (by omega) (by omega) h hI (lv_sub hl [3, 4, 5, 6, 0] rfl)
          · have h := h.2 c213
            refine lv_iconst (v := 0) hx hb dL_law_635 (by decide) ?_
            exact h.elim
      · have h := h.2 c209
        refine lv_iconst (v := 0) hx hb dL_law_618 (by decide) ?_
        exact h.elim
    have J640 : ∀ (cs sl : Nat) (x4 : Int32) (σ : gS) (H : Heap) (locs : List Loc) (ls : Array Slot), cs + 7 * n23 + 7 ≤ 600000 → sl + 42 * n23 + 42 ≤ 7000000 → w_L_law_640 Q LN xs (w_L_law_23 Q LN xs n23) x4 σ → gI D cy ad A s.heap σ H locs → lv_has ls 7 [(0, .ref b), (1, .ref (ad 0)), (2, .ref (ad 10)), (3, .ref (ad 83)), (4, .int x4)] → W p l e room_1 s m #[Value.ref b] below meth c H locs cs sl (lw_Z below #[Value.ref b] s) (F0 m 640 ls []) := by
      intro cs sl x4 σ H locs ls hcs hsl h hI hl
      unfold w_L_law_640 at h
      refine lv_aload_n hx hb dL_law_640 rfl (lv_at hl 1 rfl) ?_
      refine lv_aload_n hx hb dL_law_641 rfl (lv_at hl 0 rfl) ?_
      refine lv_iload hx hb dL_law_642 (lv_at hl 4 rfl) ?_
      refine lv_iconst (v := 1) hx hb dL_law_644 (by decide) ?_
      refine lv_iadd hx hb dL_law_645 ?_
      obtain ⟨hi215, h⟩ := h
      refine va_sld hx hb hX hbl hbA hI.2.2 hi215 dL_law_646 ?_
      refine lv_aload_n hx hb dL_law_647 rfl (lv_at hl 0 rfl) ?_
      refine lv_iload hx hb dL_law_648 (lv_at hl 4 rfl) ?_
      refine lv_iconst (v := 2) hx hb dL_law_650 (by decide) ?_
      refine lv_iadd hx hb dL_law_651 ?_
      obtain ⟨hi216, h⟩ := h
      refine va_sld hx hb hX hbl hbA hI.2.2 hi216 dL_law_652 ?_
      refine gw_backi hI (gw_runS (As := [.ref (ad 0), .int (xs (x4 + 1).toNatClampNeg), .int (xs (x4 + 2).toNatClampNeg)]) (rest := []) hC hml hI (c_L_crowd l hst D cy ad A _  _ _ _ h) k_L_crowd gw_3_205 ⟨rfl, rfl⟩ ⟨Nat.le_of_ble_eq_true rfl, Nat.le_of_ble_eq_true rfl⟩ rfl hl.1 rfl (Nat.le_of_ble_eq_true rfl) dL_law_653 ⟨by rw [hRc]; omega, by rw [hRs]; omega⟩) (fun r218 s217 H locs h hI => ?_)
      refine lv_istore (lv' := [(5, .int r218), (0, .ref b), (1, .ref (ad 0)), (2, .ref (ad 10)), (3, .ref (ad 83)), (4, .int x4)]) hx hb dL_law_656 hl (by decide) rfl (fun ls hl => ?_)
      refine lv_aload_n hx hb dL_law_658 rfl (lv_at hl 3 rfl) ?_
      refine lv_aload_n hx hb dL_law_659 rfl (lv_at hl 1 rfl) ?_
      refine lv_iload hx hb dL_law_660 (lv_at hl 5 rfl) ?_
      refine lv_iconst (v := 1) hx hb dL_law_662 (by decide) ?_
      refine lv_iadd hx hb dL_law_663 ?_
      obtain ⟨hi219, h⟩ := h
      refine va_sld hx hb hX hbl hbA hI.2.2 hi219 dL_law_664 ?_
      refine lv_aload_n hx hb dL_law_665 rfl (lv_at hl 1 rfl) ?_
      refine lv_iload hx hb dL_law_666 (lv_at hl 5 rfl) ?_
      refine lv_iconst (v := 2) hx hb dL_law_668 (by decide) ?_
      refine lv_iadd hx hb dL_law_669 ?_
      obtain ⟨hi220, h⟩ := h
      refine va_sld hx hb hX hbl hbA hI.2.2 hi220 dL_law_670 ?_
      refine g_backv hI (g_runV (As := [.int (xs (x4 + 1).toNatClampNeg), .int (xs (x4 + 2).toNatClampNeg)]) (rest := []) hC hml hI (c_X9_crowd l D cy ad A _  _ _ _ h) k_X9_crowd gw_5_129 ⟨rfl, rfl⟩ ⟨Nat.le_of_ble_eq_true rfl, Nat.le_of_ble_eq_true rfl⟩ (grv_10 hC hI) rfl hl.1 rfl (Nat.le_of_ble_eq_true rfl) dL_law_671 ⟨by rw [hRc]; omega, by rw [hRs]; omega⟩) (fun s221 H locs h hI => ?_)
      refine lv_aload_n hx hb dL_law_674 rfl (lv_at hl 3 rfl) ?_
      refine g_backi hI (g_runV (As := []) (rest := []) hC hml hI (c_X9_thrown l D cy ad A _  _ h) k_X9_thrown gw_4_178 ⟨rfl, rfl⟩ ⟨Nat.le_of_ble_eq_true rfl, Nat.le_of_ble_eq_true rfl⟩ (grv_10 hC hI) rfl hl.1 rfl (Nat.le_of_ble_eq_true rfl) dL_law_675 ⟨by rw [hRc]; omega, by rw [hRs]; omega⟩) (fun r224 s223 H locs h hI => ?_)
      refine lv_iload hx hb dL_law_678 (lv_at hl 0 rfl) ?_
      refine lv_icmp_eq (tgt := 685) hx hb dL_law_680 (by decide) (fun c225 => ?_) (fun c225 => ?_)
      · have h := h.1 c225
        refine lv_goto (tgt := 1534) hx hb dL_law_685 (by decide) ?_
        obtain ⟨y226, ey226⟩ : ∃ y : Int32, y = x4 + 6 := ⟨_, rfl⟩
        have h := h y226 ey226
        refine lv_iinc (v := y226) (lv' := [(4, .int y226), (5, .int r218), (0, .ref b), (1, .ref (ad 0)), (2, .ref (ad 10)), (3, .ref (ad 83))]) hx hb dL_law_1534 hl (k := 5) rfl (by rw [ey226]; rfl) (by decide) rfl (fun ls hl => ?_)
        refine lv_goto (tgt := 23) hx hb dL_law_1537 (by decide) ?_
        exact ih23 _ _ _ _ _ _ _ (by omega) (by omega) h hI (lv_sub hl [2, 3, 4, 5, 0] rfl)
      · have h := h.2 c225
        refine lv_iconst (v := 0) hx hb dL_law_683 (by decide) ?_
        exact h.elim
    have J736 : ∀ (cs sl : Nat) (x4 : Int32) (x5 : Int32) (v0 : Int32) (v1 : Int32) (σ : gS) (H : Heap) (locs : List Loc) (ls : Array Slot), cs + 7 * n23 + 6 ≤ 600000 → sl + 42 * n23 + 36 ≤ 7000000 → w_L_law_736 Q LN xs (w_L_law_23 Q LN xs n23) x4 x5 v0 v1 σ → gI D cy ad A s.heap σ H locs → lv_has ls 7 [(0, .ref b), (1, .ref (ad 0)), (2, .ref (ad 10)), (3, .ref (ad 83)), (4, .int x4), (5, .int x5)] → W p l e room_1 s m #[Value.ref b] below meth c H locs cs sl (lw_Z below #[Value.ref b] s) (F0 m 736 ls [.int v0, .int v1, .ref (ad 10)]) := by
      intro cs sl x4 x5 v0 v1 σ H locs ls hcs hsl h hI hl
      unfold w_L_law_736 at h
      refine g_backi hI (g_runV (As := [.int v1, .int v0]) (rest := []) hC hml hI (c_X9_shut l D cy ad A _  _ _ _ h) k_X9_shut gw_5_137 ⟨rfl, rfl⟩ ⟨Nat.le_of_ble_eq_true rfl, Nat.le_of_ble_eq_true rfl⟩ (grv_10 hC hI) rfl hl.1 rfl (Nat.le_of_ble_eq_true rfl) dL_law_736 ⟨by rw [hRc]; omega, by rw [hRs]; omega⟩) (fun r228 s227 H locs h hI => ?_)
      refine lv_istore (lv' := [(6, .int r228), (0, .ref b), (1, .ref (ad 0)), (2, .ref (ad 10)), (3, .ref (ad 83)), (4, .int x4), (5, .int x5)]) hx hb dL_law_739 hl (by decide) rfl (fun ls hl => ?_)
      refine lv_aload_n hx hb dL_law_741 rfl (lv_at hl 3 rfl) ?_
      refine g_backi hI (g_runV (As := []) (rest := []) hC hml hI (c_X9_thrown l D cy ad A _  _ h) k_X9_thrown gw_4_178 ⟨rfl, rfl⟩ ⟨Nat.le_of_ble_eq_true rfl, Nat.le_of_ble_eq_true rfl⟩ (grv_10 hC hI) rfl hl.1 rfl (Nat.le_of_ble_eq_true rfl) dL_law_742 ⟨by rw [hRc]; omega, by rw [hRs]; omega⟩) (fun r230 s229 H locs h hI => ?_)
      refine lv_iload hx hb dL_law_745 (lv_at hl 6 rfl) ?_
      refine lv_icmp_eq (tgt := 752) hx hb dL_law_747 (by decide) (fun c231 => ?_) (fun c231 => ?_)
      · have h := h.1 c231
        refine lv_iload hx hb dL_law_752 (lv_at hl 6 rfl) ?_
        refine lv_if_ne (tgt := 776) hx hb dL_law_754 (by decide) (fun c232 => ?_) (fun c232 => ?_)
        · have h := h.1 c232
          refine lv_goto (tgt := 1534) hx hb dL_law_776 (by decide) ?_
          obtain ⟨y233, ey233⟩ : ∃ y : Int32, y = x4 + 6 := ⟨_, rfl⟩
          have h := h y233 ey233
          refine lv_iinc (v := y233) (lv' := [(4, .int y233), (6, .int r228), (0, .ref b), (1, .ref (ad 0)), (2, .ref (ad 10)), (3, .ref (ad 83)), (5, .int x5)]) hx hb dL_law_1534 hl (k := 5) rfl (by rw [ey233]; rfl) (by decide) rfl (fun ls hl => ?_)
          refine lv_goto (tgt := 23) hx hb dL_law_1537 (by decide) ?_
          exact ih23 _ _ _ _ _ _ _ (by omega) (by omega) h hI (lv_sub hl [2, 3, 4, 5, 0] rfl)
        · have h := h.2 c232
          refine lv_aload_n hx hb dL_law_757 rfl (lv_at hl 4 rfl) ?_
          refine lv_iconst (v := 0) hx hb dL_law_758 (by decide) ?_
          refine ga_83 hC hI (by unfold vp_in; decide) dL_law_759 ?_
          refine lv_iload hx hb dL_law_760 (lv_at hl 0 rfl) ?_
          refine lv_if_eq (tgt := 769) hx hb dL_law_762 (by decide) (fun c235 => ?_) (fun c235 => ?_)
          · have h := h.1 c235
            refine lv_lconst (v := 0) hx hb dL_law_769 (by decide) ?_
            refine W.lcmp hx hb dL_law_770 ?_
            refine lv_if_eq (tgt := 776) hx hb dL_law_771 (by decide) (fun c236 => ?_) (fun c236 => ?_)
            · have h := h.1 c236
              refine lv_goto (tgt := 1534) hx hb dL_law_776 (by decide) ?_
              obtain ⟨y237, ey237⟩ : ∃ y : Int32, y = x4 + 6 := ⟨_, rfl⟩
              have h := h y237 ey237
              refine lv_iinc (v := y237) (lv' := [(4, .int y237), (6, .int r228), (0, .ref b), (1, .ref (ad 0)), (2, .ref (ad 10)), (3, .ref (ad 83)), (5, .int x5)]) hx hb dL_law_1534 hl (k := 5) rfl (by rw [ey237]; rfl) (by decide) rfl (fun ls hl => ?_)
              refine lv_goto (tgt := 23) hx hb dL_law_1537 (by decide) ?_
              exact ih23 _ _ _ _ _ _ _ (by omega) (by omega) h hI (lv_sub hl [2, 3, 4, 5, 0] rfl)
            · have h := h.2 c236
              refine lv_iconst (v := 0) hx hb dL_law_774 (by decide) ?_
              exact h.elim
          · have h := h.2 c235
            refine lv_lconst (v := 1) hx hb dL_law_765 (by decide) ?_
            refine lv_goto (tgt := 770) hx hb dL_law_766 (by decide) ?_
            refine W.lcmp hx hb dL_law_770 ?_
            refine lv_if_eq (tgt := 776) hx hb dL_law_771 (by decide) (fun c238 => ?_) (fun c238 => ?_)
            · have h := h.1 c238
              refine lv_goto (tgt := 1534) hx hb dL_law_776 (by decide) ?_
              obtain ⟨y239, ey239⟩ : ∃ y : Int32, y = x4 + 6 := ⟨_, rfl⟩
              have h := h y239 ey239
              refine lv_iinc (v := y239) (lv' := [(4, .int y239), (6, .int r228), (0, .ref b), (1, .ref (ad 0)), (2, .ref (ad 10)), (3, .ref (ad 83)), (5, .int x5)]) hx hb dL_law_1534 hl (k := 5) rfl (by rw [ey239]; rfl) (by decide) rfl (fun ls hl => ?_)
              refine lv_goto (tgt := 23) hx hb dL_law_1537 (by decide) ?_
              exact ih23 _ _ _ _ _ _ _ (by omega) (by omega) h hI (lv_sub hl [2, 3, 4, 5, 0] rfl)
            · have h := h.2 c238
              refine lv_iconst (v := 0) hx hb dL_law_774 (by decide) ?_
              exact h.elim
      · have h := h.2 c231
        refine lv_iconst (v := 0) hx hb dL_law_750 (by decide) ?_
        exact h.elim
    have J709 : ∀ (cs sl : Nat) (x4 : Int32) (v0 : Int32) (v1 : Int32) (σ : gS) (H : Heap) (locs : List Loc) (ls : Array Slot), cs + 7 * n23 + 7 ≤ 600000 → sl + 42 * n23 + 42 ≤ 7000000 → w_L_law_709 Q LN xs (w_L_law_23 Q LN xs n23) x4 v0 v1 σ → gI D cy ad A s.heap σ H locs → lv_has ls 7 [(0, .ref b), (1, .ref (ad 0)), (2, .ref (ad 10)), (3, .ref (ad 83)), (4, .int x4)] → W p l e room_1 s m #[Value.ref b] below meth c H locs cs sl (lw_Z below #[Value.ref b] s) (F0 m 709 ls [.int v0, .int v1, .ref (ad 0)]) := by
      intro cs sl x4 v0 v1 σ H locs ls hcs hsl h hI hl
      unfold w_L_law_709 at h
      refine lv_aload_n hx hb dL_law_709 rfl (lv_at hl 3 rfl) ?_
      refine gw_backi hI (gw_runS (As := [.ref (ad 0), .int v1, .int v0, .ref (ad 83)]) (rest := []) hC hml hI (c_L_shut l hst D cy ad A _  _ _ _ h) k_L_shut gw_3_216 ⟨rfl, rfl⟩ ⟨Nat.le_of_ble_eq_true rfl, Nat.le_of_ble_eq_true rfl⟩ rfl hl.1 rfl (Nat.le_of_ble_eq_true rfl) dL_law_710 ⟨by rw [hRc]; omega, by rw [hRs]; omega⟩) (fun r241 s240 H locs h hI => ?_)
      refine lv_istore (lv' := [(5, .int r241), (0, .ref b), (1, .ref (ad 0)), (2, .ref (ad 10)), (3, .ref (ad 83)), (4, .int x4)]) hx hb dL_law_713 hl (by decide) rfl (fun ls hl => ?_)
      refine lv_aload_n hx hb dL_law_715 rfl (lv_at hl 3 rfl) ?_
      refine lv_aload_n hx hb dL_law_716 rfl (lv_at hl 1 rfl) ?_
      refine lv_iload hx hb dL_law_717 (lv_at hl 5 rfl) ?_
      refine lv_iconst (v := 1) hx hb dL_law_719 (by decide) ?_
      refine lv_iadd hx hb dL_law_720 ?_
      obtain ⟨hi242, h⟩ := h
      refine va_sld hx hb hX hbl hbA hI.2.2 hi242 dL_law_721 ?_
      refine lv_aload_n hx hb dL_law_722 rfl (lv_at hl 1 rfl) ?_
      refine lv_iload hx hb dL_law_723 (lv_at hl 5 rfl) ?_
      refine lv_iconst (v := 2) hx hb dL_law_725 (by decide) ?_
      refine lv_iadd hx hb dL_law_726 ?_
      obtain ⟨hi243, h⟩ := h
      refine va_sld hx hb hX hbl hbA hI.2.2 hi243 dL_law_727 ?_
      refine lv_if_eq (tgt := 735) hx hb dL_law_728 (by decide) (fun c244 => ?_) (fun c244 => ?_)
      · have h := h.1 c244
        refine lv_iconst (v := 0) hx hb dL_law_735 (by decide) ?_
        exact J736 _ _ _ _ _ _ _ _ _ _ (by omega) (by omega) h hI (lv_sub hl [1, 2, 3, 4, 5, 0] rfl)
      · have h := h.2 c244
        refine lv_iconst (v := 1) hx hb dL_law_731 (by decide) ?_
        refine lv_goto (tgt := 736) hx hb dL_law_732 (by decide) ?_
        exact J736 _ _ _ _ _ _ _ _ _ _ (by omega) (by omega) h hI (lv_sub hl [1, 2, 3, 4, 5, 0] rfl)
    have J688 : ∀ (cs sl : Nat) (x4 : Int32) (σ : gS) (H : Heap) (locs : List Loc) (ls : Array Slot), cs + 7 * n23 + 7 ≤ 600000 → sl + 42 * n23 + 42 ≤ 7000000 → w_L_law_688 Q LN xs (w_L_law_23 Q LN xs n23) x4 σ → gI D cy ad A s.heap σ H locs → lv_has ls 7 [(0, .ref b), (1, .ref (ad 0)), (2, .ref (ad 10)), (3, .ref (ad 83)), (4, .int x4)] → W p l e room_1 s m #[Value.ref b] below meth c H locs cs sl (lw_Z below #[Value.ref b] s) (F0 m 688 ls []) := by
      intro cs sl x4 σ H locs ls hcs hsl h hI hl
      unfold w_L_law_688 at h
      refine lv_aload_n hx hb dL_law_688 rfl (lv_at hl 1 rfl) ?_
      refine lv_aload_n hx hb dL_law_689 rfl (lv_at hl 0 rfl) ?_
      refine lv_iload hx hb dL_law_690 (lv_at hl 4 rfl) ?_
      refine lv_iconst (v := 1) hx hb dL_law_692 (by decide) ?_
      refine lv_iadd hx hb dL_law_693 ?_
      obtain ⟨hi245, h⟩ := h
      refine va_sld hx hb hX hbl hbA hI.2.2 hi245 dL_law_694 ?_
      refine lv_aload_n hx hb dL_law_695 rfl (lv_at hl 0 rfl) ?_
      refine lv_iload hx hb dL_law_696 (lv_at hl 4 rfl) ?_
      refine lv_iconst (v := 2) hx hb dL_law_698 (by decide) ?_
      refine lv_iadd hx hb dL_law_699 ?_
      obtain ⟨hi246, h⟩ := h
      refine va_sld hx hb hX hbl hbA hI.2.2 hi246 dL_law_700 ?_
      refine lv_if_eq (tgt := 708) hx hb dL_law_701 (by decide) (fun c247 => ?_) (fun c247 => ?_)
      · have h := h.1 c247
        refine lv_iconst (v := 0) hx hb dL_law_708 (by decide) ?_
        exact J709 _ _ _ _ _ _ _ _ _ (by omega) (by omega) h hI (lv_sub hl [0, 1, 2, 3, 4] rfl)
      · have h := h.2 c247
        refine lv_iconst (v := 1) hx hb dL_law_704 (by decide) ?_
        refine lv_goto (tgt := 709) hx hb dL_law_705 (by decide) ?_
        exact J709 _ _ _ _ _ _ _ _ _ (by omega) (by omega) h hI (lv_sub hl [0, 1, 2, 3, 4] rfl)
    have J779 : ∀ (cs sl : Nat) (x4 : Int32) (σ : gS) (H : Heap) (locs : List Loc) (ls : Array Slot), cs + 7 * n23 + 7 ≤ 600000 → sl + 42 * n23 + 42 ≤ 7000000 → w_L_law_779 Q LN xs (w_L_law_23 Q LN xs n23) x4 σ → gI D cy ad A s.heap σ H locs → lv_has ls 7 [(0, .ref b), (1, .ref (ad 0)), (2, .ref (ad 10)), (3, .ref (ad 83)), (4, .int x4)] → W p l e room_1 s m #[Value.ref b] below meth c H locs cs sl (lw_Z below #[Value.ref b] s) (F0 m 779 ls []) := by
      intro cs sl x4 σ H locs ls hcs hsl h hI hl
      unfold w_L_law_779 at h
      refine lv_aload_n hx hb dL_law_779 rfl (lv_at hl 1 rfl) ?_
      refine lv_aload_n hx hb dL_law_780 rfl (lv_at hl 0 rfl) ?_
      refine lv_iload hx hb dL_law_781 (lv_at hl 4 rfl) ?_
      refine lv_iconst (v := 1) hx hb dL_law_783 (by decide) ?_
      refine lv_iadd hx hb dL_law_784 ?_
      obtain ⟨hi248, h⟩ := h
      refine va_sld hx hb hX hbl hbA hI.2.2 hi248 dL_law_785 ?_
      refine lv_aload_n hx hb dL_law_786 rfl (lv_at hl 0 rfl) ?_
      refine lv_iload hx hb dL_law_787 (lv_at hl 4 rfl) ?_
      refine lv_iconst (v := 2) hx hb dL_law_789 (by decide) ?_
      refine lv_iadd hx hb dL_law_790 ?_
      obtain ⟨hi249, h⟩ := h
      refine va_sld hx hb hX hbl hbA hI.2.2 hi249 dL_law_791 ?_
      refine lv_aload_n hx hb dL_law_792 rfl (lv_at hl 0 rfl) ?_
      refine lv_iload hx hb dL_law_793 (lv_at hl 4 rfl) ?_
      refine lv_iconst (v := 3) hx hb dL_law_795 (by decide) ?_
      refine lv_iadd hx hb dL_law_796 ?_
      obtain ⟨hi250, h⟩ := h
      refine va_sld hx hb hX hbl hbA hI.2.2 hi250 dL_law_797 ?_
      refine lv_aload_n hx hb dL_law_798 rfl (lv_at hl 0 rfl) ?_
      refine lv_iload hx hb dL_law_799 (lv_at hl 4 rfl) ?_
      refine lv_iconst (v := 4) hx hb dL_law_801 (by decide) ?_
      refine lv_iadd hx hb dL_law_802 ?_
      obtain ⟨hi251, h⟩ := h
      refine va_sld hx hb hX hbl hbA hI.2.2 hi251 dL_law_803 ?_
      refine lv_aload_n hx hb dL_law_804 rfl (lv_at hl 3 rfl) ?_
      refine gw_backi hI (gw_runS (As := [.ref (ad 0), .int (xs (x4 + 1).toNatClampNeg), .int (xs (x4 + 2).toNatClampNeg), .int (xs (x4 + 3).toNatClampNeg), .int (xs (x4 + 4).toNatClampNeg), .ref (ad 83)]) (rest := []) hC hml hI (c_L_way l hst D cy ad A _  _ _ _ _ _ h) k_L_way gw_3_227 ⟨rfl, rfl⟩ ⟨Nat.le_of_ble_eq_true rfl, Nat.le_of_ble_eq_true rfl⟩ rfl hl.1 rfl (Nat.le_of_ble_eq_true rfl) dL_law_805 ⟨by rw [hRc]; omega, by rw [hRs]; omega⟩) (fun r253 s252 H locs h hI => ?_)
      refine lv_istore (lv' := [(5, .int r253), (0, .ref b), (1, .ref (ad 0)), (2, .ref (ad 10)), (3, .ref (ad 83)), (4, .int x4)]) hx hb dL_law_808 hl (by decide) rfl (fun ls hl => ?_)
      refine lv_aload_n hx hb dL_law_810 rfl (lv_at hl 3 rfl) ?_
      refine lv_aload_n hx hb dL_law_811 rfl (lv_at hl 1 rfl) ?_
      refine lv_iload hx hb dL_law_812 (lv_at hl 5 rfl) ?_
      refine lv_iconst (v := 1) hx hb dL_law_814 (by decide) ?_
      refine lv_iadd hx hb dL_law_815 ?_
      obtain ⟨hi254, h⟩ := h
      refine va_sld hx hb hX hbl hbA hI.2.2 hi254 dL_law_816 ?_
      refine lv_aload_n hx hb dL_law_817 rfl (lv_at hl 1 rfl) ?_
      refine lv_iload hx hb dL_law_818 (lv_at hl 5 rfl) ?_
      refine lv_iconst (v := 2) hx hb dL_law_820 (by decide) ?_
      refine lv_iadd hx hb dL_law_821 ?_
      obtain ⟨hi255, h⟩ := h
      refine va_sld hx hb hX hbl hbA hI.2.2 hi255 dL_law_822 ?_
      refine lv_aload_n hx hb dL_law_823 rfl (lv_at hl 1 rfl) ?_
      refine lv_iload hx hb dL_law_824 (lv_at hl 5 rfl) ?_
      refine lv_iconst (v := 3) hx hb dL_law_826 (by decide) ?_
      refine lv_iadd hx hb dL_law_827 ?_
      obtain ⟨hi256, h⟩ := h
      refine va_sld hx hb hX hbl hbA hI.2.2 hi256 dL_law_828 ?_
      refine lv_aload_n hx hb dL_law_829 rfl (lv_at hl 1 rfl) ?_
      refine lv_iload hx hb dL_law_830 (lv_at hl 5 rfl) ?_
      refine lv_iconst (v := 4) hx hb dL_law_832 (by decide) ?_
      refine lv_iadd hx hb dL_law_833 ?_
      obtain ⟨hi257, h⟩ := h
      refine va_sld hx hb hX hbl hbA hI.2.2 hi257 dL_law_834 ?_
      refine g_backi hI (g_runV (As := [.int (xs (x4 + 1).toNatClampNeg), .int (xs (x4 + 2).toNatClampNeg), .int (xs (x4 + 3).toNatClampNeg), .int (xs (x4 + 4).toNatClampNeg)]) (rest := []) hC hml hI (c_X9_way l D cy ad A _  _ _ _ _ _ h) k_X9_way gw_5_141 ⟨rfl, rfl⟩ ⟨Nat.le_of_ble_eq_true rfl, Nat.le_of_ble_eq_true rfl⟩ (grv_10 hC hI) rfl hl.1 rfl (Nat.le_of_ble_eq_true rfl) dL_law_835 ⟨by rw [hRc]; omega, by rw [hRs]; omega⟩) (fun r259 s258 H locs h hI => ?_)
      refine lv_istore (lv' := [(6, .int r259), (5, .int r253), (0, .ref b), (1, .ref (ad 0)), (2, .ref (ad 10)), (3, .ref (ad 83)), (4, .int x4)]) hx hb dL_law_838 hl (by decide) rfl (fun ls hl => ?_)
      refine lv_aload_n hx hb dL_law_840 rfl (lv_at hl 4 rfl) ?_
      refine g_backi hI (g_runV (As := []) (rest := []) hC hml hI (c_X9_thrown l D cy ad A _  _ h) k_X9_thrown gw_4_178 ⟨rfl, rfl⟩ ⟨Nat.le_of_ble_eq_true rfl, Nat.le_of_ble_eq_true rfl⟩ (grv_10 hC hI) rfl hl.1 rfl (Nat.le_of_ble_eq_true rfl) dL_law_841 ⟨by rw [hRc]; omega, by rw [hRs]; omega⟩) (fun r261 s260 H locs h hI => ?_)
      refine lv_iload hx hb dL_law_844 (lv_at hl 1 rfl) ?_
      refine lv_icmp_eq (tgt := 851) hx hb dL_law_846 (by decide) (fun c262 => ?_) (fun c262 => ?_)
      · have h := h.1 c262
        refine lv_iload hx hb dL_law_851 (lv_at hl 1 rfl) ?_
        refine lv_if_ne (tgt := 868) hx hb dL_law_853 (by decide) (fun c263 => ?_) (fun c263 => ?_)
        · have h := h.1 c263
          refine lv_goto (tgt := 1534) hx hb dL_law_868 (by decide) ?_
          obtain ⟨y264, ey264⟩ : ∃ y : Int32, y = x4 + 6 := ⟨_, rfl⟩
          have h := h y264 ey264
          refine lv_iinc (v := y264) (lv' := [(4, .int y264), (6, .int r259), (5, .int r253), (0, .ref b), (1, .ref (ad 0)), (2, .ref (ad 10)), (3, .ref (ad 83))]) hx hb dL_law_1534 hl (k := 6) rfl (by rw [ey264]; rfl) (by decide) rfl (fun ls hl => ?_)
          refine lv_goto (tgt := 23) hx hb dL_law_1537 (by decide) ?_
          exact ih23 _ _ _ _ _ _ _ (by omega) (by omega) h hI (lv_sub hl [3, 4, 5, 6, 0] rfl)
        · have h := h.2 c263
          refine lv_aload_n hx hb dL_law_856 rfl (lv_at hl 5 rfl) ?_
          refine lv_iconst (v := 0) hx hb dL_law_857 (by decide) ?_
          refine ga_83 hC hI (by unfold vp_in; decide) dL_law_858 ?_
          refine lv_iload hx hb dL_law_859 (lv_at hl 0 rfl) ?_
          refine lv_i2l hx hb dL_law_861 rfl ?_
          refine W.lcmp hx hb dL_law_862 ?_
          refine lv_if_eq (tgt := 868) hx hb dL_law_863 (by decide) (fun c266 => ?_) (fun c266 => ?_)
          · have h := h.1 c266
            refine lv_goto (tgt := 1534) hx hb dL_law_868 (by decide) ?_
            obtain ⟨y267, ey267⟩ : ∃ y : Int32, y = x4 + 6 := ⟨_, rfl⟩
            have h := h y267 ey267
            refine lv_iinc (v := y267) (lv' := [(4, .int y267), (6, .int r259), (5, .int r253), (0, .ref b), (1, .ref (ad 0)), (2, .ref (ad 10)), (3, .ref (ad 83))]) hx hb dL_law_1534 hl (k := 6) rfl (by rw [ey267]; rfl) (by decide) rfl (fun ls hl => ?_)
            refine lv_goto (tgt := 23) hx hb dL_law_1537 (by decide) ?_
            exact ih23 _ _ _ _ _ _ _ (by omega) (by omega) h hI (lv_sub hl [3, 4, 5, 6, 0] rfl)
          · have h := h.2 c266
            refine lv_iconst (v := 0) hx hb dL_law_866 (by decide) ?_
            exact h.elim
      · have h := h.2 c262
        refine lv_iconst (v := 0) hx hb dL_law_849 (by decide) ?_
        exact h.elim
    have J871 : ∀ (cs sl : Nat) (x4 : Int32) (σ : gS) (H : Heap) (locs : List Loc) (ls : Array Slot), cs + 7 * n23 + 7 ≤ 600000 → sl + 42 * n23 + 42 ≤ 7000000 → w_L_law_871 Q LN xs (w_L_law_23 Q LN xs n23) x4 σ → gI D cy ad A s.heap σ H locs → lv_has ls 7 [(0, .ref b), (1, .ref (ad 0)), (2, .ref (ad 10)), (3, .ref (ad 83)), (4, .int x4)] → W p l e room_1 s m #[Value.ref b] below meth c H locs cs sl (lw_Z below #[Value.ref b] s) (F0 m 871 ls []) := by
      intro cs sl x4 σ H locs ls hcs hsl h hI hl
      unfold w_L_law_871 at h
      refine lv_aload_n hx hb dL_law_871 rfl (lv_at hl 1 rfl) ?_
      refine g_backi hI (g_runV (As := []) (rest := []) hC hml hI (c_X8_empty l D cy ad A _  _ h) k_X8_empty gw_2_95 ⟨rfl, rfl⟩ ⟨Nat.le_of_ble_eq_true rfl, Nat.le_of_ble_eq_true rfl⟩ (grv_0 hC hI) rfl hl.1 rfl (Nat.le_of_ble_eq_true rfl) dL_law_872 ⟨by rw [hRc]; omega, by rw [hRs]; omega⟩) (fun r269 s268 H locs h hI => ?_)
      refine lv_aload_n hx hb dL_law_875 rfl (lv_at hl 2 rfl) ?_
      refine g_backi hI (g_runV (As := []) (rest := [.int r269]) hC hml hI (c_X9_empty l D cy ad A _  _ h) k_X9_empty gw_5_149 ⟨rfl, rfl⟩ ⟨Nat.le_of_ble_eq_true rfl, Nat.le_of_ble_eq_true rfl⟩ (grv_10 hC hI) rfl hl.1 rfl (Nat.le_of_ble_eq_true rfl) dL_law_876 ⟨by rw [hRc]; omega, by rw [hRs]; omega⟩) (fun r271 s270 H locs h hI => ?_)
      refine lv_icmp_eq (tgt := 1534) hx hb dL_law_879 (by decide) (fun c272 => ?_) (fun c272 => ?_)
      · have h := h.1 c272
        obtain ⟨y273, ey273⟩ : ∃ y : Int32, y = x4 + 6 := ⟨_, rfl⟩
        have h := h y273 ey273
        refine lv_iinc (v := y273) (lv' := [(4, .int y273), (0, .ref b), (1, .ref (ad 0)), (2, .ref (ad 10)), (3, .ref (ad 83))]) hx hb dL_law_1534 hl (k := 4) rfl (by rw [ey273]; rfl) (by decide) rfl (fun ls hl => ?_)
        refine lv_goto (tgt := 23) hx hb dL_law_1537 (by decide) ?_
        exact ih23 _ _ _ _ _ _ _ (by omega) (by omega) h hI (lv_sub hl [1, 2, 3, 4, 0] rfl)
      · have h := h.2 c272
        refine lv_iconst (v := 0) hx hb dL_law_882 (by decide) ?_
        exact h.elim
    have J884 : ∀ (cs sl : Nat) (x4 : Int32) (σ : gS) (H : Heap) (locs : List Loc) (ls : Array Slot), cs + 7 * n23 + 7 ≤ 600000 → sl + 42 * n23 + 42 ≤ 7000000 → w_L_law_884 Q LN xs (w_L_law_23 Q LN xs n23) x4 σ → gI D cy ad A s.heap σ H locs → lv_has ls 7 [(0, .ref b), (1, .ref (ad 0)), (2, .ref (ad 10)), (3, .ref (ad 83)), (4, .int x4)] → W p l e room_1 s m #[Value.ref b] below meth c H locs cs sl (lw_Z below #[Value.ref b] s) (F0 m 884 ls []) := by
      intro cs sl x4 σ H locs ls hcs hsl h hI hl
      unfold w_L_law_884 at h
      refine lv_aload_n hx hb dL_law_884 rfl (lv_at hl 1 rfl) ?_
      refine g_backi hI (g_runV (As := []) (rest := []) hC hml hI (c_X8_worst l D cy ad A _  _ h) k_X8_worst gw_2_175 ⟨rfl, rfl⟩ ⟨Nat.le_of_ble_eq_true rfl, Nat.le_of_ble_eq_true rfl⟩ (grv_0 hC hI) rfl hl.1 rfl (Nat.le_of_ble_eq_true rfl) dL_law_885 ⟨by rw [hRc]; omega, by rw [hRs]; omega⟩) (fun r275 s274 H locs h hI => ?_)
      refine lv_aload_n hx hb dL_law_888 rfl (lv_at hl 2 rfl) ?_
      refine g_backi hI (g_runV (As := []) (rest := [.int r275]) hC hml hI (c_X9_worst l D cy ad A _  _ h) k_X9_worst gw_5_186 ⟨rfl, rfl⟩ ⟨Nat.le_of_ble_eq_true rfl, Nat.le_of_ble_eq_true rfl⟩ (grv_10 hC hI) rfl hl.1 rfl (Nat.le_of_ble_eq_true rfl) dL_law_889 ⟨by rw [hRc]; omega, by rw [hRs]; omega⟩) (fun r277 s276 H locs h hI => ?_)
      refine lv_icmp_eq (tgt := 1534) hx hb dL_law_892 (by decide) (fun c278 => ?_) (fun c278 => ?_)
      · have h := h.1 c278
        obtain ⟨y279, ey279⟩ : ∃ y : Int32, y = x4 + 6 := ⟨_, rfl⟩
        have h := h y279 ey279
        refine lv_iinc (v := y279) (lv' := [(4, .int y279), (0, .ref b), (1, .ref (ad 0)), (2, .ref (ad 10)), (3, .ref (ad 83))]) hx hb dL_law_1534 hl (k := 4) rfl (by rw [ey279]; rfl) (by decide) rfl (fun ls hl => ?_)
        refine lv_goto (tgt := 23) hx hb dL_law_1537 (by decide) ?_
        exact ih23 _ _ _ _ _ _ _ (by omega) (by omega) h hI (lv_sub hl [1, 2, 3, 4, 0] rfl)
      · have h := h.2 c278
        refine lv_iconst (v := 0) hx hb dL_law_895 (by decide) ?_
        exact h.elim
    have J957 : ∀ (cs sl : Nat) (x4 : Int32) (x5 : Int32) (v0 : Int32) (v1 : Int32) (σ : gS) (H : Heap) (locs : List Loc) (ls : Array Slot), cs + 7 * n23 + 4 ≤ 600000 → sl + 42 * n23 + 24 ≤ 7000000 → w_L_law_957 Q LN xs (w_L_law_23 Q LN xs n23) x4 x5 v0 v1 σ → gI D cy ad A s.heap σ H locs → lv_has ls 7 [(0, .ref b), (1, .ref (ad 0)), (2, .ref (ad 10)), (3, .ref (ad 83)), (4, .int x4), (5, .int x5)] → W p l e room_1 s m #[Value.ref b] below meth c H locs cs sl (lw_Z below #[Value.ref b] s) (F0 m 957 ls [.int v0, .int v1, .ref (ad 10)]) := by
      intro cs sl x4 x5 v0 v1 σ H locs ls hcs hsl h hI hl
      unfold w_L_law_957 at h
      refine lv_aload_n hx hb dL_law_957 rfl (lv_at hl 0 rfl) ?_
      refine lv_iload hx hb dL_law_958 (lv_at hl 4 rfl) ?_
      refine lv_iconst (v := 3) hx hb dL_law_960 (by decide) ?_
      refine lv_iadd hx hb dL_law_961 ?_
      obtain ⟨hi280, h⟩ := h
      refine va_sld hx hb hX hbl hbA hI.2.2 hi280 dL_law_962 ?_
      refine lv_aload_n hx hb dL_law_963 rfl (lv_at hl 0 rfl) ?_
      refine lv_iload hx hb dL_law_964 (lv_at hl 4 rfl) ?_
      refine lv_iconst (v := 4) hx hb dL_law_966 (by decide) ?_
      refine lv_iadd hx hb dL_law_967 ?_
      obtain ⟨hi281, h⟩ := h
      refine va_sld hx hb hX hbl hbA hI.2.2 hi281 dL_law_968 ?_
      refine g_backi hI (g_runV (As := [.int v1, .int v0, .int (xs (x4 + 3).toNatClampNeg), .int (xs (x4 + 4).toNatClampNeg)]) (rest := []) hC hml hI (c_X9_act l D cy ad A _  _ _ _ _ _ h) k_X9_act gw_5_195 ⟨rfl, rfl⟩ ⟨Nat.le_of_ble_eq_true rfl, Nat.le_of_ble_eq_true rfl⟩ (grv_10 hC hI) rfl hl.1 rfl (Nat.le_of_ble_eq_true rfl) dL_law_969 ⟨by rw [hRc]; omega, by rw [hRs]; omega⟩) (fun r283 s282 H locs h hI => ?_)
      refine lv_istore (lv' := [(6, .int r283), (0, .ref b), (1, .ref (ad 0)), (2, .ref (ad 10)), (3, .ref (ad 83)), (4, .int x4), (5, .int x5)]) hx hb dL_law_972 hl (by decide) rfl (fun ls hl => ?_)
      refine lv_aload_n hx hb dL_law_974 rfl (lv_at hl 3 rfl) ?_
      refine g_backi hI (g_runV (As := []) (rest := []) hC hml hI (c_X9_thrown l D cy ad A _  _ h) k_X9_thrown gw_4_178 ⟨rfl, rfl⟩ ⟨Nat.le_of_ble_eq_true rfl, Nat.le_of_ble_eq_true rfl⟩ (grv_10 hC hI) rfl hl.1 rfl (Nat.le_of_ble_eq_true rfl) dL_law_975 ⟨by rw [hRc]; omega, by rw [hRs]; omega⟩) (fun r285 s284 H locs h hI => ?_)
      refine lv_iload hx hb dL_law_978 (lv_at hl 6 rfl) ?_
      refine lv_icmp_eq (tgt := 985) hx hb dL_law_980 (by decide) (fun c286 => ?_) (fun c286 => ?_)
      · have h := h.1 c286
        refine lv_iload hx hb dL_law_985 (lv_at hl 6 rfl) ?_
        refine lv_if_ne (tgt := 1002) hx hb dL_law_987 (by decide) (fun c287 => ?_) (fun c287 => ?_)
        · have h := h.1 c287
          refine lv_goto (tgt := 1534) hx hb dL_law_1002 (by decide) ?_
          obtain ⟨y288, ey288⟩ : ∃ y : Int32, y = x4 + 6 := ⟨_, rfl⟩
          have h := h y288 ey288
          refine lv_iinc (v := y288) (lv' := [(4, .int y288), (6, .int r283), (0, .ref b), (1, .ref (ad 0)), (2, .ref (ad 10)), (3, .ref (ad 83)), (5, .int x5)]) hx hb dL_law_1534 hl (k := 5) rfl (by rw [ey288]; rfl) (by decide) rfl (fun ls hl => ?_)
          refine lv_goto (tgt := 23) hx hb dL_law_1537 (by decide) ?_
          exact ih23 _ _ _ _ _ _ _ (by omega) (by omega) h hI (lv_sub hl [2, 3, 4, 5, 0] rfl)
        · have h := h.2 c287
          refine lv_aload_n hx hb dL_law_990 rfl (lv_at hl 4 rfl) ?_
          refine lv_iconst (v := 0) hx hb dL_law_991 (by decide) ?_
          refine ga_83 hC hI (by unfold vp_in; decide) dL_law_992 ?_
          refine lv_iload hx hb dL_law_993 (lv_at hl 0 rfl) ?_
          refine lv_i2l hx hb dL_law_995 rfl ?_
          refine W.lcmp hx hb dL_law_996 ?_
          refine lv_if_eq (tgt := 1002) hx hb dL_law_997 (by decide) (fun c290 => ?_) (fun c290 => ?_)
          · have h := h.1 c290
            refine lv_goto (tgt := 1534) hx hb dL_law_1002 (by decide) ?_
            obtain ⟨y291, ey291⟩ : ∃ y : Int32, y = x4 + 6 := ⟨_, rfl⟩
            have h := h y291 ey291
            refine lv_iinc (v := y291) (lv' := [(4, .int y291), (6, .int r283), (0, .ref b), (1, .ref (ad 0)), (2, .ref (ad 10)), (3, .ref (ad 83)), (5, .int x5)]) hx hb dL_law_1534 hl (k := 5) rfl (by rw [ey291]; rfl) (by decide) rfl (fun ls hl => ?_)
            refine lv_goto (tgt := 23) hx hb dL_law_1537 (by decide) ?_
            exact ih23 _ _ _ _ _ _ _ (by omega) (by omega) h hI (lv_sub hl [2, 3, 4, 5, 0] rfl)
          · have h := h.2 c290
            refine lv_iconst (v := 0) hx hb dL_law_1000 (by decide) ?_
            exact h.elim
      · have h := h.2 c286
        refine lv_iconst (v := 0) hx hb dL_law_983 (by decide) ?_
        exact h.elim
    have J918 : ∀ (cs sl : Nat) (x4 : Int32) (v0 : Int32) (v1 : Int32) (σ : gS) (H : Heap) (locs : List Loc) (ls : Array Slot), cs + 7 * n23 + 7 ≤ 600000 → sl + 42 * n23 + 42 ≤ 7000000 → w_L_law_918 Q LN xs (w_L_law_23 Q LN xs n23) x4 v0 v1 σ → gI D cy ad A s.heap σ H locs → lv_has ls 7 [(0, .ref b), (1, .ref (ad 0)), (2, .ref (ad 10)), (3, .ref (ad 83)), (4, .int x4)] → W p l e room_1 s m #[Value.ref b] below meth c H locs cs sl (lw_Z below #[Value.ref b] s) (F0 m 918 ls [.int v0, .int v1, .ref (ad 0)]) := by
      intro cs sl x4 v0 v1 σ H locs ls hcs hsl h hI hl
      unfold w_L_law_918 at h
      refine lv_aload_n hx hb dL_law_918 rfl (lv_at hl 0 rfl) ?_
      refine lv_iload hx hb dL_law_919 (lv_at hl 4 rfl) ?_
      refine lv_iconst (v := 3) hx hb dL_law_921 (by decide) ?_
      refine lv_iadd hx hb dL_law_922 ?_
      obtain ⟨hi292, h⟩ := h
      refine va_sld hx hb hX hbl hbA hI.2.2 hi292 dL_law_923 ?_
      refine lv_aload_n hx hb dL_law_924 rfl (lv_at hl 0 rfl) ?_
      refine lv_iload hx hb dL_law_925 (lv_at hl 4 rfl) ?_
      refine lv_iconst (v := 4) hx hb dL_law_927 (by decide) ?_
      refine lv_iadd hx hb dL_law_928 ?_
      obtain ⟨hi293, h⟩ := h
      refine va_sld hx hb hX hbl hbA hI.2.2 hi293 dL_law_929 ?_
      refine lv_aload_n hx hb dL_law_930 rfl (lv_at hl 3 rfl) ?_
      refine gw_backi hI (gw_runS (As := [.ref (ad 0), .int v1, .int v0, .int (xs (x4 + 3).toNatClampNeg), .int (xs (x4 + 4).toNatClampNeg), .ref (ad 83)]) (rest := []) hC hml hI (c_L_act l hst D cy ad A _  _ _ _ _ _ h) k_L_act gw_4_2 ⟨rfl, rfl⟩ ⟨Nat.le_of_ble_eq_true rfl, Nat.le_of_ble_eq_true rfl⟩ rfl hl.1 rfl (Nat.le_of_ble_eq_true rfl) dL_law_931 ⟨by rw [hRc]; omega, by rw [hRs]; omega⟩) (fun r295 s294 H locs h hI => ?_)
      refine lv_istore (lv' := [(5, .int r295), (0, .ref b), (1, .ref (ad 0)), (2, .ref (ad 10)), (3, .ref (ad 83)), (4, .int x4)]) hx hb dL_law_934 hl (by decide) rfl (fun ls hl => ?_)
      refine lv_aload_n hx hb dL_law_936 rfl (lv_at hl 3 rfl) ?_
      refine lv_aload_n hx hb dL_law_937 rfl (lv_at hl 1 rfl) ?_
      refine lv_iload hx hb dL_law_938 (lv_at hl 5 rfl) ?_
      refine lv_iconst (v := 1) hx hb dL_law_940 (by decide) ?_
      refine lv_iadd hx hb dL_law_941 ?_
      obtain ⟨hi296, h⟩ := h
      refine va_sld hx hb hX hbl hbA hI.2.2 hi296 dL_law_942 ?_
      refine lv_aload_n hx hb dL_law_943 rfl (lv_at hl 1 rfl) ?_
      refine lv_iload hx hb dL_law_944 (lv_at hl 5 rfl) ?_
      refine lv_iconst (v := 2) hx hb dL_law_946 (by decide) ?_
      refine lv_iadd hx hb dL_law_947 ?_
      obtain ⟨hi297, h⟩ := h
      refine va_sld hx hb hX hbl hbA hI.2.2 hi297 dL_law_948 ?_
      refine lv_if_eq (tgt := 956) hx hb dL_law_949 (by decide) (fun c298 => ?_) (fun c298 => ?_)
      · have h := h.1 c298
        refine lv_iconst (v := 0) hx hb dL_law_956 (by decide) ?_
        exact J957 _ _ _ _ _ _ _ _ _ _ (by omega) (by omega) h hI (lv_sub hl [1, 2, 3, 4, 5, 0] rfl)
      · have h := h.2 c298
        refine lv_iconst (v := 1) hx hb dL_law_952 (by decide) ?_
        refine lv_goto (tgt := 957) hx hb dL_law_953 (by decide) ?_
        exact J957 _ _ _ _ _ _ _ _ _ _ (by omega) (by omega) h hI (lv_sub hl [1, 2, 3, 4, 5, 0] rfl)
    have J897 : ∀ (cs sl : Nat) (x4 : Int32) (σ : gS) (H : Heap) (locs : List Loc) (ls : Array Slot), cs + 7 * n23 + 7 ≤ 600000 → sl + 42 * n23 + 42 ≤ 7000000 → w_L_law_897 Q LN xs (w_L_law_23 Q LN xs n23) x4 σ → gI D cy ad A s.heap σ H locs → lv_has ls 7 [(0, .ref b), (1, .ref (ad 0)), (2, .ref (ad 10)), (3, .ref (ad 83)), (4, .int x4)] → W p l e room_1 s m #[Value.ref b] below meth c H locs cs sl (lw_Z below #[Value.ref b] s) (F0 m 897 ls []) := by
      intro cs sl x4 σ H locs ls hcs hsl h hI hl
      unfold w_L_law_897 at h
      refine lv_aload_n hx hb dL_law_897 rfl (lv_at hl 1 rfl) ?_
      refine lv_aload_n hx hb dL_law_898 rfl (lv_at hl 0 rfl) ?_
      refine lv_iload hx hb dL_law_899 (lv_at hl 4 rfl) ?_
      refine lv_iconst (v := 1) hx hb dL_law_901 (by decide) ?_
      refine lv_iadd hx hb dL_law_902 ?_
      obtain ⟨hi299, h⟩ := h
      refine va_sld hx hb hX hbl hbA hI.2.2 hi299 dL_law_903 ?_
      refine lv_aload_n hx hb dL_law_904 rfl (lv_at hl 0 rfl) ?_
      refine lv_iload hx hb dL_law_905 (lv_at hl 4 rfl) ?_
      refine lv_iconst (v := 2) hx hb dL_law_907 (by decide) ?_
      refine lv_iadd hx hb dL_law_908 ?_
      obtain ⟨hi300, h⟩ := h
      refine va_sld hx hb hX hbl hbA hI.2.2 hi300 dL_law_909 ?_
      refine lv_if_eq (tgt := 917) hx hb dL_law_910 (by decide) (fun c301 => ?_) (fun c301 => ?_)
      · have h := h.1 c301
        refine lv_iconst (v := 0) hx hb dL_law_917 (by decide) ?_
        exact J918 _ _ _ _ _ _ _ _ _ (by omega) (by omega) h hI (lv_sub hl [0, 1, 2, 3, 4] rfl)
      · have h := h.2 c301
        refine lv_iconst (v := 1) hx hb dL_law_913 (by decide) ?_
        refine lv_goto (tgt := 918) hx hb dL_law_914 (by decide) ?_
        exact J918 _ _ _ _ _ _ _ _ _ (by omega) (by omega) h hI (lv_sub hl [0, 1, 2, 3, 4] rfl)
    have J1005 : ∀ (cs sl : Nat) (x4 : Int32) (σ : gS) (H : Heap) (locs : List Loc) (ls : Array Slot), cs + 7 * n23 + 7 ≤ 600000 → sl + 42 * n23 + 42 ≤ 7000000 → w_L_law_1005 Q LN xs (w_L_law_23 Q LN xs n23) x4 σ → gI D cy ad A s.heap σ H locs → lv_has ls 7 [(0, .ref b), (1, .ref (ad 0)), (2, .ref (ad 10)), (3, .ref (ad 83)), (4, .int x4)] → W p l e room_1 s m #[Value.ref b] below meth c H locs cs sl (lw_Z below #[Value.ref b] s) (F0 m 1005 ls []) := by
      intro cs sl x4 σ H locs ls hcs hsl h hI hl
      unfold w_L_law_1005 at h
      refine lv_aload_n hx hb dL_law_1005 rfl (lv_at hl 1 rfl) ?_
      refine g_backi hI (g_runV (As := []) (rest := []) hC hml hI (c_X8_tooMany l D cy ad A _  _ h) k_X8_tooMany gw_2_185 ⟨rfl, rfl⟩ ⟨Nat.le_of_ble_eq_true rfl, Nat.le_of_ble_eq_true rfl⟩ (grv_0 hC hI) rfl hl.1 rfl (Nat.le_of_ble_eq_true rfl) dL_law_1006 ⟨by rw [hRc]; omega, by rw [hRs]; omega⟩) (fun r303 s302 H locs h hI => ?_)
      refine lv_aload_n hx hb dL_law_1009 rfl (lv_at hl 2 rfl) ?_
      refine g_backi hI (g_runV (As := []) (rest := [.int r303]) hC hml hI (c_X9_tooMany l D cy ad A _  _ h) k_X9_tooMany gw_5_199 ⟨rfl, rfl⟩ ⟨Nat.le_of_ble_eq_true rfl, Nat.le_of_ble_eq_true rfl⟩ (grv_10 hC hI) rfl hl.1 rfl (Nat.le_of_ble_eq_true rfl) dL_law_1010 ⟨by rw [hRc]; omega, by rw [hRs]; omega⟩) (fun r305 s304 H locs h hI => ?_)
      refine lv_icmp_eq (tgt := 1534) hx hb dL_law_1013 (by decide) (fun c306 => ?_) (fun c306 => ?_)
      · have h := h.1 c306
        obtain ⟨y307, ey307⟩ : ∃ y : Int32, y = x4 + 6 := ⟨_, rfl⟩
        have h := h y307 ey307
        refine lv_iinc (v := y307) (lv' := [(4, .int y307), (0, .ref b), (1, .ref (ad 0)), (2, .ref (ad 10)), (3, .ref (ad 83))]) hx hb dL_law_1534 hl (k := 4) rfl (by rw [ey307]; rfl) (by decide) rfl (fun ls hl => ?_)
        refine lv_goto (tgt := 23) hx hb dL_law_1537 (by decide) ?_
        exact ih23 _ _ _ _ _ _ _ (by omega) (by omega) h hI (lv_sub hl [1, 2, 3, 4, 0] rfl)
      · have h := h.2 c306
        refine lv_iconst (v := 0) hx hb dL_law_1016 (by decide) ?_
        exact h.elim
    have J1018 : ∀ (cs sl : Nat) (x4 : Int32) (σ : gS) (H : Heap) (locs : List Loc) (ls : Array Slot), cs + 7 * n23 + 7 ≤ 600000 → sl + 42 * n23 + 42 ≤ 7000000 → w_L_law_1018 Q LN xs (w_L_law_23 Q LN xs n23) x4 σ → gI D cy ad A s.heap σ H locs → lv_has ls 7 [(0, .ref b), (1, .ref (ad 0)), (2, .ref (ad 10)), (3, .ref (ad 83)), (4, .int x4)] → W p l e room_1 s m #[Value.ref b] below meth c H locs cs sl (lw_Z below #[Value.ref b] s) (F0 m 1018 ls []) := by
      intro cs sl x4 σ H locs ls hcs hsl h hI hl
      unfold w_L_law_1018 at h
      refine lv_aload_n hx hb dL_law_1018 rfl (lv_at hl 1 rfl) ?_
      refine lv_aload_n hx hb dL_law_1019 rfl (lv_at hl 0 rfl) ?_
      refine lv_iload hx hb dL_law_1020 (lv_at hl 4 rfl) ?_
      refine lv_iconst (v := 1) hx hb dL_law_1022 (by decide) ?_
      refine lv_iadd hx hb dL_law_1023 ?_
      obtain ⟨hi308, h⟩ := h
      refine va_sld hx hb hX hbl hbA hI.2.2 hi308 dL_law_1024 ?_
      refine lv_aload_n hx hb dL_law_1025 rfl (lv_at hl 3 rfl) ?_
      refine gw_backi hI (gw_runS (As := [.ref (ad 0), .int (xs (x4 + 1).toNatClampNeg), .ref (ad 83)]) (rest := []) hC hml hI (c_L_shift l hst D cy ad A _  _ _ h) k_L_shift gw_4_13 ⟨rfl, rfl⟩ ⟨Nat.le_of_ble_eq_true rfl, Nat.le_of_ble_eq_true rfl⟩ rfl hl.1 rfl (Nat.le_of_ble_eq_true rfl) dL_law_1026 ⟨by rw [hRc]; omega, by rw [hRs]; omega⟩) (fun r310 s309 H locs h hI => ?_)
      refine lv_istore (lv' := [(5, .int r310), (0, .ref b), (1, .ref (ad 0)), (2, .ref (ad 10)), (3, .ref (ad 83)), (4, .int x4)]) hx hb dL_law_1029 hl (by decide) rfl (fun ls hl => ?_)
      refine lv_aload_n hx hb dL_law_1031 rfl (lv_at hl 3 rfl) ?_
      refine lv_aload_n hx hb dL_law_1032 rfl (lv_at hl 1 rfl) ?_
      refine lv_iload hx hb dL_law_1033 (lv_at hl 5 rfl) ?_
      refine lv_iconst (v := 1) hx hb dL_law_1035 (by decide) ?_
      refine lv_iadd hx hb dL_law_1036 ?_
      obtain ⟨hi311, h⟩ := h
      refine va_sld hx hb hX hbl hbA hI.2.2 hi311 dL_law_1037 ?_
      refine g_backi hI (g_runV (As := [.int (xs (x4 + 1).toNatClampNeg)]) (rest := []) hC hml hI (c_X9_shift l D cy ad A _  _ _ h) k_X9_shift gw_5_215 ⟨rfl, rfl⟩ ⟨Nat.le_of_ble_eq_true rfl, Nat.le_of_ble_eq_true rfl⟩ (grv_10 hC hI) rfl hl.1 rfl (Nat.le_of_ble_eq_true rfl) dL_law_1038 ⟨by rw [hRc]; omega, by rw [hRs]; omega⟩) (fun r313 s312 H locs h hI => ?_)
      refine lv_istore (lv' := [(6, .int r313), (5, .int r310), (0, .ref b), (1, .ref (ad 0)), (2, .ref (ad 10)), (3, .ref (ad 83)), (4, .int x4)]) hx hb dL_law_1041 hl (by decide) rfl (fun ls hl => ?_)
      refine lv_aload_n hx hb dL_law_1043 rfl (lv_at hl 4 rfl) ?_
      refine g_backi hI (g_runV (As := []) (rest := []) hC hml hI (c_X9_thrown l D cy ad A _  _ h) k_X9_thrown gw_4_178 ⟨rfl, rfl⟩ ⟨Nat.le_of_ble_eq_true rfl, Nat.le_of_ble_eq_true rfl⟩ (grv_10 hC hI) rfl hl.1 rfl (Nat.le_of_ble_eq_true rfl) dL_law_1044 ⟨by rw [hRc]; omega, by rw [hRs]; omega⟩) (fun r315 s314 H locs h hI => ?_)
      refine lv_iload hx hb dL_law_1047 (lv_at hl 1 rfl) ?_
      refine lv_icmp_eq (tgt := 1054) hx hb dL_law_1049 (by decide) (fun c316 => ?_) (fun c316 => ?_)
      · have h := h.1 c316
        refine lv_iload hx hb dL_law_1054 (lv_at hl 1 rfl) ?_
        refine lv_if_ne (tgt := 1071) hx hb dL_law_1056 (by decide) (fun c317 => ?_) (fun c317 => ?_)
        · have h := h.1 c317
          refine lv_goto (tgt := 1534) hx hb dL_law_1071 (by decide) ?_
          obtain ⟨y318, ey318⟩ : ∃ y : Int32, y = x4 + 6 := ⟨_, rfl⟩
          have h := h y318 ey318
          refine lv_iinc (v := y318) (lv' := [(4, .int y318), (6, .int r313), (5, .int r310), (0, .ref b), (1, .ref (ad 0)), (2, .ref (ad 10)), (3, .ref (ad 83))]) hx hb dL_law_1534 hl (k := 6) rfl (by rw [ey318]; rfl) (by decide) rfl (fun ls hl => ?_)
          refine lv_goto (tgt := 23) hx hb dL_law_1537 (by decide) ?_
          exact ih23 _ _ _ _ _ _ _ (by omega) (by omega) h hI (lv_sub hl [3, 4, 5, 6, 0] rfl)
        · have h := h.2 c317
          refine lv_aload_n hx hb dL_law_1059 rfl (lv_at hl 5 rfl) ?_
          refine lv_iconst (v := 0) hx hb dL_law_1060 (by decide) ?_
          refine ga_83 hC hI (by unfold vp_in; decide) dL_law_1061 ?_
          refine lv_iload hx hb dL_law_1062 (lv_at hl 0 rfl) ?_
          refine lv_i2l hx hb dL_law_1064 rfl ?_
          refine W.lcmp hx hb dL_law_1065 ?_
          refine lv_if_eq (tgt := 1071) hx hb dL_law_1066 (by decide) (fun c320 => ?_) (fun c320 => ?_)
          · have h := h.1 c320
            refine lv_goto (tgt := 1534) hx hb dL_law_1071 (by decide) ?_
            obtain ⟨y321, ey321⟩ : ∃ y : Int32, y = x4 + 6 := ⟨_, rfl⟩
            have h := h y321 ey321
            refine lv_iinc (v := y321) (lv' := [(4, .int y321), (6, .int r313), (5, .int r310), (0, .ref b), (1, .ref (ad 0)), (2, .ref (ad 10)), (3, .ref (ad 83))]) hx hb dL_law_1534 hl (k := 6) rfl (by rw [ey321]; rfl) (by decide) rfl (fun ls hl => ?_)
            refine lv_goto (tgt := 23) hx hb dL_law_1537 (by decide) ?_
            exact ih23 _ _ _ _ _ _ _ (by omega) (by omega) h hI (lv_sub hl [3, 4, 5, 6, 0] rfl)
          · have h := h.2 c320
            refine lv_iconst (v := 0) hx hb dL_law_1069 (by decide) ?_
            exact h.elim
      · have h := h.2 c316
        refine lv_iconst (v := 0) hx hb dL_law_1052 (by decide) ?_
        exact h.elim
    have J1074 : ∀ (cs sl : Nat) (x4 : Int32) (σ : gS) (H : Heap) (locs : List Loc) (ls : Array Slot), cs + 7 * n23 + 7 ≤ 600000 → sl + 42 * n23 + 42 ≤ 7000000 → w_L_law_1074 Q LN xs (w_L_law_23 Q LN xs n23) x4 σ → gI D cy ad A s.heap σ H locs → lv_has ls 7 [(0, .ref b), (1, .ref (ad 0)), (2, .ref (ad 10)), (3, .ref (ad 83)), (4, .int x4)] → W p l e room_1 s m #[Value.ref b] below meth c H locs cs sl (lw_Z below #[Value.ref b] s) (F0 m 1074 ls []) := by
      intro cs sl x4 σ H locs ls hcs hsl h hI hl
      unfold w_L_law_1074 at h
      refine lv_aload_n hx hb dL_law_1074 rfl (lv_at hl 1 rfl) ?_
      refine g_backi hI (g_runV (As := []) (rest := []) hC hml hI (c_X8_forget l D cy ad A _  _ h) k_X8_forget gw_2_210 ⟨rfl, rfl⟩ ⟨Nat.le_of_ble_eq_true rfl, Nat.le_of_ble_eq_true rfl⟩ (grv_0 hC hI) rfl hl.1 rfl (Nat.le_of_ble_eq_true rfl) dL_law_1075 ⟨by rw [hRc]; omega, by rw [hRs]; omega⟩) (fun r323 s322 H locs h hI => ?_)
      refine lv_aload_n hx hb dL_law_1078 rfl (lv_at hl 2 rfl) ?_
      refine g_backi hI (g_runV (As := []) (rest := [.int r323]) hC hml hI (c_X9_forget l D cy ad A _  _ h) k_X9_forget gw_5_219 ⟨rfl, rfl⟩ ⟨Nat.le_of_ble_eq_true rfl, Nat.le_of_ble_eq_true rfl⟩ (grv_10 hC hI) rfl hl.1 rfl (Nat.le_of_ble_eq_true rfl) dL_law_1079 ⟨by rw [hRc]; omega, by rw [hRs]; omega⟩) (fun r325 s324 H locs h hI => ?_)
      refine lv_icmp_eq (tgt := 1534) hx hb dL_law_1082 (by decide) (fun c326 => ?_) (fun c326 => ?_)
      · have h := h.1 c326
        obtain ⟨y327, ey327⟩ : ∃ y : Int32, y = x4 + 6 := ⟨_, rfl⟩
        have h := h y327 ey327
        refine lv_iinc (v := y327) (lv' := [(4, .int y327), (0, .ref b), (1, .ref (ad 0)), (2, .ref (ad 10)), (3, .ref (ad 83))]) hx hb dL_law_1534 hl (k := 4) rfl (by rw [ey327]; rfl) (by decide) rfl (fun ls hl => ?_)
        refine lv_goto (tgt := 23) hx hb dL_law_1537 (by decide) ?_
        exact ih23 _ _ _ _ _ _ _ (by omega) (by omega) h hI (lv_sub hl [1, 2, 3, 4, 0] rfl)
      · have h := h.2 c326
        refine lv_iconst (v := 0) hx hb dL_law_1085 (by decide) ?_
        exact h.elim
    have J1087 : ∀ (cs sl : Nat) (x4 : Int32) (σ : gS) (H : Heap) (locs : List Loc) (ls : Array Slot), cs + 7 * n23 + 7 ≤ 600000 → sl + 42 * n23 + 42 ≤ 7000000 → w_L_law_1087 Q LN xs (w_L_law_23 Q LN xs n23) x4 σ → gI D cy ad A s.heap σ H locs → lv_has ls 7 [(0, .ref b), (1, .ref (ad 0)), (2, .ref (ad 10)), (3, .ref (ad 83)), (4, .int x4)] → W p l e room_1 s m #[Value.ref b] below meth c H locs cs sl (lw_Z below #[Value.ref b] s) (F0 m 1087 ls []) := by
      intro cs sl x4 σ H locs ls hcs hsl h hI hl
      unfold w_L_law_1087 at h
      refine lv_aload_n hx hb dL_law_1087 rfl (lv_at hl 1 rfl) ?_
      refine lv_aload_n hx hb dL_law_1088 rfl (lv_at hl 0 rfl) ?_
      refine lv_iload hx hb dL_law_1089 (lv_at hl 4 rfl) ?_
      refine lv_iconst (v := 1) hx hb dL_law_1091 (by decide) ?_
      refine lv_iadd hx hb dL_law_1092 ?_
      obtain ⟨hi328, h⟩ := h
      refine va_sld hx hb hX hbl hbA hI.2.2 hi328 dL_law_1093 ?_
      refine lv_aload_n hx hb dL_law_1094 rfl (lv_at hl 3 rfl) ?_
      refine gw_backi hI (gw_runS (As := [.ref (ad 0), .int (xs (x4 + 1).toNatClampNeg), .ref (ad 83)]) (rest := []) hC hml hI (c_L_minutes l hst D cy ad A _  _ _ h) k_L_minutes gw_4_20 ⟨rfl, rfl⟩ ⟨Nat.le_of_ble_eq_true rfl, Nat.le_of_ble_eq_true rfl⟩ rfl hl.1 rfl (Nat.le_of_ble_eq_true rfl) dL_law_1095 ⟨by rw [hRc]; omega, by rw [hRs]; omega⟩) (fun r330 s329 H locs h hI => ?_)
      refine lv_istore (lv' := [(5, .int r330), (0, .ref b), (1, .ref (ad 0)), (2, .ref (ad 10)), (3, .ref (ad 83)), (4, .int x4)]) hx hb dL_law_1098 hl (by decide) rfl (fun ls hl => ?_)
      refine lv_aload_n hx hb dL_law_1100 rfl (lv_at hl 3 rfl) ?_
      refine lv_aload_n hx hb dL_law_1101 rfl (lv_at hl 1 rfl) ?_
      refine lv_iload hx hb dL_law_1102 (lv_at hl 5 rfl) ?_
      refine lv_iconst (v := 1) hx hb dL_law_1104 (by decide) ?_
      refine lv_iadd hx hb dL_law_1105 ?_
      obtain ⟨hi331, h⟩ := h
      refine va_sld hx hb hX hbl hbA hI.2.2 hi331 dL_law_1106 ?_
      refine g_backi hI (g_runV (As := [.int (xs (x4 + 1).toNatClampNeg)]) (rest := []) hC hml hI (c_X9_minutes l D cy ad A _  _ _ h) k_X9_minutes gw_5_223 ⟨rfl, rfl⟩ ⟨Nat.le_of_ble_eq_true rfl, Nat.le_of_ble_eq_true rfl⟩ (grv_10 hC hI) rfl hl.1 rfl (Nat.le_of_ble_eq_true rfl) dL_law_1107 ⟨by rw [hRc]; omega, by rw [hRs]; omega⟩) (fun r333 s332 H locs h hI => ?_)
      refine lv_istore (lv' := [(6, .int r333), (5, .int r330), (0, .ref b), (1, .ref (ad 0)), (2, .ref (ad 10)), (3, .ref (ad 83)), (4, .int x4)]) hx hb dL_law_1110 hl (by decide) rfl (fun ls hl => ?_)
      refine lv_aload_n hx hb dL_law_1112 rfl (lv_at hl 4 rfl) ?_
      refine g_backi hI (g_runV (As := []) (rest := []) hC hml hI (c_X9_thrown l D cy ad A _  _ h) k_X9_thrown gw_4_178 ⟨rfl, rfl⟩ ⟨Nat.le_of_ble_eq_true rfl, Nat.le_of_ble_eq_true rfl⟩ (grv_10 hC hI) rfl hl.1 rfl (Nat.le_of_ble_eq_true rfl) dL_law_1113 ⟨by rw [hRc]; omega, by rw [hRs]; omega⟩) (fun r335 s334 H locs h hI => ?_)
      refine lv_iload hx hb dL_law_1116 (lv_at hl 1 rfl) ?_
      refine lv_icmp_eq (tgt := 1123) hx hb dL_law_1118 (by decide) (fun c336 => ?_) (fun c336 => ?_)
      · have h := h.1 c336
        refine lv_iload hx hb dL_law_1123 (lv_at hl 1 rfl) ?_
        refine lv_if_ne (tgt := 1140) hx hb dL_law_1125 (by decide) (fun c337 => ?_) (fun c337 => ?_)
        · have h := h.1 c337
          refine lv_goto (tgt := 1534) hx hb dL_law_1140 (by decide) ?_
          obtain ⟨y338, ey338⟩ : ∃ y : Int32, y = x4 + 6 := ⟨_, rfl⟩
          have h := h y338 ey338
          refine lv_iinc (v := y338) (lv' := [(4, .int y338), (6, .int r333), (5, .int r330), (0, .ref b), (1, .ref (ad 0)), (2, .ref (ad 10)), (3, .ref (ad 83))]) hx hb dL_law_1534 hl (k := 6) rfl (by rw [ey338]; rfl) (by decide) rfl (fun ls hl => ?_)
          refine lv_goto (tgt := 23) hx hb dL_law_1537 (by decide) ?_
          exact ih23 _ _ _ _ _ _ _ (by omega) (by omega) h hI (lv_sub hl [3, 4, 5, 6, 0] rfl)
        · have h := h.2 c337
          refine lv_aload_n hx hb dL_law_1128 rfl (lv_at hl 5 rfl) ?_
          refine lv_iconst (v := 0) hx hb dL_law_1129 (by decide) ?_
          refine ga_83 hC hI (by unfold vp_in; decide) dL_law_1130 ?_
          refine lv_iload hx hb dL_law_1131 (lv_at hl 0 rfl) ?_
          refine lv_i2l hx hb dL_law_1133 rfl ?_
          refine W.lcmp hx hb dL_law_1134 ?_
          refine lv_if_eq (tgt := 1140) hx hb dL_law_1135 (by decide) (fun c340 => ?_) (fun c340 => ?_)
          · have h := h.1 c340
            refine lv_goto (tgt := 1534) hx hb dL_law_1140 (by decide) ?_
            obtain ⟨y341, ey341⟩ : ∃ y : Int32, y = x4 + 6 := ⟨_, rfl⟩
            have h := h y341 ey341
            refine lv_iinc (v := y341) (lv' := [(4, .int y341), (6, .int r333), (5, .int r330), (0, .ref b), (1, .ref (ad 0)), (2, .ref (ad 10)), (3, .ref (ad 83))]) hx hb dL_law_1534 hl (k := 6) rfl (by rw [ey341]; rfl) (by decide) rfl (fun ls hl => ?_)
            refine lv_goto (tgt := 23) hx hb dL_law_1537 (by decide) ?_
            exact ih23 _ _ _ _ _ _ _ (by omega) (by omega) h hI (lv_sub hl [3, 4, 5, 6, 0] rfl)
          · have h := h.2 c340
            refine lv_iconst (v := 0) hx hb dL_law_1138 (by decide) ?_
            exact h.elim
      · have h := h.2 c336
        refine lv_iconst (v := 0) hx hb dL_law_1121 (by decide) ?_
        exact h.elim
    have J1197 : ∀ (cs sl : Nat) (x4 : Int32) (x5 : Int32) (v0 : Int32) (v1 : Int32) (σ : gS) (H : Heap) (locs : List Loc) (ls : Array Slot), cs + 7 * n23 + 5 ≤ 600000 → sl + 42 * n23 + 30 ≤ 7000000 → w_L_law_1197 Q LN xs (w_L_law_23 Q LN xs n23) x4 x5 v0 v1 σ → gI D cy ad A s.heap σ H locs → lv_has ls 7 [(0, .ref b), (1, .ref (ad 0)), (2, .ref (ad 10)), (3, .ref (ad 83)), (4, .int x4), (5, .int x5)] → W p l e room_1 s m #[Value.ref b] below meth c H locs cs sl (lw_Z below #[Value.ref b] s) (F0 m 1197 ls [.int v0, .int v1, .ref (ad 10)]) := by
      intro cs sl x4 x5 v0 v1 σ H locs ls hcs hsl h hI hl
      unfold w_L_law_1197 at h
      refine lv_aload_n hx hb dL_law_1197 rfl (lv_at hl 0 rfl) ?_
      refine lv_iload hx hb dL_law_1198 (lv_at hl 4 rfl) ?_
      refine lv_iconst (v := 3) hx hb dL_law_1200 (by decide) ?_
      refine lv_iadd hx hb dL_law_1201 ?_
      obtain ⟨hi342, h⟩ := h
      refine va_sld hx hb hX hbl hbA hI.2.2 hi342 dL_law_1202 ?_
      refine g_backi hI (g_runV (As := [.int v1, .int v0, .int (xs (x4 + 3).toNatClampNeg)]) (rest := []) hC hml hI (c_X9_pass l D cy ad A _  _ _ _ _ h) k_X9_pass gw_5_227 ⟨rfl, rfl⟩ ⟨Nat.le_of_ble_eq_true rfl, Nat.le_of_ble_eq_true rfl⟩ (grv_10 hC hI) rfl hl.1 rfl (Nat.le_of_ble_eq_true rfl) dL_law_1203 ⟨by rw [hRc]; omega, by rw [hRs]; omega⟩) (fun r344 s343 H locs h hI => ?_)
      refine lv_istore (lv' := [(6, .int r344), (0, .ref b), (1, .ref (ad 0)), (2, .ref (ad 10)), (3, .ref (ad 83)), (4, .int x4), (5, .int x5)]) hx hb dL_law_1206 hl (by decide) rfl (fun ls hl => ?_)
      refine lv_aload_n hx hb dL_law_1208 rfl (lv_at hl 3 rfl) ?_
      refine g_backi hI (g_runV (As := []) (rest := []) hC hml hI (c_X9_thrown l D cy ad A _  _ h) k_X9_thrown gw_4_178 ⟨rfl, rfl⟩ ⟨Nat.le_of_ble_eq_true rfl, Nat.le_of_ble_eq_true rfl⟩ (grv_10 hC hI) rfl hl.1 rfl (Nat.le_of_ble_eq_true rfl) dL_law_1209 ⟨by rw [hRc]; omega, by rw [hRs]; omega⟩) (fun r346 s345 H locs h hI => ?_)
      refine lv_iload hx hb dL_law_1212 (lv_at hl 6 rfl) ?_
      refine lv_icmp_eq (tgt := 1219) hx hb dL_law_1214 (by decide) (fun c347 => ?_) (fun c347 => ?_)
      · have h := h.1 c347
        refine lv_iload hx hb dL_law_1219 (lv_at hl 6 rfl) ?_
        refine lv_if_ne (tgt := 1236) hx hb dL_law_1221 (by decide) (fun c348 => ?_) (fun c348 => ?_)
        · have h := h.1 c348
          refine lv_goto (tgt := 1534) hx hb dL_law_1236 (by decide) ?_
          obtain ⟨y349, ey349⟩ : ∃ y : Int32, y = x4 + 6 := ⟨_, rfl⟩
          have h := h y349 ey349
          refine lv_iinc (v := y349) (lv' := [(4, .int y349), (6, .int r344), (0, .ref b), (1, .ref (ad 0)), (2, .ref (ad 10)), (3, .ref (ad 83)), (5, .int x5)]) hx hb dL_law_1534 hl (k := 5) rfl (by rw [ey349]; rfl) (by decide) rfl (fun ls hl => ?_)
          refine lv_goto (tgt := 23) hx hb dL_law_1537 (by decide) ?_
          exact ih23 _ _ _ _ _ _ _ (by omega) (by omega) h hI (lv_sub hl [2, 3, 4, 5, 0] rfl)
        · have h := h.2 c348
          refine lv_aload_n hx hb dL_law_1224 rfl (lv_at hl 4 rfl) ?_
          refine lv_iconst (v := 0) hx hb dL_law_1225 (by decide) ?_
          refine ga_83 hC hI (by unfold vp_in; decide) dL_law_1226 ?_
          refine lv_iload hx hb dL_law_1227 (lv_at hl 0 rfl) ?_
          refine lv_i2l hx hb dL_law_1229 rfl ?_
          refine W.lcmp hx hb dL_law_1230 ?_
          refine lv_if_eq (tgt := 1236) hx hb dL_law_1231 (by decide) (fun c351 => ?_) (fun c351 => ?_)
          · have h := h.1 c351
            refine lv_goto (tgt := 1534) hx hb dL_law_1236 (by decide) ?_
            obtain ⟨y352, ey352⟩ : ∃ y : Int32, y = x4 + 6 := ⟨_, rfl⟩
            have h := h y352 ey352
            refine lv_iinc (v := y352) (lv' := [(4, .int y352), (6, .int r344), (0, .ref b), (1, .ref (ad 0)), (2, .ref (ad 10)), (3, .ref (ad 83)), (5, .int x5)]) hx hb dL_law_1534 hl (k := 5) rfl (by rw [ey352]; rfl) (by decide) rfl (fun ls hl => ?_)
            refine lv_goto (tgt := 23) hx hb dL_law_1537 (by decide) ?_
            exact ih23 _ _ _ _ _ _ _ (by omega) (by omega) h hI (lv_sub hl [2, 3, 4, 5, 0] rfl)
          · have h := h.2 c351
            refine lv_iconst (v := 0) hx hb dL_law_1234 (by decide) ?_
            exact h.elim
      · have h := h.2 c347
        refine lv_iconst (v := 0) hx hb dL_law_1217 (by decide) ?_
        exact h.elim
    have J1164 : ∀ (cs sl : Nat) (x4 : Int32) (v0 : Int32) (v1 : Int32) (σ : gS) (H : Heap) (locs : List Loc) (ls : Array Slot), cs + 7 * n23 + 7 ≤ 600000 → sl + 42 * n23 + 42 ≤ 7000000 → w_L_law_1164 Q LN xs (w_L_law_23 Q LN xs n23) x4 v0 v1 σ → gI D cy ad A s.heap σ H locs → lv_has ls 7 [(0, .ref b), (1, .ref (ad 0)), (2, .ref (ad 10)), (3, .ref (ad 83)), (4, .int x4)] → W p l e room_1 s m #[Value.ref b] below meth c H locs cs sl (lw_Z below #[Value.ref b] s) (F0 m 1164 ls [.int v0, .int v1, .ref (ad 0)]) := by
      intro cs sl x4 v0 v1 σ H locs ls hcs hsl h hI hl
      unfold w_L_law_1164 at h
      refine lv_aload_n hx hb dL_law_1164 rfl (lv_at hl 0 rfl) ?_
      refine lv_iload hx hb dL_law_1165 (lv_at hl 4 rfl) ?_
      refine lv_iconst (v := 3) hx hb dL_law_1167 (by decide) ?_
      refine lv_iadd hx hb dL_law_1168 ?_
      obtain ⟨hi353, h⟩ := h
      refine va_sld hx hb hX hbl hbA hI.2.2 hi353 dL_law_1169 ?_
      refine lv_aload_n hx hb dL_law_1170 rfl (lv_at hl 3 rfl) ?_
      refine gw_backi hI (gw_runS (As := [.ref (ad 0), .int v1, .int v0, .int (xs (x4 + 3).toNatClampNeg), .ref (ad 83)]) (rest := []) hC hml hI (c_L_pass l hst D cy ad A _  _ _ _ _ h) k_L_pass gw_4_28 ⟨rfl, rfl⟩ ⟨Nat.le_of_ble_eq_true rfl, Nat.le_of_ble_eq_true rfl⟩ rfl hl.1 rfl (Nat.le_of_ble_eq_true rfl) dL_law_1171 ⟨by rw [hRc]; omega, by rw [hRs]; omega⟩) (fun r355 s354 H locs h hI => ?_)
      refine lv_istore (lv' := [(5, .int r355), (0, .ref b), (1, .ref (ad 0)), (2, .ref (ad 10)), (3, .ref (ad 83)), (4, .int x4)]) hx hb dL_law_1174 hl (by decide) rfl (fun ls hl => ?_)
      refine lv_aload_n hx hb dL_law_1176 rfl (lv_at hl 3 rfl) ?_
      refine lv_aload_n hx hb dL_law_1177 rfl (lv_at hl 1 rfl) ?_
      refine lv_iload hx hb dL_law_1178 (lv_at hl 5 rfl) ?_
      refine lv_iconst (v := 1) hx hb dL_law_1180 (by decide) ?_
      refine lv_iadd hx hb dL_law_1181 ?_
      obtain ⟨hi356, h⟩ := h
      refine va_sld hx hb hX hbl hbA hI.2.2 hi356 dL_law_1182 ?_
      refine lv_aload_n hx hb dL_law_1183 rfl (lv_at hl 1 rfl) ?_
      refine lv_iload hx hb dL_law_1184 (lv_at hl 5 rfl) ?_
      refine lv_iconst (v := 2) hx hb dL_law_1186 (by decide) ?_
      refine lv_iadd hx hb dL_law_1187 ?_
      obtain ⟨hi357, h⟩ := h
      refine va_sld hx hb hX hbl hbA hI.2.2 hi357 dL_law_1188 ?_
      refine lv_if_eq (tgt := 1196) hx hb dL_law_1189 (by decide) (fun c358 => ?_) (fun c358 => ?_)
      · have h := h.1 c358
        refine lv_iconst (v := 0) hx hb dL_law_1196 (by decide) ?_
        exact J1197 _ _ _ _ _ _ _ _ _ _ (by omega) (by omega) h hI (lv_sub hl [1, 2, 3, 4, 5, 0] rfl)
      · have h := h.2 c358
        refine lv_iconst (v := 1) hx hb dL_law_1192 (by decide) ?_
        refine lv_goto (tgt := 1197) hx hb dL_law_1193 (by decide) ?_
        exact J1197 _ _ _ _ _ _ _ _ _ _ (by omega) (by omega) h hI (lv_sub hl [1, 2, 3, 4, 5, 0] rfl)
    have J1143 : ∀ (cs sl : Nat) (x4 : Int32) (σ : gS) (H : Heap) (locs : List Loc) (ls : Array Slot), cs + 7 * n23 + 7 ≤ 600000 → sl + 42 * n23 + 42 ≤ 7000000 → w_L_law_1143 Q LN xs (w_L_law_23 Q LN xs n23) x4 σ → gI D cy ad A s.heap σ H locs → lv_has ls 7 [(0, .ref b), (1, .ref (ad 0)), (2, .ref (ad 10)), (3, .ref (ad 83)), (4, .int x4)] → W p l e room_1 s m #[Value.ref b] below meth c H locs cs sl (lw_Z below #[Value.ref b] s) (F0 m 1143 ls []) := by
      intro cs sl x4 σ H locs ls hcs hsl h hI hl
      unfold w_L_law_1143 at h
      refine lv_aload_n hx hb dL_law_1143 rfl (lv_at hl 1 rfl) ?_
      refine lv_aload_n hx hb dL_law_1144 rfl (lv_at hl 0 rfl) ?_
      refine lv_iload hx hb dL_law_1145 (lv_at hl 4 rfl) ?_
      refine lv_iconst (v := 1) hx hb dL_law_1147 (by decide) ?_
      refine lv_iadd hx hb dL_law_1148 ?_
      obtain ⟨hi359, h⟩ := h
      refine va_sld hx hb hX hbl hbA hI.2.2 hi359 dL_law_1149 ?_
      refine lv_aload_n hx hb dL_law_1150 rfl (lv_at hl 0 rfl) ?_
      refine lv_iload hx hb dL_law_1151 (lv_at hl 4 rfl) ?_
      refine lv_iconst (v := 2) hx hb dL_law_1153 (by decide) ?_
      refine lv_iadd hx hb dL_law_1154 ?_
      obtain ⟨hi360, h⟩ := h
      refine va_sld hx hb hX hbl hbA hI.2.2 hi360 dL_law_1155 ?_
      refine lv_if_eq (tgt := 1163) hx hb dL_law_1156 (by decide) (fun c361 => ?_) (fun c361 => ?_)
      · have h := h.1 c361
        refine lv_iconst (v := 0) hx hb dL_law_1163 (by decide) ?_
        exact J1164 _ _ _ _ _ _ _ _ _ (by omega) (by omega) h hI (lv_sub hl [0, 1, 2, 3, 4] rfl)
      · have h := h.2 c361
        refine lv_iconst (v := 1) hx hb dL_law_1159 (by decide) ?_
        refine lv_goto (tgt := 1164) hx hb dL_law_1160 (by decide) ?_
        exact J1164 _ _ _ _ _ _ _ _ _ (by omega) (by omega) h hI (lv_sub hl [0, 1, 2, 3, 4] rfl)
    have J1239 : ∀ (cs sl : Nat) (x4 : Int32) (σ : gS) (H : Heap) (locs : List Loc) (ls : Array Slot), cs + 7 * n23 + 7 ≤ 600000 → sl + 42 * n23 + 42 ≤ 7000000 → w_L_law_1239 Q LN xs (w_L_law_23 Q LN xs n23) x4 σ → gI D cy ad A s.heap σ H locs → lv_has ls 7 [(0, .ref b), (1, .ref (ad 0)), (2, .ref (ad 10)), (3, .ref (ad 83)), (4, .int x4)] → W p l e room_1 s m #[Value.ref b] below meth c H locs cs sl (lw_Z below #[Value.ref b] s) (F0 m 1239 ls []) := by
      intro cs sl x4 σ H locs ls hcs hsl h hI hl
      unfold w_L_law_1239 at h
      refine lv_aload_n hx hb dL_law_1239 rfl (lv_at hl 1 rfl) ?_
      refine lv_aload_n hx hb dL_law_1240 rfl (lv_at hl 0 rfl) ?_
      refine lv_iload hx hb dL_law_1241 (lv_at hl 4 rfl) ?_
      refine lv_iconst (v := 1) hx hb dL_law_1243 (by decide) ?_
      refine lv_iadd hx hb dL_law_1244 ?_
      obtain ⟨hi362, h⟩ := h
      refine va_sld hx hb hX hbl hbA hI.2.2 hi362 dL_law_1245 ?_
      refine lv_aload_n hx hb dL_law_1246 rfl (lv_at hl 0 rfl) ?_
      refine lv_iload hx hb dL_law_1247 (lv_at hl 4 rfl) ?_
      refine lv_iconst (v := 2) hx hb dL_law_1249 (by decide) ?_
      refine lv_iadd hx hb dL_law_1250 ?_
      obtain ⟨hi363, h⟩ := h
      refine va_sld hx hb hX hbl hbA hI.2.2 hi363 dL_law_1251 ?_
      refine lv_aload_n hx hb dL_law_1252 rfl (lv_at hl 0 rfl) ?_
      refine lv_iload hx hb dL_law_1253 (lv_at hl 4 rfl) ?_
      refine lv_iconst (v := 3) hx hb dL_law_1255 (by decide) ?_
      refine lv_iadd hx hb dL_law_1256 ?_
      obtain ⟨hi364, h⟩ := h
      refine va_sld hx hb hX hbl hbA hI.2.2 hi364 dL_law_1257 ?_
      refine lv_aload_n hx hb dL_law_1258 rfl (lv_at hl 3 rfl) ?_
      refine gw_backi hI (gw_runS (As := [.ref (ad 0), .int (xs (x4 + 1).toNatClampNeg), .int (xs (x4 + 2).toNatClampNeg), .int (xs (x4 + 3).toNatClampNeg), .ref (ad 83)]) (rest := []) hC hml hI (c_L_inside l hst D cy ad A _  _ _ _ _ h) k_L_inside gw_4_47 ⟨rfl, rfl⟩ ⟨Nat.le_of_ble_eq_true rfl, Nat.le_of_ble_eq_true rfl⟩ rfl hl.1 rfl (Nat.le_of_ble_eq_true rfl) dL_law_1259 ⟨by rw [hRc]; omega, by rw [hRs]; omega⟩) (fun r366 s365 H locs h hI => ?_)
      refine lv_istore (lv' := [(5, .int r366), (0, .ref b), (1, .ref (ad 0)), (2, .ref (ad 10)), (3, .ref (ad 83)), (4, .int x4)]) hx hb dL_law_1262 hl (by decide) rfl (fun ls hl => ?_)
      refine lv_aload_n hx hb dL_law_1264 rfl (lv_at hl 3 rfl) ?_
      refine lv_aload_n hx hb dL_law_1265 rfl (lv_at hl 1 rfl) ?_
      refine lv_iload hx hb dL_law_1266 (lv_at hl 5 rfl) ?_
      refine lv_iconst (v := 1) hx hb dL_law_1268 (by decide) ?_
      refine lv_iadd hx hb dL_law_1269 ?_
      obtain ⟨hi367, h⟩ := h
      refine va_sld hx hb hX hbl hbA hI.2.2 hi367 dL_law_1270 ?_
      refine lv_aload_n hx hb dL_law_1271 rfl (lv_at hl 1 rfl) ?_
      refine lv_iload hx hb dL_law_1272 (lv_at hl 5 rfl) ?_
      refine lv_iconst (v := 2) hx hb dL_law_1274 (by decide) ?_
      refine lv_iadd hx hb dL_law_1275 ?_
      obtain ⟨hi368, h⟩ := h
      refine va_sld hx hb hX hbl hbA hI.2.2 hi368 dL_law_1276 ?_
      refine lv_aload_n hx hb dL_law_1277 rfl (lv_at hl 1 rfl) ?_
      refine lv_iload hx hb dL_law_1278 (lv_at hl 5 rfl) ?_
      refine lv_iconst (v := 3) hx hb dL_law_1280 (by decide) ?_
      refine lv_iadd hx hb dL_law_1281 ?_
      obtain ⟨hi369, h⟩ := h
      refine va_sld hx hb hX hbl hbA hI.2.2 hi369 dL_law_1282 ?_
      refine g_backi hI (g_runV (As := [.int (xs (x4 + 1).toNatClampNeg), .int (xs (x4 + 2).toNatClampNeg), .int (xs (x4 + 3).toNatClampNeg)]) (rest := []) hC hml hI (c_X9_inside l D cy ad A _  _ _ _ _ h) k_X9_inside gw_5_234 ⟨rfl, rfl⟩ ⟨Nat.le_of_ble_eq_true rfl, Nat.le_of_ble_eq_true rfl⟩ (grv_10 hC hI) rfl hl.1 rfl (Nat.le_of_ble_eq_true rfl) dL_law_1283 ⟨by rw [hRc]; omega, by rw [hRs]; omega⟩) (fun r371 s370 H locs h hI => ?_)
      refine lv_istore (lv' := [(6, .int r371), (5, .int r366), (0, .ref b), (1, .ref (ad 0)), (2, .ref (ad 10)), (3, .ref (ad 83)), (4, .int x4)]) hx hb dL_law_1286 hl (by decide) rfl (fun ls hl => ?_)
      refine lv_aload_n hx hb dL_law_1288 rfl (lv_at hl 4 rfl) ?_
      refine g_backi hI (g_runV (As := []) (rest := []) hC hml hI (c_X9_thrown l D cy ad A _  _ h) k_X9_thrown gw_4_178 ⟨rfl, rfl⟩ ⟨Nat.le_of_ble_eq_true rfl, Nat.le_of_ble_eq_true rfl⟩ (grv_10 hC hI) rfl hl.1 rfl (Nat.le_of_ble_eq_true rfl) dL_law_1289 ⟨by rw [hRc]; omega, by rw [hRs]; omega⟩) (fun r373 s372 H locs h hI => ?_)
      refine lv_iload hx hb dL_law_1292 (lv_at hl 1 rfl) ?_
      refine lv_icmp_eq (tgt := 1299) hx hb dL_law_1294 (by decide) (fun c374 => ?_) (fun c374 => ?_)
      · have h := h.1 c374
        refine lv_iload hx hb dL_law_1299 (lv_at hl 1 rfl) ?_
        refine lv_if_ne (tgt := 1323) hx hb dL_law_1301 (by decide) (fun c375 => ?_) (fun c375 => ?_)
        · have h := h.1 c375
          refine lv_goto (tgt := 1534) hx hb dL_law_1323 (by decide) ?_
          obtain ⟨y376, ey376⟩ : ∃ y : Int32, y = x4 + 6 := ⟨_, rfl⟩
          have h := h y376 ey376
          refine lv_iinc (v := y376) (lv' := [(4, .int y376), (6, .int r371), (5, .int r366), (0, .ref b), (1, .ref (ad 0)), (2, .ref (ad 10)), (3, .ref (ad 83))]) hx hb dL_law_1534 hl (k := 6) rfl (by rw [ey376]; rfl) (by decide) rfl (fun ls hl => ?_)
          refine lv_goto (tgt := 23) hx hb dL_law_1537 (by decide) ?_
          exact ih23 _ _ _ _ _ _ _ (by omega) (by omega) h hI (lv_sub hl [3, 4, 5, 6, 0] rfl)
        · have h := h.2 c375
          refine lv_aload_n hx hb dL_law_1304 rfl (lv_at hl 5 rfl) ?_
          refine lv_iconst (v := 0) hx hb dL_law_1305 (by decide) ?_
          refine ga_83 hC hI (by unfold vp_in; decide) dL_law_1306 ?_
          refine lv_iload hx hb dL_law_1307 (lv_at hl 0 rfl) ?_
          refine lv_if_eq (tgt := 1316) hx hb dL_law_1309 (by decide) (fun c378 => ?_) (fun c378 => ?_)
          · have h := h.1 c378
            refine lv_lconst (v := 0) hx hb dL_law_1316 (by decide) ?_
            refine W.lcmp hx hb dL_law_1317 ?_
            refine lv_if_eq (tgt := 1323) hx hb dL_law_1318 (by decide) (fun c379 => ?_) (fun c379 => ?_)
            · have h := h.1 c379
              refine lv_goto (tgt := 1534) hx hb dL_law_1323 (by decide) ?_
              obtain ⟨y380, ey380⟩ : ∃ y : Int32, y = x4 + 6 := ⟨_, rfl⟩
              have h := h y380 ey380
              refine lv_iinc (v := y380) (lv' := [(4, .int y380), (6, .int r371), (5, .int r366), (0, .ref b), (1, .ref (ad 0)), (2, .ref (ad 10)), (3, .ref (ad 83))]) hx hb dL_law_1534 hl (k := 6) rfl (by rw [ey380]; rfl) (by decide) rfl (fun ls hl => ?_)
              refine lv_goto (tgt := 23) hx hb dL_law_1537 (by decide) ?_
              exact ih23 _ _ _ _ _ _ _ (by omega) (by omega) h hI (lv_sub hl [3, 4, 5, 6, 0] rfl)
            · have h := h.2 c379
              refine lv_iconst (v := 0) hx hb dL_law_1321 (by decide) ?_
              exact h.elim
          · have h := h.2 c378
            refine lv_lconst (v := 1) hx hb dL_law_1312 (by decide) ?_
            refine lv_goto (tgt := 1317) hx hb dL_law_1313 (by decide) ?_
            refine W.lcmp hx hb dL_law_1317 ?_
            refine lv_if_eq (tgt := 1323) hx hb dL_law_1318 (by decide) (fun c381 => ?_) (fun c381 => ?_)
            · have h := h.1 c381
              refine lv_goto (tgt := 1534) hx hb dL_law_1323 (by decide) ?_
              obtain ⟨y382, ey382⟩ : ∃ y : Int32, y = x4 + 6 := ⟨_, rfl⟩
              have h := h y382 ey382
              refine lv_iinc (v := y382) (lv' := [(4, .int y382), (6, .int r371), (5, .int r366), (0, .ref b), (1, .ref (ad 0)), (2, .ref (ad 10)), (3, .ref (ad 83))]) hx hb dL_law_1534 hl (k := 6) rfl (by rw [ey382]; rfl) (by decide) rfl (fun ls hl => ?_)
              refine lv_goto (tgt := 23) hx hb dL_law_1537 (by decide) ?_
              exact ih23 _ _ _ _ _ _ _ (by omega) (by omega) h hI (lv_sub hl [3, 4, 5, 6, 0] rfl)
            · have h := h.2 c381
              refine lv_iconst (v := 0) hx hb dL_law_1321 (by decide) ?_
              exact h.elim
      · have h := h.2 c374
        refine lv_iconst (v := 0) hx hb dL_law_1297 (by decide) ?_
        exact h.elim
    have J1371 : ∀ (cs sl : Nat) (x4 : Int32) (v0 : Int32) (v2 : Int32) (σ : gS) (H : Heap) (locs : List Loc) (ls : Array Slot), cs + 7 * n23 + 7 ≤ 600000 → sl + 42 * n23 + 42 ≤ 7000000 → w_L_law_1371 Q LN xs (w_L_law_23 Q LN xs n23) x4 v0 v2 σ → gI D cy ad A s.heap σ H locs → lv_has ls 7 [(0, .ref b), (1, .ref (ad 0)), (2, .ref (ad 10)), (3, .ref (ad 83)), (4, .int x4)] → W p l e room_1 s m #[Value.ref b] below meth c H locs cs sl (lw_Z below #[Value.ref b] s) (F0 m 1371 ls [.int v0, .ref (ad 10), .int v2]) := by
      intro cs sl x4 v0 v2 σ H locs ls hcs hsl h hI hl
      unfold w_L_law_1371 at h
      refine lv_aload_n hx hb dL_law_1371 rfl (lv_at hl 0 rfl) ?_
      refine lv_iload hx hb dL_law_1372 (lv_at hl 4 rfl) ?_
      refine lv_iconst (v := 2) hx hb dL_law_1374 (by decide) ?_
      refine lv_iadd hx hb dL_law_1375 ?_
      obtain ⟨hi383, h⟩ := h
      refine va_sld hx hb hX hbl hbA hI.2.2 hi383 dL_law_1376 ?_
      refine lv_aload_n hx hb dL_law_1377 rfl (lv_at hl 0 rfl) ?_
      refine lv_iload hx hb dL_law_1378 (lv_at hl 4 rfl) ?_
      refine lv_iconst (v := 3) hx hb dL_law_1380 (by decide) ?_
      refine lv_iadd hx hb dL_law_1381 ?_
      obtain ⟨hi384, h⟩ := h
      refine va_sld hx hb hX hbl hbA hI.2.2 hi384 dL_law_1382 ?_
      refine g_backi hI (g_runV (As := [.int v0, .int (xs (x4 + 2).toNatClampNeg), .int (xs (x4 + 3).toNatClampNeg)]) (rest := [.int v2]) hC hml hI (c_X9_within l D cy ad A _  _ _ _ _ h) k_X9_within gw_6_6 ⟨rfl, rfl⟩ ⟨Nat.le_of_ble_eq_true rfl, Nat.le_of_ble_eq_true rfl⟩ (grv_10 hC hI) rfl hl.1 rfl (Nat.le_of_ble_eq_true rfl) dL_law_1383 ⟨by rw [hRc]; omega, by rw [hRs]; omega⟩) (fun r386 s385 H locs h hI => ?_)
      refine lv_icmp_eq (tgt := 1534) hx hb dL_law_1386 (by decide) (fun c387 => ?_) (fun c387 => ?_)
      · have h := h.1 c387
        obtain ⟨y388, ey388⟩ : ∃ y : Int32, y = x4 + 6 := ⟨_, rfl⟩
        have h := h y388 ey388
        refine lv_iinc (v := y388) (lv' := [(4, .int y388), (0, .ref b), (1, .ref (ad 0)), (2, .ref (ad 10)), (3, .ref (ad 83))]) hx hb dL_law_1534 hl (k := 4) rfl (by rw [ey388]; rfl) (by decide) rfl (fun ls hl => ?_)
        refine lv_goto (tgt := 23) hx hb dL_law_1537 (by decide) ?_
        exact ih23 _ _ _ _ _ _ _ (by omega) (by omega) h hI (lv_sub hl [1, 2, 3, 4, 0] rfl)
      · have h := h.2 c387
        refine lv_iconst (v := 0) hx hb dL_law_1389 (by decide) ?_
        exact h.elim
    have J1341 : ∀ (cs sl : Nat) (x4 : Int32) (v0 : Int32) (σ : gS) (H : Heap) (locs : List Loc) (ls : Array Slot), cs + 7 * n23 + 7 ≤ 600000 → sl + 42 * n23 + 42 ≤ 7000000 → w_L_law_1341 Q LN xs (w_L_law_23 Q LN xs n23) x4 v0 σ → gI D cy ad A s.heap σ H locs → lv_has ls 7 [(0, .ref b), (1, .ref (ad 0)), (2, .ref (ad 10)), (3, .ref (ad 83)), (4, .int x4)] → W p l e room_1 s m #[Value.ref b] below meth c H locs cs sl (lw_Z below #[Value.ref b] s) (F0 m 1341 ls [.int v0, .ref (ad 0)]) := by
      intro cs sl x4 v0 σ H locs ls hcs hsl h hI hl
      unfold w_L_law_1341 at h
      refine lv_aload_n hx hb dL_law_1341 rfl (lv_at hl 0 rfl) ?_
      refine lv_iload hx hb dL_law_1342 (lv_at hl 4 rfl) ?_
      refine lv_iconst (v := 2) hx hb dL_law_1344 (by decide) ?_
      refine lv_iadd hx hb dL_law_1345 ?_
      obtain ⟨hi389, h⟩ := h
      refine va_sld hx hb hX hbl hbA hI.2.2 hi389 dL_law_1346 ?_
      refine lv_aload_n hx hb dL_law_1347 rfl (lv_at hl 0 rfl) ?_
      refine lv_iload hx hb dL_law_1348 (lv_at hl 4 rfl) ?_
      refine lv_iconst (v := 3) hx hb dL_law_1350 (by decide) ?_
      refine lv_iadd hx hb dL_law_1351 ?_
      obtain ⟨hi390, h⟩ := h
      refine va_sld hx hb hX hbl hbA hI.2.2 hi390 dL_law_1352 ?_
      refine g_backi hI (g_runV (As := [.int v0, .int (xs (x4 + 2).toNatClampNeg), .int (xs (x4 + 3).toNatClampNeg)]) (rest := []) hC hml hI (c_X8_within l D cy ad A _  _ _ _ _ h) k_X8_within gw_2_218 ⟨rfl, rfl⟩ ⟨Nat.le_of_ble_eq_true rfl, Nat.le_of_ble_eq_true rfl⟩ (grv_0 hC hI) rfl hl.1 rfl (Nat.le_of_ble_eq_true rfl) dL_law_1353 ⟨by rw [hRc]; omega, by rw [hRs]; omega⟩) (fun r392 s391 H locs h hI => ?_)
      refine lv_aload_n hx hb dL_law_1356 rfl (lv_at hl 2 rfl) ?_
      refine lv_aload_n hx hb dL_law_1357 rfl (lv_at hl 0 rfl) ?_
      refine lv_iload hx hb dL_law_1358 (lv_at hl 4 rfl) ?_
      refine lv_iconst (v := 1) hx hb dL_law_1360 (by decide) ?_
      refine lv_iadd hx hb dL_law_1361 ?_
      obtain ⟨hi393, h⟩ := h
      refine va_sld hx hb hX hbl hbA hI.2.2 hi393 dL_law_1362 ?_
      refine lv_if_eq (tgt := 1370) hx hb dL_law_1363 (by decide) (fun c394 => ?_) (fun c394 => ?_)
      · have h := h.1 c394
        refine lv_iconst (v := 0) hx hb dL_law_1370 (by decide) ?_
        exact J1371 _ _ _ _ _ _ _ _ _ (by omega) (by omega) h hI (lv_sub hl [0, 1, 2, 3, 4] rfl)
      · have h := h.2 c394
        refine lv_iconst (v := 1) hx hb dL_law_1366 (by decide) ?_
        refine lv_goto (tgt := 1371) hx hb dL_law_1367 (by decide) ?_
        exact J1371 _ _ _ _ _ _ _ _ _ (by omega) (by omega) h hI (lv_sub hl [0, 1, 2, 3, 4] rfl)
    have J1326 : ∀ (cs sl : Nat) (x4 : Int32) (σ : gS) (H : Heap) (locs : List Loc) (ls : Array Slot), cs + 7 * n23 + 7 ≤ 600000 → sl + 42 * n23 + 42 ≤ 7000000 → w_L_law_1326 Q LN xs (w_L_law_23 Q LN xs n23) x4 σ → gI D cy ad A s.heap σ H locs → lv_has ls 7 [(0, .ref b), (1, .ref (ad 0)), (2, .ref (ad 10)), (3, .ref (ad 83)), (4, .int x4)] → W p l e room_1 s m #[Value.ref b] below meth c H locs cs sl (lw_Z below #[Value.ref b] s) (F0 m 1326 ls []) := by
      intro cs sl x4 σ H locs ls hcs hsl h hI hl
      unfold w_L_law_1326 at h
      refine lv_aload_n hx hb dL_law_1326 rfl (lv_at hl 1 rfl) ?_
      refine lv_aload_n hx hb dL_law_1327 rfl (lv_at hl 0 rfl) ?_
      refine lv_iload hx hb dL_law_1328 (lv_at hl 4 rfl) ?_
      refine lv_iconst (v := 1) hx hb dL_law_1330 (by decide) ?_
      refine lv_iadd hx hb dL_law_1331 ?_
      obtain ⟨hi395, h⟩ := h
      refine va_sld hx hb hX hbl hbA hI.2.2 hi395 dL_law_1332 ?_
      refine lv_if_eq (tgt := 1340) hx hb dL_law_1333 (by decide) (fun c396 => ?_) (fun c396 => ?_)
      · have h := h.1 c396
        refine lv_iconst (v := 0) hx hb dL_law_1340 (by decide) ?_
        exact J1341 _ _ _ _ _ _ _ _ (by omega) (by omega) h hI (lv_sub hl [0, 1, 2, 3, 4] rfl)
      · have h := h.2 c396
        refine lv_iconst (v := 1) hx hb dL_law_1336 (by decide) ?_
        refine lv_goto (tgt := 1341) hx hb dL_law_1337 (by decide) ?_
        exact J1341 _ _ _ _ _ _ _ _ (by omega) (by omega) h hI (lv_sub hl [0, 1, 2, 3, 4] rfl)
    have J1391 : ∀ (cs sl : Nat) (x4 : Int32) (σ : gS) (H : Heap) (locs : List Loc) (ls : Array Slot), cs + 7 * n23 + 7 ≤ 600000 → sl + 42 * n23 + 42 ≤ 7000000 → w_L_law_1391 Q LN xs (w_L_law_23 Q LN xs n23) x4 σ → gI D cy ad A s.heap σ H locs → lv_has ls 7 [(0, .ref b), (1, .ref (ad 0)), (2, .ref (ad 10)), (3, .ref (ad 83)), (4, .int x4)] → W p l e room_1 s m #[Value.ref b] below meth c H locs cs sl (lw_Z below #[Value.ref b] s) (F0 m 1391 ls []) := by
      intro cs sl x4 σ H locs ls hcs hsl h hI hl
      unfold w_L_law_1391 at h
      refine lv_aload_n hx hb dL_law_1391 rfl (lv_at hl 1 rfl) ?_
      refine lv_aload_n hx hb dL_law_1392 rfl (lv_at hl 0 rfl) ?_
      refine lv_iload hx hb dL_law_1393 (lv_at hl 4 rfl) ?_
      refine lv_iconst (v := 1) hx hb dL_law_1395 (by decide) ?_
      refine lv_iadd hx hb dL_law_1396 ?_
      obtain ⟨hi397, h⟩ := h
      refine va_sld hx hb hX hbl hbA hI.2.2 hi397 dL_law_1397 ?_
      refine lv_aload_n hx hb dL_law_1398 rfl (lv_at hl 0 rfl) ?_
      refine lv_iload hx hb dL_law_1399 (lv_at hl 4 rfl) ?_
      refine lv_iconst (v := 2) hx hb dL_law_1401 (by decide) ?_
      refine lv_iadd hx hb dL_law_1402 ?_
      obtain ⟨hi398, h⟩ := h
      refine va_sld hx hb hX hbl hbA hI.2.2 hi398 dL_law_1403 ?_
      refine gw_backi hI (gw_runS (As := [.ref (ad 0), .int (xs (x4 + 1).toNatClampNeg), .int (xs (x4 + 2).toNatClampNeg)]) (rest := []) hC hml hI (c_L_noise l hst D cy ad A _  _ _ _ h) k_L_noise gw_4_58 ⟨rfl, rfl⟩ ⟨Nat.le_of_ble_eq_true rfl, Nat.le_of_ble_eq_true rfl⟩ rfl hl.1 rfl (Nat.le_of_ble_eq_true rfl) dL_law_1404 ⟨by rw [hRc]; omega, by rw [hRs]; omega⟩) (fun r400 s399 H locs h hI => ?_)
      refine lv_istore (lv' := [(5, .int r400), (0, .ref b), (1, .ref (ad 0)), (2, .ref (ad 10)), (3, .ref (ad 83)), (4, .int x4)]) hx hb dL_law_1407 hl (by decide) rfl (fun ls hl => ?_)
      refine lv_aload_n hx hb dL_law_1409 rfl (lv_at hl 3 rfl) ?_
      refine lv_aload_n hx hb dL_law_1410 rfl (lv_at hl 1 rfl) ?_
      refine lv_iload hx hb dL_law_1411 (lv_at hl 5 rfl) ?_
      refine lv_iconst (v := 1) hx hb dL_law_1413 (by decide) ?_
      refine lv_iadd hx hb dL_law_1414 ?_
      obtain ⟨hi401, h⟩ := h
      refine va_sld hx hb hX hbl hbA hI.2.2 hi401 dL_law_1415 ?_
      refine lv_aload_n hx hb dL_law_1416 rfl (lv_at hl 1 rfl) ?_
      refine lv_iload hx hb dL_law_1417 (lv_at hl 5 rfl) ?_
      refine lv_iconst (v := 2) hx hb dL_law_1419 (by decide) ?_
      refine lv_iadd hx hb dL_law_1420 ?_
      obtain ⟨hi402, h⟩ := h
      refine va_sld hx hb hX hbl hbA hI.2.2 hi402 dL_law_1421 ?_
      refine g_backv hI (g_runV (As := [.int (xs (x4 + 1).toNatClampNeg), .int (xs (x4 + 2).toNatClampNeg)]) (rest := []) hC hml hI (c_X9_noise l D cy ad A _  _ _ _ h) k_X9_noise gw_6_18 ⟨rfl, rfl⟩ ⟨Nat.le_of_ble_eq_true rfl, Nat.le_of_ble_eq_true rfl⟩ (grv_10 hC hI) rfl hl.1 rfl (Nat.le_of_ble_eq_true rfl) dL_law_1422 ⟨by rw [hRc]; omega, by rw [hRs]; omega⟩) (fun s403 H locs h hI => ?_)
      refine lv_aload_n hx hb dL_law_1425 rfl (lv_at hl 3 rfl) ?_
      refine g_backi hI (g_runV (As := []) (rest := []) hC hml hI (c_X9_thrown l D cy ad A _  _ h) k_X9_thrown gw_4_178 ⟨rfl, rfl⟩ ⟨Nat.le_of_ble_eq_true rfl, Nat.le_of_ble_eq_true rfl⟩ (grv_10 hC hI) rfl hl.1 rfl (Nat.le_of_ble_eq_true rfl) dL_law_1426 ⟨by rw [hRc]; omega, by rw [hRs]; omega⟩) (fun r406 s405 H locs h hI => ?_)
      refine lv_iload hx hb dL_law_1429 (lv_at hl 0 rfl) ?_
      refine lv_icmp_eq (tgt := 1436) hx hb dL_law_1431 (by decide) (fun c407 => ?_) (fun c407 => ?_)
      · have h := h.1 c407
        refine lv_goto (tgt := 1534) hx hb dL_law_1436 (by decide) ?_
        obtain ⟨y408, ey408⟩ : ∃ y : Int32, y = x4 + 6 := ⟨_, rfl⟩
        have h := h y408 ey408
        refine lv_iinc (v := y408) (lv' := [(4, .int y408), (5, .int r400), (0, .ref b), (1, .ref (ad 0)), (2, .ref (ad 10)), (3, .ref (ad 83))]) hx hb dL_law_1534 hl (k := 5) rfl (by rw [ey408]; rfl) (by decide) rfl (fun ls hl => ?_)
        refine lv_goto (tgt := 23) hx hb dL_law_1537 (by decide) ?_
        exact ih23 _ _ _ _ _ _ _ (by omega) (by omega) h hI (lv_sub hl [2, 3, 4, 5, 0] rfl)
      · have h := h.2 c407
        refine lv_iconst (v := 0) hx hb dL_law_1434 (by decide) ?_
        exact h.elim
    have J1439 : ∀ (cs sl : Nat) (x4 : Int32) (σ : gS) (H : Heap) (locs : List Loc) (ls : Array Slot), cs + 7 * n23 + 7 ≤ 600000 → sl + 42 * n23 + 42 ≤ 7000000 → w_L_law_1439 Q LN xs (w_L_law_23 Q LN xs n23) x4 σ → gI D cy ad A s.heap σ H locs → lv_has ls 7 [(0, .ref b), (1, .ref (ad 0)), (2, .ref (ad 10)), (3, .ref (ad 83)), (4, .int x4)] → W p l e room_1 s m #[Value.ref b] below meth c H locs cs sl (lw_Z below #[Value.ref b] s) (F0 m 1439 ls []) := by
      intro cs sl x4 σ H locs ls hcs hsl h hI hl
      unfold w_L_law_1439 at h
      refine lv_aload_n hx hb dL_law_1439 rfl (lv_at hl 1 rfl) ?_
      refine lv_aload_n hx hb dL_law_1440 rfl (lv_at hl 3 rfl) ?_
      refine gw_backi hI (gw_runS (As := [.ref (ad 0), .ref (ad 83)]) (rest := []) hC hml hI (c_L_licence l hst D cy ad A _  _ h) k_L_licence gw_4_65 ⟨rfl, rfl⟩ ⟨Nat.le_of_ble_eq_true rfl, Nat.le_of_ble_eq_true rfl⟩ rfl hl.1 rfl (Nat.le_of_ble_eq_true rfl) dL_law_1441 ⟨by rw [hRc]; omega, by rw [hRs]; omega⟩) (fun r410 s409 H locs h hI => ?_)
      refine lv_istore (lv' := [(5, .int r410), (0, .ref b), (1, .ref (ad 0)), (2, .ref (ad 10)), (3, .ref (ad 83)), (4, .int x4)]) hx hb dL_law_1444 hl (by decide) rfl (fun ls hl => ?_)
      refine lv_aload_n hx hb dL_law_1446 rfl (lv_at hl 3 rfl) ?_
      refine g_backi hI (g_runV (As := []) (rest := []) hC hml hI (c_X9_licence l D cy ad A _  _ h) k_X9_licence gw_6_22 ⟨rfl, rfl⟩ ⟨Nat.le_of_ble_eq_true rfl, Nat.le_of_ble_eq_true rfl⟩ (grv_10 hC hI) rfl hl.1 rfl (Nat.le_of_ble_eq_true rfl) dL_law_1447 ⟨by rw [hRc]; omega, by rw [hRs]; omega⟩) (fun r412 s411 H locs h hI => ?_)
      refine lv_istore (lv' := [(6, .int r412), (5, .int r410), (0, .ref b), (1, .ref (ad 0)), (2, .ref (ad 10)), (3, .ref (ad 83)), (4, .int x4)]) hx hb dL_law_1450 hl (by decide) rfl (fun ls hl => ?_)
      refine lv_aload_n hx hb dL_law_1452 rfl (lv_at hl 4 rfl) ?_
      refine g_backi hI (g_runV (As := []) (rest := []) hC hml hI (c_X9_thrown l D cy ad A _  _ h) k_X9_thrown gw_4_178 ⟨rfl, rfl⟩ ⟨Nat.le_of_ble_eq_true rfl, Nat.le_of_ble_eq_true rfl⟩ (grv_10 hC hI) rfl hl.1 rfl (Nat.le_of_ble_eq_true rfl) dL_law_1453 ⟨by rw [hRc]; omega, by rw [hRs]; omega⟩) (fun r414 s413 H locs h hI => ?_)
      refine lv_iload hx hb dL_law_1456 (lv_at hl 1 rfl) ?_
      refine lv_icmp_eq (tgt := 1463) hx hb dL_law_1458 (by decide) (fun c415 => ?_) (fun c415 => ?_)
      · have h := h.1 c415
        refine lv_iload hx hb dL_law_1463 (lv_at hl 1 rfl) ?_
        refine lv_if_ne (tgt := 1480) hx hb dL_law_1465 (by decide) (fun c416 => ?_) (fun c416 => ?_)
        · have h := h.1 c416
          refine lv_goto (tgt := 1534) hx hb dL_law_1480 (by decide) ?_
          obtain ⟨y417, ey417⟩ : ∃ y : Int32, y = x4 + 6 := ⟨_, rfl⟩
          have h := h y417 ey417
          refine lv_iinc (v := y417) (lv' := [(4, .int y417), (6, .int r412), (5, .int r410), (0, .ref b), (1, .ref (ad 0)), (2, .ref (ad 10)), (3, .ref (ad 83))]) hx hb dL_law_1534 hl (k := 6) rfl (by rw [ey417]; rfl) (by decide) rfl (fun ls hl => ?_)
          refine lv_goto (tgt := 23) hx hb dL_law_1537 (by decide) ?_
          exact ih23 _ _ _ _ _ _ _ (by omega) (by omega) h hI (lv_sub hl [3, 4, 5, 6, 0] rfl)
        · have h := h.2 c416
          refine lv_aload_n hx hb dL_law_1468 rfl (lv_at hl 5 rfl) ?_
          refine lv_iconst (v := 0) hx hb dL_law_1469 (by decide) ?_
          refine ga_83 hC hI (by unfold vp_in; decide) dL_law_1470 ?_
          refine lv_iload hx hb dL_law_1471 (lv_at hl 0 rfl) ?_
          refine lv_i2l hx hb dL_law_1473 rfl ?_
          refine W.lcmp hx hb dL_law_1474 ?_
          refine lv_if_eq (tgt := 1480) hx hb dL_law_1475 (by decide) (fun c419 => ?_) (fun c419 => ?_)
          · have h := h.1 c419
            refine lv_goto (tgt := 1534) hx hb dL_law_1480 (by decide) ?_
            obtain ⟨y420, ey420⟩ : ∃ y : Int32, y = x4 + 6 := ⟨_, rfl⟩
            have h := h y420 ey420
            refine lv_iinc (v := y420) (lv' := [(4, .int y420), (6, .int r412), (5, .int r410), (0, .ref b), (1, .ref (ad 0)), (2, .ref (ad 10)), (3, .ref (ad 83))]) hx hb dL_law_1534 hl (k := 6) rfl (by rw [ey420]; rfl) (by decide) rfl (fun ls hl => ?_)
            refine lv_goto (tgt := 23) hx hb dL_law_1537 (by decide) ?_
            exact ih23 _ _ _ _ _ _ _ (by omega) (by omega) h hI (lv_sub hl [3, 4, 5, 6, 0] rfl)
          · have h := h.2 c419
            refine lv_iconst (v := 0) hx hb dL_law_1478 (by decide) ?_
            exact h.elim
      · have h := h.2 c415
        refine lv_iconst (v := 0) hx hb dL_law_1461 (by decide) ?_
        exact h.elim
    have J1483 : ∀ (cs sl : Nat) (x4 : Int32) (σ : gS) (H : Heap) (locs : List Loc) (ls : Array Slot), cs + 7 * n23 + 7 ≤ 600000 → sl + 42 * n23 + 42 ≤ 7000000 → w_L_law_1483 Q LN xs (w_L_law_23 Q LN xs n23) x4 σ → gI D cy ad A s.heap σ H locs → lv_has ls 7 [(0, .ref b), (1, .ref (ad 0)), (2, .ref (ad 10)), (3, .ref (ad 83)), (4, .int x4)] → W p l e room_1 s m #[Value.ref b] below meth c H locs cs sl (lw_Z below #[Value.ref b] s) (F0 m 1483 ls []) := by
      intro cs sl x4 σ H locs ls hcs hsl h hI hl
      unfold w_L_law_1483 at h
      refine lv_aload_n hx hb dL_law_1483 rfl (lv_at hl 1 rfl) ?_
      refine g_backi hI (g_runV (As := []) (rest := []) hC hml hI (c_X8_fault l D cy ad A _  _ h) k_X8_fault gw_2_230 ⟨rfl, rfl⟩ ⟨Nat.le_of_ble_eq_true rfl, Nat.le_of_ble_eq_true rfl⟩ (grv_0 hC hI) rfl hl.1 rfl (Nat.le_of_ble_eq_true rfl) dL_law_1484 ⟨by rw [hRc]; omega, by rw [hRs]; omega⟩) (fun r422 s421 H locs h hI => ?_)
      refine lv_aload_n hx hb dL_law_1487 rfl (lv_at hl 2 rfl) ?_
      refine g_backi hI (g_runV (As := []) (rest := [.int r422]) hC hml hI (c_X9_fault l D cy ad A _  _ h) k_X9_fault gw_6_64 ⟨rfl, rfl⟩ ⟨Nat.le_of_ble_eq_true rfl, Nat.le_of_ble_eq_true rfl⟩ (grv_10 hC hI) rfl hl.1 rfl (Nat.le_of_ble_eq_true rfl) dL_law_1488 ⟨by rw [hRc]; omega, by rw [hRs]; omega⟩) (fun r424 s423 H locs h hI => ?_)
      refine lv_icmp_eq (tgt := 1534) hx hb dL_law_1491 (by decide) (fun c425 => ?_) (fun c425 => ?_)
      · have h := h.1 c425
        obtain ⟨y426, ey426⟩ : ∃ y : Int32, y = x4 + 6 := ⟨_, rfl⟩
        have h := h y426 ey426
        refine lv_iinc (v := y426) (lv' := [(4, .int y426), (0, .ref b), (1, .ref (ad 0)), (2, .ref (ad 10)), (3, .ref (ad 83))]) hx hb dL_law_1534 hl (k := 4) rfl (by rw [ey426]; rfl) (by decide) rfl (fun ls hl => ?_)
        refine lv_goto (tgt := 23) hx hb dL_law_1537 (by decide) ?_
        exact ih23 _ _ _ _ _ _ _ (by omega) (by omega) h hI (lv_sub hl [1, 2, 3, 4, 0] rfl)
      · have h := h.2 c425
        refine lv_iconst (v := 0) hx hb dL_law_1494 (by decide) ?_
        exact h.elim
    have J1496 : ∀ (cs sl : Nat) (x4 : Int32) (σ : gS) (H : Heap) (locs : List Loc) (ls : Array Slot), cs + 7 * n23 + 7 ≤ 600000 → sl + 42 * n23 + 42 ≤ 7000000 → w_L_law_1496 Q LN xs (w_L_law_23 Q LN xs n23) x4 σ → gI D cy ad A s.heap σ H locs → lv_has ls 7 [(0, .ref b), (1, .ref (ad 0)), (2, .ref (ad 10)), (3, .ref (ad 83)), (4, .int x4)] → W p l e room_1 s m #[Value.ref b] below meth c H locs cs sl (lw_Z below #[Value.ref b] s) (F0 m 1496 ls []) := by
      intro cs sl x4 σ H locs ls hcs hsl h hI hl
      unfold w_L_law_1496 at h
      refine lv_aload_n hx hb dL_law_1496 rfl (lv_at hl 1 rfl) ?_
      refine g_backi hI (g_runV (As := []) (rest := []) hC hml hI (c_X8_broken l D cy ad A _  _ h) k_X8_broken gw_2_234 ⟨rfl, rfl⟩ ⟨Nat.le_of_ble_eq_true rfl, Nat.le_of_ble_eq_true rfl⟩ (grv_0 hC hI) rfl hl.1 rfl (Nat.le_of_ble_eq_true rfl) dL_law_1497 ⟨by rw [hRc]; omega, by rw [hRs]; omega⟩) (fun r428 s427 H locs h hI => ?_)
      refine lv_aload_n hx hb dL_law_1500 rfl (lv_at hl 2 rfl) ?_
      refine g_backi hI (g_runV (As := []) (rest := [.int r428]) hC hml hI (c_X9_broken l D cy ad A _  _ h) k_X9_broken gw_6_68 ⟨rfl, rfl⟩ ⟨Nat.le_of_ble_eq_true rfl, Nat.le_of_ble_eq_true rfl⟩ (grv_10 hC hI) rfl hl.1 rfl (Nat.le_of_ble_eq_true rfl) dL_law_1501 ⟨by rw [hRc]; omega, by rw [hRs]; omega⟩) (fun r430 s429 H locs h hI => ?_)
      refine lv_icmp_eq (tgt := 1534) hx hb dL_law_1504 (by decide) (fun c431 => ?_) (fun c431 => ?_)
      · have h := h.1 c431
        obtain ⟨y432, ey432⟩ : ∃ y : Int32, y = x4 + 6 := ⟨_, rfl⟩
        have h := h y432 ey432
        refine lv_iinc (v := y432) (lv' := [(4, .int y432), (0, .ref b), (1, .ref (ad 0)), (2, .ref (ad 10)), (3, .ref (ad 83))]) hx hb dL_law_1534 hl (k := 4) rfl (by rw [ey432]; rfl) (by decide) rfl (fun ls hl => ?_)
        refine lv_goto (tgt := 23) hx hb dL_law_1537 (by decide) ?_
        exact ih23 _ _ _ _ _ _ _ (by omega) (by omega) h hI (lv_sub hl [1, 2, 3, 4, 0] rfl)
      · have h := h.2 c431
        refine lv_iconst (v := 0) hx hb dL_law_1507 (by decide) ?_
        exact h.elim
    have J1509 : ∀ (cs sl : Nat) (x4 : Int32) (σ : gS) (H : Heap) (locs : List Loc) (ls : Array Slot), cs + 7 * n23 + 7 ≤ 600000 → sl + 42 * n23 + 42 ≤ 7000000 → w_L_law_1509 Q LN xs (w_L_law_23 Q LN xs n23) x4 σ → gI D cy ad A s.heap σ H locs → lv_has ls 7 [(0, .ref b), (1, .ref (ad 0)), (2, .ref (ad 10)), (3, .ref (ad 83)), (4, .int x4)] → W p l e room_1 s m #[Value.ref b] below meth c H locs cs sl (lw_Z below #[Value.ref b] s) (F0 m 1509 ls []) := by
      intro cs sl x4 σ H locs ls hcs hsl h hI hl
      unfold w_L_law_1509 at h
      refine lv_aload_n hx hb dL_law_1509 rfl (lv_at hl 1 rfl) ?_
      refine lv_aload_n hx hb dL_law_1510 rfl (lv_at hl 0 rfl) ?_
      refine lv_iload hx hb dL_law_1511 (lv_at hl 4 rfl) ?_
      refine lv_iconst (v := 1) hx hb dL_law_1513 (by decide) ?_
      refine lv_iadd hx hb dL_law_1514 ?_
      obtain ⟨hi433, h⟩ := h
      refine va_sld hx hb hX hbl hbA hI.2.2 hi433 dL_law_1515 ?_
      refine g_backi hI (g_runV (As := [.int (xs (x4 + 1).toNatClampNeg)]) (rest := []) hC hml hI (c_X8_count l D cy ad A _  _ _ h) k_X8_count gw_3_13 ⟨rfl, rfl⟩ ⟨Nat.le_of_ble_eq_true rfl, Nat.le_of_ble_eq_true rfl⟩ (grv_0 hC hI) rfl hl.1 rfl (Nat.le_of_ble_eq_true rfl) dL_law_1516 ⟨by rw [hRc]; omega, by rw [hRs]; omega⟩) (fun r435 s434 H locs h hI => ?_)
      refine lv_aload_n hx hb dL_law_1519 rfl (lv_at hl 2 rfl) ?_
      refine lv_aload_n hx hb dL_law_1520 rfl (lv_at hl 0 rfl) ?_
      refine lv_iload hx hb dL_law_1521 (lv_at hl 4 rfl) ?_
      refine lv_iconst (v := 1) hx hb dL_law_1523 (by decide) ?_
      refine lv_iadd hx hb dL_law_1524 ?_
      obtain ⟨hi436, h⟩ := h
      refine va_sld hx hb hX hbl hbA hI.2.2 hi436 dL_law_1525 ?_
      refine g_backi hI (g_runV (As := [.int (xs (x4 + 1).toNatClampNeg)]) (rest := [.int r435]) hC hml hI (c_X9_count l D cy ad A _  _ _ h) k_X9_count gw_6_84 ⟨rfl, rfl⟩ ⟨Nat.le_of_ble_eq_true rfl, Nat.le_of_ble_eq_true rfl⟩ (grv_10 hC hI) rfl hl.1 rfl (Nat.le_of_ble_eq_true rfl) dL_law_1526 ⟨by rw [hRc]; omega, by rw [hRs]; omega⟩) (fun r438 s437 H locs h hI => ?_)
      refine lv_icmp_eq (tgt := 1534) hx hb dL_law_1529 (by decide) (fun c439 => ?_) (fun c439 => ?_)
      · have h := h.1 c439
        obtain ⟨y440, ey440⟩ : ∃ y : Int32, y = x4 + 6 := ⟨_, rfl⟩
        have h := h y440 ey440
        refine lv_iinc (v := y440) (lv' := [(4, .int y440), (0, .ref b), (1, .ref (ad 0)), (2, .ref (ad 10)), (3, .ref (ad 83))]) hx hb dL_law_1534 hl (k := 4) rfl (by rw [ey440]; rfl) (by decide) rfl (fun ls hl => ?_)
        refine lv_goto (tgt := 23) hx hb dL_law_1537 (by decide) ?_
        exact ih23 _ _ _ _ _ _ _ (by omega) (by omega) h hI (lv_sub hl [1, 2, 3, 4, 0] rfl)
      · have h := h.2 c439
        refine lv_iconst (v := 0) hx hb dL_law_1532 (by decide) ?_
        exact h.elim
    intro cs sl x4 σ H locs ls hcs hsl h hI hl
    unfold w_L_law_23 at h
    refine lv_iload hx hb dL_law_23 (lv_at hl 4 rfl) ?_
    refine lv_aload_n hx hb dL_law_25 rfl (lv_at hl 0 rfl) ?_
    refine va_slen hx hb hX hbl hbA hI.2.2 dL_law_26 ?_
    refine lv_bipush (v := 6) hx hb dL_law_27 (by decide) ?_
    refine lv_isub hx hb dL_law_29 ?_
    refine lv_icmp_gt (tgt := 1540) hx hb dL_law_30 (by decide) (fun c441 => ?_) (fun c441 => ?_)
    · have h := h.1 c441
      refine lv_iconst (v := 1) hx hb dL_law_1540 (by decide) ?_
      exact lw_end hC hr hlocks hI hAs (by omega) (by omega) dL_law_1541
    · have h := h.2 c441
      refine lv_aload_n hx hb dL_law_33 rfl (lv_at hl 0 rfl) ?_
      refine lv_iload hx hb dL_law_34 (lv_at hl 4 rfl) ?_
      obtain ⟨hi442, h⟩ := h
      refine va_sld hx hb hX hbl hbA hI.2.2 hi442 dL_law_36 ?_
      refine lv_bipush (v := 31) hx hb dL_law_37 (by decide) ?_
      refine lv_iand hx hb dL_law_39 ?_
      by_cases c443 : (xs x4.toNatClampNeg) &&& 31 = 0
      · have h := h.1 c443
        refine lv_tableIn (tgt := 160) hx hb dL_law_40 (by rw [c443]; decide) (by rw [c443]; decide) (by rw [c443]; rfl) (by decide) ?_
        exact J160 _ _ _ _ _ _ _ (by omega) (by omega) h hI (lv_sub hl [0, 1, 2, 3, 4] rfl)
      have h := h.2 c443
      by_cases c444 : (xs x4.toNatClampNeg) &&& 31 = 1
      · have h := h.1 c444
        refine lv_tableIn (tgt := 233) hx hb dL_law_40 (by rw [c444]; decide) (by rw [c444]; decide) (by rw [c444]; rfl) (by decide) ?_
        exact J233 _ _ _ _ _ _ _ (by omega) (by omega) h hI (lv_sub hl [0, 1, 2, 3, 4] rfl)
      have h := h.2 c444
      by_cases c445 : (xs x4.toNatClampNeg) &&& 31 = 2
      · have h := h.1 c445
        refine lv_tableIn (tgt := 258) hx hb dL_law_40 (by rw [c445]; decide) (by rw [c445]; decide) (by rw [c445]; rfl) (by decide) ?_
        exact J258 _ _ _ _ _ _ _ (by omega) (by omega) h hI (lv_sub hl [0, 1, 2, 3, 4] rfl)
      have h := h.2 c445
      by_cases c446 : (xs x4.toNatClampNeg) &&& 31 = 3
      · have h := h.1 c446
        refine lv_tableIn (tgt := 349) hx hb dL_law_40 (by rw [c446]; decide) (by rw [c446]; decide) (by rw [c446]; rfl) (by decide) ?_
        exact J349 _ _ _ _ _ _ _ (by omega) (by omega) h hI (lv_sub hl [0, 1, 2, 3, 4] rfl)
      have h := h.2 c446
      by_cases c447 : (xs x4.toNatClampNeg) &&& 31 = 4
      · have h := h.1 c447
        refine lv_tableIn (tgt := 385) hx hb dL_law_40 (by rw [c447]; decide) (by rw [c447]; decide) (by rw [c447]; rfl) (by decide) ?_
        exact J385 _ _ _ _ _ _ _ (by omega) (by omega) h hI (lv_sub hl [0, 1, 2, 3, 4] rfl)
      have h := h.2 c447
      by_cases c448 : (xs x4.toNatClampNeg) &&& 31 = 5
      · have h := h.1 c448
        refine lv_tableIn (tgt := 453) hx hb dL_law_40 (by rw [c448]; decide) (by rw [c448]; decide) (by rw [c448]; rfl) (by decide) ?_
        exact J453 _ _ _ _ _ _ _ (by omega) (by omega) h hI (lv_sub hl [0, 1, 2, 3, 4] rfl)
      have h := h.2 c448
      by_cases c449 : (xs x4.toNatClampNeg) &&& 31 = 6
      · have h := h.1 c449
        refine lv_tableIn (tgt := 516) hx hb dL_law_40 (by rw [c449]; decide) (by rw [c449]; decide) (by rw [c449]; rfl) (by decide) ?_
        exact J516 _ _ _ _ _ _ _ (by omega) (by omega) h hI (lv_sub hl [0, 1, 2, 3, 4] rfl)
      have h := h.2 c449
      by_cases c450 : (xs x4.toNatClampNeg) &&& 31 = 7
      · have h := h.1 c450
        refine lv_tableIn (tgt := 572) hx hb dL_law_40 (by rw [c450]; decide) (by rw [c450]; decide) (by rw [c450]; rfl) (by decide) ?_
        exact J572 _ _ _ _ _ _ _ (by omega) (by omega) h hI (lv_sub hl [0, 1, 2, 3, 4] rfl)
      have h := h.2 c450
      by_cases c451 : (xs x4.toNatClampNeg) &&& 31 = 8
      · have h := h.1 c451
        refine lv_tableIn (tgt := 640) hx hb dL_law_40 (by rw [c451]; decide) (by rw [c451]; decide) (by rw [c451]; rfl) (by decide) ?_
        exact J640 _ _ _ _ _ _ _ (by omega) (by omega) h hI (lv_sub hl [0, 1, 2, 3, 4] rfl)
      have h := h.2 c451
      by_cases c452 : (xs x4.toNatClampNeg) &&& 31 = 9
      · have h := h.1 c452
        refine lv_tableIn (tgt := 688) hx hb dL_law_40 (by rw [c452]; decide) (by rw [c452]; decide) (by rw [c452]; rfl) (by decide) ?_
        exact J688 _ _ _ _ _ _ _ (by omega) (by omega) h hI (lv_sub hl [0, 1, 2, 3, 4] rfl)
      have h := h.2 c452
      by_cases c453 : (xs x4.toNatClampNeg) &&& 31 = 10
      · have h := h.1 c453
        refine lv_tableIn (tgt := 779) hx hb dL_law_40 (by rw [c453]; decide) (by rw [c453]; decide) (by rw [c453]; rfl) (by decide) ?_
        exact J779 _ _ _ _ _ _ _ (by omega) (by omega) h hI (lv_sub hl [0, 1, 2, 3, 4] rfl)
      have h := h.2 c453
      by_cases c454 : (xs x4.toNatClampNeg) &&& 31 = 11
      · have h := h.1 c454
        refine lv_tableIn (tgt := 871) hx hb dL_law_40 (by rw [c454]; decide) (by rw [c454]; decide) (by rw [c454]; rfl) (by decide) ?_
        exact J871 _ _ _ _ _ _ _ (by omega) (by omega) h hI (lv_sub hl [0, 1, 2, 3, 4] rfl)
      have h := h.2 c454
      by_cases c455 : (xs x4.toNatClampNeg) &&& 31 = 12
      · have h := h.1 c455
        refine lv_tableIn (tgt := 884) hx hb dL_law_40 (by rw [c455]; decide) (by rw [c455]; decide) (by rw [c455]; rfl) (by decide) ?_
        exact J884 _ _ _ _ _ _ _ (by omega) (by omega) h hI (lv_sub hl [0, 1, 2, 3, 4] rfl)
      have h := h.2 c455
      by_cases c456 : (xs x4.toNatClampNeg) &&& 31 = 13
      · have h := h.1 c456
        refine lv_tableIn (tgt := 897) hx hb dL_law_40 (by rw [c456]; decide) (by rw [c456]; decide) (by rw [c456]; rfl) (by decide) ?_
        exact J897 _ _ _ _ _ _ _ (by omega) (by omega) h hI (lv_sub hl [0, 1, 2, 3, 4] rfl)
      have h := h.2 c456
      by_cases c457 : (xs x4.toNatClampNeg) &&& 31 = 14
      · have h := h.1 c457
        refine lv_tableIn (tgt := 1005) hx hb dL_law_40 (by rw [c457]; decide) (by rw [c457]; decide) (by rw [c457]; rfl) (by decide) ?_
        exact J1005 _ _ _ _ _ _ _ (by omega) (by omega) h hI (lv_sub hl [0, 1, 2, 3, 4] rfl)
      have h := h.2 c457
      by_cases c458 : (xs x4.toNatClampNeg) &&& 31 = 15
      · have h := h.1 c458
        refine lv_tableIn (tgt := 1018) hx hb dL_law_40 (by rw [c458]; decide) (by rw [c458]; decide) (by rw [c458]; rfl) (by decide) ?_
        exact J1018 _ _ _ _ _ _ _ (by omega) (by omega) h hI (lv_sub hl [0, 1, 2, 3, 4] rfl)
      have h := h.2 c458
      by_cases c459 : (xs x4.toNatClampNeg) &&& 31 = 16
      · have h := h.1 c459
        refine lv_tableIn (tgt := 1074) hx hb dL_law_40 (by rw [c459]; decide) (by rw [c459]; decide) (by rw [c459]; rfl) (by decide) ?_
        exact J1074 _ _ _ _ _ _ _ (by omega) (by omega) h hI (lv_sub hl [0, 1, 2, 3, 4] rfl)
      have h := h.2 c459
      by_cases c460 : (xs x4.toNatClampNeg) &&& 31 = 17
      · have h := h.1 c460
        refine lv_tableIn (tgt := 1087) hx hb dL_law_40 (by rw [c460]; decide) (by rw [c460]; decide) (by rw [c460]; rfl) (by decide) ?_
        exact J1087 _ _ _ _ _ _ _ (by omega) (by omega) h hI (lv_sub hl [0, 1, 2, 3, 4] rfl)
      have h := h.2 c460
      by_cases c461 : (xs x4.toNatClampNeg) &&& 31 = 18
      · have h := h.1 c461
        refine lv_tableIn (tgt := 1143) hx hb dL_law_40 (by rw [c461]; decide) (by rw [c461]; decide) (by rw [c461]; rfl) (by decide) ?_
        exact J1143 _ _ _ _ _ _ _ (by omega) (by omega) h hI (lv_sub hl [0, 1, 2, 3, 4] rfl)
      have h := h.2 c461
      by_cases c462 : (xs x4.toNatClampNeg) &&& 31 = 19
      · have h := h.1 c462
        refine lv_tableIn (tgt := 1239) hx hb dL_law_40 (by rw [c462]; decide) (by rw [c462]; decide) (by rw [c462]; rfl) (by decide) ?_
        exact J1239 _ _ _ _ _ _ _ (by omega) (by omega) h hI (lv_sub hl [0, 1, 2, 3, 4] rfl)
      have h := h.2 c462
      by_cases c463 : (xs x4.toNatClampNeg) &&& 31 = 20
      · have h := h.1 c463
        refine lv_tableIn (tgt := 1326) hx hb dL_law_40 (by rw [c463]; decide) (by rw [c463]; decide) (by rw [c463]; rfl) (by decide) ?_
        exact J1326 _ _ _ _ _ _ _ (by omega) (by omega) h hI (lv_sub hl [0, 1, 2, 3, 4] rfl)
      have h := h.2 c463
      by_cases c464 : (xs x4.toNatClampNeg) &&& 31 = 21
      · have h := h.1 c464
        refine lv_tableIn (tgt := 1391) hx hb dL_law_40 (by rw [c464]; decide) (by rw [c464]; decide) (by rw [c464]; rfl) (by decide) ?_
        exact J1391 _ _ _ _ _ _ _ (by omega) (by omega) h hI (lv_sub hl [0, 1, 2, 3, 4] rfl)
      have h := h.2 c464
      by_cases c465 : (xs x4.toNatClampNeg) &&& 31 = 22
      · have h := h.1 c465
        refine lv_tableIn (tgt := 1439) hx hb dL_law_40 (by rw [c465]; decide) (by rw [c465]; decide) (by rw [c465]; rfl) (by decide) ?_
        exact J1439 _ _ _ _ _ _ _ (by omega) (by omega) h hI (lv_sub hl [0, 1, 2, 3, 4] rfl)
      have h := h.2 c465
      by_cases c466 : (xs x4.toNatClampNeg) &&& 31 = 23
      · have h := h.1 c466
        refine lv_tableIn (tgt := 1483) hx hb dL_law_40 (by rw [c466]; decide) (by rw [c466]; decide) (by rw [c466]; rfl) (by decide) ?_
        exact J1483 _ _ _ _ _ _ _ (by omega) (by omega) h hI (lv_sub hl [0, 1, 2, 3, 4] rfl)
      have h := h.2 c466
      by_cases c467 : (xs x4.toNatClampNeg) &&& 31 = 24
      · have h := h.1 c467
        refine lv_tableIn (tgt := 1496) hx hb dL_law_40 (by rw [c467]; decide) (by rw [c467]; decide) (by rw [c467]; rfl) (by decide) ?_
        exact J1496 _ _ _ _ _ _ _ (by omega) (by omega) h hI (lv_sub hl [0, 1, 2, 3, 4] rfl)
      have h := h.2 c467
      by_cases c468 : (xs x4.toNatClampNeg) &&& 31 = 25
      · have h := h.1 c468
        refine lv_tableIn (tgt := 1509) hx hb dL_law_40 (by rw [c468]; decide) (by rw [c468]; decide) (by rw [c468]; rfl) (by decide) ?_
        exact J1509 _ _ _ _ _ _ _ (by omega) (by omega) h hI (lv_sub hl [0, 1, 2, 3, 4] rfl)
      have h := h.2 c468
      refine lv_tableOut (tgt := 1534) hx hb dL_law_40 (by have q0 := lv_neT (a := 0) c443 (by decide); have q1 := lv_neT (a := 1) c444 (by decide); have q2 := lv_neT (a := 2) c445 (by decide); have q3 := lv_neT (a := 3) c446 (by decide); have q4 := lv_neT (a := 4) c447 (by decide); have q5 := lv_neT (a := 5) c448 (by decide); have q6 := lv_neT (a := 6) c449 (by decide); have q7 := lv_neT (a := 7) c450 (by decide); have q8 := lv_neT (a := 8) c451 (by decide); have q9 := lv_neT (a := 9) c452 (by decide); have q10 := lv_neT (a := 10) c453 (by decide); have q11 := lv_neT (a := 11) c454 (by decide); have q12 := lv_neT (a := 12) c455 (by decide); have q13 := lv_neT (a := 13) c456 (by decide); have q14 := lv_neT (a := 14) c457 (by decide); have q15 := lv_neT (a := 15) c458 (by decide); have q16 := lv_neT (a := 16) c459 (by decide); have q17 := lv_neT (a := 17) c460 (by decide); have q18 := lv_neT (a := 18) c461 (by decide); have q19 := lv_neT (a := 19) c462 (by decide); have q20 := lv_neT (a := 20) c463 (by decide); have q21 := lv_neT (a := 21) c464 (by decide); have q22 := lv_neT (a := 22) c465 (by decide); have q23 := lv_neT (a := 23) c466 (by decide); have q24 := lv_neT (a := 24) c467 (by decide); have q25 := lv_neT (a := 25) c468 (by decide); omega) (by decide) ?_
      obtain ⟨y469, ey469⟩ : ∃ y : Int32, y = x4 + 6 := ⟨_, rfl⟩
      have h := h y469 ey469
      refine lv_iinc (v := y469) (lv' := [(4, .int y469), (0, .ref b), (1, .ref (ad 0)), (2, .ref (ad 10)), (3, .ref (ad 83))]) hx hb dL_law_1534 hl (k := 4) rfl (by rw [ey469]; rfl) (by decide) rfl (fun ls hl => ?_)
      refine lv_goto (tgt := 23) hx hb dL_law_1537 (by decide) ?_
      exact ih23 _ _ _ _ _ _ _ (by omega) (by omega) h hI (lv_sub hl [1, 2, 3, 4, 0] rfl)
