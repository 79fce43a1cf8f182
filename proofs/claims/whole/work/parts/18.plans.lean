def vX4_cost (RP : xS → (xS → Prop) → Prop) (a1 : Int) (σ : xS) (Q : Int → Bool → xS → Prop) : Prop := vX4_isSpan a1 σ (fun r1 σ2 => rng r1 ∧ ((¬ r1 = 0 → RP σ2 (fun σ5 => vX2_leastCost a1 σ5 (fun r6 σ7 => Q r6 true σ7))) ∧ (r1 = 0 → Q (-2) false σ2)))
def vX4_planned (RP : xS → (xS → Prop) → Prop) (a1 a2 a3 : Int) (σ : xS) (Q : Int → Bool → xS → Prop) : Prop := vX4_isSpan a1 σ (fun r1 σ2 => rng r1 ∧ ((r1 = 0 → Q (-2) false σ2) ∧ (¬ r1 = 0 → rng a2 ∧ ((0 ≤ a2 → RP σ2 (fun σ7 => vX2_stepOf a1 a2 a3 σ7 (fun r8 σ9 => Q r8 true σ9))) ∧ (¬ 0 ≤ a2 → Q (-2) false σ2)))))
def vX4_measurable (RP : xS → (xS → Prop) → Prop) (a1 a2 : Int) (σ : xS) (Q : Int → Bool → xS → Prop) : Prop := rng a1 ∧ ((a1 < (-1) → Q (-2) false σ) ∧ (¬ a1 < (-1) → rng a2 ∧ ((a2 < 0 → Q (-2) false σ) ∧ (¬ a2 < 0 → (a2 ≤ 9 → RP σ (fun σ6 => vX2_spansWithin a2 σ6 (fun r7 σ8 => (¬ a1 = (-1) → vX4_bitOf r7 a1 σ8 (fun r10 σ11 => Q r10 true σ11)) ∧ (a1 = (-1) → vJ13_bitCount_95d88 r7 σ8 (fun r12 σ13 => Q r12 true σ13))))) ∧ (¬ a2 ≤ 9 → Q (-2) false σ)))))
def vX4_digest_97 (RP : xS → (xS → Prop) → Prop) (K83 : Int × Int × xS → Prop) (Q : Int → Bool → xS → Prop) (K97 : Int × Int × Int × xS → Prop) (a : Int × Int × Int × xS) : Prop := match a with
  | (x1, x3, x4, σ0) => rng x4 ∧ ((3 ≤ x4 → K83 (x1, (x3 + 1), σ0)) ∧ (¬ 3 ≤ x4 → vX4_event x3 x4 σ0 (fun r3 σ4 => rng r3 ∧ (K97 (((31 * x1) + r3), x3, (x4 + 1), σ4)))))
def vX4_digest_184 (RP : xS → (xS → Prop) → Prop)  (Q : Int → Bool → xS → Prop) (K184 : Int × Int × xS → Prop) (a : Int × Int × xS) : Prop := match a with
  | (x1, x4, σ0) => vX3_length σ0 (fun r12 σ13 => rng x4 ∧ (rng r12 ∧ ((r12 ≤ x4 → Q x1 true σ13) ∧ (¬ r12 ≤ x4 → vX3_byteAt x4 σ13 (fun r17 σ18 => rng r17 ∧ (K184 (((31 * x1) + r17), (x4 + 1), σ18)))))))
def vX4_digest_138 (RP : xS → (xS → Prop) → Prop)  (Q : Int → Bool → xS → Prop) (K138 : Int × Int × xS → Prop) (a : Int × Int × xS) : Prop := match a with
  | (x1, x4, σ0) => rng x4 ∧ ((20 < x4 → vX2_spansWithin 3 σ0 (fun r22 σ23 => vJ13_bitCount_95d88 r22 σ23 (fun r24 σ25 => rng r24 ∧ (mu (vX4_digest_184 RP Q) (((31 * x1) + r24), 0, σ25))))) ∧ (¬ 20 < x4 → vX2_leastCost x4 σ0 (fun r27 σ28 => rng r27 ∧ (K138 (((31 * x1) + r27), (x4 + 1), σ28)))))
def vX4_digest_83 (RP : xS → (xS → Prop) → Prop)  (Q : Int → Bool → xS → Prop) (K83 : Int × Int × xS → Prop) (a : Int × Int × xS) : Prop := match a with
  | (x1, x3, σ0) => vX0_eventsListed σ0 (fun r6 σ7 => rng x3 ∧ (rng r6 ∧ ((r6 ≤ x3 → RP σ7 (fun σ11 => mu (vX4_digest_138 RP Q) (x1, 1, σ11))) ∧ (¬ r6 ≤ x3 → mu (vX4_digest_97 RP K83 Q) (x1, x3, 0, σ7)))))
def vX4_digest_47 (RP : xS → (xS → Prop) → Prop) (K33 : Int × Int × xS → Prop) (Q : Int → Bool → xS → Prop) (K47 : Int × Int × Int × xS → Prop) (a : Int × Int × Int × xS) : Prop := match a with
  | (x1, x3, x4, σ0) => rng x4 ∧ ((7 < x4 → K33 (x1, (x3 + 1), σ0)) ∧ (¬ 7 < x4 → vX4_glass x3 x4 σ0 (fun r32 σ33 => rng r32 ∧ (K47 (((31 * x1) + r32), x3, (x4 + 1), σ33)))))
def vX4_digest_33 (RP : xS → (xS → Prop) → Prop)  (Q : Int → Bool → xS → Prop) (K33 : Int × Int × xS → Prop) (a : Int × Int × xS) : Prop := match a with
  | (x1, x3, σ0) => vX0_glasses σ0 (fun r35 σ36 => rng x3 ∧ (rng r35 ∧ ((r35 ≤ x3 → mu (vX4_digest_83 RP Q) (x1, 0, σ36)) ∧ (¬ r35 ≤ x3 → mu (vX4_digest_47 RP K33 Q) (x1, x3, 0, σ36)))))
def vX4_digest_6 (RP : xS → (xS → Prop) → Prop)  (Q : Int → Bool → xS → Prop) (K6 : Int × Int × xS → Prop) (a : Int × Int × xS) : Prop := match a with
  | (x1, x3, σ0) => rng x3 ∧ ((9 < x3 → mu (vX4_digest_33 RP Q) (x1, 0, σ0)) ∧ (¬ 9 < x3 → vX4_count x3 σ0 (fun r42 σ43 => rng r42 ∧ (K6 (((31 * x1) + r42), (x3 + 1), σ43)))))
def vX4_digest (RP : xS → (xS → Prop) → Prop) (σ : xS) (Q : Int → Bool → xS → Prop) : Prop := mu (vX4_digest_6 RP Q) (139, 0, σ)
abbrev rmX4_cost (rmP : Room) : Room := { frames := rmP.frames + 6, cells := rmP.cells, slots := rmP.slots, locals := rmP.locals + 199 }
set_option maxHeartbeats 8000000 in
set_option maxRecDepth 200000 in
theorem mX4_cost {l : Launch} {D : va_G} {pv : Value} {ad : Nat → Nat} {cI cJ cZ : ClassId} {b mc ms : Nat} {w0 : xS → va_W} {rmP : Room} {RP : xS → (xS → Prop) → Prop} (hb : ad 0 = b) (hrc : rmP.cells = mc) (hrs : rmP.slots = ms) (spX : xSp w0 (wX pv ad cI cJ cZ) [0, 1, 2, 3, 4, 5, 6, 7, 8]) (e0 : ∀ u, (w0 u)[0]? = some (b, .inr (4, [.ref (ad 7), .ref (ad 5), .ref (ad 1), pv]))) (hRP : ∀ (σ : xS) (Q : xS → Prop), RP σ Q → xMr l yX4_readyPlanner wsX4_readyPlanner rmP D (xtys cI cJ cZ) w0 (xWP cI cJ cZ) b σ [.ref b] mc ms Q) (σ : xS) (a1 : Int) (Q : Int → Bool → xS → Prop) (hw : vX4_cost RP a1 σ Q) : xMoi l yX4_cost wsX4_cost (rmX4_cost rmP) D (xtys cI cJ cZ) w0 (xWP cI cJ cZ) b σ [.ref b, .int (i32 a1)] mc ms Q := by
  refine xenter (F := xFo) (Qc := fun sz => xQoi D w0 (xWP cI cJ cZ) b σ sz Q) (own := RX4) (cc := cX4_cost) (maxL := 2) (ret := some .int) (by decide) rfl rfl (Nat.le_of_ble_eq_true rfl) ?_
  intro p e s m args below meth c hargs C hr hnm
  have hR : rmP.frames + 1 ≤ (rmX4_cost rmP).frames ∧ 20 + rmP.locals ≤ (rmX4_cost rmP).locals ∧ 0 + mc ≤ (rmX4_cost rmP).cells ∧ 0 + ms ≤ (rmX4_cost rmP).slots := ⟨by show _ ≤ rmP.frames + 6; omega, by show _ ≤ rmP.locals + 199; omega, by show _ ≤ rmP.cells; omega, by show _ ≤ rmP.slots; omega⟩
  have hRf : ∀ n, n ≤ 6 → n ≤ (rmX4_cost rmP).frames := fun n h => by show n ≤ rmP.frames + 6; omega
  have hRl : ∀ n, n ≤ 199 → n ≤ (rmX4_cost rmP).locals := fun n h => by show n ≤ rmP.locals + 199; omega
  show xX p l e (rmX4_cost rmP) s m args below meth c D vwCl (va_A (w0 σ) s.heap.size) w0 xFo σ 0 0 (MQ below (xQoi D w0 (xWP cI cJ cZ) b σ s.heap.size Q) args s mc ms (va_A (w0 σ) s.heap.size)) 2 σ 0 [(0, .ref b), (1, .int (i32 a1))] []
  unfold vX4_cost at hw
  refine xr_iload_n C 1 dX4_cost_0 rfl rfl ?_
  refine xr_callSi C (As := [.int (i32 a1)]) (rest := []) (xSp_nil _) (by decide) (fun _ => trivial) (mX4_isSpan σ a1 _ hw) (va_cwS 1 C.2.2.2.2.1 gX4_cost_X4_isSpan rfl rfl rfl (by decide +kernel) ⟨hRf _ (by decide), hRl _ (by decide)⟩) rfl rfl (Nat.le_of_ble_eq_true rfl) ⟨Nat.zero_le _, Nat.zero_le _⟩ dX4_cost_1 (fun r1 σ2 hw => ?_)
  obtain ⟨g3, hw⟩ := hw
  refine xr_if_ne C g3 10 dX4_cost_4 (by decide) (fun c4 => ?_) (fun c4 => ?_)
  · have hw := hw.1 c4
    refine xr_aload_n C 0 dX4_cost_10 rfl rfl ?_
    refine xr_ready C (ci := 4) (q0 := 0) (As := []) (rest := []) (hRP σ2 _ hw) (cwV 0 C.2.2.2.2.1 gX4_cost_X4_readyPlanner rfl hrc hrs (by decide +kernel) ⟨hR.1, by have := hR.2.1; omega⟩) rfl (e0 _) rfl rfl (Nat.le_of_ble_eq_true rfl) ⟨hR.2.2.1, hR.2.2.2⟩ dX4_cost_11 (fun ad2 σ5 hw had => ?_)
    refine xr_iload_n C 1 dX4_cost_14 rfl rfl ?_
    refine xr_callVi C (ci := 2) (q0 := 0) (As := [.int (i32 a1)]) (rest := []) (sp_wXP_wP (.ref (ad2 9)) ad2 cI cJ cZ) (by decide) (fun _ => trivial) (mX2_leastCost σ5 a1 _ hw) (cwV 1 C.2.2.2.2.1 gX4_cost_X2_leastCost rfl rfl rfl (by decide +kernel) ⟨hRf _ (by decide), hRl _ (by decide)⟩) rfl rfl rfl rfl (Nat.le_of_ble_eq_true rfl) ⟨hR.2.2.1, hR.2.2.2⟩ dX4_cost_15 (fun r6 σ7 hw => ?_)
    exact xr_oret1 (b := b) C hr had hw (Nat.le_of_eq (Nat.zero_add _)) (Nat.le_of_eq (Nat.zero_add _)) dX4_cost_18
  · have hw := hw.2 c4
    refine xr_bipush C dX4_cost_7 (by decide +kernel) ?_
    exact xr_oret0 (b := b) C hr hw (Nat.zero_le _) (Nat.zero_le _) dX4_cost_9
abbrev rmX4_planned (rmP : Room) : Room := { frames := rmP.frames + 7, cells := rmP.cells, slots := rmP.slots, locals := rmP.locals + 228 }
set_option maxHeartbeats 8000000 in
set_option maxRecDepth 200000 in
theorem mX4_planned {l : Launch} {D : va_G} {pv : Value} {ad : Nat → Nat} {cI cJ cZ : ClassId} {b mc ms : Nat} {w0 : xS → va_W} {rmP : Room} {RP : xS → (xS → Prop) → Prop} (hb : ad 0 = b) (hrc : rmP.cells = mc) (hrs : rmP.slots = ms) (spX : xSp w0 (wX pv ad cI cJ cZ) [0, 1, 2, 3, 4, 5, 6, 7, 8]) (e0 : ∀ u, (w0 u)[0]? = some (b, .inr (4, [.ref (ad 7), .ref (ad 5), .ref (ad 1), pv]))) (hRP : ∀ (σ : xS) (Q : xS → Prop), RP σ Q → xMr l yX4_readyPlanner wsX4_readyPlanner rmP D (xtys cI cJ cZ) w0 (xWP cI cJ cZ) b σ [.ref b] mc ms Q) (σ : xS) (a1 a2 a3 : Int) (Q : Int → Bool → xS → Prop) (hw : vX4_planned RP a1 a2 a3 σ Q) : xMoi l yX4_planned wsX4_planned (rmX4_planned rmP) D (xtys cI cJ cZ) w0 (xWP cI cJ cZ) b σ [.ref b, .int (i32 a1), .int (i32 a2), .int (i32 a3)] mc ms Q := by
  refine xenter (F := xFo) (Qc := fun sz => xQoi D w0 (xWP cI cJ cZ) b σ sz Q) (own := RX4) (cc := cX4_planned) (maxL := 4) (ret := some .int) (by decide) rfl rfl (Nat.le_of_ble_eq_true rfl) ?_
  intro p e s m args below meth c hargs C hr hnm
  have hR : rmP.frames + 1 ≤ (rmX4_planned rmP).frames ∧ 20 + rmP.locals ≤ (rmX4_planned rmP).locals ∧ 0 + mc ≤ (rmX4_planned rmP).cells ∧ 0 + ms ≤ (rmX4_planned rmP).slots := ⟨by show _ ≤ rmP.frames + 7; omega, by show _ ≤ rmP.locals + 228; omega, by show _ ≤ rmP.cells; omega, by show _ ≤ rmP.slots; omega⟩
  have hRf : ∀ n, n ≤ 7 → n ≤ (rmX4_planned rmP).frames := fun n h => by show n ≤ rmP.frames + 7; omega
  have hRl : ∀ n, n ≤ 228 → n ≤ (rmX4_planned rmP).locals := fun n h => by show n ≤ rmP.locals + 228; omega
  show xX p l e (rmX4_planned rmP) s m args below meth c D vwCl (va_A (w0 σ) s.heap.size) w0 xFo σ 0 0 (MQ below (xQoi D w0 (xWP cI cJ cZ) b σ s.heap.size Q) args s mc ms (va_A (w0 σ) s.heap.size)) 4 σ 0 [(0, .ref b), (1, .int (i32 a1)), (2, .int (i32 a2)), (3, .int (i32 a3))] []
  unfold vX4_planned at hw
  refine xr_iload_n C 1 dX4_planned_0 rfl rfl ?_
  refine xr_callSi C (As := [.int (i32 a1)]) (rest := []) (xSp_nil _) (by decide) (fun _ => trivial) (mX4_isSpan σ a1 _ hw) (va_cwS 1 C.2.2.2.2.1 gX4_planned_X4_isSpan rfl rfl rfl (by decide +kernel) ⟨hRf _ (by decide), hRl _ (by decide)⟩) rfl rfl (Nat.le_of_ble_eq_true rfl) ⟨Nat.zero_le _, Nat.zero_le _⟩ dX4_planned_1 (fun r1 σ2 hw => ?_)
  obtain ⟨g3, hw⟩ := hw
  refine xr_if_eq C g3 11 dX4_planned_4 (by decide) (fun c4 => ?_) (fun c4 => ?_)
  · have hw := hw.1 c4
    refine xr_bipush C dX4_planned_11 (by decide +kernel) ?_
    exact xr_oret0 (b := b) C hr hw (Nat.zero_le _) (Nat.zero_le _) dX4_planned_13
  · have hw := hw.2 c4
    refine xr_iload_n C 2 dX4_planned_7 rfl rfl ?_
    obtain ⟨g5, hw⟩ := hw
    refine xr_if_ge C g5 14 dX4_planned_8 (by decide) (fun c6 => ?_) (fun c6 => ?_)
    · have hw := hw.1 c6
      refine xr_aload_n C 0 dX4_planned_14 rfl rfl ?_
      refine xr_ready C (ci := 4) (q0 := 0) (As := []) (rest := []) (hRP σ2 _ hw) (cwV 0 C.2.2.2.2.1 gX4_planned_X4_readyPlanner rfl hrc hrs (by decide +kernel) ⟨hR.1, by have := hR.2.1; omega⟩) rfl (e0 _) rfl rfl (Nat.le_of_ble_eq_true rfl) ⟨hR.2.2.1, hR.2.2.2⟩ dX4_planned_15 (fun ad2 σ7 hw had => ?_)
      refine xr_iload_n C 1 dX4_planned_18 rfl rfl ?_
      refine xr_iload_n C 2 dX4_planned_19 rfl rfl ?_
      refine xr_iload_n C 3 dX4_planned_20 rfl rfl ?_
      refine xr_callVi C (ci := 2) (q0 := 0) (As := [.int (i32 a1), .int (i32 a2), .int (i32 a3)]) (rest := []) (sp_wXP_wP (.ref (ad2 9)) ad2 cI cJ cZ) (by decide) (fun _ => trivial) (mX2_stepOf σ7 a1 a2 a3 _ hw) (cwV 3 C.2.2.2.2.1 gX4_planned_X2_stepOf rfl rfl rfl (by decide +kernel) ⟨hRf _ (by decide), hRl _ (by decide)⟩) rfl rfl rfl rfl (Nat.le_of_ble_eq_true rfl) ⟨hR.2.2.1, hR.2.2.2⟩ dX4_planned_21 (fun r8 σ9 hw => ?_)
      exact xr_oret1 (b := b) C hr had hw (Nat.le_of_eq (Nat.zero_add _)) (Nat.le_of_eq (Nat.zero_add _)) dX4_planned_24
    · have hw := hw.2 c6
      refine xr_bipush C dX4_planned_11 (by decide +kernel) ?_
      exact xr_oret0 (b := b) C hr hw (Nat.zero_le _) (Nat.zero_le _) dX4_planned_13
abbrev rmX4_measurable (rmP : Room) : Room := { frames := rmP.frames + 6, cells := rmP.cells, slots := rmP.slots, locals := rmP.locals + 198 }
set_option maxHeartbeats 8000000 in
set_option maxRecDepth 200000 in
theorem mX4_measurable {l : Launch} {D : va_G} {pv : Value} {ad : Nat → Nat} {cI cJ cZ : ClassId} {b mc ms : Nat} {w0 : xS → va_W} {rmP : Room} {RP : xS → (xS → Prop) → Prop} (hb : ad 0 = b) (hrc : rmP.cells = mc) (hrs : rmP.slots = ms) (spX : xSp w0 (wX pv ad cI cJ cZ) [0, 1, 2, 3, 4, 5, 6, 7, 8]) (e0 : ∀ u, (w0 u)[0]? = some (b, .inr (4, [.ref (ad 7), .ref (ad 5), .ref (ad 1), pv]))) (hRP : ∀ (σ : xS) (Q : xS → Prop), RP σ Q → xMr l yX4_readyPlanner wsX4_readyPlanner rmP D (xtys cI cJ cZ) w0 (xWP cI cJ cZ) b σ [.ref b] mc ms Q) (σ : xS) (a1 a2 : Int) (Q : Int → Bool → xS → Prop) (hw : vX4_measurable RP a1 a2 σ Q) : xMoi l yX4_measurable wsX4_measurable (rmX4_measurable rmP) D (xtys cI cJ cZ) w0 (xWP cI cJ cZ) b σ [.ref b, .int (i32 a1), .int (i32 a2)] mc ms Q := by
  refine xenter (F := xFo) (Qc := fun sz => xQoi D w0 (xWP cI cJ cZ) b σ sz Q) (own := RX4) (cc := cX4_measurable) (maxL := 5) (ret := some .int) (by decide) rfl rfl (Nat.le_of_ble_eq_true rfl) ?_
  intro p e s m args below meth c hargs C hr hnm
  have hR : rmP.frames + 1 ≤ (rmX4_measurable rmP).frames ∧ 20 + rmP.locals ≤ (rmX4_measurable rmP).locals ∧ 0 + mc ≤ (rmX4_measurable rmP).cells ∧ 0 + ms ≤ (rmX4_measurable rmP).slots := ⟨by show _ ≤ rmP.frames + 6; omega, by show _ ≤ rmP.locals + 198; omega, by show _ ≤ rmP.cells; omega, by show _ ≤ rmP.slots; omega⟩
  have hRf : ∀ n, n ≤ 6 → n ≤ (rmX4_measurable rmP).frames := fun n h => by show n ≤ rmP.frames + 6; omega
  have hRl : ∀ n, n ≤ 198 → n ≤ (rmX4_measurable rmP).locals := fun n h => by show n ≤ rmP.locals + 198; omega
  show xX p l e (rmX4_measurable rmP) s m args below meth c D vwCl (va_A (w0 σ) s.heap.size) w0 xFo σ 0 0 (MQ below (xQoi D w0 (xWP cI cJ cZ) b σ s.heap.size Q) args s mc ms (va_A (w0 σ) s.heap.size)) 5 σ 0 [(0, .ref b), (1, .int (i32 a1)), (2, .int (i32 a2))] []
  unfold vX4_measurable at hw
  refine xr_iload_n C 1 dX4_measurable_0 rfl rfl ?_
  refine xr_iconst C dX4_measurable_1 ?_
  obtain ⟨g1, hw⟩ := hw
  refine xr_icmp_lt C g1 ⟨by decide, by decide⟩ 15 dX4_measurable_2 (by decide) (fun c2 => ?_) (fun c2 => ?_)
  · have hw := hw.1 c2
    refine xr_bipush C dX4_measurable_15 (by decide +kernel) ?_
    exact xr_oret0 (b := b) C hr hw (Nat.zero_le _) (Nat.zero_le _) dX4_measurable_17
  · have hw := hw.2 c2
    refine xr_iload_n C 2 dX4_measurable_5 rfl rfl ?_
    obtain ⟨g3, hw⟩ := hw
    refine xr_if_lt C g3 15 dX4_measurable_6 (by decide) (fun c4 => ?_) (fun c4 => ?_)
    · have hw := hw.1 c4
      refine xr_bipush C dX4_measurable_15 (by decide +kernel) ?_
      exact xr_oret0 (b := b) C hr hw (Nat.zero_le _) (Nat.zero_le _) dX4_measurable_17
    · have hw := hw.2 c4
      refine xr_iload_n C 2 dX4_measurable_9 rfl rfl ?_
      refine xr_bipush C dX4_measurable_10 (by decide +kernel) ?_
      refine xr_icmp_le C g3 ⟨by decide, by decide⟩ 18 dX4_measurable_12 (by decide) (fun c5 => ?_) (fun c5 => ?_)
      · have hw := hw.1 c5
        refine xr_aload_n C 0 dX4_measurable_18 rfl rfl ?_
        refine xr_ready C (ci := 4) (q0 := 0) (As := []) (rest := []) (hRP σ _ hw) (cwV 0 C.2.2.2.2.1 gX4_measurable_X4_readyPlanner rfl hrc hrs (by decide +kernel) ⟨hR.1, by have := hR.2.1; omega⟩) rfl (e0 _) rfl rfl (Nat.le_of_ble_eq_true rfl) ⟨hR.2.2.1, hR.2.2.2⟩ dX4_measurable_19 (fun ad2 σ6 hw had => ?_)
        refine xr_iload_n C 2 dX4_measurable_22 rfl rfl ?_
        refine xr_callVl C (ci := 2) (q0 := 0) (As := [.int (i32 a2)]) (rest := []) (sp_wXP_wP (.ref (ad2 9)) ad2 cI cJ cZ) (by decide) (fun _ => trivial) (mX2_spansWithin σ6 a2 _ hw) (cwV 1 C.2.2.2.2.1 gX4_measurable_X2_spansWithin rfl rfl rfl (by decide +kernel) ⟨hRf _ (by decide), hRl _ (by decide)⟩) rfl rfl rfl rfl (Nat.le_of_ble_eq_true rfl) ⟨hR.2.2.1, hR.2.2.2⟩ dX4_measurable_23 (fun r7 σ8 hw => ?_)
        refine xr_lstore_n C [(0, .ref b), (1, .int (i32 a1)), (2, .int (i32 a2)), (3, .long (i64 r7))] dX4_measurable_26 rfl (by decide) rfl ?_
        refine xr_iload_n C 1 dX4_measurable_27 rfl rfl ?_
        refine xr_iconst C dX4_measurable_28 ?_
        refine xr_icmp_ne C g1 ⟨by decide, by decide⟩ 39 dX4_measurable_29 (by decide) (fun c9 => ?_) (fun c9 => ?_)
        · have hw := hw.1 c9
          refine xr_lload_n C 3 dX4_measurable_39 rfl rfl ?_
          refine xr_iload_n C 1 dX4_measurable_40 rfl rfl ?_
          refine xr_callSi C (As := [.long (i64 r7), .int (i32 a1)]) (rest := []) (xSp_nil _) (by decide) (fun _ => trivial) (mX4_bitOf σ8 r7 a1 _ hw) (va_cwS 2 C.2.2.2.2.1 gX4_measurable_X4_bitOf rfl rfl rfl (by decide +kernel) ⟨hRf _ (by decide), hRl _ (by decide)⟩) rfl rfl (Nat.le_of_ble_eq_true rfl) ⟨hR.2.2.1, hR.2.2.2⟩ dX4_measurable_41 (fun r10 σ11 hw => ?_)
          exact xr_oret1 (b := b) C hr had hw (Nat.le_of_eq (Nat.zero_add _)) (Nat.le_of_eq (Nat.zero_add _)) dX4_measurable_44
        · have hw := hw.2 c9
          refine xr_lload_n C 3 dX4_measurable_32 rfl rfl ?_
          refine xr_callSi C (As := [.long (i64 r7)]) (rest := []) (xSp_nil _) (by decide) (fun _ => trivial) (mJ13_bitCount_95d88 σ8 r7 _ hw) (va_cwS 1 C.2.2.2.2.1 gX4_measurable_J13_bitCount_95d88 rfl rfl rfl (by decide +kernel) ⟨hRf _ (by decide), hRl _ (by decide)⟩) rfl rfl (Nat.le_of_ble_eq_true rfl) ⟨hR.2.2.1, hR.2.2.2⟩ dX4_measurable_33 (fun r12 σ13 hw => ?_)
          refine xr_goto C 44 dX4_measurable_36 (by decide) ?_
          exact xr_oret1 (b := b) C hr had hw (Nat.le_of_eq (Nat.zero_add _)) (Nat.le_of_eq (Nat.zero_add _)) dX4_measurable_44
      · have hw := hw.2 c5
        refine xr_bipush C dX4_measurable_15 (by decide +kernel) ?_
        exact xr_oret0 (b := b) C hr hw (Nat.zero_le _) (Nat.zero_le _) dX4_measurable_17
abbrev rmX4_digest (rmP : Room) : Room := { frames := rmP.frames + 6, cells := rmP.cells, slots := rmP.slots, locals := rmP.locals + 199 }
set_option maxHeartbeats 8000000 in
set_option maxRecDepth 200000 in
theorem mX4_digest {l : Launch} {D : va_G} {pv : Value} {ad : Nat → Nat} {cI cJ cZ : ClassId} {b mc ms : Nat} {w0 : xS → va_W} {rmP : Room} {RP : xS → (xS → Prop) → Prop} (hb : ad 0 = b) (hrc : rmP.cells = mc) (hrs : rmP.slots = ms) (spX : xSp w0 (wX pv ad cI cJ cZ) [0, 1, 2, 3, 4, 5, 6, 7, 8]) (e0 : ∀ u, (w0 u)[0]? = some (b, .inr (4, [.ref (ad 7), .ref (ad 5), .ref (ad 1), pv]))) (hRP : ∀ (σ : xS) (Q : xS → Prop), RP σ Q → xMr l yX4_readyPlanner wsX4_readyPlanner rmP D (xtys cI cJ cZ) w0 (xWP cI cJ cZ) b σ [.ref b] mc ms Q) (σ : xS) (Q : Int → Bool → xS → Prop) (hw : vX4_digest RP σ Q) : xMol l yX4_digest wsX4_digest (rmX4_digest rmP) D (xtys cI cJ cZ) w0 (xWP cI cJ cZ) b σ [.ref b] mc ms Q := by
  refine xenter (F := xFo) (Qc := fun sz => xQol D w0 (xWP cI cJ cZ) b σ sz Q) (own := RX4) (cc := cX4_digest) (maxL := 5) (ret := some .long) (by decide) rfl rfl (Nat.le_of_ble_eq_true rfl) ?_
  intro p e s m args below meth c hargs C hr hnm
  have hR : rmP.frames + 1 ≤ (rmX4_digest rmP).frames ∧ 20 + rmP.locals ≤ (rmX4_digest rmP).locals ∧ 0 + mc ≤ (rmX4_digest rmP).cells ∧ 0 + ms ≤ (rmX4_digest rmP).slots := ⟨by show _ ≤ rmP.frames + 6; omega, by show _ ≤ rmP.locals + 199; omega, by show _ ≤ rmP.cells; omega, by show _ ≤ rmP.slots; omega⟩
  have hRf : ∀ n, n ≤ 6 → n ≤ (rmX4_digest rmP).frames := fun n h => by show n ≤ rmP.frames + 6; omega
  have hRl : ∀ n, n ≤ 199 → n ≤ (rmX4_digest rmP).locals := fun n h => by show n ≤ rmP.locals + 199; omega
  have hinX4 : ∀ w ∈ u_ws RX4 TX4 4, w ∈ wsX4_digest := fun _ h => List.mem_cons_of_mem _ (List.mem_append_left _ (List.mem_append_left _ (List.mem_append_left _ (List.mem_append_left _ (List.mem_append_right _ h)))))
  have m0 : (Cond.constantLong RX4 177 31) ∈ wsX4_digest := by decide +kernel
  have m1 : (Cond.fieldLink RX4 10 "SandBench" "bench" "LSandBench$Bench;") ∈ wsX4_digest := by decide +kernel
  have m2 : (Cond.fieldLink RX4 26 "SandBench" "script" "LSandBench$Script;") ∈ wsX4_digest := by decide +kernel
  have m3 : (Cond.constantLong RX4 175 139) ∈ wsX4_digest := by decide +kernel
  have L97 : ∀ (K83 : Int × Int × xS → Prop) (hK83 : ∀ a, K83 a → xX p l e (rmX4_digest rmP) s m args below meth c D vwCl (va_A (w0 σ) s.heap.size) w0 xFo σ 0 0 (MQ below (xQol D w0 (xWP cI cJ cZ) b σ s.heap.size Q) args s mc ms (va_A (w0 σ) s.heap.size)) 5 (a.2.2) 83 [(0, .ref b), (1, .long (i64 (a.1))), (3, .int (i32 (a.2.1)))] []), ∀ a, mu (vX4_digest_97 RP K83 Q) a → xX p l e (rmX4_digest rmP) s m args below meth c D vwCl (va_A (w0 σ) s.heap.size) w0 xFo σ 0 0 (MQ below (xQol D w0 (xWP cI cJ cZ) b σ s.heap.size Q) args s mc ms (va_A (w0 σ) s.heap.size)) 5 (a.2.2.2) 97 [(0, .ref b), (1, .long (i64 (a.1))), (3, .int (i32 (a.2.1))), (4, .int (i32 (a.2.2.1)))] [] := by
    intro K83 hK83
    refine mu_ind (fun K97 hK97 a hw => ?_)
    obtain ⟨x1, x3, x4, σ0⟩ := a
    show xX p l e (rmX4_digest rmP) s m args below meth c D vwCl (va_A (w0 σ) s.heap.size) w0 xFo σ 0 0 (MQ below (xQol D w0 (xWP cI cJ cZ) b σ s.heap.size Q) args s mc ms (va_A (w0 σ) s.heap.size)) 5 σ0 97 [(0, .ref b), (1, .long (i64 x1)), (3, .int (i32 x3)), (4, .int (i32 x4))] []
    unfold vX4_digest_97 at hw
    refine xr_iload C 3 dX4_digest_97 rfl ?_
    refine xr_iconst C dX4_digest_99 ?_
    obtain ⟨g1, hw⟩ := hw
    refine xr_icmp_ge C g1 ⟨by decide, by decide⟩ 124 dX4_digest_100 (by decide) (fun c2 => ?_) (fun c2 => ?_)
    · have hw := hw.1 c2
      refine xr_iinc C 2 [(0, .ref b), (1, .long (i64 x1)), (3, .int (i32 (x3 + 1))), (4, .int (i32 x4))] dX4_digest_124 rfl (by decide) rfl ?_
      refine xr_goto C 83 dX4_digest_127 (by decide) ?_
      refine xr_sub C [0, 1, 2] [(0, .ref b), (1, .long (i64 x1)), (3, .int (i32 (x3 + 1)))] rfl ?_
      exact hK83 (x1, (x3 + 1), σ0) hw
    · have hw := hw.2 c2
      refine xr_ldc2 C 31 m0 (by decide +kernel) dX4_digest_103 ?_
      refine xr_lload_n C 1 dX4_digest_106 rfl rfl ?_
      refine xr_lmul C dX4_digest_107 ?_
      refine xr_aload_n C 0 dX4_digest_108 rfl rfl ?_
      refine xr_iload_n C 2 dX4_digest_109 rfl rfl ?_
      refine xr_iload C 3 dX4_digest_110 rfl ?_
      refine xr_callVi C (ci := 4) (q0 := 0) (As := [.int (i32 x3), .int (i32 x4)]) (rest := [.long (i64 (31 * x1))]) spX (by decide) (fun _ => trivial) (mX4_event σ0 x3 x4 _ hw) (cwV 2 C.2.2.2.2.1 gX4_digest_X4_event rfl rfl rfl (by decide +kernel) ⟨hRf _ (by decide), hRl _ (by decide)⟩) rfl rfl rfl (by rw [hb]; rfl) (Nat.le_of_ble_eq_true rfl) ⟨Nat.zero_le _, Nat.zero_le _⟩ dX4_digest_112 (fun r3 σ4 hw => ?_)
      obtain ⟨g5, hw⟩ := hw
      refine xr_i2l C g5 dX4_digest_115 ?_
      refine xr_ladd C dX4_digest_116 ?_
      refine xr_lstore_n C [(0, .ref b), (1, .long (i64 ((31 * x1) + r3))), (3, .int (i32 x3)), (4, .int (i32 x4))] dX4_digest_117 rfl (by decide) rfl ?_
      refine xr_iinc C 3 [(0, .ref b), (1, .long (i64 ((31 * x1) + r3))), (3, .int (i32 x3)), (4, .int (i32 (x4 + 1)))] dX4_digest_118 rfl (by decide) rfl ?_
      refine xr_goto C 97 dX4_digest_121 (by decide) ?_
      exact hK97 (((31 * x1) + r3), x3, (x4 + 1), σ4) hw
  have L83 : ∀ a, mu (vX4_digest_83 RP  Q) a → xX p l e (rmX4_digest rmP) s m args below meth c D vwCl (va_A (w0 σ) s.heap.size) w0 xFo σ 0 0 (MQ below (xQol D w0 (xWP cI cJ cZ) b σ s.heap.size Q) args s mc ms (va_A (w0 σ) s.heap.size)) 5 (a.2.2) 83 [(0, .ref b), (1, .long (i64 (a.1))), (3, .int (i32 (a.2.1)))] [] := by
    refine mu_ind (fun K83 hK83 a hw => ?_)
    obtain ⟨x1, x3, σ0⟩ := a
    show xX p l e (rmX4_digest rmP) s m args below meth c D vwCl (va_A (w0 σ) s.heap.size) w0 xFo σ 0 0 (MQ below (xQol D w0 (xWP cI cJ cZ) b σ s.heap.size Q) args s mc ms (va_A (w0 σ) s.heap.size)) 5 σ0 83 [(0, .ref b), (1, .long (i64 x1)), (3, .int (i32 x3))] []
    unfold vX4_digest_83 at hw
    refine xr_iload_n C 2 dX4_digest_83 rfl rfl ?_
    refine xr_aload_n C 0 dX4_digest_84 rfl rfl ?_
    refine xr_get C hinX4 (N := 4) (ci := 4) (a := b) 0 (e0 _) rfl 0 (by decide) m1 rfl rfl dX4_digest_85 ?_
    refine xr_callVi C (ci := 0) (q0 := 0) (As := []) (rest := [.int (i32 x3)]) (xSp_tr spX (sp_wX_wB pv ad cI cJ cZ) (by decide)) (by decide) (fun _ => trivial) (mX0_eventsListed σ0 _ hw) (cwV 0 C.2.2.2.2.1 gX4_digest_X0_eventsListed rfl rfl rfl (by decide +kernel) ⟨hRf _ (by decide), hRl _ (by decide)⟩) rfl rfl rfl rfl (Nat.le_of_ble_eq_true rfl) ⟨Nat.zero_le _, Nat.zero_le _⟩ dX4_digest_88 (fun r6 σ7 hw => ?_)
    obtain ⟨g8, hw⟩ := hw
    obtain ⟨g9, hw⟩ := hw
    refine xr_icmp_ge C g8 g9 130 dX4_digest_91 (by decide) (fun c10 => ?_) (fun c10 => ?_)
    · have hw := hw.1 c10
      refine xr_aload_n C 0 dX4_digest_130 rfl rfl ?_
      refine xr_ready C (ci := 4) (q0 := 0) (As := []) (rest := []) (hRP σ7 _ hw) (cwV 0 C.2.2.2.2.1 gX4_digest_X4_readyPlanner rfl hrc hrs (by decide +kernel) ⟨hR.1, by have := hR.2.1; omega⟩) rfl (e0 _) rfl rfl (Nat.le_of_ble_eq_true rfl) ⟨hR.2.2.1, hR.2.2.2⟩ dX4_digest_131 (fun ad2 σ11 hw had => ?_)
      have L184 : ∀ a, mu (vX4_digest_184 RP  Q) a → xX p l e (rmX4_digest rmP) s m args below meth c D vwCl (va_A (w0 σ) s.heap.size) (xWP cI cJ cZ ad2) xFo σ (0 + mc) (0 + ms) (MQ below (xQol D w0 (xWP cI cJ cZ) b σ s.heap.size Q) args s mc ms (va_A (w0 σ) s.heap.size)) 5 (a.2.2) 184 [(0, .ref b), (1, .long (i64 (a.1))), (3, .ref (ad2 9)), (4, .int (i32 (a.2.1)))] [] := by
        refine mu_ind (fun K184 hK184 a hw => ?_)
        obtain ⟨x1, x4, σ0⟩ := a
        show xX p l e (rmX4_digest rmP) s m args below meth c D vwCl (va_A (w0 σ) s.heap.size) (xWP cI cJ cZ ad2) xFo σ (0 + mc) (0 + ms) (MQ below (xQol D w0 (xWP cI cJ cZ) b σ s.heap.size Q) args s mc ms (va_A (w0 σ) s.heap.size)) 5 σ0 184 [(0, .ref b), (1, .long (i64 x1)), (3, .ref (ad2 9)), (4, .int (i32 x4))] []
        unfold vX4_digest_184 at hw
        refine xr_iload C 3 dX4_digest_184 rfl ?_
        refine xr_aload_n C 0 dX4_digest_186 rfl rfl ?_
        refine xr_get C hinX4 (N := 4) (ci := 4) (a := b) 0 (by rw [← had]; rfl) rfl 2 (by decide) m2 rfl rfl dX4_digest_187 ?_
        refine xr_callVi C (ci := 3) (q0 := 0) (As := []) (rest := [.int (i32 x4)]) (sp_wXP_wS (.ref (ad2 9)) ad2 cI cJ cZ) (by decide) (fun _ => trivial) (mX3_length σ0 _ hw) (cwV 0 C.2.2.2.2.1 gX4_digest_X3_length rfl rfl rfl (by decide +kernel) ⟨hRf _ (by decide), hRl _ (by decide)⟩) rfl rfl rfl rfl (Nat.le_of_ble_eq_true rfl) ⟨hR.2.2.1, hR.2.2.2⟩ dX4_digest_190 (fun r12 σ13 hw => ?_)
        obtain ⟨g14, hw⟩ := hw
        obtain ⟨g15, hw⟩ := hw
        refine xr_icmp_ge C g14 g15 219 dX4_digest_193 (by decide) (fun c16 => ?_) (fun c16 => ?_)
        · have hw := hw.1 c16
          refine xr_lload_n C 1 dX4_digest_219 rfl rfl ?_
          exact xr_olret1 (b := b) C hr had hw (Nat.le_of_eq (Nat.zero_add _)) (Nat.le_of_eq (Nat.zero_add _)) dX4_digest_220
        · have hw := hw.2 c16
          refine xr_ldc2 C 31 m0 (by decide +kernel) dX4_digest_196 ?_
          refine xr_lload_n C 1 dX4_digest_199 rfl rfl ?_
          refine xr_lmul C dX4_digest_200 ?_
          refine xr_aload_n C 0 dX4_digest_201 rfl rfl ?_
          refine xr_get C hinX4 (N := 4) (ci := 4) (a := b) 0 (by rw [← had]; rfl) rfl 2 (by decide) m2 rfl rfl dX4_digest_202 ?_
          refine xr_iload C 3 dX4_digest_205 rfl ?_
          refine xr_callVi C (ci := 3) (q0 := 0) (As := [.int (i32 x4)]) (rest := [.long (i64 (31 * x1))]) (sp_wXP_wS (.ref (ad2 9)) ad2 cI cJ cZ) (by decide) (fun _ => trivial) (mX3_byteAt σ13 x4 _ hw) (cwV 1 C.2.2.2.2.1 gX4_digest_X3_byteAt rfl rfl rfl (by decide +kernel) ⟨hRf _ (by decide), hRl _ (by decide)⟩) rfl rfl rfl rfl (Nat.le_of_ble_eq_true rfl) ⟨hR.2.2.1, hR.2.2.2⟩ dX4_digest_207 (fun r17 σ18 hw => ?_)
          obtain ⟨g19, hw⟩ := hw
          refine xr_i2l C g19 dX4_digest_210 ?_
          refine xr_ladd C dX4_digest_211 ?_
          refine xr_lstore_n C [(0, .ref b), (1, .long (i64 ((31 * x1) + r17))), (3, .ref (ad2 9)), (4, .int (i32 x4))] dX4_digest_212 rfl (by decide) rfl ?_
          refine xr_iinc C 3 [(0, .ref b), (1, .long (i64 ((31 * x1) + r17))), (3, .ref (ad2 9)), (4, .int (i32 (x4 + 1)))] dX4_digest_213 rfl (by decide) rfl ?_
          refine xr_goto C 184 dX4_digest_216 (by decide) ?_
          exact hK184 (((31 * x1) + r17), (x4 + 1), σ18) hw
      have L138 : ∀ a, mu (vX4_digest_138 RP  Q) a → xX p l e (rmX4_digest rmP) s m args below meth c D vwCl (va_A (w0 σ) s.heap.size) (xWP cI cJ cZ ad2) xFo σ (0 + mc) (0 + ms) (MQ below (xQol D w0 (xWP cI cJ cZ) b σ s.heap.size Q) args s mc ms (va_A (w0 σ) s.heap.size)) 5 (a.2.2) 138 [(0, .ref b), (1, .long (i64 (a.1))), (3, .ref (ad2 9)), (4, .int (i32 (a.2.1)))] [] := by
        refine mu_ind (fun K138 hK138 a hw => ?_)
        obtain ⟨x1, x4, σ0⟩ := a
        show xX p l e (rmX4_digest rmP) s m args below meth c D vwCl (va_A (w0 σ) s.heap.size) (xWP cI cJ cZ ad2) xFo σ (0 + mc) (0 + ms) (MQ below (xQol D w0 (xWP cI cJ cZ) b σ s.heap.size Q) args s mc ms (va_A (w0 σ) s.heap.size)) 5 σ0 138 [(0, .ref b), (1, .long (i64 x1)), (3, .ref (ad2 9)), (4, .int (i32 x4))] []
        unfold vX4_digest_138 at hw
        refine xr_iload C 3 dX4_digest_138 rfl ?_
        refine xr_bipush C dX4_digest_140 (by decide +kernel) ?_
        obtain ⟨g20, hw⟩ := hw
        refine xr_icmp_gt C g20 ⟨by decide, by decide⟩ 165 dX4_digest_142 (by decide) (fun c21 => ?_) (fun c21 => ?_)
        · have hw := hw.1 c21
          refine xr_ldc2 C 31 m0 (by decide +kernel) dX4_digest_165 ?_
          refine xr_lload_n C 1 dX4_digest_168 rfl rfl ?_
          refine xr_lmul C dX4_digest_169 ?_
          refine xr_aload_n C 2 dX4_digest_170 rfl rfl ?_
          refine xr_iconst C dX4_digest_171 ?_
          refine xr_callVl C (ci := 2) (q0 := 0) (As := [.int (i32 3)]) (rest := [.long (i64 (31 * x1))]) (sp_wXP_wP (.ref (ad2 9)) ad2 cI cJ cZ) (by decide) (fun _ => trivial) (mX2_spansWithin σ0 3 _ hw) (cwV 1 C.2.2.2.2.1 gX4_digest_X2_spansWithin rfl rfl rfl (by decide +kernel) ⟨hRf _ (by decide), hRl _ (by decide)⟩) rfl rfl rfl rfl (Nat.le_of_ble_eq_true rfl) ⟨hR.2.2.1, hR.2.2.2⟩ dX4_digest_172 (fun r22 σ23 hw => ?_)
          refine xr_callSi C (As := [.long (i64 r22)]) (rest := [.long (i64 (31 * x1))]) (xSp_nil _) (by decide) (fun _ => trivial) (mJ13_bitCount_95d88 σ23 r22 _ hw) (va_cwS 1 C.2.2.2.2.1 gX4_digest_J13_bitCount_95d88 rfl rfl rfl (by decide +kernel) ⟨hRf _ (by decide), hRl _ (by decide)⟩) rfl rfl (Nat.le_of_ble_eq_true rfl) ⟨hR.2.2.1, hR.2.2.2⟩ dX4_digest_175 (fun r24 σ25 hw => ?_)
          obtain ⟨g26, hw⟩ := hw
          refine xr_i2l C g26 dX4_digest_178 ?_
          refine xr_ladd C dX4_digest_179 ?_
          refine xr_lstore_n C [(0, .ref b), (1, .long (i64 ((31 * x1) + r24))), (3, .ref (ad2 9)), (4, .int (i32 x4))] dX4_digest_180 rfl (by decide) rfl ?_
          refine xr_iconst C dX4_digest_181 ?_
          refine xr_istore C [(0, .ref b), (1, .long (i64 ((31 * x1) + r24))), (3, .ref (ad2 9)), (4, .int (i32 0))] dX4_digest_182 (by decide) rfl ?_
          exact L184 (((31 * x1) + r24), 0, σ25) hw
        · have hw := hw.2 c21
          refine xr_ldc2 C 31 m0 (by decide +kernel) dX4_digest_145 ?_
          refine xr_lload_n C 1 dX4_digest_148 rfl rfl ?_
          refine xr_lmul C dX4_digest_149 ?_
          refine xr_aload_n C 2 dX4_digest_150 rfl rfl ?_
          refine xr_iload C 3 dX4_digest_151 rfl ?_
          refine xr_callVi C (ci := 2) (q0 := 0) (As := [.int (i32 x4)]) (rest := [.long (i64 (31 * x1))]) (sp_wXP_wP (.ref (ad2 9)) ad2 cI cJ cZ) (by decide) (fun _ => trivial) (mX2_leastCost σ0 x4 _ hw) (cwV 1 C.2.2.2.2.1 gX4_digest_X2_leastCost rfl rfl rfl (by decide +kernel) ⟨hRf _ (by decide), hRl _ (by decide)⟩) rfl rfl rfl rfl (Nat.le_of_ble_eq_true rfl) ⟨hR.2.2.1, hR.2.2.2⟩ dX4_digest_153 (fun r27 σ28 hw => ?_)
          obtain ⟨g29, hw⟩ := hw
          refine xr_i2l C g29 dX4_digest_156 ?_
          refine xr_ladd C dX4_digest_157 ?_
          refine xr_lstore_n C [(0, .ref b), (1, .long (i64 ((31 * x1) + r27))), (3, .ref (ad2 9)), (4, .int (i32 x4))] dX4_digest_158 rfl (by decide) rfl ?_
          refine xr_iinc C 3 [(0, .ref b), (1, .long (i64 ((31 * x1) + r27))), (3, .ref (ad2 9)), (4, .int (i32 (x4 + 1)))] dX4_digest_159 rfl (by decide) rfl ?_
          refine xr_goto C 138 dX4_digest_162 (by decide) ?_
          exact hK138 (((31 * x1) + r27), (x4 + 1), σ28) hw
      refine xr_astore_n C [(0, .ref b), (1, .long (i64 x1)), (3, .ref (ad2 9))] dX4_digest_134 rfl (by decide) rfl ?_
      refine xr_iconst C dX4_digest_135 ?_
      refine xr_istore C [(0, .ref b), (1, .long (i64 x1)), (3, .ref (ad2 9)), (4, .int (i32 1))] dX4_digest_136 (by decide) rfl ?_
      exact L138 (x1, 1, σ11) hw
    · have hw := hw.2 c10
      refine xr_iconst C dX4_digest_94 ?_
      refine xr_istore C [(0, .ref b), (1, .long (i64 x1)), (3, .int (i32 x3)), (4, .int (i32 0))] dX4_digest_95 (by decide) rfl ?_
      exact L97 K83 hK83 (x1, x3, 0, σ7) hw
  have L47 : ∀ (K33 : Int × Int × xS → Prop) (hK33 : ∀ a, K33 a → xX p l e (rmX4_digest rmP) s m args below meth c D vwCl (va_A (w0 σ) s.heap.size) w0 xFo σ 0 0 (MQ below (xQol D w0 (xWP cI cJ cZ) b σ s.heap.size Q) args s mc ms (va_A (w0 σ) s.heap.size)) 5 (a.2.2) 33 [(0, .ref b), (1, .long (i64 (a.1))), (3, .int (i32 (a.2.1)))] []), ∀ a, mu (vX4_digest_47 RP K33 Q) a → xX p l e (rmX4_digest rmP) s m args below meth c D vwCl (va_A (w0 σ) s.heap.size) w0 xFo σ 0 0 (MQ below (xQol D w0 (xWP cI cJ cZ) b σ s.heap.size Q) args s mc ms (va_A (w0 σ) s.heap.size)) 5 (a.2.2.2) 47 [(0, .ref b), (1, .long (i64 (a.1))), (3, .int (i32 (a.2.1))), (4, .int (i32 (a.2.2.1)))] [] := by
    intro K33 hK33
    refine mu_ind (fun K47 hK47 a hw => ?_)
    obtain ⟨x1, x3, x4, σ0⟩ := a
    show xX p l e (rmX4_digest rmP) s m args below meth c D vwCl (va_A (w0 σ) s.heap.size) w0 xFo σ 0 0 (MQ below (xQol D w0 (xWP cI cJ cZ) b σ s.heap.size Q) args s mc ms (va_A (w0 σ) s.heap.size)) 5 σ0 47 [(0, .ref b), (1, .long (i64 x1)), (3, .int (i32 x3)), (4, .int (i32 x4))] []
    unfold vX4_digest_47 at hw
    refine xr_iload C 3 dX4_digest_47 rfl ?_
    refine xr_bipush C dX4_digest_49 (by decide +kernel) ?_
    obtain ⟨g30, hw⟩ := hw
    refine xr_icmp_gt C g30 ⟨by decide, by decide⟩ 75 dX4_digest_51 (by decide) (fun c31 => ?_) (fun c31 => ?_)
    · have hw := hw.1 c31
      refine xr_iinc C 2 [(0, .ref b), (1, .long (i64 x1)), (3, .int (i32 (x3 + 1))), (4, .int (i32 x4))] dX4_digest_75 rfl (by decide) rfl ?_
      refine xr_goto C 33 dX4_digest_78 (by decide) ?_
      refine xr_sub C [0, 1, 2] [(0, .ref b), (1, .long (i64 x1)), (3, .int (i32 (x3 + 1)))] rfl ?_
      exact hK33 (x1, (x3 + 1), σ0) hw
    · have hw := hw.2 c31
      refine xr_ldc2 C 31 m0 (by decide +kernel) dX4_digest_54 ?_
      refine xr_lload_n C 1 dX4_digest_57 rfl rfl ?_
      refine xr_lmul C dX4_digest_58 ?_
      refine xr_aload_n C 0 dX4_digest_59 rfl rfl ?_
      refine xr_iload_n C 2 dX4_digest_60 rfl rfl ?_
      refine xr_iload C 3 dX4_digest_61 rfl ?_
      refine xr_callVi C (ci := 4) (q0 := 0) (As := [.int (i32 x3), .int (i32 x4)]) (rest := [.long (i64 (31 * x1))]) spX (by decide) (fun _ => trivial) (mX4_glass σ0 x3 x4 _ hw) (cwV 2 C.2.2.2.2.1 gX4_digest_X4_glass rfl rfl rfl (by decide +kernel) ⟨hRf _ (by decide), hRl _ (by decide)⟩) rfl rfl rfl (by rw [hb]; rfl) (Nat.le_of_ble_eq_true rfl) ⟨Nat.zero_le _, Nat.zero_le _⟩ dX4_digest_63 (fun r32 σ33 hw => ?_)
      obtain ⟨g34, hw⟩ := hw
      refine xr_i2l C g34 dX4_digest_66 ?_
      refine xr_ladd C dX4_digest_67 ?_
      refine xr_lstore_n C [(0, .ref b), (1, .long (i64 ((31 * x1) + r32))), (3, .int (i32 x3)), (4, .int (i32 x4))] dX4_digest_68 rfl (by decide) rfl ?_
      refine xr_iinc C 3 [(0, .ref b), (1, .long (i64 ((31 * x1) + r32))), (3, .int (i32 x3)), (4, .int (i32 (x4 + 1)))] dX4_digest_69 rfl (by decide) rfl ?_
      refine xr_goto C 47 dX4_digest_72 (by decide) ?_
      exact hK47 (((31 * x1) + r32), x3, (x4 + 1), σ33) hw
  have L33 : ∀ a, mu (vX4_digest_33 RP  Q) a → xX p l e (rmX4_digest rmP) s m args below meth c D vwCl (va_A (w0 σ) s.heap.size) w0 xFo σ 0 0 (MQ below (xQol D w0 (xWP cI cJ cZ) b σ s.heap.size Q) args s mc ms (va_A (w0 σ) s.heap.size)) 5 (a.2.2) 33 [(0, .ref b), (1, .long (i64 (a.1))), (3, .int (i32 (a.2.1)))] [] := by
    refine mu_ind (fun K33 hK33 a hw => ?_)
    obtain ⟨x1, x3, σ0⟩ := a
    show xX p l e (rmX4_digest rmP) s m args below meth c D vwCl (va_A (w0 σ) s.heap.size) w0 xFo σ 0 0 (MQ below (xQol D w0 (xWP cI cJ cZ) b σ s.heap.size Q) args s mc ms (va_A (w0 σ) s.heap.size)) 5 σ0 33 [(0, .ref b), (1, .long (i64 x1)), (3, .int (i32 x3))] []
    unfold vX4_digest_33 at hw
    refine xr_iload_n C 2 dX4_digest_33 rfl rfl ?_
    refine xr_aload_n C 0 dX4_digest_34 rfl rfl ?_
    refine xr_get C hinX4 (N := 4) (ci := 4) (a := b) 0 (e0 _) rfl 0 (by decide) m1 rfl rfl dX4_digest_35 ?_
    refine xr_callVi C (ci := 0) (q0 := 0) (As := []) (rest := [.int (i32 x3)]) (xSp_tr spX (sp_wX_wB pv ad cI cJ cZ) (by decide)) (by decide) (fun _ => trivial) (mX0_glasses σ0 _ hw) (cwV 0 C.2.2.2.2.1 gX4_digest_X0_glasses rfl rfl rfl (by decide +kernel) ⟨hRf _ (by decide), hRl _ (by decide)⟩) rfl rfl rfl rfl (Nat.le_of_ble_eq_true rfl) ⟨Nat.zero_le _, Nat.zero_le _⟩ dX4_digest_38 (fun r35 σ36 hw => ?_)
    obtain ⟨g37, hw⟩ := hw
    obtain ⟨g38, hw⟩ := hw
    refine xr_icmp_ge C g37 g38 81 dX4_digest_41 (by decide) (fun c39 => ?_) (fun c39 => ?_)
    · have hw := hw.1 c39
      refine xr_iconst C dX4_digest_81 ?_
      refine xr_istore_n C [(0, .ref b), (1, .long (i64 x1)), (3, .int (i32 0))] dX4_digest_82 rfl (by decide) rfl ?_
      exact L83 (x1, 0, σ36) hw
    · have hw := hw.2 c39
      refine xr_iconst C dX4_digest_44 ?_
      refine xr_istore C [(0, .ref b), (1, .long (i64 x1)), (3, .int (i32 x3)), (4, .int (i32 0))] dX4_digest_45 (by decide) rfl ?_
      exact L47 K33 hK33 (x1, x3, 0, σ36) hw
  have L6 : ∀ a, mu (vX4_digest_6 RP  Q) a → xX p l e (rmX4_digest rmP) s m args below meth c D vwCl (va_A (w0 σ) s.heap.size) w0 xFo σ 0 0 (MQ below (xQol D w0 (xWP cI cJ cZ) b σ s.heap.size Q) args s mc ms (va_A (w0 σ) s.heap.size)) 5 (a.2.2) 6 [(0, .ref b), (1, .long (i64 (a.1))), (3, .int (i32 (a.2.1)))] [] := by
    refine mu_ind (fun K6 hK6 a hw => ?_)
    obtain ⟨x1, x3, σ0⟩ := a
    show xX p l e (rmX4_digest rmP) s m args below meth c D vwCl (va_A (w0 σ) s.heap.size) w0 xFo σ 0 0 (MQ below (xQol D w0 (xWP cI cJ cZ) b σ s.heap.size Q) args s mc ms (va_A (w0 σ) s.heap.size)) 5 σ0 6 [(0, .ref b), (1, .long (i64 x1)), (3, .int (i32 x3))] []
    unfold vX4_digest_6 at hw
    refine xr_iload_n C 2 dX4_digest_6 rfl rfl ?_
    refine xr_bipush C dX4_digest_7 (by decide +kernel) ?_
    obtain ⟨g40, hw⟩ := hw
    refine xr_icmp_gt C g40 ⟨by decide, by decide⟩ 31 dX4_digest_9 (by decide) (fun c41 => ?_) (fun c41 => ?_)
    · have hw := hw.1 c41
      refine xr_iconst C dX4_digest_31 ?_
      refine xr_istore_n C [(0, .ref b), (1, .long (i64 x1)), (3, .int (i32 0))] dX4_digest_32 rfl (by decide) rfl ?_
      exact L33 (x1, 0, σ0) hw
    · have hw := hw.2 c41
      refine xr_ldc2 C 31 m0 (by decide +kernel) dX4_digest_12 ?_
      refine xr_lload_n C 1 dX4_digest_15 rfl rfl ?_
      refine xr_lmul C dX4_digest_16 ?_
      refine xr_aload_n C 0 dX4_digest_17 rfl rfl ?_
      refine xr_iload_n C 2 dX4_digest_18 rfl rfl ?_
      refine xr_callVi C (ci := 4) (q0 := 0) (As := [.int (i32 x3)]) (rest := [.long (i64 (31 * x1))]) spX (by decide) (fun _ => trivial) (mX4_count σ0 x3 _ hw) (cwV 1 C.2.2.2.2.1 gX4_digest_X4_count rfl rfl rfl (by decide +kernel) ⟨hRf _ (by decide), hRl _ (by decide)⟩) rfl rfl rfl (by rw [hb]; rfl) (Nat.le_of_ble_eq_true rfl) ⟨Nat.zero_le _, Nat.zero_le _⟩ dX4_digest_19 (fun r42 σ43 hw => ?_)
      obtain ⟨g44, hw⟩ := hw
      refine xr_i2l C g44 dX4_digest_22 ?_
      refine xr_ladd C dX4_digest_23 ?_
      refine xr_lstore_n C [(0, .ref b), (1, .long (i64 ((31 * x1) + r42))), (3, .int (i32 x3))] dX4_digest_24 rfl (by decide) rfl ?_
      refine xr_iinc C 2 [(0, .ref b), (1, .long (i64 ((31 * x1) + r42))), (3, .int (i32 (x3 + 1)))] dX4_digest_25 rfl (by decide) rfl ?_
      refine xr_goto C 6 dX4_digest_28 (by decide) ?_
      exact hK6 (((31 * x1) + r42), (x3 + 1), σ43) hw
  show xX p l e (rmX4_digest rmP) s m args below meth c D vwCl (va_A (w0 σ) s.heap.size) w0 xFo σ 0 0 (MQ below (xQol D w0 (xWP cI cJ cZ) b σ s.heap.size Q) args s mc ms (va_A (w0 σ) s.heap.size)) 5 σ 0 [(0, .ref b)] []
  unfold vX4_digest at hw
  refine xr_ldc2 C 139 m3 (by decide +kernel) dX4_digest_0 ?_
  refine xr_lstore_n C [(0, .ref b), (1, .long (i64 139))] dX4_digest_3 rfl (by decide) rfl ?_
  refine xr_iconst C dX4_digest_4 ?_
  refine xr_istore_n C [(0, .ref b), (1, .long (i64 139)), (3, .int (i32 0))] dX4_digest_5 rfl (by decide) rfl ?_
  exact L6 (139, 0, σ) hw
