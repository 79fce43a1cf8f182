abbrev rmX0_copyTo : Room := { frames := 1, cells := 0, slots := 0, locals := 64 }
set_option maxHeartbeats 8000000 in
set_option maxRecDepth 100000 in
theorem mX0_copyTo {l : Launch} {D : va_G} {ad : Nat → Nat} {cI cJ cZ : ClassId} (σ : xS) (a2 : Int) (Q : xS → Prop) (hw : vX0_copyTo a2 σ Q) : xMv False l yX0_copyTo wsX0_copyTo rmX0_copyTo D (xtys cI cJ cZ) (wRB ad cI cJ cZ) [6, 7, 8] σ [.ref (ad 7), .ref (ad 6), .int (i32 a2)] Q := by
  refine xenter (F := [6, 7, 8]) (Qc := fun sz => xQv D (wRB ad cI cJ cZ) [6, 7, 8] σ sz Q) (own := RX0) (cc := cX0_copyTo) (maxL := 3) (ret := none) (by decide) rfl rfl (Nat.le_of_ble_eq_true rfl) ?_
  intro p e s m args below meth c hargs C hr hnm
  have hinX0 : ∀ w ∈ u_ws RX0 TX0 1, w ∈ wsX0_copyTo := fun _ h => List.mem_cons_of_mem _ (List.mem_append_right _ h)
  have m0 : (Cond.fieldLink RX0 11 "SandBench$Bench" "cells" "[I") ∈ wsX0_copyTo := by decide +kernel
  have m1 : (Cond.methodLink RX0 23 arraycopyName) ∈ wsX0_copyTo := by decide +kernel
  have m2 : (Cond.native arraycopyName) ∈ wsX0_copyTo := by decide +kernel
  have m3 : (Cond.static arraycopyName) ∈ wsX0_copyTo := by decide +kernel
  have m4 : (Cond.initialized "java/lang/System") ∈ wsX0_copyTo := by decide +kernel
  show xX p l e rmX0_copyTo s m args below meth c D vwCl (va_A ((wRB ad cI cJ cZ) σ) s.heap.size) (wRB ad cI cJ cZ) [6, 7, 8] σ 0 0 (MQ below (xQv D (wRB ad cI cJ cZ) [6, 7, 8] σ s.heap.size Q) args s 0 0 (va_A ((wRB ad cI cJ cZ) σ) s.heap.size)) 3 σ 0 [(0, .ref (ad 7)), (1, .ref (ad 6)), (2, .int (i32 a2))] []
  unfold vX0_copyTo at hw
  refine xr_aload_n C 0 dX0_copyTo_0 rfl rfl ?_
  refine xr_get C hinX0 (N := 1) (ci := 0) (a := (ad 7)) 1 rfl rfl 0 (by decide) m0 rfl rfl dX0_copyTo_1 ?_
  refine xr_iconst C dX0_copyTo_4 ?_
  refine xr_aload_n C 1 dX0_copyTo_5 rfl rfl ?_
  refine xr_iload_n C 2 dX0_copyTo_6 rfl rfl ?_
  refine xr_bipush C dX0_copyTo_7 (by decide +kernel) ?_
  obtain ⟨g1, hw⟩ := hw
  refine xr_copy C (t0 := 0) (r := 6) 2 0 rfl rfl rfl (by decide) (by decide) (N0 := 63) (N1 := 504) rfl rfl g1 m1 m2 m3 m4 wRB_cp6 (by decide) (by decide) (Nat.le_of_ble_eq_true rfl) dX0_copyTo_9 ?_
  refine xr_sig (fun σ2 e3 => ?_)
  have hw := hw σ2 e3
  exact xr_vret C hr hw dX0_copyTo_12
abbrev rmX0_glasses : Room := { frames := 0, cells := 0, slots := 0, locals := 64 }
set_option maxHeartbeats 8000000 in
set_option maxRecDepth 100000 in
theorem mX0_glasses {l : Launch} {D : va_G} {ad : Nat → Nat} {cI cJ cZ : ClassId} (σ : xS) (Q : Int → xS → Prop) (hw : vX0_glasses σ Q) : xMi False l yX0_glasses wsX0_glasses rmX0_glasses D (xtys cI cJ cZ) (wB ad cI cJ cZ) [7, 8] σ [.ref (ad 7)] Q := by
  refine xenter (F := [7, 8]) (Qc := fun sz => xQi D (wB ad cI cJ cZ) [7, 8] σ sz Q) (own := RX0) (cc := cX0_glasses) (maxL := 1) (ret := some .int) (by decide) rfl rfl (Nat.le_of_ble_eq_true rfl) ?_
  intro p e s m args below meth c hargs C hr hnm
  have hinX0 : ∀ w ∈ u_ws RX0 TX0 1, w ∈ wsX0_glasses := fun _ h => List.mem_cons_of_mem _ (List.mem_append_right _ h)
  have m0 : (Cond.fieldLink RX0 11 "SandBench$Bench" "cells" "[I") ∈ wsX0_glasses := by decide +kernel
  show xX p l e rmX0_glasses s m args below meth c D vwCl (va_A ((wB ad cI cJ cZ) σ) s.heap.size) (wB ad cI cJ cZ) [7, 8] σ 0 0 (MQ below (xQi D (wB ad cI cJ cZ) [7, 8] σ s.heap.size Q) args s 0 0 (va_A ((wB ad cI cJ cZ) σ) s.heap.size)) 1 σ 0 [(0, .ref (ad 7))] []
  unfold vX0_glasses at hw
  refine xr_aload_n C 0 dX0_glasses_0 rfl rfl ?_
  refine xr_get C hinX0 (N := 1) (ci := 0) (a := (ad 7)) 0 rfl rfl 0 (by decide) m0 rfl rfl dX0_glasses_1 ?_
  refine xr_bipush C dX0_glasses_4 (by decide +kernel) ?_
  refine xr_iald C (t0 := 0) 1 rfl rfl (by decide) (N := 63) rfl ⟨by decide, by decide⟩ dX0_glasses_6 ?_
  exact xr_iret C hr hw dX0_glasses_7
abbrev rmX0_property : Room := { frames := 0, cells := 0, slots := 0, locals := 64 }
set_option maxHeartbeats 8000000 in
set_option maxRecDepth 100000 in
theorem mX0_property {l : Launch} {D : va_G} {ad : Nat → Nat} {cI cJ cZ : ClassId} (σ : xS) (a1 a2 : Int) (Q : Int → xS → Prop) (hw : vX0_property a1 a2 σ Q) : xMi False l yX0_property wsX0_property rmX0_property D (xtys cI cJ cZ) (wB ad cI cJ cZ) [7, 8] σ [.ref (ad 7), .int (i32 a1), .int (i32 a2)] Q := by
  refine xenter (F := [7, 8]) (Qc := fun sz => xQi D (wB ad cI cJ cZ) [7, 8] σ sz Q) (own := RX0) (cc := cX0_property) (maxL := 3) (ret := some .int) (by decide) rfl rfl (Nat.le_of_ble_eq_true rfl) ?_
  intro p e s m args below meth c hargs C hr hnm
  have hinX0 : ∀ w ∈ u_ws RX0 TX0 1, w ∈ wsX0_property := fun _ h => List.mem_cons_of_mem _ (List.mem_append_right _ h)
  have m0 : (Cond.fieldLink RX0 11 "SandBench$Bench" "cells" "[I") ∈ wsX0_property := by decide +kernel
  show xX p l e rmX0_property s m args below meth c D vwCl (va_A ((wB ad cI cJ cZ) σ) s.heap.size) (wB ad cI cJ cZ) [7, 8] σ 0 0 (MQ below (xQi D (wB ad cI cJ cZ) [7, 8] σ s.heap.size Q) args s 0 0 (va_A ((wB ad cI cJ cZ) σ) s.heap.size)) 3 σ 0 [(0, .ref (ad 7)), (1, .int (i32 a1)), (2, .int (i32 a2))] []
  unfold vX0_property at hw
  refine xr_aload_n C 0 dX0_property_0 rfl rfl ?_
  refine xr_get C hinX0 (N := 1) (ci := 0) (a := (ad 7)) 0 rfl rfl 0 (by decide) m0 rfl rfl dX0_property_1 ?_
  refine xr_iload_n C 2 dX0_property_4 rfl rfl ?_
  refine xr_iconst C dX0_property_5 ?_
  refine xr_imul C dX0_property_6 ?_
  refine xr_iload_n C 1 dX0_property_7 rfl rfl ?_
  refine xr_iadd C dX0_property_8 ?_
  obtain ⟨g1, hw⟩ := hw
  refine xr_iald C (t0 := 0) 1 rfl rfl (by decide) (N := 63) rfl g1 dX0_property_9 ?_
  exact xr_iret C hr hw dX0_property_10
abbrev rmX0_put : Room := { frames := 0, cells := 0, slots := 0, locals := 64 }
set_option maxHeartbeats 8000000 in
set_option maxRecDepth 100000 in
theorem mX0_put {l : Launch} {D : va_G} {ad : Nat → Nat} {cI cJ cZ : ClassId} (σ : xS) (a1 a2 a3 : Int) (Q : xS → Prop) (hw : vX0_put a1 a2 a3 σ Q) : xMv False l yX0_put wsX0_put rmX0_put D (xtys cI cJ cZ) (wB ad cI cJ cZ) [7, 8] σ [.ref (ad 7), .int (i32 a1), .int (i32 a2), .int (i32 a3)] Q := by
  refine xenter (F := [7, 8]) (Qc := fun sz => xQv D (wB ad cI cJ cZ) [7, 8] σ sz Q) (own := RX0) (cc := cX0_put) (maxL := 4) (ret := none) (by decide) rfl rfl (Nat.le_of_ble_eq_true rfl) ?_
  intro p e s m args below meth c hargs C hr hnm
  have hinX0 : ∀ w ∈ u_ws RX0 TX0 1, w ∈ wsX0_put := fun _ h => List.mem_cons_of_mem _ (List.mem_append_right _ h)
  have m0 : (Cond.fieldLink RX0 11 "SandBench$Bench" "cells" "[I") ∈ wsX0_put := by decide +kernel
  show xX p l e rmX0_put s m args below meth c D vwCl (va_A ((wB ad cI cJ cZ) σ) s.heap.size) (wB ad cI cJ cZ) [7, 8] σ 0 0 (MQ below (xQv D (wB ad cI cJ cZ) [7, 8] σ s.heap.size Q) args s 0 0 (va_A ((wB ad cI cJ cZ) σ) s.heap.size)) 4 σ 0 [(0, .ref (ad 7)), (1, .int (i32 a1)), (2, .int (i32 a2)), (3, .int (i32 a3))] []
  unfold vX0_put at hw
  refine xr_aload_n C 0 dX0_put_0 rfl rfl ?_
  refine xr_get C hinX0 (N := 1) (ci := 0) (a := (ad 7)) 0 rfl rfl 0 (by decide) m0 rfl rfl dX0_put_1 ?_
  refine xr_iload_n C 2 dX0_put_4 rfl rfl ?_
  refine xr_iconst C dX0_put_5 ?_
  refine xr_imul C dX0_put_6 ?_
  refine xr_iload_n C 1 dX0_put_7 rfl rfl ?_
  refine xr_iadd C dX0_put_8 ?_
  refine xr_iload_n C 3 dX0_put_9 rfl rfl ?_
  obtain ⟨g1, hw⟩ := hw
  refine xr_iast C (t0 := 0) (r := 8) 1 rfl rfl (by decide) (N := 63) rfl g1 wB_st8 (by decide) dX0_put_10 ?_
  refine xr_sig (fun σ2 e3 => ?_)
  have hw := hw σ2 e3
  exact xr_vret C hr hw dX0_put_11
abbrev rmX0_free : Room := { frames := 1, cells := 0, slots := 0, locals := 87 }
set_option maxHeartbeats 8000000 in
set_option maxRecDepth 100000 in
theorem mX0_free {l : Launch} {D : va_G} {ad : Nat → Nat} {cI cJ cZ : ClassId} (σ : xS) (a1 : Int) (Q : xS → Prop) (hw : vX0_free a1 σ Q) : xMv False l yX0_free wsX0_free rmX0_free D (xtys cI cJ cZ) (wB ad cI cJ cZ) [7, 8] σ [.ref (ad 7), .int (i32 a1)] Q := by
  refine xenter (F := [7, 8]) (Qc := fun sz => xQv D (wB ad cI cJ cZ) [7, 8] σ sz Q) (own := RX0) (cc := cX0_free) (maxL := 2) (ret := none) (by decide) rfl rfl (Nat.le_of_ble_eq_true rfl) ?_
  intro p e s m args below meth c hargs C hr hnm
  show xX p l e rmX0_free s m args below meth c D vwCl (va_A ((wB ad cI cJ cZ) σ) s.heap.size) (wB ad cI cJ cZ) [7, 8] σ 0 0 (MQ below (xQv D (wB ad cI cJ cZ) [7, 8] σ s.heap.size Q) args s 0 0 (va_A ((wB ad cI cJ cZ) σ) s.heap.size)) 2 σ 0 [(0, .ref (ad 7)), (1, .int (i32 a1))] []
  unfold vX0_free at hw
  refine xr_aload_n C 0 dX0_free_0 rfl rfl ?_
  refine xr_iload_n C 1 dX0_free_1 rfl rfl ?_
  refine xr_iconst C dX0_free_2 ?_
  refine xr_iconst C dX0_free_3 ?_
  refine xr_callVv C (ci := 0) (q0 := 0) (As := [.int (i32 a1), .int (i32 4), .int (i32 0)]) (rest := []) (xSp_rf _ _) (by decide) (fun h => h) (mX0_put σ a1 4 0 _ hw) (cwV 3 C.2.2.2.2.1 gX0_free_X0_put rfl rfl rfl (by decide +kernel) ⟨by decide, by decide⟩) rfl rfl rfl rfl (Nat.le_of_ble_eq_true rfl) ⟨by decide, by decide⟩ dX0_free_4 (fun σ2 hw => ?_)
  refine xr_aload_n C 0 dX0_free_7 rfl rfl ?_
  refine xr_iload_n C 1 dX0_free_8 rfl rfl ?_
  refine xr_bipush C dX0_free_9 (by decide +kernel) ?_
  refine xr_iconst C dX0_free_11 ?_
  refine xr_callVv C (ci := 0) (q0 := 0) (As := [.int (i32 a1), .int (i32 6), .int (i32 0)]) (rest := []) (xSp_rf _ _) (by decide) (fun h => h) (mX0_put σ2 a1 6 0 _ hw) (cwV 3 C.2.2.2.2.1 gX0_free_X0_put rfl rfl rfl (by decide +kernel) ⟨by decide, by decide⟩) rfl rfl rfl rfl (Nat.le_of_ble_eq_true rfl) ⟨by decide, by decide⟩ dX0_free_12 (fun σ4 hw => ?_)
  exact xr_vret C hr hw dX0_free_15
abbrev rmX0_fill : Room := { frames := 2, cells := 0, slots := 0, locals := 108 }
set_option maxHeartbeats 8000000 in
set_option maxRecDepth 100000 in
theorem mX0_fill {l : Launch} {D : va_G} {ad : Nat → Nat} {cI cJ cZ : ClassId} (σ : xS) (a1 a2 : Int) (Q : xS → Prop) (hw : vX0_fill a1 a2 σ Q) : xMv False l yX0_fill wsX0_fill rmX0_fill D (xtys cI cJ cZ) (wB ad cI cJ cZ) [7, 8] σ [.ref (ad 7), .int (i32 a1), .int (i32 a2)] Q := by
  refine xenter (F := [7, 8]) (Qc := fun sz => xQv D (wB ad cI cJ cZ) [7, 8] σ sz Q) (own := RX0) (cc := cX0_fill) (maxL := 3) (ret := none) (by decide) rfl rfl (Nat.le_of_ble_eq_true rfl) ?_
  intro p e s m args below meth c hargs C hr hnm
  show xX p l e rmX0_fill s m args below meth c D vwCl (va_A ((wB ad cI cJ cZ) σ) s.heap.size) (wB ad cI cJ cZ) [7, 8] σ 0 0 (MQ below (xQv D (wB ad cI cJ cZ) [7, 8] σ s.heap.size Q) args s 0 0 (va_A ((wB ad cI cJ cZ) σ) s.heap.size)) 3 σ 0 [(0, .ref (ad 7)), (1, .int (i32 a1)), (2, .int (i32 a2))] []
  unfold vX0_fill at hw
  refine xr_aload_n C 0 dX0_fill_0 rfl rfl ?_
  refine xr_iload_n C 1 dX0_fill_1 rfl rfl ?_
  refine xr_iconst C dX0_fill_2 ?_
  refine xr_iload_n C 2 dX0_fill_3 rfl rfl ?_
  refine xr_callVv C (ci := 0) (q0 := 0) (As := [.int (i32 a1), .int (i32 0), .int (i32 a2)]) (rest := []) (xSp_rf _ _) (by decide) (fun h => h) (mX0_put σ a1 0 a2 _ hw) (cwV 3 C.2.2.2.2.1 gX0_fill_X0_put rfl rfl rfl (by decide +kernel) ⟨by decide, by decide⟩) rfl rfl rfl rfl (Nat.le_of_ble_eq_true rfl) ⟨by decide, by decide⟩ dX0_fill_4 (fun σ2 hw => ?_)
  refine xr_aload_n C 0 dX0_fill_7 rfl rfl ?_
  refine xr_iload_n C 1 dX0_fill_8 rfl rfl ?_
  refine xr_iconst C dX0_fill_9 ?_
  refine xr_iconst C dX0_fill_10 ?_
  refine xr_callVv C (ci := 0) (q0 := 0) (As := [.int (i32 a1), .int (i32 1), .int (i32 0)]) (rest := []) (xSp_rf _ _) (by decide) (fun h => h) (mX0_put σ2 a1 1 0 _ hw) (cwV 3 C.2.2.2.2.1 gX0_fill_X0_put rfl rfl rfl (by decide +kernel) ⟨by decide, by decide⟩) rfl rfl rfl rfl (Nat.le_of_ble_eq_true rfl) ⟨by decide, by decide⟩ dX0_fill_11 (fun σ4 hw => ?_)
  refine xr_aload_n C 0 dX0_fill_14 rfl rfl ?_
  refine xr_iload_n C 1 dX0_fill_15 rfl rfl ?_
  refine xr_callVv C (ci := 0) (q0 := 0) (As := [.int (i32 a1)]) (rest := []) (xSp_rf _ _) (by decide) (fun h => h) (mX0_free σ4 a1 _ hw) (cwV 1 C.2.2.2.2.1 gX0_fill_X0_free rfl rfl rfl (by decide +kernel) ⟨by decide, by decide⟩) rfl rfl rfl rfl (Nat.le_of_ble_eq_true rfl) ⟨by decide, by decide⟩ dX0_fill_16 (fun σ6 hw => ?_)
  exact xr_vret C hr hw dX0_fill_19
abbrev rmX0_makeKind : Room := { frames := 2, cells := 0, slots := 0, locals := 108 }
set_option maxHeartbeats 8000000 in
set_option maxRecDepth 100000 in
theorem mX0_makeKind {l : Launch} {D : va_G} {ad : Nat → Nat} {cI cJ cZ : ClassId} (σ : xS) (a1 a2 a3 : Int) (Q : xS → Prop) (hw : vX0_makeKind a1 a2 a3 σ Q) : xMv False l yX0_makeKind wsX0_makeKind rmX0_makeKind D (xtys cI cJ cZ) (wB ad cI cJ cZ) [7, 8] σ [.ref (ad 7), .int (i32 a1), .int (i32 a2), .int (i32 a3)] Q := by
  refine xenter (F := [7, 8]) (Qc := fun sz => xQv D (wB ad cI cJ cZ) [7, 8] σ sz Q) (own := RX0) (cc := cX0_makeKind) (maxL := 4) (ret := none) (by decide) rfl rfl (Nat.le_of_ble_eq_true rfl) ?_
  intro p e s m args below meth c hargs C hr hnm
  show xX p l e rmX0_makeKind s m args below meth c D vwCl (va_A ((wB ad cI cJ cZ) σ) s.heap.size) (wB ad cI cJ cZ) [7, 8] σ 0 0 (MQ below (xQv D (wB ad cI cJ cZ) [7, 8] σ s.heap.size Q) args s 0 0 (va_A ((wB ad cI cJ cZ) σ) s.heap.size)) 4 σ 0 [(0, .ref (ad 7)), (1, .int (i32 a1)), (2, .int (i32 a2)), (3, .int (i32 a3))] []
  unfold vX0_makeKind at hw
  refine xr_aload_n C 0 dX0_makeKind_0 rfl rfl ?_
  refine xr_iload_n C 1 dX0_makeKind_1 rfl rfl ?_
  refine xr_iconst C dX0_makeKind_2 ?_
  refine xr_iload_n C 2 dX0_makeKind_3 rfl rfl ?_
  refine xr_callVv C (ci := 0) (q0 := 0) (As := [.int (i32 a1), .int (i32 2), .int (i32 a2)]) (rest := []) (xSp_rf _ _) (by decide) (fun h => h) (mX0_put σ a1 2 a2 _ hw) (cwV 3 C.2.2.2.2.1 gX0_makeKind_X0_put rfl rfl rfl (by decide +kernel) ⟨by decide, by decide⟩) rfl rfl rfl rfl (Nat.le_of_ble_eq_true rfl) ⟨by decide, by decide⟩ dX0_makeKind_4 (fun σ2 hw => ?_)
  refine xr_aload_n C 0 dX0_makeKind_7 rfl rfl ?_
  refine xr_iload_n C 1 dX0_makeKind_8 rfl rfl ?_
  refine xr_iconst C dX0_makeKind_9 ?_
  refine xr_iload_n C 3 dX0_makeKind_10 rfl rfl ?_
  refine xr_callVv C (ci := 0) (q0 := 0) (As := [.int (i32 a1), .int (i32 3), .int (i32 a3)]) (rest := []) (xSp_rf _ _) (by decide) (fun h => h) (mX0_put σ2 a1 3 a3 _ hw) (cwV 3 C.2.2.2.2.1 gX0_makeKind_X0_put rfl rfl rfl (by decide +kernel) ⟨by decide, by decide⟩) rfl rfl rfl rfl (Nat.le_of_ble_eq_true rfl) ⟨by decide, by decide⟩ dX0_makeKind_11 (fun σ4 hw => ?_)
  refine xr_aload_n C 0 dX0_makeKind_14 rfl rfl ?_
  refine xr_iload_n C 1 dX0_makeKind_15 rfl rfl ?_
  refine xr_callVv C (ci := 0) (q0 := 0) (As := [.int (i32 a1)]) (rest := []) (xSp_rf _ _) (by decide) (fun h => h) (mX0_free σ4 a1 _ hw) (cwV 1 C.2.2.2.2.1 gX0_makeKind_X0_free rfl rfl rfl (by decide +kernel) ⟨by decide, by decide⟩) rfl rfl rfl rfl (Nat.le_of_ble_eq_true rfl) ⟨by decide, by decide⟩ dX0_makeKind_16 (fun σ6 hw => ?_)
  exact xr_vret C hr hw dX0_makeKind_19
abbrev rmX0_renew : Room := { frames := 3, cells := 0, slots := 0, locals := 131 }
set_option maxHeartbeats 8000000 in
set_option maxRecDepth 100000 in
theorem mX0_renew {l : Launch} {D : va_G} {ad : Nat → Nat} {cI cJ cZ : ClassId} (σ : xS) (a1 : Int) (Q : xS → Prop) (hw : vX0_renew a1 σ Q) : xMv False l yX0_renew wsX0_renew rmX0_renew D (xtys cI cJ cZ) (wB ad cI cJ cZ) [7, 8] σ [.ref (ad 7), .int (i32 a1)] Q := by
  refine xenter (F := [7, 8]) (Qc := fun sz => xQv D (wB ad cI cJ cZ) [7, 8] σ sz Q) (own := RX0) (cc := cX0_renew) (maxL := 4) (ret := none) (by decide) rfl rfl (Nat.le_of_ble_eq_true rfl) ?_
  intro p e s m args below meth c hargs C hr hnm
  have hinX0 : ∀ w ∈ u_ws RX0 TX0 1, w ∈ wsX0_renew := fun _ h => List.mem_cons_of_mem _ (List.mem_append_right _ h)
  have m0 : (Cond.fieldLink RX0 11 "SandBench$Bench" "cells" "[I") ∈ wsX0_renew := by decide +kernel
  have B40 : ∀ (K18 : Int × Int × Int × xS → Prop) (hK18 : ∀ a, K18 a → xX p l e rmX0_renew s m args below meth c D vwCl (va_A ((wB ad cI cJ cZ) σ) s.heap.size) (wB ad cI cJ cZ) [7, 8] σ 0 0 (MQ below (xQv D (wB ad cI cJ cZ) [7, 8] σ s.heap.size Q) args s 0 0 (va_A ((wB ad cI cJ cZ) σ) s.heap.size)) 4 (a.2.2.2) 18 [(0, .ref (ad 7)), (1, .int (i32 (a.1))), (2, .int (i32 (a.2.1))), (3, .int (i32 (a.2.2.1)))] []) (x1 x2 x3 y1 y2 : Int) (σ0 : xS), vX0_renew_40 K18 Q x1 x2 x3 y1 y2 σ0 → xX p l e rmX0_renew s m args below meth c D vwCl (va_A ((wB ad cI cJ cZ) σ) s.heap.size) (wB ad cI cJ cZ) [7, 8] σ 0 0 (MQ below (xQv D (wB ad cI cJ cZ) [7, 8] σ s.heap.size Q) args s 0 0 (va_A ((wB ad cI cJ cZ) σ) s.heap.size)) 4 σ0 40 [(0, .ref (ad 7)), (1, .int (i32 x1)), (2, .int (i32 x2)), (3, .int (i32 x3))] [.int (i32 y2), .int (i32 y1), .ref (ad 7)] := by
    intro K18 hK18 x1 x2 x3 y1 y2 σ0 hw
    unfold vX0_renew_40 at hw
    refine xr_callVv C (ci := 0) (q0 := 0) (As := [.int (i32 y1), .int (i32 y2)]) (rest := []) (xSp_rf _ _) (by decide) (fun h => h) (mX0_fill σ0 y1 y2 _ hw) (cwV 2 C.2.2.2.2.1 gX0_renew_X0_fill rfl rfl rfl (by decide +kernel) ⟨by decide, by decide⟩) rfl rfl rfl rfl (Nat.le_of_ble_eq_true rfl) ⟨by decide, by decide⟩ dX0_renew_40 (fun σ2 hw => ?_)
    refine xr_aload_n C 0 dX0_renew_43 rfl rfl ?_
    refine xr_iload_n C 3 dX0_renew_44 rfl rfl ?_
    refine xr_iconst C dX0_renew_45 ?_
    refine xr_iconst C dX0_renew_46 ?_
    refine xr_callVv C (ci := 0) (q0 := 0) (As := [.int (i32 x3), .int (i32 0), .int (i32 3)]) (rest := []) (xSp_rf _ _) (by decide) (fun h => h) (mX0_makeKind σ2 x3 0 3 _ hw) (cwV 3 C.2.2.2.2.1 gX0_renew_X0_makeKind rfl rfl rfl (by decide +kernel) ⟨by decide, by decide⟩) rfl rfl rfl rfl (Nat.le_of_ble_eq_true rfl) ⟨by decide, by decide⟩ dX0_renew_47 (fun σ4 hw => ?_)
    refine xr_aload_n C 0 dX0_renew_50 rfl rfl ?_
    refine xr_iload_n C 3 dX0_renew_51 rfl rfl ?_
    refine xr_iconst C dX0_renew_52 ?_
    refine xr_iload_n C 3 dX0_renew_53 rfl rfl ?_
    refine xr_callVv C (ci := 0) (q0 := 0) (As := [.int (i32 x3), .int (i32 5), .int (i32 x3)]) (rest := []) (xSp_rf _ _) (by decide) (fun h => h) (mX0_put σ4 x3 5 x3 _ hw) (cwV 3 C.2.2.2.2.1 gX0_renew_X0_put rfl rfl rfl (by decide +kernel) ⟨by decide, by decide⟩) rfl rfl rfl rfl (Nat.le_of_ble_eq_true rfl) ⟨by decide, by decide⟩ dX0_renew_54 (fun σ6 hw => ?_)
    refine xr_iinc C 3 [(0, .ref (ad 7)), (1, .int (i32 x1)), (2, .int (i32 x2)), (3, .int (i32 (x3 + 1)))] dX0_renew_57 rfl (by decide) rfl ?_
    refine xr_goto C 18 dX0_renew_60 (by decide) ?_
    exact hK18 (x1, x2, (x3 + 1), σ6) hw
  have L18 : ∀ a, mu (vX0_renew_18  Q) a → xX p l e rmX0_renew s m args below meth c D vwCl (va_A ((wB ad cI cJ cZ) σ) s.heap.size) (wB ad cI cJ cZ) [7, 8] σ 0 0 (MQ below (xQv D (wB ad cI cJ cZ) [7, 8] σ s.heap.size Q) args s 0 0 (va_A ((wB ad cI cJ cZ) σ) s.heap.size)) 4 (a.2.2.2) 18 [(0, .ref (ad 7)), (1, .int (i32 (a.1))), (2, .int (i32 (a.2.1))), (3, .int (i32 (a.2.2.1)))] [] := by
    refine mu_ind (fun K18 hK18 a hw => ?_)
    obtain ⟨x1, x2, x3, σ0⟩ := a
    show xX p l e rmX0_renew s m args below meth c D vwCl (va_A ((wB ad cI cJ cZ) σ) s.heap.size) (wB ad cI cJ cZ) [7, 8] σ 0 0 (MQ below (xQv D (wB ad cI cJ cZ) [7, 8] σ s.heap.size Q) args s 0 0 (va_A ((wB ad cI cJ cZ) σ) s.heap.size)) 4 σ0 18 [(0, .ref (ad 7)), (1, .int (i32 x1)), (2, .int (i32 x2)), (3, .int (i32 x3))] []
    unfold vX0_renew_18 at hw
    refine xr_iload_n C 3 dX0_renew_18 rfl rfl ?_
    refine xr_iload_n C 1 dX0_renew_19 rfl rfl ?_
    obtain ⟨g7, hw⟩ := hw
    obtain ⟨g8, hw⟩ := hw
    refine xr_icmp_ge C g7 g8 63 dX0_renew_20 (by decide) (fun c9 => ?_) (fun c9 => ?_)
    · have hw := hw.1 c9
      exact xr_vret C hr hw dX0_renew_63
    · have hw := hw.2 c9
      refine xr_aload_n C 0 dX0_renew_23 rfl rfl ?_
      refine xr_iload_n C 3 dX0_renew_24 rfl rfl ?_
      refine xr_iload_n C 3 dX0_renew_25 rfl rfl ?_
      refine xr_iload_n C 2 dX0_renew_26 rfl rfl ?_
      obtain ⟨g10, hw⟩ := hw
      refine xr_icmp_ge C g7 g10 39 dX0_renew_27 (by decide) (fun c11 => ?_) (fun c11 => ?_)
      · have hw := hw.1 c11
        refine xr_iconst C dX0_renew_39 ?_
        exact B40 K18 hK18 x1 x2 x3 x3 5 σ0 hw
      · have hw := hw.2 c11
        refine xr_aload_n C 0 dX0_renew_30 rfl rfl ?_
        refine xr_iload_n C 3 dX0_renew_31 rfl rfl ?_
        refine xr_iconst C dX0_renew_32 ?_
        refine xr_callVi C (ci := 0) (q0 := 0) (As := [.int (i32 x3), .int (i32 0)]) (rest := [.int (i32 x3), .ref (ad 7)]) (xSp_rf _ _) (by decide) (fun h => h) (mX0_property σ0 x3 0 _ hw) (cwV 2 C.2.2.2.2.1 gX0_renew_X0_property rfl rfl rfl (by decide +kernel) ⟨by decide, by decide⟩) rfl rfl rfl rfl (Nat.le_of_ble_eq_true rfl) ⟨by decide, by decide⟩ dX0_renew_33 (fun r12 σ13 hw => ?_)
        refine xr_goto C 40 dX0_renew_36 (by decide) ?_
        exact B40 K18 hK18 x1 x2 x3 x3 r12 σ13 hw
  show xX p l e rmX0_renew s m args below meth c D vwCl (va_A ((wB ad cI cJ cZ) σ) s.heap.size) (wB ad cI cJ cZ) [7, 8] σ 0 0 (MQ below (xQv D (wB ad cI cJ cZ) [7, 8] σ s.heap.size Q) args s 0 0 (va_A ((wB ad cI cJ cZ) σ) s.heap.size)) 4 σ 0 [(0, .ref (ad 7)), (1, .int (i32 a1))] []
  unfold vX0_renew at hw
  refine xr_aload_n C 0 dX0_renew_0 rfl rfl ?_
  refine xr_get C hinX0 (N := 1) (ci := 0) (a := (ad 7)) 0 rfl rfl 0 (by decide) m0 rfl rfl dX0_renew_1 ?_
  refine xr_bipush C dX0_renew_4 (by decide +kernel) ?_
  refine xr_iald C (t0 := 0) 1 rfl rfl (by decide) (N := 63) rfl ⟨by decide, by decide⟩ dX0_renew_6 ?_
  refine xr_istore_n C [(0, .ref (ad 7)), (1, .int (i32 a1)), (2, .int (i32 (σ 8 57)))] dX0_renew_7 rfl (by decide) rfl ?_
  refine xr_aload_n C 0 dX0_renew_8 rfl rfl ?_
  refine xr_get C hinX0 (N := 1) (ci := 0) (a := (ad 7)) 0 rfl rfl 0 (by decide) m0 rfl rfl dX0_renew_9 ?_
  refine xr_bipush C dX0_renew_12 (by decide +kernel) ?_
  refine xr_iload_n C 1 dX0_renew_14 rfl rfl ?_
  refine xr_iast C (t0 := 0) (r := 8) 1 rfl rfl (by decide) (N := 63) rfl ⟨by decide, by decide⟩ wB_st8 (by decide) dX0_renew_15 ?_
  refine xr_sig (fun σ14 e15 => ?_)
  have hw := hw σ14 e15
  refine xr_iconst C dX0_renew_16 ?_
  refine xr_istore_n C [(0, .ref (ad 7)), (1, .int (i32 a1)), (2, .int (i32 (σ 8 57))), (3, .int (i32 0))] dX0_renew_17 rfl (by decide) rfl ?_
  exact L18 (a1, (σ 8 57), 0, σ14) hw
abbrev rmX0_has : Room := { frames := 1, cells := 0, slots := 0, locals := 84 }
set_option maxHeartbeats 8000000 in
set_option maxRecDepth 100000 in
theorem mX0_has {l : Launch} {D : va_G} {ad : Nat → Nat} {cI cJ cZ : ClassId} (σ : xS) (a1 : Int) (Q : Int → xS → Prop) (hw : vX0_has a1 σ Q) : xMi False l yX0_has wsX0_has rmX0_has D (xtys cI cJ cZ) (wB ad cI cJ cZ) [7, 8] σ [.ref (ad 7), .int (i32 a1)] Q := by
  refine xenter (F := [7, 8]) (Qc := fun sz => xQi D (wB ad cI cJ cZ) [7, 8] σ sz Q) (own := RX0) (cc := cX0_has) (maxL := 2) (ret := some .boolean) (by decide) rfl rfl (Nat.le_of_ble_eq_true rfl) ?_
  intro p e s m args below meth c hargs C hr hnm
  show xX p l e rmX0_has s m args below meth c D vwCl (va_A ((wB ad cI cJ cZ) σ) s.heap.size) (wB ad cI cJ cZ) [7, 8] σ 0 0 (MQ below (xQi D (wB ad cI cJ cZ) [7, 8] σ s.heap.size Q) args s 0 0 (va_A ((wB ad cI cJ cZ) σ) s.heap.size)) 2 σ 0 [(0, .ref (ad 7)), (1, .int (i32 a1))] []
  unfold vX0_has at hw
  refine xr_iload_n C 1 dX0_has_0 rfl rfl ?_
  obtain ⟨g1, hw⟩ := hw
  refine xr_if_lt C g1 16 dX0_has_1 (by decide) (fun c2 => ?_) (fun c2 => ?_)
  · have hw := hw.1 c2
    refine xr_iconst C dX0_has_16 ?_
    exact xr_zret C hr (Or.inl rfl) hw dX0_has_17
  · have hw := hw.2 c2
    refine xr_iload_n C 1 dX0_has_4 rfl rfl ?_
    refine xr_aload_n C 0 dX0_has_5 rfl rfl ?_
    refine xr_callVi C (ci := 0) (q0 := 0) (As := []) (rest := [.int (i32 a1)]) (xSp_rf _ _) (by decide) (fun h => h) (mX0_glasses σ _ hw) (cwV 0 C.2.2.2.2.1 gX0_has_X0_glasses rfl rfl rfl (by decide +kernel) ⟨by decide, by decide⟩) rfl rfl rfl rfl (Nat.le_of_ble_eq_true rfl) ⟨by decide, by decide⟩ dX0_has_6 (fun r3 σ4 hw => ?_)
    obtain ⟨g5, hw⟩ := hw
    refine xr_icmp_ge C g1 g5 16 dX0_has_9 (by decide) (fun c6 => ?_) (fun c6 => ?_)
    · have hw := hw.1 c6
      refine xr_iconst C dX0_has_16 ?_
      exact xr_zret C hr (Or.inl rfl) hw dX0_has_17
    · have hw := hw.2 c6
      refine xr_iconst C dX0_has_12 ?_
      refine xr_goto C 17 dX0_has_13 (by decide) ?_
      exact xr_zret C hr (Or.inr rfl) hw dX0_has_17
abbrev rmX0_join : Room := { frames := 1, cells := 0, slots := 0, locals := 87 }
set_option maxHeartbeats 8000000 in
set_option maxRecDepth 100000 in
theorem mX0_join {l : Launch} {D : va_G} {ad : Nat → Nat} {cI cJ cZ : ClassId} (σ : xS) (a1 a2 : Int) (Q : xS → Prop) (hw : vX0_join a1 a2 σ Q) : xMv False l yX0_join wsX0_join rmX0_join D (xtys cI cJ cZ) (wB ad cI cJ cZ) [7, 8] σ [.ref (ad 7), .int (i32 a1), .int (i32 a2)] Q := by
  refine xenter (F := [7, 8]) (Qc := fun sz => xQv D (wB ad cI cJ cZ) [7, 8] σ sz Q) (own := RX0) (cc := cX0_join) (maxL := 5) (ret := none) (by decide) rfl rfl (Nat.le_of_ble_eq_true rfl) ?_
  intro p e s m args below meth c hargs C hr hnm
  have m0 : (Cond.methodLink RX0 33 Lib.Math.min.name) ∈ wsX0_join := by decide +kernel
  have m1 : (Cond.static Lib.Math.min.name) ∈ wsX0_join := by decide +kernel
  have m2 : (Cond.initialized "java/lang/Math") ∈ wsX0_join := by decide +kernel
  have m3 : (Cond.code Lib.Math.min.name Lib.Math.min.code 2 (some .int)) ∈ wsX0_join := by decide +kernel
  have B40 : ∀ (K9 : Int × Int × Int × Int × xS → Prop) (hK9 : ∀ a, K9 a → xX p l e rmX0_join s m args below meth c D vwCl (va_A ((wB ad cI cJ cZ) σ) s.heap.size) (wB ad cI cJ cZ) [7, 8] σ 0 0 (MQ below (xQv D (wB ad cI cJ cZ) [7, 8] σ s.heap.size Q) args s 0 0 (va_A ((wB ad cI cJ cZ) σ) s.heap.size)) 5 (a.2.2.2.2) 9 [(0, .ref (ad 7)), (1, .int (i32 (a.1))), (2, .int (i32 (a.2.1))), (3, .int (i32 (a.2.2.1))), (4, .int (i32 (a.2.2.2.1)))] []) (x1 x2 x3 x4 : Int) (σ0 : xS), vX0_join_40 K9 Q x1 x2 x3 x4 σ0 → xX p l e rmX0_join s m args below meth c D vwCl (va_A ((wB ad cI cJ cZ) σ) s.heap.size) (wB ad cI cJ cZ) [7, 8] σ 0 0 (MQ below (xQv D (wB ad cI cJ cZ) [7, 8] σ s.heap.size Q) args s 0 0 (va_A ((wB ad cI cJ cZ) σ) s.heap.size)) 5 σ0 40 [(0, .ref (ad 7)), (1, .int (i32 x1)), (2, .int (i32 x2)), (3, .int (i32 x3)), (4, .int (i32 x4))] [] := by
    intro K9 hK9 x1 x2 x3 x4 σ0 hw
    unfold vX0_join_40 at hw
    refine xr_aload_n C 0 dX0_join_40 rfl rfl ?_
    refine xr_iload C 4 dX0_join_41 rfl ?_
    refine xr_iconst C dX0_join_43 ?_
    refine xr_iload_n C 3 dX0_join_44 rfl rfl ?_
    refine xr_callVv C (ci := 0) (q0 := 0) (As := [.int (i32 x4), .int (i32 5), .int (i32 x3)]) (rest := []) (xSp_rf _ _) (by decide) (fun h => h) (mX0_put σ0 x4 5 x3 _ hw) (cwV 3 C.2.2.2.2.1 gX0_join_X0_put rfl rfl rfl (by decide +kernel) ⟨by decide, by decide⟩) rfl rfl rfl rfl (Nat.le_of_ble_eq_true rfl) ⟨by decide, by decide⟩ dX0_join_45 (fun σ2 hw => ?_)
    refine xr_iinc C 4 [(0, .ref (ad 7)), (1, .int (i32 x1)), (2, .int (i32 x2)), (3, .int (i32 x3)), (4, .int (i32 (x4 + 1)))] dX0_join_48 rfl (by decide) rfl ?_
    refine xr_goto C 9 dX0_join_51 (by decide) ?_
    exact hK9 (x1, x2, x3, (x4 + 1), σ2) hw
  have L9 : ∀ a, mu (vX0_join_9  Q) a → xX p l e rmX0_join s m args below meth c D vwCl (va_A ((wB ad cI cJ cZ) σ) s.heap.size) (wB ad cI cJ cZ) [7, 8] σ 0 0 (MQ below (xQv D (wB ad cI cJ cZ) [7, 8] σ s.heap.size Q) args s 0 0 (va_A ((wB ad cI cJ cZ) σ) s.heap.size)) 5 (a.2.2.2.2) 9 [(0, .ref (ad 7)), (1, .int (i32 (a.1))), (2, .int (i32 (a.2.1))), (3, .int (i32 (a.2.2.1))), (4, .int (i32 (a.2.2.2.1)))] [] := by
    refine mu_ind (fun K9 hK9 a hw => ?_)
    obtain ⟨x1, x2, x3, x4, σ0⟩ := a
    show xX p l e rmX0_join s m args below meth c D vwCl (va_A ((wB ad cI cJ cZ) σ) s.heap.size) (wB ad cI cJ cZ) [7, 8] σ 0 0 (MQ below (xQv D (wB ad cI cJ cZ) [7, 8] σ s.heap.size Q) args s 0 0 (va_A ((wB ad cI cJ cZ) σ) s.heap.size)) 5 σ0 9 [(0, .ref (ad 7)), (1, .int (i32 x1)), (2, .int (i32 x2)), (3, .int (i32 x3)), (4, .int (i32 x4))] []
    unfold vX0_join_9 at hw
    refine xr_iload C 4 dX0_join_9 rfl ?_
    refine xr_aload_n C 0 dX0_join_11 rfl rfl ?_
    refine xr_callVi C (ci := 0) (q0 := 0) (As := []) (rest := [.int (i32 x4)]) (xSp_rf _ _) (by decide) (fun h => h) (mX0_glasses σ0 _ hw) (cwV 0 C.2.2.2.2.1 gX0_join_X0_glasses rfl rfl rfl (by decide +kernel) ⟨by decide, by decide⟩) rfl rfl rfl rfl (Nat.le_of_ble_eq_true rfl) ⟨by decide, by decide⟩ dX0_join_12 (fun r3 σ4 hw => ?_)
    obtain ⟨g5, hw⟩ := hw
    obtain ⟨g6, hw⟩ := hw
    refine xr_icmp_ge C g5 g6 54 dX0_join_15 (by decide) (fun c7 => ?_) (fun c7 => ?_)
    · have hw := hw.1 c7
      exact xr_vret C hr hw dX0_join_54
    · have hw := hw.2 c7
      refine xr_aload_n C 0 dX0_join_18 rfl rfl ?_
      refine xr_iload C 4 dX0_join_19 rfl ?_
      refine xr_iconst C dX0_join_21 ?_
      refine xr_callVi C (ci := 0) (q0 := 0) (As := [.int (i32 x4), .int (i32 5)]) (rest := []) (xSp_rf _ _) (by decide) (fun h => h) (mX0_property σ4 x4 5 _ hw) (cwV 2 C.2.2.2.2.1 gX0_join_X0_property rfl rfl rfl (by decide +kernel) ⟨by decide, by decide⟩) rfl rfl rfl rfl (Nat.le_of_ble_eq_true rfl) ⟨by decide, by decide⟩ dX0_join_22 (fun r8 σ9 hw => ?_)
      refine xr_iload_n C 1 dX0_join_25 rfl rfl ?_
      obtain ⟨g10, hw⟩ := hw
      obtain ⟨g11, hw⟩ := hw
      refine xr_icmp_eq C g10 g11 40 dX0_join_26 (by decide) (fun c12 => ?_) (fun c12 => ?_)
      · have hw := hw.1 c12
        exact B40 K9 hK9 x1 x2 x3 x4 σ9 hw
      · have hw := hw.2 c12
        refine xr_aload_n C 0 dX0_join_29 rfl rfl ?_
        refine xr_iload C 4 dX0_join_30 rfl ?_
        refine xr_iconst C dX0_join_32 ?_
        refine xr_callVi C (ci := 0) (q0 := 0) (As := [.int (i32 x4), .int (i32 5)]) (rest := []) (xSp_rf _ _) (by decide) (fun h => h) (mX0_property σ9 x4 5 _ hw) (cwV 2 C.2.2.2.2.1 gX0_join_X0_property rfl rfl rfl (by decide +kernel) ⟨by decide, by decide⟩) rfl rfl rfl rfl (Nat.le_of_ble_eq_true rfl) ⟨by decide, by decide⟩ dX0_join_33 (fun r13 σ14 hw => ?_)
        refine xr_iload_n C 2 dX0_join_36 rfl rfl ?_
        obtain ⟨g15, hw⟩ := hw
        obtain ⟨g16, hw⟩ := hw
        refine xr_icmp_ne C g15 g16 48 dX0_join_37 (by decide) (fun c17 => ?_) (fun c17 => ?_)
        · have hw := hw.1 c17
          refine xr_iinc C 4 [(0, .ref (ad 7)), (1, .int (i32 x1)), (2, .int (i32 x2)), (3, .int (i32 x3)), (4, .int (i32 (x4 + 1)))] dX0_join_48 rfl (by decide) rfl ?_
          refine xr_goto C 9 dX0_join_51 (by decide) ?_
          exact hK9 (x1, x2, x3, (x4 + 1), σ14) hw
        · have hw := hw.2 c17
          exact B40 K9 hK9 x1 x2 x3 x4 σ14 hw
  show xX p l e rmX0_join s m args below meth c D vwCl (va_A ((wB ad cI cJ cZ) σ) s.heap.size) (wB ad cI cJ cZ) [7, 8] σ 0 0 (MQ below (xQv D (wB ad cI cJ cZ) [7, 8] σ s.heap.size Q) args s 0 0 (va_A ((wB ad cI cJ cZ) σ) s.heap.size)) 5 σ 0 [(0, .ref (ad 7)), (1, .int (i32 a1)), (2, .int (i32 a2))] []
  unfold vX0_join at hw
  refine xr_iload_n C 1 dX0_join_0 rfl rfl ?_
  refine xr_iload_n C 2 dX0_join_1 rfl rfl ?_
  obtain ⟨g18, hw⟩ := hw
  obtain ⟨g19, hw⟩ := hw
  refine xr_min C g18 g19 m0 m1 m2 m3 (by decide) (Nat.le_of_ble_eq_true rfl) (by decide) (by decide) dX0_join_2 ?_
  refine xr_istore_n C [(0, .ref (ad 7)), (1, .int (i32 a1)), (2, .int (i32 a2)), (3, .int (i32 (jmin a1 a2)))] dX0_join_5 rfl (by decide) rfl ?_
  refine xr_iconst C dX0_join_6 ?_
  refine xr_istore C [(0, .ref (ad 7)), (1, .int (i32 a1)), (2, .int (i32 a2)), (3, .int (i32 (jmin a1 a2))), (4, .int (i32 0))] dX0_join_7 (by decide) rfl ?_
  exact L9 (a1, a2, (jmin a1 a2), 0, σ) hw
abbrev rmX0_glassesOf : Room := { frames := 1, cells := 0, slots := 0, locals := 86 }
set_option maxHeartbeats 8000000 in
set_option maxRecDepth 100000 in
theorem mX0_glassesOf {l : Launch} {D : va_G} {ad : Nat → Nat} {cI cJ cZ : ClassId} (σ : xS) (a1 : Int) (Q : Int → xS → Prop) (hw : vX0_glassesOf a1 σ Q) : xMi False l yX0_glassesOf wsX0_glassesOf rmX0_glassesOf D (xtys cI cJ cZ) (wB ad cI cJ cZ) [7, 8] σ [.ref (ad 7), .int (i32 a1)] Q := by
  refine xenter (F := [7, 8]) (Qc := fun sz => xQi D (wB ad cI cJ cZ) [7, 8] σ sz Q) (own := RX0) (cc := cX0_glassesOf) (maxL := 4) (ret := some .int) (by decide) rfl rfl (Nat.le_of_ble_eq_true rfl) ?_
  intro p e s m args below meth c hargs C hr hnm
  have L4 : ∀ a, mu (vX0_glassesOf_4  Q) a → xX p l e rmX0_glassesOf s m args below meth c D vwCl (va_A ((wB ad cI cJ cZ) σ) s.heap.size) (wB ad cI cJ cZ) [7, 8] σ 0 0 (MQ below (xQi D (wB ad cI cJ cZ) [7, 8] σ s.heap.size Q) args s 0 0 (va_A ((wB ad cI cJ cZ) σ) s.heap.size)) 4 (a.2.2.2) 4 [(0, .ref (ad 7)), (1, .int (i32 (a.1))), (2, .int (i32 (a.2.1))), (3, .int (i32 (a.2.2.1)))] [] := by
    refine mu_ind (fun K4 hK4 a hw => ?_)
    obtain ⟨x1, x2, x3, σ0⟩ := a
    show xX p l e rmX0_glassesOf s m args below meth c D vwCl (va_A ((wB ad cI cJ cZ) σ) s.heap.size) (wB ad cI cJ cZ) [7, 8] σ 0 0 (MQ below (xQi D (wB ad cI cJ cZ) [7, 8] σ s.heap.size Q) args s 0 0 (va_A ((wB ad cI cJ cZ) σ) s.heap.size)) 4 σ0 4 [(0, .ref (ad 7)), (1, .int (i32 x1)), (2, .int (i32 x2)), (3, .int (i32 x3))] []
    unfold vX0_glassesOf_4 at hw
    refine xr_iload_n C 3 dX0_glassesOf_4 rfl rfl ?_
    refine xr_aload_n C 0 dX0_glassesOf_5 rfl rfl ?_
    refine xr_callVi C (ci := 0) (q0 := 0) (As := []) (rest := [.int (i32 x3)]) (xSp_rf _ _) (by decide) (fun h => h) (mX0_glasses σ0 _ hw) (cwV 0 C.2.2.2.2.1 gX0_glassesOf_X0_glasses rfl rfl rfl (by decide +kernel) ⟨by decide, by decide⟩) rfl rfl rfl rfl (Nat.le_of_ble_eq_true rfl) ⟨by decide, by decide⟩ dX0_glassesOf_6 (fun r1 σ2 hw => ?_)
    obtain ⟨g3, hw⟩ := hw
    obtain ⟨g4, hw⟩ := hw
    refine xr_icmp_ge C g3 g4 31 dX0_glassesOf_9 (by decide) (fun c5 => ?_) (fun c5 => ?_)
    · have hw := hw.1 c5
      refine xr_iload_n C 2 dX0_glassesOf_31 rfl rfl ?_
      exact xr_iret C hr hw dX0_glassesOf_32
    · have hw := hw.2 c5
      refine xr_aload_n C 0 dX0_glassesOf_12 rfl rfl ?_
      refine xr_iload_n C 3 dX0_glassesOf_13 rfl rfl ?_
      refine xr_iconst C dX0_glassesOf_14 ?_
      refine xr_callVi C (ci := 0) (q0 := 0) (As := [.int (i32 x3), .int (i32 5)]) (rest := []) (xSp_rf _ _) (by decide) (fun h => h) (mX0_property σ2 x3 5 _ hw) (cwV 2 C.2.2.2.2.1 gX0_glassesOf_X0_property rfl rfl rfl (by decide +kernel) ⟨by decide, by decide⟩) rfl rfl rfl rfl (Nat.le_of_ble_eq_true rfl) ⟨by decide, by decide⟩ dX0_glassesOf_15 (fun r6 σ7 hw => ?_)
      refine xr_iload_n C 1 dX0_glassesOf_18 rfl rfl ?_
      obtain ⟨g8, hw⟩ := hw
      obtain ⟨g9, hw⟩ := hw
      refine xr_icmp_ne C g8 g9 25 dX0_glassesOf_19 (by decide) (fun c10 => ?_) (fun c10 => ?_)
      · have hw := hw.1 c10
        refine xr_iinc C 3 [(0, .ref (ad 7)), (1, .int (i32 x1)), (2, .int (i32 x2)), (3, .int (i32 (x3 + 1)))] dX0_glassesOf_25 rfl (by decide) rfl ?_
        refine xr_goto C 4 dX0_glassesOf_28 (by decide) ?_
        exact hK4 (x1, x2, (x3 + 1), σ7) hw
      · have hw := hw.2 c10
        refine xr_iinc C 2 [(0, .ref (ad 7)), (1, .int (i32 x1)), (2, .int (i32 (x2 + 1))), (3, .int (i32 x3))] dX0_glassesOf_22 rfl (by decide) rfl ?_
        refine xr_iinc C 3 [(0, .ref (ad 7)), (1, .int (i32 x1)), (2, .int (i32 (x2 + 1))), (3, .int (i32 (x3 + 1)))] dX0_glassesOf_25 rfl (by decide) rfl ?_
        refine xr_goto C 4 dX0_glassesOf_28 (by decide) ?_
        exact hK4 (x1, (x2 + 1), (x3 + 1), σ7) hw
  show xX p l e rmX0_glassesOf s m args below meth c D vwCl (va_A ((wB ad cI cJ cZ) σ) s.heap.size) (wB ad cI cJ cZ) [7, 8] σ 0 0 (MQ below (xQi D (wB ad cI cJ cZ) [7, 8] σ s.heap.size Q) args s 0 0 (va_A ((wB ad cI cJ cZ) σ) s.heap.size)) 4 σ 0 [(0, .ref (ad 7)), (1, .int (i32 a1))] []
  unfold vX0_glassesOf at hw
  refine xr_iconst C dX0_glassesOf_0 ?_
  refine xr_istore_n C [(0, .ref (ad 7)), (1, .int (i32 a1)), (2, .int (i32 0))] dX0_glassesOf_1 rfl (by decide) rfl ?_
  refine xr_iconst C dX0_glassesOf_2 ?_
  refine xr_istore_n C [(0, .ref (ad 7)), (1, .int (i32 a1)), (2, .int (i32 0)), (3, .int (i32 0))] dX0_glassesOf_3 rfl (by decide) rfl ?_
  exact L4 (a1, 0, 0, σ) hw
abbrev rmX0_scatter : Room := { frames := 1, cells := 0, slots := 0, locals := 87 }
set_option maxHeartbeats 8000000 in
set_option maxRecDepth 100000 in
theorem mX0_scatter {l : Launch} {D : va_G} {ad : Nat → Nat} {cI cJ cZ : ClassId} (σ : xS) (a1 : Int) (Q : xS → Prop) (hw : vX0_scatter a1 σ Q) : xMv False l yX0_scatter wsX0_scatter rmX0_scatter D (xtys cI cJ cZ) (wB ad cI cJ cZ) [7, 8] σ [.ref (ad 7), .int (i32 a1)] Q := by
  refine xenter (F := [7, 8]) (Qc := fun sz => xQv D (wB ad cI cJ cZ) [7, 8] σ sz Q) (own := RX0) (cc := cX0_scatter) (maxL := 3) (ret := none) (by decide) rfl rfl (Nat.le_of_ble_eq_true rfl) ?_
  intro p e s m args below meth c hargs C hr hnm
  have L2 : ∀ a, mu (vX0_scatter_2  Q) a → xX p l e rmX0_scatter s m args below meth c D vwCl (va_A ((wB ad cI cJ cZ) σ) s.heap.size) (wB ad cI cJ cZ) [7, 8] σ 0 0 (MQ below (xQv D (wB ad cI cJ cZ) [7, 8] σ s.heap.size Q) args s 0 0 (va_A ((wB ad cI cJ cZ) σ) s.heap.size)) 3 (a.2.2) 2 [(0, .ref (ad 7)), (1, .int (i32 (a.1))), (2, .int (i32 (a.2.1)))] [] := by
    refine mu_ind (fun K2 hK2 a hw => ?_)
    obtain ⟨x1, x2, σ0⟩ := a
    show xX p l e rmX0_scatter s m args below meth c D vwCl (va_A ((wB ad cI cJ cZ) σ) s.heap.size) (wB ad cI cJ cZ) [7, 8] σ 0 0 (MQ below (xQv D (wB ad cI cJ cZ) [7, 8] σ s.heap.size Q) args s 0 0 (va_A ((wB ad cI cJ cZ) σ) s.heap.size)) 3 σ0 2 [(0, .ref (ad 7)), (1, .int (i32 x1)), (2, .int (i32 x2))] []
    unfold vX0_scatter_2 at hw
    refine xr_iload_n C 2 dX0_scatter_2 rfl rfl ?_
    refine xr_aload_n C 0 dX0_scatter_3 rfl rfl ?_
    refine xr_callVi C (ci := 0) (q0 := 0) (As := []) (rest := [.int (i32 x2)]) (xSp_rf _ _) (by decide) (fun h => h) (mX0_glasses σ0 _ hw) (cwV 0 C.2.2.2.2.1 gX0_scatter_X0_glasses rfl rfl rfl (by decide +kernel) ⟨by decide, by decide⟩) rfl rfl rfl rfl (Nat.le_of_ble_eq_true rfl) ⟨by decide, by decide⟩ dX0_scatter_4 (fun r1 σ2 hw => ?_)
    obtain ⟨g3, hw⟩ := hw
    obtain ⟨g4, hw⟩ := hw
    refine xr_icmp_ge C g3 g4 33 dX0_scatter_7 (by decide) (fun c5 => ?_) (fun c5 => ?_)
    · have hw := hw.1 c5
      exact xr_vret C hr hw dX0_scatter_33
    · have hw := hw.2 c5
      refine xr_aload_n C 0 dX0_scatter_10 rfl rfl ?_
      refine xr_iload_n C 2 dX0_scatter_11 rfl rfl ?_
      refine xr_iconst C dX0_scatter_12 ?_
      refine xr_callVi C (ci := 0) (q0 := 0) (As := [.int (i32 x2), .int (i32 5)]) (rest := []) (xSp_rf _ _) (by decide) (fun h => h) (mX0_property σ2 x2 5 _ hw) (cwV 2 C.2.2.2.2.1 gX0_scatter_X0_property rfl rfl rfl (by decide +kernel) ⟨by decide, by decide⟩) rfl rfl rfl rfl (Nat.le_of_ble_eq_true rfl) ⟨by decide, by decide⟩ dX0_scatter_13 (fun r6 σ7 hw => ?_)
      refine xr_iload_n C 1 dX0_scatter_16 rfl rfl ?_
      obtain ⟨g8, hw⟩ := hw
      obtain ⟨g9, hw⟩ := hw
      refine xr_icmp_ne C g8 g9 27 dX0_scatter_17 (by decide) (fun c10 => ?_) (fun c10 => ?_)
      · have hw := hw.1 c10
        refine xr_iinc C 2 [(0, .ref (ad 7)), (1, .int (i32 x1)), (2, .int (i32 (x2 + 1)))] dX0_scatter_27 rfl (by decide) rfl ?_
        refine xr_goto C 2 dX0_scatter_30 (by decide) ?_
        exact hK2 (x1, (x2 + 1), σ7) hw
      · have hw := hw.2 c10
        refine xr_aload_n C 0 dX0_scatter_20 rfl rfl ?_
        refine xr_iload_n C 2 dX0_scatter_21 rfl rfl ?_
        refine xr_iconst C dX0_scatter_22 ?_
        refine xr_iload_n C 2 dX0_scatter_23 rfl rfl ?_
        refine xr_callVv C (ci := 0) (q0 := 0) (As := [.int (i32 x2), .int (i32 5), .int (i32 x2)]) (rest := []) (xSp_rf _ _) (by decide) (fun h => h) (mX0_put σ7 x2 5 x2 _ hw) (cwV 3 C.2.2.2.2.1 gX0_scatter_X0_put rfl rfl rfl (by decide +kernel) ⟨by decide, by decide⟩) rfl rfl rfl rfl (Nat.le_of_ble_eq_true rfl) ⟨by decide, by decide⟩ dX0_scatter_24 (fun σ12 hw => ?_)
        refine xr_iinc C 2 [(0, .ref (ad 7)), (1, .int (i32 x1)), (2, .int (i32 (x2 + 1)))] dX0_scatter_27 rfl (by decide) rfl ?_
        refine xr_goto C 2 dX0_scatter_30 (by decide) ?_
        exact hK2 (x1, (x2 + 1), σ12) hw
  show xX p l e rmX0_scatter s m args below meth c D vwCl (va_A ((wB ad cI cJ cZ) σ) s.heap.size) (wB ad cI cJ cZ) [7, 8] σ 0 0 (MQ below (xQv D (wB ad cI cJ cZ) [7, 8] σ s.heap.size Q) args s 0 0 (va_A ((wB ad cI cJ cZ) σ) s.heap.size)) 3 σ 0 [(0, .ref (ad 7)), (1, .int (i32 a1))] []
  unfold vX0_scatter at hw
  refine xr_iconst C dX0_scatter_0 ?_
  refine xr_istore_n C [(0, .ref (ad 7)), (1, .int (i32 a1)), (2, .int (i32 0))] dX0_scatter_1 rfl (by decide) rfl ?_
  exact L2 (a1, 0, σ) hw
abbrev rmX0_stacks : Room := { frames := 1, cells := 0, slots := 0, locals := 86 }
set_option maxHeartbeats 8000000 in
set_option maxRecDepth 100000 in
theorem mX0_stacks {l : Launch} {D : va_G} {ad : Nat → Nat} {cI cJ cZ : ClassId} (σ : xS) (Q : Int → xS → Prop) (hw : vX0_stacks σ Q) : xMi False l yX0_stacks wsX0_stacks rmX0_stacks D (xtys cI cJ cZ) (wB ad cI cJ cZ) [7, 8] σ [.ref (ad 7)] Q := by
  refine xenter (F := [7, 8]) (Qc := fun sz => xQi D (wB ad cI cJ cZ) [7, 8] σ sz Q) (own := RX0) (cc := cX0_stacks) (maxL := 3) (ret := some .int) (by decide) rfl rfl (Nat.le_of_ble_eq_true rfl) ?_
  intro p e s m args below meth c hargs C hr hnm
  have L4 : ∀ a, mu (vX0_stacks_4  Q) a → xX p l e rmX0_stacks s m args below meth c D vwCl (va_A ((wB ad cI cJ cZ) σ) s.heap.size) (wB ad cI cJ cZ) [7, 8] σ 0 0 (MQ below (xQi D (wB ad cI cJ cZ) [7, 8] σ s.heap.size Q) args s 0 0 (va_A ((wB ad cI cJ cZ) σ) s.heap.size)) 3 (a.2.2) 4 [(0, .ref (ad 7)), (1, .int (i32 (a.1))), (2, .int (i32 (a.2.1)))] [] := by
    refine mu_ind (fun K4 hK4 a hw => ?_)
    obtain ⟨x1, x2, σ0⟩ := a
    show xX p l e rmX0_stacks s m args below meth c D vwCl (va_A ((wB ad cI cJ cZ) σ) s.heap.size) (wB ad cI cJ cZ) [7, 8] σ 0 0 (MQ below (xQi D (wB ad cI cJ cZ) [7, 8] σ s.heap.size Q) args s 0 0 (va_A ((wB ad cI cJ cZ) σ) s.heap.size)) 3 σ0 4 [(0, .ref (ad 7)), (1, .int (i32 x1)), (2, .int (i32 x2))] []
    unfold vX0_stacks_4 at hw
    refine xr_iload_n C 2 dX0_stacks_4 rfl rfl ?_
    refine xr_aload_n C 0 dX0_stacks_5 rfl rfl ?_
    refine xr_callVi C (ci := 0) (q0 := 0) (As := []) (rest := [.int (i32 x2)]) (xSp_rf _ _) (by decide) (fun h => h) (mX0_glasses σ0 _ hw) (cwV 0 C.2.2.2.2.1 gX0_stacks_X0_glasses rfl rfl rfl (by decide +kernel) ⟨by decide, by decide⟩) rfl rfl rfl rfl (Nat.le_of_ble_eq_true rfl) ⟨by decide, by decide⟩ dX0_stacks_6 (fun r1 σ2 hw => ?_)
    obtain ⟨g3, hw⟩ := hw
    obtain ⟨g4, hw⟩ := hw
    refine xr_icmp_ge C g3 g4 31 dX0_stacks_9 (by decide) (fun c5 => ?_) (fun c5 => ?_)
    · have hw := hw.1 c5
      refine xr_iload_n C 1 dX0_stacks_31 rfl rfl ?_
      exact xr_iret C hr hw dX0_stacks_32
    · have hw := hw.2 c5
      refine xr_aload_n C 0 dX0_stacks_12 rfl rfl ?_
      refine xr_iload_n C 2 dX0_stacks_13 rfl rfl ?_
      refine xr_iconst C dX0_stacks_14 ?_
      refine xr_callVi C (ci := 0) (q0 := 0) (As := [.int (i32 x2), .int (i32 5)]) (rest := []) (xSp_rf _ _) (by decide) (fun h => h) (mX0_property σ2 x2 5 _ hw) (cwV 2 C.2.2.2.2.1 gX0_stacks_X0_property rfl rfl rfl (by decide +kernel) ⟨by decide, by decide⟩) rfl rfl rfl rfl (Nat.le_of_ble_eq_true rfl) ⟨by decide, by decide⟩ dX0_stacks_15 (fun r6 σ7 hw => ?_)
      refine xr_iload_n C 2 dX0_stacks_18 rfl rfl ?_
      obtain ⟨g8, hw⟩ := hw
      refine xr_icmp_ne C g8 g3 25 dX0_stacks_19 (by decide) (fun c9 => ?_) (fun c9 => ?_)
      · have hw := hw.1 c9
        refine xr_iinc C 2 [(0, .ref (ad 7)), (1, .int (i32 x1)), (2, .int (i32 (x2 + 1)))] dX0_stacks_25 rfl (by decide) rfl ?_
        refine xr_goto C 4 dX0_stacks_28 (by decide) ?_
        exact hK4 (x1, (x2 + 1), σ7) hw
      · have hw := hw.2 c9
        refine xr_iinc C 1 [(0, .ref (ad 7)), (1, .int (i32 (x1 + 1))), (2, .int (i32 x2))] dX0_stacks_22 rfl (by decide) rfl ?_
        refine xr_iinc C 2 [(0, .ref (ad 7)), (1, .int (i32 (x1 + 1))), (2, .int (i32 (x2 + 1)))] dX0_stacks_25 rfl (by decide) rfl ?_
        refine xr_goto C 4 dX0_stacks_28 (by decide) ?_
        exact hK4 ((x1 + 1), (x2 + 1), σ7) hw
  show xX p l e rmX0_stacks s m args below meth c D vwCl (va_A ((wB ad cI cJ cZ) σ) s.heap.size) (wB ad cI cJ cZ) [7, 8] σ 0 0 (MQ below (xQi D (wB ad cI cJ cZ) [7, 8] σ s.heap.size Q) args s 0 0 (va_A ((wB ad cI cJ cZ) σ) s.heap.size)) 3 σ 0 [(0, .ref (ad 7))] []
  unfold vX0_stacks at hw
  refine xr_iconst C dX0_stacks_0 ?_
  refine xr_istore_n C [(0, .ref (ad 7)), (1, .int (i32 0))] dX0_stacks_1 rfl (by decide) rfl ?_
  refine xr_iconst C dX0_stacks_2 ?_
  refine xr_istore_n C [(0, .ref (ad 7)), (1, .int (i32 0)), (2, .int (i32 0))] dX0_stacks_3 rfl (by decide) rfl ?_
  exact L4 (0, 0, σ) hw
abbrev rmX0_turnStackOf : Room := { frames := 2, cells := 0, slots := 0, locals := 108 }
set_option maxHeartbeats 8000000 in
set_option maxRecDepth 100000 in
theorem mX0_turnStackOf {l : Launch} {D : va_G} {ad : Nat → Nat} {cI cJ cZ : ClassId} (σ : xS) (a1 : Int) (Q : xS → Prop) (hw : vX0_turnStackOf a1 σ Q) : xMv False l yX0_turnStackOf wsX0_turnStackOf rmX0_turnStackOf D (xtys cI cJ cZ) (wB ad cI cJ cZ) [7, 8] σ [.ref (ad 7), .int (i32 a1)] Q := by
  refine xenter (F := [7, 8]) (Qc := fun sz => xQv D (wB ad cI cJ cZ) [7, 8] σ sz Q) (own := RX0) (cc := cX0_turnStackOf) (maxL := 4) (ret := none) (by decide) rfl rfl (Nat.le_of_ble_eq_true rfl) ?_
  intro p e s m args below meth c hargs C hr hnm
  have hinX0 : ∀ w ∈ u_ws RX0 TX0 1, w ∈ wsX0_turnStackOf := fun _ h => List.mem_cons_of_mem _ (List.mem_append_right _ h)
  have m0 : (Cond.fieldLink RX0 11 "SandBench$Bench" "cells" "[I") ∈ wsX0_turnStackOf := by decide +kernel
  have L9 : ∀ a, mu (vX0_turnStackOf_9  Q) a → xX p l e rmX0_turnStackOf s m args below meth c D vwCl (va_A ((wB ad cI cJ cZ) σ) s.heap.size) (wB ad cI cJ cZ) [7, 8] σ 0 0 (MQ below (xQv D (wB ad cI cJ cZ) [7, 8] σ s.heap.size Q) args s 0 0 (va_A ((wB ad cI cJ cZ) σ) s.heap.size)) 4 (a.2.2) 9 [(0, .ref (ad 7)), (2, .int (i32 (a.1))), (3, .int (i32 (a.2.1)))] [] := by
    refine mu_ind (fun K9 hK9 a hw => ?_)
    obtain ⟨x2, x3, σ0⟩ := a
    show xX p l e rmX0_turnStackOf s m args below meth c D vwCl (va_A ((wB ad cI cJ cZ) σ) s.heap.size) (wB ad cI cJ cZ) [7, 8] σ 0 0 (MQ below (xQv D (wB ad cI cJ cZ) [7, 8] σ s.heap.size Q) args s 0 0 (va_A ((wB ad cI cJ cZ) σ) s.heap.size)) 4 σ0 9 [(0, .ref (ad 7)), (2, .int (i32 x2)), (3, .int (i32 x3))] []
    unfold vX0_turnStackOf_9 at hw
    refine xr_iload_n C 2 dX0_turnStackOf_9 rfl rfl ?_
    refine xr_aload_n C 0 dX0_turnStackOf_10 rfl rfl ?_
    refine xr_callVi C (ci := 0) (q0 := 0) (As := []) (rest := [.int (i32 x3)]) (xSp_rf _ _) (by decide) (fun h => h) (mX0_glasses σ0 _ hw) (cwV 0 C.2.2.2.2.1 gX0_turnStackOf_X0_glasses rfl rfl rfl (by decide +kernel) ⟨by decide, by decide⟩) rfl rfl rfl rfl (Nat.le_of_ble_eq_true rfl) ⟨by decide, by decide⟩ dX0_turnStackOf_11 (fun r1 σ2 hw => ?_)
    obtain ⟨g3, hw⟩ := hw
    obtain ⟨g4, hw⟩ := hw
    refine xr_icmp_ge C g3 g4 57 dX0_turnStackOf_14 (by decide) (fun c5 => ?_) (fun c5 => ?_)
    · have hw := hw.1 c5
      refine xr_aload_n C 0 dX0_turnStackOf_57 rfl rfl ?_
      refine xr_get C hinX0 (N := 1) (ci := 0) (a := (ad 7)) 0 rfl rfl 0 (by decide) m0 rfl rfl dX0_turnStackOf_58 ?_
      refine xr_bipush C dX0_turnStackOf_61 (by decide +kernel) ?_
      refine xr_dup2 C dX0_turnStackOf_63 rfl rfl ?_
      refine xr_iald C (t0 := 0) 1 rfl rfl (by decide) (N := 63) rfl ⟨by decide, by decide⟩ dX0_turnStackOf_64 ?_
      refine xr_iconst C dX0_turnStackOf_65 ?_
      refine xr_iadd C dX0_turnStackOf_66 ?_
      refine xr_iast C (t0 := 0) (r := 8) 1 rfl rfl (by decide) (N := 63) rfl ⟨by decide, by decide⟩ wB_st8 (by decide) dX0_turnStackOf_67 ?_
      refine xr_sig (fun σ6 e7 => ?_)
      have hw := hw σ6 e7
      exact xr_vret C hr hw dX0_turnStackOf_68
    · have hw := hw.2 c5
      refine xr_aload_n C 0 dX0_turnStackOf_17 rfl rfl ?_
      refine xr_iload_n C 2 dX0_turnStackOf_18 rfl rfl ?_
      refine xr_iconst C dX0_turnStackOf_19 ?_
      refine xr_callVi C (ci := 0) (q0 := 0) (As := [.int (i32 x3), .int (i32 5)]) (rest := []) (xSp_rf _ _) (by decide) (fun h => h) (mX0_property σ2 x3 5 _ hw) (cwV 2 C.2.2.2.2.1 gX0_turnStackOf_X0_property rfl rfl rfl (by decide +kernel) ⟨by decide, by decide⟩) rfl rfl rfl rfl (Nat.le_of_ble_eq_true rfl) ⟨by decide, by decide⟩ dX0_turnStackOf_20 (fun r8 σ9 hw => ?_)
      refine xr_iload_n C 1 dX0_turnStackOf_23 rfl rfl ?_
      obtain ⟨g10, hw⟩ := hw
      obtain ⟨g11, hw⟩ := hw
      refine xr_icmp_ne C g10 g11 51 dX0_turnStackOf_24 (by decide) (fun c12 => ?_) (fun c12 => ?_)
      · have hw := hw.1 c12
        refine xr_iinc C 2 [(0, .ref (ad 7)), (2, .int (i32 x2)), (3, .int (i32 (x3 + 1)))] dX0_turnStackOf_51 rfl (by decide) rfl ?_
        refine xr_goto C 9 dX0_turnStackOf_54 (by decide) ?_
        exact hK9 (x2, (x3 + 1), σ9) hw
      · have hw := hw.2 c12
        refine xr_aload_n C 0 dX0_turnStackOf_27 rfl rfl ?_
        refine xr_iload_n C 2 dX0_turnStackOf_28 rfl rfl ?_
        refine xr_iconst C dX0_turnStackOf_29 ?_
        refine xr_aload_n C 0 dX0_turnStackOf_30 rfl rfl ?_
        refine xr_iload_n C 2 dX0_turnStackOf_31 rfl rfl ?_
        refine xr_iconst C dX0_turnStackOf_32 ?_
        refine xr_callVi C (ci := 0) (q0 := 0) (As := [.int (i32 x3), .int (i32 0)]) (rest := [.int (i32 1), .int (i32 x3), .ref (ad 7)]) (xSp_rf _ _) (by decide) (fun h => h) (mX0_property σ9 x3 0 _ hw) (cwV 2 C.2.2.2.2.1 gX0_turnStackOf_X0_property rfl rfl rfl (by decide +kernel) ⟨by decide, by decide⟩) rfl rfl rfl rfl (Nat.le_of_ble_eq_true rfl) ⟨by decide, by decide⟩ dX0_turnStackOf_33 (fun r13 σ14 hw => ?_)
        refine xr_aload_n C 0 dX0_turnStackOf_36 rfl rfl ?_
        refine xr_iload_n C 2 dX0_turnStackOf_37 rfl rfl ?_
        refine xr_iconst C dX0_turnStackOf_38 ?_
        refine xr_callVi C (ci := 0) (q0 := 0) (As := [.int (i32 x3), .int (i32 1)]) (rest := [.int (i32 r13), .int (i32 1), .int (i32 x3), .ref (ad 7)]) (xSp_rf _ _) (by decide) (fun h => h) (mX0_property σ14 x3 1 _ hw) (cwV 2 C.2.2.2.2.1 gX0_turnStackOf_X0_property rfl rfl rfl (by decide +kernel) ⟨by decide, by decide⟩) rfl rfl rfl rfl (Nat.le_of_ble_eq_true rfl) ⟨by decide, by decide⟩ dX0_turnStackOf_39 (fun r15 σ16 hw => ?_)
        refine xr_isub C dX0_turnStackOf_42 ?_
        refine xr_callVv C (ci := 0) (q0 := 0) (As := [.int (i32 x3), .int (i32 1), .int (i32 (r13 - r15))]) (rest := []) (xSp_rf _ _) (by decide) (fun h => h) (mX0_put σ16 x3 1 (r13 - r15) _ hw) (cwV 3 C.2.2.2.2.1 gX0_turnStackOf_X0_put rfl rfl rfl (by decide +kernel) ⟨by decide, by decide⟩) rfl rfl rfl rfl (Nat.le_of_ble_eq_true rfl) ⟨by decide, by decide⟩ dX0_turnStackOf_43 (fun σ18 hw => ?_)
        refine xr_aload_n C 0 dX0_turnStackOf_46 rfl rfl ?_
        refine xr_iload_n C 2 dX0_turnStackOf_47 rfl rfl ?_
        refine xr_callVv C (ci := 0) (q0 := 0) (As := [.int (i32 x3)]) (rest := []) (xSp_rf _ _) (by decide) (fun h => h) (mX0_free σ18 x3 _ hw) (cwV 1 C.2.2.2.2.1 gX0_turnStackOf_X0_free rfl rfl rfl (by decide +kernel) ⟨by decide, by decide⟩) rfl rfl rfl rfl (Nat.le_of_ble_eq_true rfl) ⟨by decide, by decide⟩ dX0_turnStackOf_48 (fun σ20 hw => ?_)
        refine xr_iinc C 2 [(0, .ref (ad 7)), (2, .int (i32 x2)), (3, .int (i32 (x3 + 1)))] dX0_turnStackOf_51 rfl (by decide) rfl ?_
        refine xr_goto C 9 dX0_turnStackOf_54 (by decide) ?_
        exact hK9 (x2, (x3 + 1), σ20) hw
  show xX p l e rmX0_turnStackOf s m args below meth c D vwCl (va_A ((wB ad cI cJ cZ) σ) s.heap.size) (wB ad cI cJ cZ) [7, 8] σ 0 0 (MQ below (xQv D (wB ad cI cJ cZ) [7, 8] σ s.heap.size Q) args s 0 0 (va_A ((wB ad cI cJ cZ) σ) s.heap.size)) 4 σ 0 [(0, .ref (ad 7)), (1, .int (i32 a1))] []
  unfold vX0_turnStackOf at hw
  refine xr_aload_n C 0 dX0_turnStackOf_0 rfl rfl ?_
  refine xr_iload_n C 1 dX0_turnStackOf_1 rfl rfl ?_
  refine xr_iconst C dX0_turnStackOf_2 ?_
  refine xr_callVi C (ci := 0) (q0 := 0) (As := [.int (i32 a1), .int (i32 5)]) (rest := []) (xSp_rf _ _) (by decide) (fun h => h) (mX0_property σ a1 5 _ hw) (cwV 2 C.2.2.2.2.1 gX0_turnStackOf_X0_property rfl rfl rfl (by decide +kernel) ⟨by decide, by decide⟩) rfl rfl rfl rfl (Nat.le_of_ble_eq_true rfl) ⟨by decide, by decide⟩ dX0_turnStackOf_3 (fun r21 σ22 hw => ?_)
  refine xr_istore_n C [(0, .ref (ad 7)), (1, .int (i32 a1)), (2, .int (i32 r21))] dX0_turnStackOf_6 rfl (by decide) rfl ?_
  refine xr_iconst C dX0_turnStackOf_7 ?_
  refine xr_istore_n C [(0, .ref (ad 7)), (1, .int (i32 a1)), (2, .int (i32 r21)), (3, .int (i32 0))] dX0_turnStackOf_8 rfl (by decide) rfl ?_
  refine xr_sub C [0, 2, 3] [(0, .ref (ad 7)), (2, .int (i32 r21)), (3, .int (i32 0))] rfl ?_
  exact L9 (r21, 0, σ22) hw
abbrev rmX0_tapGlass : Room := { frames := 2, cells := 0, slots := 0, locals := 108 }
set_option maxHeartbeats 8000000 in
set_option maxRecDepth 100000 in
theorem mX0_tapGlass {l : Launch} {D : va_G} {ad : Nat → Nat} {cI cJ cZ : ClassId} (σ : xS) (a1 : Int) (Q : xS → Prop) (hw : vX0_tapGlass a1 σ Q) : xMv False l yX0_tapGlass wsX0_tapGlass rmX0_tapGlass D (xtys cI cJ cZ) (wB ad cI cJ cZ) [7, 8] σ [.ref (ad 7), .int (i32 a1)] Q := by
  refine xenter (F := [7, 8]) (Qc := fun sz => xQv D (wB ad cI cJ cZ) [7, 8] σ sz Q) (own := RX0) (cc := cX0_tapGlass) (maxL := 2) (ret := none) (by decide) rfl rfl (Nat.le_of_ble_eq_true rfl) ?_
  intro p e s m args below meth c hargs C hr hnm
  have hinX0 : ∀ w ∈ u_ws RX0 TX0 1, w ∈ wsX0_tapGlass := fun _ h => List.mem_cons_of_mem _ (List.mem_append_right _ h)
  have m0 : (Cond.fieldLink RX0 11 "SandBench$Bench" "cells" "[I") ∈ wsX0_tapGlass := by decide +kernel
  show xX p l e rmX0_tapGlass s m args below meth c D vwCl (va_A ((wB ad cI cJ cZ) σ) s.heap.size) (wB ad cI cJ cZ) [7, 8] σ 0 0 (MQ below (xQv D (wB ad cI cJ cZ) [7, 8] σ s.heap.size Q) args s 0 0 (va_A ((wB ad cI cJ cZ) σ) s.heap.size)) 2 σ 0 [(0, .ref (ad 7)), (1, .int (i32 a1))] []
  unfold vX0_tapGlass at hw
  refine xr_aload_n C 0 dX0_tapGlass_0 rfl rfl ?_
  refine xr_iload_n C 1 dX0_tapGlass_1 rfl rfl ?_
  refine xr_callVv C (ci := 0) (q0 := 0) (As := [.int (i32 a1)]) (rest := []) (xSp_rf _ _) (by decide) (fun h => h) (mX0_free σ a1 _ hw) (cwV 1 C.2.2.2.2.1 gX0_tapGlass_X0_free rfl rfl rfl (by decide +kernel) ⟨by decide, by decide⟩) rfl rfl rfl rfl (Nat.le_of_ble_eq_true rfl) ⟨by decide, by decide⟩ dX0_tapGlass_2 (fun σ2 hw => ?_)
  refine xr_aload_n C 0 dX0_tapGlass_5 rfl rfl ?_
  refine xr_get C hinX0 (N := 1) (ci := 0) (a := (ad 7)) 0 rfl rfl 0 (by decide) m0 rfl rfl dX0_tapGlass_6 ?_
  refine xr_bipush C dX0_tapGlass_9 (by decide +kernel) ?_
  refine xr_dup2 C dX0_tapGlass_11 rfl rfl ?_
  refine xr_iald C (t0 := 0) 1 rfl rfl (by decide) (N := 63) rfl ⟨by decide, by decide⟩ dX0_tapGlass_12 ?_
  refine xr_iconst C dX0_tapGlass_13 ?_
  refine xr_iadd C dX0_tapGlass_14 ?_
  refine xr_iast C (t0 := 0) (r := 8) 1 rfl rfl (by decide) (N := 63) rfl ⟨by decide, by decide⟩ wB_st8 (by decide) dX0_tapGlass_15 ?_
  refine xr_sig (fun σ3 e4 => ?_)
  have hw := hw σ3 e4
  exact xr_vret C hr hw dX0_tapGlass_16
abbrev rmX0_hasTimeFor : Room := { frames := 0, cells := 0, slots := 0, locals := 64 }
set_option maxHeartbeats 8000000 in
set_option maxRecDepth 100000 in
theorem mX0_hasTimeFor {l : Launch} {D : va_G} {ad : Nat → Nat} {cI cJ cZ : ClassId} (σ : xS) (a1 : Int) (Q : Int → xS → Prop) (hw : vX0_hasTimeFor a1 σ Q) : xMi False l yX0_hasTimeFor wsX0_hasTimeFor rmX0_hasTimeFor D (xtys cI cJ cZ) (wB ad cI cJ cZ) [7, 8] σ [.ref (ad 7), .int (i32 a1)] Q := by
  refine xenter (F := [7, 8]) (Qc := fun sz => xQi D (wB ad cI cJ cZ) [7, 8] σ sz Q) (own := RX0) (cc := cX0_hasTimeFor) (maxL := 2) (ret := some .boolean) (by decide) rfl rfl (Nat.le_of_ble_eq_true rfl) ?_
  intro p e s m args below meth c hargs C hr hnm
  have hinX0 : ∀ w ∈ u_ws RX0 TX0 1, w ∈ wsX0_hasTimeFor := fun _ h => List.mem_cons_of_mem _ (List.mem_append_right _ h)
  have m0 : (Cond.fieldLink RX0 11 "SandBench$Bench" "cells" "[I") ∈ wsX0_hasTimeFor := by decide +kernel
  show xX p l e rmX0_hasTimeFor s m args below meth c D vwCl (va_A ((wB ad cI cJ cZ) σ) s.heap.size) (wB ad cI cJ cZ) [7, 8] σ 0 0 (MQ below (xQi D (wB ad cI cJ cZ) [7, 8] σ s.heap.size Q) args s 0 0 (va_A ((wB ad cI cJ cZ) σ) s.heap.size)) 2 σ 0 [(0, .ref (ad 7)), (1, .int (i32 a1))] []
  unfold vX0_hasTimeFor at hw
  refine xr_iload_n C 1 dX0_hasTimeFor_0 rfl rfl ?_
  refine xr_sipush C dX0_hasTimeFor_1 (by decide +kernel) ?_
  refine xr_aload_n C 0 dX0_hasTimeFor_4 rfl rfl ?_
  refine xr_get C hinX0 (N := 1) (ci := 0) (a := (ad 7)) 0 rfl rfl 0 (by decide) m0 rfl rfl dX0_hasTimeFor_5 ?_
  refine xr_bipush C dX0_hasTimeFor_8 (by decide +kernel) ?_
  refine xr_iald C (t0 := 0) 1 rfl rfl (by decide) (N := 63) rfl ⟨by decide, by decide⟩ dX0_hasTimeFor_10 ?_
  refine xr_isub C dX0_hasTimeFor_11 ?_
  obtain ⟨g1, hw⟩ := hw
  obtain ⟨g2, hw⟩ := hw
  refine xr_icmp_gt C g1 g2 19 dX0_hasTimeFor_12 (by decide) (fun c3 => ?_) (fun c3 => ?_)
  · have hw := hw.1 c3
    refine xr_iconst C dX0_hasTimeFor_19 ?_
    exact xr_zret C hr (Or.inl rfl) hw dX0_hasTimeFor_20
  · have hw := hw.2 c3
    refine xr_iconst C dX0_hasTimeFor_15 ?_
    refine xr_goto C 20 dX0_hasTimeFor_16 (by decide) ?_
    exact xr_zret C hr (Or.inr rfl) hw dX0_hasTimeFor_20
abbrev rmX0_runs : Room := { frames := 1, cells := 0, slots := 0, locals := 86 }
set_option maxHeartbeats 8000000 in
set_option maxRecDepth 100000 in
theorem mX0_runs {l : Launch} {D : va_G} {ad : Nat → Nat} {cI cJ cZ : ClassId} (σ : xS) (a1 : Int) (Q : Int → xS → Prop) (hw : vX0_runs a1 σ Q) : xMi False l yX0_runs wsX0_runs rmX0_runs D (xtys cI cJ cZ) (wB ad cI cJ cZ) [7, 8] σ [.ref (ad 7), .int (i32 a1)] Q := by
  refine xenter (F := [7, 8]) (Qc := fun sz => xQi D (wB ad cI cJ cZ) [7, 8] σ sz Q) (own := RX0) (cc := cX0_runs) (maxL := 2) (ret := some .boolean) (by decide) rfl rfl (Nat.le_of_ble_eq_true rfl) ?_
  intro p e s m args below meth c hargs C hr hnm
  show xX p l e rmX0_runs s m args below meth c D vwCl (va_A ((wB ad cI cJ cZ) σ) s.heap.size) (wB ad cI cJ cZ) [7, 8] σ 0 0 (MQ below (xQi D (wB ad cI cJ cZ) [7, 8] σ s.heap.size Q) args s 0 0 (va_A ((wB ad cI cJ cZ) σ) s.heap.size)) 2 σ 0 [(0, .ref (ad 7)), (1, .int (i32 a1))] []
  unfold vX0_runs at hw
  refine xr_aload_n C 0 dX0_runs_0 rfl rfl ?_
  refine xr_iload_n C 1 dX0_runs_1 rfl rfl ?_
  refine xr_iconst C dX0_runs_2 ?_
  refine xr_callVi C (ci := 0) (q0 := 0) (As := [.int (i32 a1), .int (i32 1)]) (rest := []) (xSp_rf _ _) (by decide) (fun h => h) (mX0_property σ a1 1 _ hw) (cwV 2 C.2.2.2.2.1 gX0_runs_X0_property rfl rfl rfl (by decide +kernel) ⟨by decide, by decide⟩) rfl rfl rfl rfl (Nat.le_of_ble_eq_true rfl) ⟨by decide, by decide⟩ dX0_runs_3 (fun r1 σ2 hw => ?_)
  obtain ⟨g3, hw⟩ := hw
  refine xr_if_le C g3 32 dX0_runs_6 (by decide) (fun c4 => ?_) (fun c4 => ?_)
  · have hw := hw.1 c4
    refine xr_iconst C dX0_runs_32 ?_
    exact xr_zret C hr (Or.inl rfl) hw dX0_runs_33
  · have hw := hw.2 c4
    refine xr_aload_n C 0 dX0_runs_9 rfl rfl ?_
    refine xr_iload_n C 1 dX0_runs_10 rfl rfl ?_
    refine xr_iconst C dX0_runs_11 ?_
    refine xr_callVi C (ci := 0) (q0 := 0) (As := [.int (i32 a1), .int (i32 2)]) (rest := []) (xSp_rf _ _) (by decide) (fun h => h) (mX0_property σ2 a1 2 _ hw) (cwV 2 C.2.2.2.2.1 gX0_runs_X0_property rfl rfl rfl (by decide +kernel) ⟨by decide, by decide⟩) rfl rfl rfl rfl (Nat.le_of_ble_eq_true rfl) ⟨by decide, by decide⟩ dX0_runs_12 (fun r5 σ6 hw => ?_)
    refine xr_iconst C dX0_runs_15 ?_
    obtain ⟨g7, hw⟩ := hw
    refine xr_icmp_eq C g7 ⟨by decide, by decide⟩ 32 dX0_runs_16 (by decide) (fun c8 => ?_) (fun c8 => ?_)
    · have hw := hw.1 c8
      refine xr_iconst C dX0_runs_32 ?_
      exact xr_zret C hr (Or.inl rfl) hw dX0_runs_33
    · have hw := hw.2 c8
      refine xr_aload_n C 0 dX0_runs_19 rfl rfl ?_
      refine xr_iload_n C 1 dX0_runs_20 rfl rfl ?_
      refine xr_iconst C dX0_runs_21 ?_
      refine xr_callVi C (ci := 0) (q0 := 0) (As := [.int (i32 a1), .int (i32 4)]) (rest := []) (xSp_rf _ _) (by decide) (fun h => h) (mX0_property σ6 a1 4 _ hw) (cwV 2 C.2.2.2.2.1 gX0_runs_X0_property rfl rfl rfl (by decide +kernel) ⟨by decide, by decide⟩) rfl rfl rfl rfl (Nat.le_of_ble_eq_true rfl) ⟨by decide, by decide⟩ dX0_runs_22 (fun r9 σ10 hw => ?_)
      obtain ⟨g11, hw⟩ := hw
      refine xr_if_ne C g11 32 dX0_runs_25 (by decide) (fun c12 => ?_) (fun c12 => ?_)
      · have hw := hw.1 c12
        refine xr_iconst C dX0_runs_32 ?_
        exact xr_zret C hr (Or.inl rfl) hw dX0_runs_33
      · have hw := hw.2 c12
        refine xr_iconst C dX0_runs_28 ?_
        refine xr_goto C 33 dX0_runs_29 (by decide) ?_
        exact xr_zret C hr (Or.inr rfl) hw dX0_runs_33
abbrev rmX0_secondsToEventOf : Room := { frames := 1, cells := 0, slots := 0, locals := 86 }
set_option maxHeartbeats 8000000 in
set_option maxRecDepth 100000 in
theorem mX0_secondsToEventOf {l : Launch} {D : va_G} {ad : Nat → Nat} {cI cJ cZ : ClassId} (σ : xS) (a1 : Int) (Q : Int → xS → Prop) (hw : vX0_secondsToEventOf a1 σ Q) : xMi False l yX0_secondsToEventOf wsX0_secondsToEventOf rmX0_secondsToEventOf D (xtys cI cJ cZ) (wB ad cI cJ cZ) [7, 8] σ [.ref (ad 7), .int (i32 a1)] Q := by
  refine xenter (F := [7, 8]) (Qc := fun sz => xQi D (wB ad cI cJ cZ) [7, 8] σ sz Q) (own := RX0) (cc := cX0_secondsToEventOf) (maxL := 3) (ret := some .int) (by decide) rfl rfl (Nat.le_of_ble_eq_true rfl) ?_
  intro p e s m args below meth c hargs C hr hnm
  have m0 : (Cond.methodLink RX0 33 Lib.Math.min.name) ∈ wsX0_secondsToEventOf := by decide +kernel
  have m1 : (Cond.static Lib.Math.min.name) ∈ wsX0_secondsToEventOf := by decide +kernel
  have m2 : (Cond.initialized "java/lang/Math") ∈ wsX0_secondsToEventOf := by decide +kernel
  have m3 : (Cond.code Lib.Math.min.name Lib.Math.min.code 2 (some .int)) ∈ wsX0_secondsToEventOf := by decide +kernel
  show xX p l e rmX0_secondsToEventOf s m args below meth c D vwCl (va_A ((wB ad cI cJ cZ) σ) s.heap.size) (wB ad cI cJ cZ) [7, 8] σ 0 0 (MQ below (xQi D (wB ad cI cJ cZ) [7, 8] σ s.heap.size Q) args s 0 0 (va_A ((wB ad cI cJ cZ) σ) s.heap.size)) 3 σ 0 [(0, .ref (ad 7)), (1, .int (i32 a1))] []
  unfold vX0_secondsToEventOf at hw
  refine xr_aload_n C 0 dX0_secondsToEventOf_0 rfl rfl ?_
  refine xr_iload_n C 1 dX0_secondsToEventOf_1 rfl rfl ?_
  refine xr_iconst C dX0_secondsToEventOf_2 ?_
  refine xr_callVi C (ci := 0) (q0 := 0) (As := [.int (i32 a1), .int (i32 1)]) (rest := []) (xSp_rf _ _) (by decide) (fun h => h) (mX0_property σ a1 1 _ hw) (cwV 2 C.2.2.2.2.1 gX0_secondsToEventOf_X0_property rfl rfl rfl (by decide +kernel) ⟨by decide, by decide⟩) rfl rfl rfl rfl (Nat.le_of_ble_eq_true rfl) ⟨by decide, by decide⟩ dX0_secondsToEventOf_3 (fun r1 σ2 hw => ?_)
  refine xr_istore_n C [(0, .ref (ad 7)), (1, .int (i32 a1)), (2, .int (i32 r1))] dX0_secondsToEventOf_6 rfl (by decide) rfl ?_
  refine xr_aload_n C 0 dX0_secondsToEventOf_7 rfl rfl ?_
  refine xr_iload_n C 1 dX0_secondsToEventOf_8 rfl rfl ?_
  refine xr_iconst C dX0_secondsToEventOf_9 ?_
  refine xr_callVi C (ci := 0) (q0 := 0) (As := [.int (i32 a1), .int (i32 2)]) (rest := []) (xSp_rf _ _) (by decide) (fun h => h) (mX0_property σ2 a1 2 _ hw) (cwV 2 C.2.2.2.2.1 gX0_secondsToEventOf_X0_property rfl rfl rfl (by decide +kernel) ⟨by decide, by decide⟩) rfl rfl rfl rfl (Nat.le_of_ble_eq_true rfl) ⟨by decide, by decide⟩ dX0_secondsToEventOf_10 (fun r3 σ4 hw => ?_)
  refine xr_iconst C dX0_secondsToEventOf_13 ?_
  obtain ⟨g5, hw⟩ := hw
  refine xr_icmp_eq C g5 ⟨by decide, by decide⟩ 19 dX0_secondsToEventOf_14 (by decide) (fun c6 => ?_) (fun c6 => ?_)
  · have hw := hw.1 c6
    refine xr_iload_n C 2 dX0_secondsToEventOf_19 rfl rfl ?_
    refine xr_aload_n C 0 dX0_secondsToEventOf_20 rfl rfl ?_
    refine xr_iload_n C 1 dX0_secondsToEventOf_21 rfl rfl ?_
    refine xr_iconst C dX0_secondsToEventOf_22 ?_
    refine xr_callVi C (ci := 0) (q0 := 0) (As := [.int (i32 a1), .int (i32 3)]) (rest := [.int (i32 r1)]) (xSp_rf _ _) (by decide) (fun h => h) (mX0_property σ4 a1 3 _ hw) (cwV 2 C.2.2.2.2.1 gX0_secondsToEventOf_X0_property rfl rfl rfl (by decide +kernel) ⟨by decide, by decide⟩) rfl rfl rfl rfl (Nat.le_of_ble_eq_true rfl) ⟨by decide, by decide⟩ dX0_secondsToEventOf_23 (fun r7 σ8 hw => ?_)
    refine xr_aload_n C 0 dX0_secondsToEventOf_26 rfl rfl ?_
    refine xr_iload_n C 1 dX0_secondsToEventOf_27 rfl rfl ?_
    refine xr_bipush C dX0_secondsToEventOf_28 (by decide +kernel) ?_
    refine xr_callVi C (ci := 0) (q0 := 0) (As := [.int (i32 a1), .int (i32 6)]) (rest := [.int (i32 r7), .int (i32 r1)]) (xSp_rf _ _) (by decide) (fun h => h) (mX0_property σ8 a1 6 _ hw) (cwV 2 C.2.2.2.2.1 gX0_secondsToEventOf_X0_property rfl rfl rfl (by decide +kernel) ⟨by decide, by decide⟩) rfl rfl rfl rfl (Nat.le_of_ble_eq_true rfl) ⟨by decide, by decide⟩ dX0_secondsToEventOf_30 (fun r9 σ10 hw => ?_)
    refine xr_isub C dX0_secondsToEventOf_33 ?_
    obtain ⟨g11, hw⟩ := hw
    obtain ⟨g12, hw⟩ := hw
    refine xr_min C g11 g12 m0 m1 m2 m3 (by decide) (Nat.le_of_ble_eq_true rfl) (by decide) (by decide) dX0_secondsToEventOf_34 ?_
    exact xr_iret C hr hw dX0_secondsToEventOf_37
  · have hw := hw.2 c6
    refine xr_iload_n C 2 dX0_secondsToEventOf_17 rfl rfl ?_
    exact xr_iret C hr hw dX0_secondsToEventOf_18
abbrev rmX0_secondsToEvent : Room := { frames := 2, cells := 0, slots := 0, locals := 108 }
set_option maxHeartbeats 8000000 in
set_option maxRecDepth 100000 in
theorem mX0_secondsToEvent {l : Launch} {D : va_G} {ad : Nat → Nat} {cI cJ cZ : ClassId} (σ : xS) (Q : Int → xS → Prop) (hw : vX0_secondsToEvent σ Q) : xMi False l yX0_secondsToEvent wsX0_secondsToEvent rmX0_secondsToEvent D (xtys cI cJ cZ) (wB ad cI cJ cZ) [7, 8] σ [.ref (ad 7)] Q := by
  refine xenter (F := [7, 8]) (Qc := fun sz => xQi D (wB ad cI cJ cZ) [7, 8] σ sz Q) (own := RX0) (cc := cX0_secondsToEvent) (maxL := 3) (ret := some .int) (by decide) rfl rfl (Nat.le_of_ble_eq_true rfl) ?_
  intro p e s m args below meth c hargs C hr hnm
  have B33 : ∀ (K4 : Int × Int × xS → Prop) (hK4 : ∀ a, K4 a → xX p l e rmX0_secondsToEvent s m args below meth c D vwCl (va_A ((wB ad cI cJ cZ) σ) s.heap.size) (wB ad cI cJ cZ) [7, 8] σ 0 0 (MQ below (xQi D (wB ad cI cJ cZ) [7, 8] σ s.heap.size Q) args s 0 0 (va_A ((wB ad cI cJ cZ) σ) s.heap.size)) 3 (a.2.2) 4 [(0, .ref (ad 7)), (1, .int (i32 (a.1))), (2, .int (i32 (a.2.1)))] []) (x2 : Int) (σ0 : xS), vX0_secondsToEvent_33 K4 Q x2 σ0 → xX p l e rmX0_secondsToEvent s m args below meth c D vwCl (va_A ((wB ad cI cJ cZ) σ) s.heap.size) (wB ad cI cJ cZ) [7, 8] σ 0 0 (MQ below (xQi D (wB ad cI cJ cZ) [7, 8] σ s.heap.size Q) args s 0 0 (va_A ((wB ad cI cJ cZ) σ) s.heap.size)) 3 σ0 33 [(0, .ref (ad 7)), (2, .int (i32 x2))] [] := by
    intro K4 hK4 x2 σ0 hw
    unfold vX0_secondsToEvent_33 at hw
    refine xr_aload_n C 0 dX0_secondsToEvent_33 rfl rfl ?_
    refine xr_iload_n C 1 dX0_secondsToEvent_34 rfl rfl ?_
    refine xr_callVi C (ci := 0) (q0 := 0) (As := [.int (i32 x2)]) (rest := []) (xSp_rf _ _) (by decide) (fun h => h) (mX0_secondsToEventOf σ0 x2 _ hw) (cwV 1 C.2.2.2.2.1 gX0_secondsToEvent_X0_secondsToEventOf rfl rfl rfl (by decide +kernel) ⟨by decide, by decide⟩) rfl rfl rfl rfl (Nat.le_of_ble_eq_true rfl) ⟨by decide, by decide⟩ dX0_secondsToEvent_35 (fun r1 σ2 hw => ?_)
    refine xr_istore_n C [(0, .ref (ad 7)), (1, .int (i32 r1)), (2, .int (i32 x2))] dX0_secondsToEvent_38 rfl (by decide) rfl ?_
    refine xr_iinc C 2 [(0, .ref (ad 7)), (1, .int (i32 r1)), (2, .int (i32 (x2 + 1)))] dX0_secondsToEvent_39 rfl (by decide) rfl ?_
    refine xr_goto C 4 dX0_secondsToEvent_42 (by decide) ?_
    exact hK4 (r1, (x2 + 1), σ2) hw
  have L4 : ∀ a, mu (vX0_secondsToEvent_4  Q) a → xX p l e rmX0_secondsToEvent s m args below meth c D vwCl (va_A ((wB ad cI cJ cZ) σ) s.heap.size) (wB ad cI cJ cZ) [7, 8] σ 0 0 (MQ below (xQi D (wB ad cI cJ cZ) [7, 8] σ s.heap.size Q) args s 0 0 (va_A ((wB ad cI cJ cZ) σ) s.heap.size)) 3 (a.2.2) 4 [(0, .ref (ad 7)), (1, .int (i32 (a.1))), (2, .int (i32 (a.2.1)))] [] := by
    refine mu_ind (fun K4 hK4 a hw => ?_)
    obtain ⟨x1, x2, σ0⟩ := a
    show xX p l e rmX0_secondsToEvent s m args below meth c D vwCl (va_A ((wB ad cI cJ cZ) σ) s.heap.size) (wB ad cI cJ cZ) [7, 8] σ 0 0 (MQ below (xQi D (wB ad cI cJ cZ) [7, 8] σ s.heap.size Q) args s 0 0 (va_A ((wB ad cI cJ cZ) σ) s.heap.size)) 3 σ0 4 [(0, .ref (ad 7)), (1, .int (i32 x1)), (2, .int (i32 x2))] []
    unfold vX0_secondsToEvent_4 at hw
    refine xr_iload_n C 2 dX0_secondsToEvent_4 rfl rfl ?_
    refine xr_aload_n C 0 dX0_secondsToEvent_5 rfl rfl ?_
    refine xr_callVi C (ci := 0) (q0 := 0) (As := []) (rest := [.int (i32 x2)]) (xSp_rf _ _) (by decide) (fun h => h) (mX0_glasses σ0 _ hw) (cwV 0 C.2.2.2.2.1 gX0_secondsToEvent_X0_glasses rfl rfl rfl (by decide +kernel) ⟨by decide, by decide⟩) rfl rfl rfl rfl (Nat.le_of_ble_eq_true rfl) ⟨by decide, by decide⟩ dX0_secondsToEvent_6 (fun r3 σ4 hw => ?_)
    obtain ⟨g5, hw⟩ := hw
    obtain ⟨g6, hw⟩ := hw
    refine xr_icmp_ge C g5 g6 45 dX0_secondsToEvent_9 (by decide) (fun c7 => ?_) (fun c7 => ?_)
    · have hw := hw.1 c7
      refine xr_iload_n C 1 dX0_secondsToEvent_45 rfl rfl ?_
      exact xr_iret C hr hw dX0_secondsToEvent_46
    · have hw := hw.2 c7
      refine xr_aload_n C 0 dX0_secondsToEvent_12 rfl rfl ?_
      refine xr_iload_n C 2 dX0_secondsToEvent_13 rfl rfl ?_
      refine xr_callVi C (ci := 0) (q0 := 0) (As := [.int (i32 x2)]) (rest := []) (xSp_rf _ _) (by decide) (fun h => h) (mX0_runs σ4 x2 _ hw) (cwV 1 C.2.2.2.2.1 gX0_secondsToEvent_X0_runs rfl rfl rfl (by decide +kernel) ⟨by decide, by decide⟩) rfl rfl rfl rfl (Nat.le_of_ble_eq_true rfl) ⟨by decide, by decide⟩ dX0_secondsToEvent_14 (fun r8 σ9 hw => ?_)
      obtain ⟨g10, hw⟩ := hw
      refine xr_if_eq C g10 39 dX0_secondsToEvent_17 (by decide) (fun c11 => ?_) (fun c11 => ?_)
      · have hw := hw.1 c11
        refine xr_iinc C 2 [(0, .ref (ad 7)), (1, .int (i32 x1)), (2, .int (i32 (x2 + 1)))] dX0_secondsToEvent_39 rfl (by decide) rfl ?_
        refine xr_goto C 4 dX0_secondsToEvent_42 (by decide) ?_
        exact hK4 (x1, (x2 + 1), σ9) hw
      · have hw := hw.2 c11
        refine xr_iload_n C 1 dX0_secondsToEvent_20 rfl rfl ?_
        obtain ⟨g12, hw⟩ := hw
        refine xr_if_eq C g12 33 dX0_secondsToEvent_21 (by decide) (fun c13 => ?_) (fun c13 => ?_)
        · have hw := hw.1 c13
          refine xr_sub C [0, 2] [(0, .ref (ad 7)), (2, .int (i32 x2))] rfl ?_
          exact B33 K4 hK4 x2 σ9 hw
        · have hw := hw.2 c13
          refine xr_aload_n C 0 dX0_secondsToEvent_24 rfl rfl ?_
          refine xr_iload_n C 2 dX0_secondsToEvent_25 rfl rfl ?_
          refine xr_callVi C (ci := 0) (q0 := 0) (As := [.int (i32 x2)]) (rest := []) (xSp_rf _ _) (by decide) (fun h => h) (mX0_secondsToEventOf σ9 x2 _ hw) (cwV 1 C.2.2.2.2.1 gX0_secondsToEvent_X0_secondsToEventOf rfl rfl rfl (by decide +kernel) ⟨by decide, by decide⟩) rfl rfl rfl rfl (Nat.le_of_ble_eq_true rfl) ⟨by decide, by decide⟩ dX0_secondsToEvent_26 (fun r14 σ15 hw => ?_)
          refine xr_iload_n C 1 dX0_secondsToEvent_29 rfl rfl ?_
          obtain ⟨g16, hw⟩ := hw
          refine xr_icmp_ge C g16 g12 39 dX0_secondsToEvent_30 (by decide) (fun c17 => ?_) (fun c17 => ?_)
          · have hw := hw.1 c17
            refine xr_iinc C 2 [(0, .ref (ad 7)), (1, .int (i32 x1)), (2, .int (i32 (x2 + 1)))] dX0_secondsToEvent_39 rfl (by decide) rfl ?_
            refine xr_goto C 4 dX0_secondsToEvent_42 (by decide) ?_
            exact hK4 (x1, (x2 + 1), σ15) hw
          · have hw := hw.2 c17
            refine xr_sub C [0, 2] [(0, .ref (ad 7)), (2, .int (i32 x2))] rfl ?_
            exact B33 K4 hK4 x2 σ15 hw
  show xX p l e rmX0_secondsToEvent s m args below meth c D vwCl (va_A ((wB ad cI cJ cZ) σ) s.heap.size) (wB ad cI cJ cZ) [7, 8] σ 0 0 (MQ below (xQi D (wB ad cI cJ cZ) [7, 8] σ s.heap.size Q) args s 0 0 (va_A ((wB ad cI cJ cZ) σ) s.heap.size)) 3 σ 0 [(0, .ref (ad 7))] []
  unfold vX0_secondsToEvent at hw
  refine xr_iconst C dX0_secondsToEvent_0 ?_
  refine xr_istore_n C [(0, .ref (ad 7)), (1, .int (i32 0))] dX0_secondsToEvent_1 rfl (by decide) rfl ?_
  refine xr_iconst C dX0_secondsToEvent_2 ?_
  refine xr_istore_n C [(0, .ref (ad 7)), (1, .int (i32 0)), (2, .int (i32 0))] dX0_secondsToEvent_3 rfl (by decide) rfl ?_
  exact L4 (0, 0, σ) hw
