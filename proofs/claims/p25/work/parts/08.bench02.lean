abbrev rmX0_eventCell : Room := { frames := 0, cells := 0, slots := 0, locals := 64 }
set_option maxHeartbeats 8000000 in
set_option maxRecDepth 100000 in
theorem mX0_eventCell {l : Launch} {D : va_G} {cI cJ cZ : ClassId} (σ : xS) (a0 : Int) (Q : Int → xS → Prop) (hw : vX0_eventCell a0 σ Q) : xMi False l yX0_eventCell wsX0_eventCell rmX0_eventCell D (xtys cI cJ cZ) wN [] σ [.int (i32 a0)] Q := by
  refine xenter (F := []) (Qc := fun sz => xQi D wN [] σ sz Q) (own := RX0) (cc := cX0_eventCell) (maxL := 1) (ret := some .int) (by decide) rfl rfl (Nat.le_of_ble_eq_true rfl) ?_
  intro p e s m args below meth c hargs C hr hnm
  show xX p l e rmX0_eventCell s m args below meth c D vwCl (va_A (wN σ) s.heap.size) wN [] σ 0 0 (MQ below (xQi D wN [] σ s.heap.size Q) args s 0 0 (va_A (wN σ) s.heap.size)) 1 σ 0 [(0, .int (i32 a0))] []
  unfold vX0_eventCell at hw
  refine xr_bipush C dX0_eventCell_0 (by decide +kernel) ?_
  refine xr_iload_n C 0 dX0_eventCell_2 rfl rfl ?_
  refine xr_bipush C dX0_eventCell_3 (by decide +kernel) ?_
  refine xr_irem C ⟨⟨by decide, by decide⟩, by decide⟩ dX0_eventCell_5 ?_
  refine xr_iconst C dX0_eventCell_6 ?_
  refine xr_imul C dX0_eventCell_7 ?_
  refine xr_iadd C dX0_eventCell_8 ?_
  exact xr_iret C hr hw dX0_eventCell_9
abbrev rmX0_write : Room := { frames := 1, cells := 0, slots := 0, locals := 84 }
set_option maxHeartbeats 8000000 in
set_option maxRecDepth 100000 in
theorem mX0_write {l : Launch} {D : va_G} {ad : Nat → Nat} {cI cJ cZ : ClassId} (σ : xS) (a1 a2 : Int) (Q : xS → Prop) (hw : vX0_write a1 a2 σ Q) : xMv False l yX0_write wsX0_write rmX0_write D (xtys cI cJ cZ) (wB ad cI cJ cZ) [7, 8] σ [.ref (ad 7), .int (i32 a1), .int (i32 a2)] Q := by
  refine xenter (F := [7, 8]) (Qc := fun sz => xQv D (wB ad cI cJ cZ) [7, 8] σ sz Q) (own := RX0) (cc := cX0_write) (maxL := 4) (ret := none) (by decide) rfl rfl (Nat.le_of_ble_eq_true rfl) ?_
  intro p e s m args below meth c hargs C hr hnm
  have hinX0 : ∀ w ∈ u_ws RX0 TX0 1, w ∈ wsX0_write := fun _ h => List.mem_cons_of_mem _ (List.mem_append_right _ h)
  have m0 : (Cond.fieldLink RX0 11 "SandBench$Bench" "cells" "[I") ∈ wsX0_write := by decide +kernel
  show xX p l e rmX0_write s m args below meth c D vwCl (va_A ((wB ad cI cJ cZ) σ) s.heap.size) (wB ad cI cJ cZ) [7, 8] σ 0 0 (MQ below (xQv D (wB ad cI cJ cZ) [7, 8] σ s.heap.size Q) args s 0 0 (va_A ((wB ad cI cJ cZ) σ) s.heap.size)) 4 σ 0 [(0, .ref (ad 7)), (1, .int (i32 a1)), (2, .int (i32 a2))] []
  unfold vX0_write at hw
  refine xr_aload_n C 0 dX0_write_0 rfl rfl ?_
  refine xr_get C hinX0 (N := 1) (ci := 0) (a := (ad 7)) 0 rfl rfl 0 (by decide) m0 rfl rfl dX0_write_1 ?_
  refine xr_bipush C dX0_write_4 (by decide +kernel) ?_
  refine xr_iald C (t0 := 0) 1 rfl rfl (by decide) (N := 63) rfl ⟨by decide, by decide⟩ dX0_write_6 ?_
  refine xr_callSi C (As := [.int (i32 (σ 8 60))]) (rest := []) (xSp_nil _) (by decide) (fun h => h) (mX0_eventCell σ (σ 8 60) _ hw) (va_cwS 1 C.2.2.2.2.1 gX0_write_X0_eventCell rfl rfl rfl (by decide +kernel) ⟨by decide, by decide⟩) rfl rfl (Nat.le_of_ble_eq_true rfl) ⟨by decide, by decide⟩ dX0_write_7 (fun r1 σ2 hw => ?_)
  refine xr_istore_n C [(0, .ref (ad 7)), (1, .int (i32 a1)), (2, .int (i32 a2)), (3, .int (i32 r1))] dX0_write_10 rfl (by decide) rfl ?_
  refine xr_aload_n C 0 dX0_write_11 rfl rfl ?_
  refine xr_get C hinX0 (N := 1) (ci := 0) (a := (ad 7)) 0 rfl rfl 0 (by decide) m0 rfl rfl dX0_write_12 ?_
  refine xr_iload_n C 3 dX0_write_15 rfl rfl ?_
  refine xr_aload_n C 0 dX0_write_16 rfl rfl ?_
  refine xr_get C hinX0 (N := 1) (ci := 0) (a := (ad 7)) 0 rfl rfl 0 (by decide) m0 rfl rfl dX0_write_17 ?_
  refine xr_bipush C dX0_write_20 (by decide +kernel) ?_
  refine xr_iald C (t0 := 0) 1 rfl rfl (by decide) (N := 63) rfl ⟨by decide, by decide⟩ dX0_write_22 ?_
  obtain ⟨g3, hw⟩ := hw
  refine xr_iast C (t0 := 0) (r := 8) 1 rfl rfl (by decide) (N := 63) rfl g3 wB_st8 (by decide) dX0_write_23 ?_
  refine xr_sig (fun σ4 e5 => ?_)
  have hw := hw σ4 e5
  refine xr_aload_n C 0 dX0_write_24 rfl rfl ?_
  refine xr_get C hinX0 (N := 1) (ci := 0) (a := (ad 7)) 0 rfl rfl 0 (by decide) m0 rfl rfl dX0_write_25 ?_
  refine xr_iload_n C 3 dX0_write_28 rfl rfl ?_
  refine xr_iconst C dX0_write_29 ?_
  refine xr_iadd C dX0_write_30 ?_
  refine xr_iload_n C 1 dX0_write_31 rfl rfl ?_
  obtain ⟨g6, hw⟩ := hw
  refine xr_iast C (t0 := 0) (r := 8) 1 rfl rfl (by decide) (N := 63) rfl g6 wB_st8 (by decide) dX0_write_32 ?_
  refine xr_sig (fun σ7 e8 => ?_)
  have hw := hw σ7 e8
  refine xr_aload_n C 0 dX0_write_33 rfl rfl ?_
  refine xr_get C hinX0 (N := 1) (ci := 0) (a := (ad 7)) 0 rfl rfl 0 (by decide) m0 rfl rfl dX0_write_34 ?_
  refine xr_iload_n C 3 dX0_write_37 rfl rfl ?_
  refine xr_iconst C dX0_write_38 ?_
  refine xr_iadd C dX0_write_39 ?_
  refine xr_iload_n C 2 dX0_write_40 rfl rfl ?_
  obtain ⟨g9, hw⟩ := hw
  refine xr_iast C (t0 := 0) (r := 8) 1 rfl rfl (by decide) (N := 63) rfl g9 wB_st8 (by decide) dX0_write_41 ?_
  refine xr_sig (fun σ10 e11 => ?_)
  have hw := hw σ10 e11
  refine xr_aload_n C 0 dX0_write_42 rfl rfl ?_
  refine xr_get C hinX0 (N := 1) (ci := 0) (a := (ad 7)) 0 rfl rfl 0 (by decide) m0 rfl rfl dX0_write_43 ?_
  refine xr_bipush C dX0_write_46 (by decide +kernel) ?_
  refine xr_dup2 C dX0_write_48 rfl rfl ?_
  refine xr_iald C (t0 := 0) 1 rfl rfl (by decide) (N := 63) rfl ⟨by decide, by decide⟩ dX0_write_49 ?_
  refine xr_iconst C dX0_write_50 ?_
  refine xr_iadd C dX0_write_51 ?_
  refine xr_iast C (t0 := 0) (r := 8) 1 rfl rfl (by decide) (N := 63) rfl ⟨by decide, by decide⟩ wB_st8 (by decide) dX0_write_52 ?_
  refine xr_sig (fun σ12 e13 => ?_)
  have hw := hw σ12 e13
  exact xr_vret C hr hw dX0_write_53
abbrev rmX0_sink : Room := { frames := 2, cells := 0, slots := 0, locals := 107 }
set_option maxHeartbeats 8000000 in
set_option maxRecDepth 100000 in
theorem mX0_sink {l : Launch} {D : va_G} {ad : Nat → Nat} {cI cJ cZ : ClassId} (σ : xS) (a1 : Int) (Q : xS → Prop) (hw : vX0_sink a1 σ Q) : xMv False l yX0_sink wsX0_sink rmX0_sink D (xtys cI cJ cZ) (wB ad cI cJ cZ) [7, 8] σ [.ref (ad 7), .int (i32 a1)] Q := by
  refine xenter (F := [7, 8]) (Qc := fun sz => xQv D (wB ad cI cJ cZ) [7, 8] σ sz Q) (own := RX0) (cc := cX0_sink) (maxL := 3) (ret := none) (by decide) rfl rfl (Nat.le_of_ble_eq_true rfl) ?_
  intro p e s m args below meth c hargs C hr hnm
  have B50 : ∀ (x1 x2 : Int) (σ0 : xS), vX0_sink_50  Q x1 x2 σ0 → xX p l e rmX0_sink s m args below meth c D vwCl (va_A ((wB ad cI cJ cZ) σ) s.heap.size) (wB ad cI cJ cZ) [7, 8] σ 0 0 (MQ below (xQv D (wB ad cI cJ cZ) [7, 8] σ s.heap.size Q) args s 0 0 (va_A ((wB ad cI cJ cZ) σ) s.heap.size)) 3 σ0 50 [(0, .ref (ad 7)), (1, .int (i32 x1)), (2, .int (i32 x2))] [] := by
    intro x1 x2 σ0 hw
    unfold vX0_sink_50 at hw
    refine xr_aload_n C 0 dX0_sink_50 rfl rfl ?_
    refine xr_iload_n C 1 dX0_sink_51 rfl rfl ?_
    refine xr_iconst C dX0_sink_52 ?_
    refine xr_callVi C (ci := 0) (q0 := 0) (As := [.int (i32 x1), .int (i32 1)]) (rest := []) (xSp_rf _ _) (by decide) (fun h => h) (mX0_property σ0 x1 1 _ hw) (cwV 2 C.2.2.2.2.1 gX0_sink_X0_property rfl rfl rfl (by decide +kernel) ⟨by decide, by decide⟩) rfl rfl rfl rfl (Nat.le_of_ble_eq_true rfl) ⟨by decide, by decide⟩ dX0_sink_53 (fun r1 σ2 hw => ?_)
    obtain ⟨g3, hw⟩ := hw
    refine xr_if_ne C g3 68 dX0_sink_56 (by decide) (fun c4 => ?_) (fun c4 => ?_)
    · have hw := hw.1 c4
      refine xr_iload_n C 2 dX0_sink_68 rfl rfl ?_
      obtain ⟨g5, hw⟩ := hw
      refine xr_if_eq C g5 101 dX0_sink_69 (by decide) (fun c6 => ?_) (fun c6 => ?_)
      · have hw := hw.1 c6
        exact xr_vret C hr hw dX0_sink_101
      · have hw := hw.2 c6
        refine xr_aload_n C 0 dX0_sink_72 rfl rfl ?_
        refine xr_iload_n C 1 dX0_sink_73 rfl rfl ?_
        refine xr_bipush C dX0_sink_74 (by decide +kernel) ?_
        refine xr_callVi C (ci := 0) (q0 := 0) (As := [.int (i32 x1), .int (i32 6)]) (rest := []) (xSp_rf _ _) (by decide) (fun h => h) (mX0_property σ2 x1 6 _ hw) (cwV 2 C.2.2.2.2.1 gX0_sink_X0_property rfl rfl rfl (by decide +kernel) ⟨by decide, by decide⟩) rfl rfl rfl rfl (Nat.le_of_ble_eq_true rfl) ⟨by decide, by decide⟩ dX0_sink_76 (fun r7 σ8 hw => ?_)
        refine xr_aload_n C 0 dX0_sink_79 rfl rfl ?_
        refine xr_iload_n C 1 dX0_sink_80 rfl rfl ?_
        refine xr_iconst C dX0_sink_81 ?_
        refine xr_callVi C (ci := 0) (q0 := 0) (As := [.int (i32 x1), .int (i32 3)]) (rest := [.int (i32 r7)]) (xSp_rf _ _) (by decide) (fun h => h) (mX0_property σ8 x1 3 _ hw) (cwV 2 C.2.2.2.2.1 gX0_sink_X0_property rfl rfl rfl (by decide +kernel) ⟨by decide, by decide⟩) rfl rfl rfl rfl (Nat.le_of_ble_eq_true rfl) ⟨by decide, by decide⟩ dX0_sink_82 (fun r9 σ10 hw => ?_)
        obtain ⟨g11, hw⟩ := hw
        obtain ⟨g12, hw⟩ := hw
        refine xr_icmp_lt C g11 g12 101 dX0_sink_85 (by decide) (fun c13 => ?_) (fun c13 => ?_)
        · have hw := hw.1 c13
          exact xr_vret C hr hw dX0_sink_101
        · have hw := hw.2 c13
          refine xr_aload_n C 0 dX0_sink_88 rfl rfl ?_
          refine xr_iload_n C 1 dX0_sink_89 rfl rfl ?_
          refine xr_iconst C dX0_sink_90 ?_
          refine xr_iconst C dX0_sink_91 ?_
          refine xr_callVv C (ci := 0) (q0 := 0) (As := [.int (i32 x1), .int (i32 4), .int (i32 1)]) (rest := []) (xSp_rf _ _) (by decide) (fun h => h) (mX0_put σ10 x1 4 1 _ hw) (cwV 3 C.2.2.2.2.1 gX0_sink_X0_put rfl rfl rfl (by decide +kernel) ⟨by decide, by decide⟩) rfl rfl rfl rfl (Nat.le_of_ble_eq_true rfl) ⟨by decide, by decide⟩ dX0_sink_92 (fun σ15 hw => ?_)
          refine xr_aload_n C 0 dX0_sink_95 rfl rfl ?_
          refine xr_iload_n C 1 dX0_sink_96 rfl rfl ?_
          refine xr_iconst C dX0_sink_97 ?_
          refine xr_callVv C (ci := 0) (q0 := 0) (As := [.int (i32 x1), .int (i32 1)]) (rest := []) (xSp_rf _ _) (by decide) (fun h => h) (mX0_write σ15 x1 1 _ hw) (cwV 2 C.2.2.2.2.1 gX0_sink_X0_write rfl rfl rfl (by decide +kernel) ⟨by decide, by decide⟩) rfl rfl rfl rfl (Nat.le_of_ble_eq_true rfl) ⟨by decide, by decide⟩ dX0_sink_98 (fun σ17 hw => ?_)
          exact xr_vret C hr hw dX0_sink_101
    · have hw := hw.2 c4
      refine xr_aload_n C 0 dX0_sink_59 rfl rfl ?_
      refine xr_iload_n C 1 dX0_sink_60 rfl rfl ?_
      refine xr_iconst C dX0_sink_61 ?_
      refine xr_callVv C (ci := 0) (q0 := 0) (As := [.int (i32 x1), .int (i32 0)]) (rest := []) (xSp_rf _ _) (by decide) (fun h => h) (mX0_write σ2 x1 0 _ hw) (cwV 2 C.2.2.2.2.1 gX0_sink_X0_write rfl rfl rfl (by decide +kernel) ⟨by decide, by decide⟩) rfl rfl rfl rfl (Nat.le_of_ble_eq_true rfl) ⟨by decide, by decide⟩ dX0_sink_62 (fun σ19 hw => ?_)
      refine xr_goto C 101 dX0_sink_65 (by decide) ?_
      exact xr_vret C hr hw dX0_sink_101
  have B29 : ∀ (x1 y0 : Int) (σ0 : xS), vX0_sink_29  Q x1 y0 σ0 → xX p l e rmX0_sink s m args below meth c D vwCl (va_A ((wB ad cI cJ cZ) σ) s.heap.size) (wB ad cI cJ cZ) [7, 8] σ 0 0 (MQ below (xQv D (wB ad cI cJ cZ) [7, 8] σ s.heap.size Q) args s 0 0 (va_A ((wB ad cI cJ cZ) σ) s.heap.size)) 3 σ0 29 [(0, .ref (ad 7)), (1, .int (i32 x1))] [.int (i32 y0)] := by
    intro x1 y0 σ0 hw
    unfold vX0_sink_29 at hw
    refine xr_istore_n C [(0, .ref (ad 7)), (1, .int (i32 x1)), (2, .int (i32 y0))] dX0_sink_29 rfl (by decide) rfl ?_
    refine xr_iload_n C 2 dX0_sink_30 rfl rfl ?_
    obtain ⟨g20, hw⟩ := hw
    refine xr_if_eq C g20 50 dX0_sink_31 (by decide) (fun c21 => ?_) (fun c21 => ?_)
    · have hw := hw.1 c21
      exact B50 x1 y0 σ0 hw
    · have hw := hw.2 c21
      refine xr_aload_n C 0 dX0_sink_34 rfl rfl ?_
      refine xr_iload_n C 1 dX0_sink_35 rfl rfl ?_
      refine xr_bipush C dX0_sink_36 (by decide +kernel) ?_
      refine xr_aload_n C 0 dX0_sink_38 rfl rfl ?_
      refine xr_iload_n C 1 dX0_sink_39 rfl rfl ?_
      refine xr_bipush C dX0_sink_40 (by decide +kernel) ?_
      refine xr_callVi C (ci := 0) (q0 := 0) (As := [.int (i32 x1), .int (i32 6)]) (rest := [.int (i32 6), .int (i32 x1), .ref (ad 7)]) (xSp_rf _ _) (by decide) (fun h => h) (mX0_property σ0 x1 6 _ hw) (cwV 2 C.2.2.2.2.1 gX0_sink_X0_property rfl rfl rfl (by decide +kernel) ⟨by decide, by decide⟩) rfl rfl rfl rfl (Nat.le_of_ble_eq_true rfl) ⟨by decide, by decide⟩ dX0_sink_42 (fun r22 σ23 hw => ?_)
      refine xr_iconst C dX0_sink_45 ?_
      refine xr_iadd C dX0_sink_46 ?_
      refine xr_callVv C (ci := 0) (q0 := 0) (As := [.int (i32 x1), .int (i32 6), .int (i32 (r22 + 1))]) (rest := []) (xSp_rf _ _) (by decide) (fun h => h) (mX0_put σ23 x1 6 (r22 + 1) _ hw) (cwV 3 C.2.2.2.2.1 gX0_sink_X0_put rfl rfl rfl (by decide +kernel) ⟨by decide, by decide⟩) rfl rfl rfl rfl (Nat.le_of_ble_eq_true rfl) ⟨by decide, by decide⟩ dX0_sink_47 (fun σ25 hw => ?_)
      exact B50 x1 y0 σ25 hw
  show xX p l e rmX0_sink s m args below meth c D vwCl (va_A ((wB ad cI cJ cZ) σ) s.heap.size) (wB ad cI cJ cZ) [7, 8] σ 0 0 (MQ below (xQv D (wB ad cI cJ cZ) [7, 8] σ s.heap.size Q) args s 0 0 (va_A ((wB ad cI cJ cZ) σ) s.heap.size)) 3 σ 0 [(0, .ref (ad 7)), (1, .int (i32 a1))] []
  unfold vX0_sink at hw
  refine xr_aload_n C 0 dX0_sink_0 rfl rfl ?_
  refine xr_iload_n C 1 dX0_sink_1 rfl rfl ?_
  refine xr_iconst C dX0_sink_2 ?_
  refine xr_aload_n C 0 dX0_sink_3 rfl rfl ?_
  refine xr_iload_n C 1 dX0_sink_4 rfl rfl ?_
  refine xr_iconst C dX0_sink_5 ?_
  refine xr_callVi C (ci := 0) (q0 := 0) (As := [.int (i32 a1), .int (i32 1)]) (rest := [.int (i32 1), .int (i32 a1), .ref (ad 7)]) (xSp_rf _ _) (by decide) (fun h => h) (mX0_property σ a1 1 _ hw) (cwV 2 C.2.2.2.2.1 gX0_sink_X0_property rfl rfl rfl (by decide +kernel) ⟨by decide, by decide⟩) rfl rfl rfl rfl (Nat.le_of_ble_eq_true rfl) ⟨by decide, by decide⟩ dX0_sink_6 (fun r26 σ27 hw => ?_)
  refine xr_iconst C dX0_sink_9 ?_
  refine xr_isub C dX0_sink_10 ?_
  refine xr_callVv C (ci := 0) (q0 := 0) (As := [.int (i32 a1), .int (i32 1), .int (i32 (r26 - 1))]) (rest := []) (xSp_rf _ _) (by decide) (fun h => h) (mX0_put σ27 a1 1 (r26 - 1) _ hw) (cwV 3 C.2.2.2.2.1 gX0_sink_X0_put rfl rfl rfl (by decide +kernel) ⟨by decide, by decide⟩) rfl rfl rfl rfl (Nat.le_of_ble_eq_true rfl) ⟨by decide, by decide⟩ dX0_sink_11 (fun σ29 hw => ?_)
  refine xr_aload_n C 0 dX0_sink_14 rfl rfl ?_
  refine xr_iload_n C 1 dX0_sink_15 rfl rfl ?_
  refine xr_iconst C dX0_sink_16 ?_
  refine xr_callVi C (ci := 0) (q0 := 0) (As := [.int (i32 a1), .int (i32 2)]) (rest := []) (xSp_rf _ _) (by decide) (fun h => h) (mX0_property σ29 a1 2 _ hw) (cwV 2 C.2.2.2.2.1 gX0_sink_X0_property rfl rfl rfl (by decide +kernel) ⟨by decide, by decide⟩) rfl rfl rfl rfl (Nat.le_of_ble_eq_true rfl) ⟨by decide, by decide⟩ dX0_sink_17 (fun r30 σ31 hw => ?_)
  refine xr_iconst C dX0_sink_20 ?_
  obtain ⟨g32, hw⟩ := hw
  refine xr_icmp_ne C g32 ⟨by decide, by decide⟩ 28 dX0_sink_21 (by decide) (fun c33 => ?_) (fun c33 => ?_)
  · have hw := hw.1 c33
    refine xr_iconst C dX0_sink_28 ?_
    exact B29 a1 0 σ31 hw
  · have hw := hw.2 c33
    refine xr_iconst C dX0_sink_24 ?_
    refine xr_goto C 29 dX0_sink_25 (by decide) ?_
    exact B29 a1 1 σ31 hw
abbrev rmX0_passSecond : Room := { frames := 3, cells := 0, slots := 0, locals := 129 }
set_option maxHeartbeats 8000000 in
set_option maxRecDepth 100000 in
theorem mX0_passSecond {l : Launch} {D : va_G} {ad : Nat → Nat} {cI cJ cZ : ClassId} (σ : xS) (Q : xS → Prop) (hw : vX0_passSecond σ Q) : xMv False l yX0_passSecond wsX0_passSecond rmX0_passSecond D (xtys cI cJ cZ) (wB ad cI cJ cZ) [7, 8] σ [.ref (ad 7)] Q := by
  refine xenter (F := [7, 8]) (Qc := fun sz => xQv D (wB ad cI cJ cZ) [7, 8] σ sz Q) (own := RX0) (cc := cX0_passSecond) (maxL := 2) (ret := none) (by decide) rfl rfl (Nat.le_of_ble_eq_true rfl) ?_
  intro p e s m args below meth c hargs C hr hnm
  have hinX0 : ∀ w ∈ u_ws RX0 TX0 1, w ∈ wsX0_passSecond := fun _ h => List.mem_cons_of_mem _ (List.mem_append_right _ h)
  have m0 : (Cond.fieldLink RX0 11 "SandBench$Bench" "cells" "[I") ∈ wsX0_passSecond := by decide +kernel
  have L13 : ∀ a, mu (vX0_passSecond_13  Q) a → xX p l e rmX0_passSecond s m args below meth c D vwCl (va_A ((wB ad cI cJ cZ) σ) s.heap.size) (wB ad cI cJ cZ) [7, 8] σ 0 0 (MQ below (xQv D (wB ad cI cJ cZ) [7, 8] σ s.heap.size Q) args s 0 0 (va_A ((wB ad cI cJ cZ) σ) s.heap.size)) 2 (a.2) 13 [(0, .ref (ad 7)), (1, .int (i32 (a.1)))] [] := by
    refine mu_ind (fun K13 hK13 a hw => ?_)
    obtain ⟨x1, σ0⟩ := a
    show xX p l e rmX0_passSecond s m args below meth c D vwCl (va_A ((wB ad cI cJ cZ) σ) s.heap.size) (wB ad cI cJ cZ) [7, 8] σ 0 0 (MQ below (xQv D (wB ad cI cJ cZ) [7, 8] σ s.heap.size Q) args s 0 0 (va_A ((wB ad cI cJ cZ) σ) s.heap.size)) 2 σ0 13 [(0, .ref (ad 7)), (1, .int (i32 x1))] []
    unfold vX0_passSecond_13 at hw
    refine xr_iload_n C 1 dX0_passSecond_13 rfl rfl ?_
    refine xr_aload_n C 0 dX0_passSecond_14 rfl rfl ?_
    refine xr_callVi C (ci := 0) (q0 := 0) (As := []) (rest := [.int (i32 x1)]) (xSp_rf _ _) (by decide) (fun h => h) (mX0_glasses σ0 _ hw) (cwV 0 C.2.2.2.2.1 gX0_passSecond_X0_glasses rfl rfl rfl (by decide +kernel) ⟨by decide, by decide⟩) rfl rfl rfl rfl (Nat.le_of_ble_eq_true rfl) ⟨by decide, by decide⟩ dX0_passSecond_15 (fun r1 σ2 hw => ?_)
    obtain ⟨g3, hw⟩ := hw
    obtain ⟨g4, hw⟩ := hw
    refine xr_icmp_ge C g3 g4 40 dX0_passSecond_18 (by decide) (fun c5 => ?_) (fun c5 => ?_)
    · have hw := hw.1 c5
      exact xr_vret C hr hw dX0_passSecond_40
    · have hw := hw.2 c5
      refine xr_aload_n C 0 dX0_passSecond_21 rfl rfl ?_
      refine xr_iload_n C 1 dX0_passSecond_22 rfl rfl ?_
      refine xr_callVi C (ci := 0) (q0 := 0) (As := [.int (i32 x1)]) (rest := []) (xSp_rf _ _) (by decide) (fun h => h) (mX0_runs σ2 x1 _ hw) (cwV 1 C.2.2.2.2.1 gX0_passSecond_X0_runs rfl rfl rfl (by decide +kernel) ⟨by decide, by decide⟩) rfl rfl rfl rfl (Nat.le_of_ble_eq_true rfl) ⟨by decide, by decide⟩ dX0_passSecond_23 (fun r6 σ7 hw => ?_)
      obtain ⟨g8, hw⟩ := hw
      refine xr_if_eq C g8 34 dX0_passSecond_26 (by decide) (fun c9 => ?_) (fun c9 => ?_)
      · have hw := hw.1 c9
        refine xr_iinc C 1 [(0, .ref (ad 7)), (1, .int (i32 (x1 + 1)))] dX0_passSecond_34 rfl (by decide) rfl ?_
        refine xr_goto C 13 dX0_passSecond_37 (by decide) ?_
        exact hK13 ((x1 + 1), σ7) hw
      · have hw := hw.2 c9
        refine xr_aload_n C 0 dX0_passSecond_29 rfl rfl ?_
        refine xr_iload_n C 1 dX0_passSecond_30 rfl rfl ?_
        refine xr_callVv C (ci := 0) (q0 := 0) (As := [.int (i32 x1)]) (rest := []) (xSp_rf _ _) (by decide) (fun h => h) (mX0_sink σ7 x1 _ hw) (cwV 1 C.2.2.2.2.1 gX0_passSecond_X0_sink rfl rfl rfl (by decide +kernel) ⟨by decide, by decide⟩) rfl rfl rfl rfl (Nat.le_of_ble_eq_true rfl) ⟨by decide, by decide⟩ dX0_passSecond_31 (fun σ11 hw => ?_)
        refine xr_iinc C 1 [(0, .ref (ad 7)), (1, .int (i32 (x1 + 1)))] dX0_passSecond_34 rfl (by decide) rfl ?_
        refine xr_goto C 13 dX0_passSecond_37 (by decide) ?_
        exact hK13 ((x1 + 1), σ11) hw
  show xX p l e rmX0_passSecond s m args below meth c D vwCl (va_A ((wB ad cI cJ cZ) σ) s.heap.size) (wB ad cI cJ cZ) [7, 8] σ 0 0 (MQ below (xQv D (wB ad cI cJ cZ) [7, 8] σ s.heap.size Q) args s 0 0 (va_A ((wB ad cI cJ cZ) σ) s.heap.size)) 2 σ 0 [(0, .ref (ad 7))] []
  unfold vX0_passSecond at hw
  refine xr_aload_n C 0 dX0_passSecond_0 rfl rfl ?_
  refine xr_get C hinX0 (N := 1) (ci := 0) (a := (ad 7)) 0 rfl rfl 0 (by decide) m0 rfl rfl dX0_passSecond_1 ?_
  refine xr_bipush C dX0_passSecond_4 (by decide +kernel) ?_
  refine xr_dup2 C dX0_passSecond_6 rfl rfl ?_
  refine xr_iald C (t0 := 0) 1 rfl rfl (by decide) (N := 63) rfl ⟨by decide, by decide⟩ dX0_passSecond_7 ?_
  refine xr_iconst C dX0_passSecond_8 ?_
  refine xr_iadd C dX0_passSecond_9 ?_
  refine xr_iast C (t0 := 0) (r := 8) 1 rfl rfl (by decide) (N := 63) rfl ⟨by decide, by decide⟩ wB_st8 (by decide) dX0_passSecond_10 ?_
  refine xr_sig (fun σ12 e13 => ?_)
  have hw := hw σ12 e13
  refine xr_iconst C dX0_passSecond_11 ?_
  refine xr_istore_n C [(0, .ref (ad 7)), (1, .int (i32 0))] dX0_passSecond_12 rfl (by decide) rfl ?_
  exact L13 (0, σ12) hw
abbrev rmX0_letPass : Room := { frames := 4, cells := 0, slots := 0, locals := 150 }
set_option maxHeartbeats 8000000 in
set_option maxRecDepth 100000 in
theorem mX0_letPass {l : Launch} {D : va_G} {ad : Nat → Nat} {cI cJ cZ : ClassId} (σ : xS) (a1 : Int) (Q : Int → xS → Prop) (hw : vX0_letPass a1 σ Q) : xMi False l yX0_letPass wsX0_letPass rmX0_letPass D (xtys cI cJ cZ) (wB ad cI cJ cZ) [7, 8] σ [.ref (ad 7), .int (i32 a1)] Q := by
  refine xenter (F := [7, 8]) (Qc := fun sz => xQi D (wB ad cI cJ cZ) [7, 8] σ sz Q) (own := RX0) (cc := cX0_letPass) (maxL := 4) (ret := some .int) (by decide) rfl rfl (Nat.le_of_ble_eq_true rfl) ?_
  intro p e s m args below meth c hargs C hr hnm
  have hinX0 : ∀ w ∈ u_ws RX0 TX0 1, w ∈ wsX0_letPass := fun _ h => List.mem_cons_of_mem _ (List.mem_append_right _ h)
  have m0 : (Cond.fieldLink RX0 11 "SandBench$Bench" "cells" "[I") ∈ wsX0_letPass := by decide +kernel
  have B31 : ∀ (x2 x3 : Int) (σ0 : xS), vX0_letPass_31  Q x2 x3 σ0 → xX p l e rmX0_letPass s m args below meth c D vwCl (va_A ((wB ad cI cJ cZ) σ) s.heap.size) (wB ad cI cJ cZ) [7, 8] σ 0 0 (MQ below (xQi D (wB ad cI cJ cZ) [7, 8] σ s.heap.size Q) args s 0 0 (va_A ((wB ad cI cJ cZ) σ) s.heap.size)) 4 σ0 31 [(0, .ref (ad 7)), (2, .int (i32 x2)), (3, .int (i32 x3))] [] := by
    intro x2 x3 σ0 hw
    unfold vX0_letPass_31 at hw
    refine xr_aload_n C 0 dX0_letPass_31 rfl rfl ?_
    refine xr_get C hinX0 (N := 1) (ci := 0) (a := (ad 7)) 0 rfl rfl 0 (by decide) m0 rfl rfl dX0_letPass_32 ?_
    refine xr_bipush C dX0_letPass_35 (by decide +kernel) ?_
    refine xr_dup2 C dX0_letPass_37 rfl rfl ?_
    refine xr_iald C (t0 := 0) 1 rfl rfl (by decide) (N := 63) rfl ⟨by decide, by decide⟩ dX0_letPass_38 ?_
    refine xr_iload_n C 2 dX0_letPass_39 rfl rfl ?_
    refine xr_iadd C dX0_letPass_40 ?_
    refine xr_iast C (t0 := 0) (r := 8) 1 rfl rfl (by decide) (N := 63) rfl ⟨by decide, by decide⟩ wB_st8 (by decide) dX0_letPass_41 ?_
    refine xr_sig (fun σ1 e2 => ?_)
    have hw := hw σ1 e2
    refine xr_aload_n C 0 dX0_letPass_42 rfl rfl ?_
    refine xr_get C hinX0 (N := 1) (ci := 0) (a := (ad 7)) 0 rfl rfl 0 (by decide) m0 rfl rfl dX0_letPass_43 ?_
    refine xr_bipush C dX0_letPass_46 (by decide +kernel) ?_
    refine xr_iald C (t0 := 0) 1 rfl rfl (by decide) (N := 63) rfl ⟨by decide, by decide⟩ dX0_letPass_48 ?_
    refine xr_iload_n C 1 dX0_letPass_49 rfl rfl ?_
    refine xr_isub C dX0_letPass_50 ?_
    exact xr_iret C hr hw dX0_letPass_51
  have L10 : ∀ a, mu (vX0_letPass_10  Q) a → xX p l e rmX0_letPass s m args below meth c D vwCl (va_A ((wB ad cI cJ cZ) σ) s.heap.size) (wB ad cI cJ cZ) [7, 8] σ 0 0 (MQ below (xQi D (wB ad cI cJ cZ) [7, 8] σ s.heap.size Q) args s 0 0 (va_A ((wB ad cI cJ cZ) σ) s.heap.size)) 4 (a.2.2) 10 [(0, .ref (ad 7)), (2, .int (i32 (a.1))), (3, .int (i32 (a.2.1)))] [] := by
    refine mu_ind (fun K10 hK10 a hw => ?_)
    obtain ⟨x2, x3, σ0⟩ := a
    show xX p l e rmX0_letPass s m args below meth c D vwCl (va_A ((wB ad cI cJ cZ) σ) s.heap.size) (wB ad cI cJ cZ) [7, 8] σ 0 0 (MQ below (xQi D (wB ad cI cJ cZ) [7, 8] σ s.heap.size Q) args s 0 0 (va_A ((wB ad cI cJ cZ) σ) s.heap.size)) 4 σ0 10 [(0, .ref (ad 7)), (2, .int (i32 x2)), (3, .int (i32 x3))] []
    unfold vX0_letPass_10 at hw
    refine xr_iload_n C 2 dX0_letPass_10 rfl rfl ?_
    obtain ⟨g3, hw⟩ := hw
    refine xr_if_le C g3 31 dX0_letPass_11 (by decide) (fun c4 => ?_) (fun c4 => ?_)
    · have hw := hw.1 c4
      exact B31 x2 x3 σ0 hw
    · have hw := hw.2 c4
      refine xr_aload_n C 0 dX0_letPass_14 rfl rfl ?_
      refine xr_callVi C (ci := 0) (q0 := 0) (As := []) (rest := []) (xSp_rf _ _) (by decide) (fun h => h) (mX0_secondsToEvent σ0 _ hw) (cwV 0 C.2.2.2.2.1 gX0_letPass_X0_secondsToEvent rfl rfl rfl (by decide +kernel) ⟨by decide, by decide⟩) rfl rfl rfl rfl (Nat.le_of_ble_eq_true rfl) ⟨by decide, by decide⟩ dX0_letPass_15 (fun r5 σ6 hw => ?_)
      obtain ⟨g7, hw⟩ := hw
      refine xr_if_le C g7 31 dX0_letPass_18 (by decide) (fun c8 => ?_) (fun c8 => ?_)
      · have hw := hw.1 c8
        exact B31 x2 x3 σ6 hw
      · have hw := hw.2 c8
        refine xr_aload_n C 0 dX0_letPass_21 rfl rfl ?_
        refine xr_callVv C (ci := 0) (q0 := 0) (As := []) (rest := []) (xSp_rf _ _) (by decide) (fun h => h) (mX0_passSecond σ6 _ hw) (cwV 0 C.2.2.2.2.1 gX0_letPass_X0_passSecond rfl rfl rfl (by decide +kernel) ⟨by decide, by decide⟩) rfl rfl rfl rfl (Nat.le_of_ble_eq_true rfl) ⟨by decide, by decide⟩ dX0_letPass_22 (fun σ10 hw => ?_)
        refine xr_iinc C 2 [(0, .ref (ad 7)), (2, .int (i32 x2)), (3, .int (i32 (x3 + (-1))))] dX0_letPass_25 rfl (by decide) rfl ?_
        refine xr_goto C 10 dX0_letPass_28 (by decide) ?_
        exact hK10 (x2, (x3 + (-1)), σ10) hw
  show xX p l e rmX0_letPass s m args below meth c D vwCl (va_A ((wB ad cI cJ cZ) σ) s.heap.size) (wB ad cI cJ cZ) [7, 8] σ 0 0 (MQ below (xQi D (wB ad cI cJ cZ) [7, 8] σ s.heap.size Q) args s 0 0 (va_A ((wB ad cI cJ cZ) σ) s.heap.size)) 4 σ 0 [(0, .ref (ad 7)), (1, .int (i32 a1))] []
  unfold vX0_letPass at hw
  refine xr_aload_n C 0 dX0_letPass_0 rfl rfl ?_
  refine xr_get C hinX0 (N := 1) (ci := 0) (a := (ad 7)) 0 rfl rfl 0 (by decide) m0 rfl rfl dX0_letPass_1 ?_
  refine xr_bipush C dX0_letPass_4 (by decide +kernel) ?_
  refine xr_iald C (t0 := 0) 1 rfl rfl (by decide) (N := 63) rfl ⟨by decide, by decide⟩ dX0_letPass_6 ?_
  refine xr_istore_n C [(0, .ref (ad 7)), (1, .int (i32 a1)), (2, .int (i32 (σ 8 60)))] dX0_letPass_7 rfl (by decide) rfl ?_
  refine xr_iload_n C 1 dX0_letPass_8 rfl rfl ?_
  refine xr_istore_n C [(0, .ref (ad 7)), (1, .int (i32 a1)), (2, .int (i32 (σ 8 60))), (3, .int (i32 a1))] dX0_letPass_9 rfl (by decide) rfl ?_
  refine xr_sub C [0, 2, 3] [(0, .ref (ad 7)), (2, .int (i32 (σ 8 60))), (3, .int (i32 a1))] rfl ?_
  exact L10 ((σ 8 60), a1, σ) hw
abbrev rmX0_markedTime : Room := { frames := 0, cells := 0, slots := 0, locals := 64 }
set_option maxHeartbeats 8000000 in
set_option maxRecDepth 100000 in
theorem mX0_markedTime {l : Launch} {D : va_G} {ad : Nat → Nat} {cI cJ cZ : ClassId} (σ : xS) (Q : Int → xS → Prop) (hw : vX0_markedTime σ Q) : xMi False l yX0_markedTime wsX0_markedTime rmX0_markedTime D (xtys cI cJ cZ) (wB ad cI cJ cZ) [7, 8] σ [.ref (ad 7)] Q := by
  refine xenter (F := [7, 8]) (Qc := fun sz => xQi D (wB ad cI cJ cZ) [7, 8] σ sz Q) (own := RX0) (cc := cX0_markedTime) (maxL := 1) (ret := some .int) (by decide) rfl rfl (Nat.le_of_ble_eq_true rfl) ?_
  intro p e s m args below meth c hargs C hr hnm
  have hinX0 : ∀ w ∈ u_ws RX0 TX0 1, w ∈ wsX0_markedTime := fun _ h => List.mem_cons_of_mem _ (List.mem_append_right _ h)
  have m0 : (Cond.fieldLink RX0 11 "SandBench$Bench" "cells" "[I") ∈ wsX0_markedTime := by decide +kernel
  show xX p l e rmX0_markedTime s m args below meth c D vwCl (va_A ((wB ad cI cJ cZ) σ) s.heap.size) (wB ad cI cJ cZ) [7, 8] σ 0 0 (MQ below (xQi D (wB ad cI cJ cZ) [7, 8] σ s.heap.size Q) args s 0 0 (va_A ((wB ad cI cJ cZ) σ) s.heap.size)) 1 σ 0 [(0, .ref (ad 7))] []
  unfold vX0_markedTime at hw
  refine xr_aload_n C 0 dX0_markedTime_0 rfl rfl ?_
  refine xr_get C hinX0 (N := 1) (ci := 0) (a := (ad 7)) 0 rfl rfl 0 (by decide) m0 rfl rfl dX0_markedTime_1 ?_
  refine xr_bipush C dX0_markedTime_4 (by decide +kernel) ?_
  refine xr_iald C (t0 := 0) 1 rfl rfl (by decide) (N := 63) rfl ⟨by decide, by decide⟩ dX0_markedTime_6 ?_
  exact xr_iret C hr hw dX0_markedTime_7
abbrev rmX0_markTime : Room := { frames := 0, cells := 0, slots := 0, locals := 64 }
set_option maxHeartbeats 8000000 in
set_option maxRecDepth 100000 in
theorem mX0_markTime {l : Launch} {D : va_G} {ad : Nat → Nat} {cI cJ cZ : ClassId} (σ : xS) (Q : xS → Prop) (hw : vX0_markTime σ Q) : xMv False l yX0_markTime wsX0_markTime rmX0_markTime D (xtys cI cJ cZ) (wB ad cI cJ cZ) [7, 8] σ [.ref (ad 7)] Q := by
  refine xenter (F := [7, 8]) (Qc := fun sz => xQv D (wB ad cI cJ cZ) [7, 8] σ sz Q) (own := RX0) (cc := cX0_markTime) (maxL := 1) (ret := none) (by decide) rfl rfl (Nat.le_of_ble_eq_true rfl) ?_
  intro p e s m args below meth c hargs C hr hnm
  have hinX0 : ∀ w ∈ u_ws RX0 TX0 1, w ∈ wsX0_markTime := fun _ h => List.mem_cons_of_mem _ (List.mem_append_right _ h)
  have m0 : (Cond.fieldLink RX0 11 "SandBench$Bench" "cells" "[I") ∈ wsX0_markTime := by decide +kernel
  show xX p l e rmX0_markTime s m args below meth c D vwCl (va_A ((wB ad cI cJ cZ) σ) s.heap.size) (wB ad cI cJ cZ) [7, 8] σ 0 0 (MQ below (xQv D (wB ad cI cJ cZ) [7, 8] σ s.heap.size Q) args s 0 0 (va_A ((wB ad cI cJ cZ) σ) s.heap.size)) 1 σ 0 [(0, .ref (ad 7))] []
  unfold vX0_markTime at hw
  refine xr_aload_n C 0 dX0_markTime_0 rfl rfl ?_
  refine xr_get C hinX0 (N := 1) (ci := 0) (a := (ad 7)) 0 rfl rfl 0 (by decide) m0 rfl rfl dX0_markTime_1 ?_
  refine xr_bipush C dX0_markTime_4 (by decide +kernel) ?_
  refine xr_aload_n C 0 dX0_markTime_6 rfl rfl ?_
  refine xr_get C hinX0 (N := 1) (ci := 0) (a := (ad 7)) 0 rfl rfl 0 (by decide) m0 rfl rfl dX0_markTime_7 ?_
  refine xr_bipush C dX0_markTime_10 (by decide +kernel) ?_
  refine xr_iald C (t0 := 0) 1 rfl rfl (by decide) (N := 63) rfl ⟨by decide, by decide⟩ dX0_markTime_12 ?_
  refine xr_iast C (t0 := 0) (r := 8) 1 rfl rfl (by decide) (N := 63) rfl ⟨by decide, by decide⟩ wB_st8 (by decide) dX0_markTime_13 ?_
  refine xr_sig (fun σ1 e2 => ?_)
  have hw := hw σ1 e2
  exact xr_vret C hr hw dX0_markTime_14
abbrev rmX0_copyFrom : Room := { frames := 1, cells := 0, slots := 0, locals := 64 }
set_option maxHeartbeats 8000000 in
set_option maxRecDepth 100000 in
theorem mX0_copyFrom {l : Launch} {D : va_G} {ad : Nat → Nat} {cI cJ cZ : ClassId} (σ : xS) (a2 : Int) (Q : xS → Prop) (hw : vX0_copyFrom a2 σ Q) : xMv False l yX0_copyFrom wsX0_copyFrom rmX0_copyFrom D (xtys cI cJ cZ) (wRB ad cI cJ cZ) [6, 7, 8] σ [.ref (ad 7), .ref (ad 6), .int (i32 a2)] Q := by
  refine xenter (F := [6, 7, 8]) (Qc := fun sz => xQv D (wRB ad cI cJ cZ) [6, 7, 8] σ sz Q) (own := RX0) (cc := cX0_copyFrom) (maxL := 3) (ret := none) (by decide) rfl rfl (Nat.le_of_ble_eq_true rfl) ?_
  intro p e s m args below meth c hargs C hr hnm
  have hinX0 : ∀ w ∈ u_ws RX0 TX0 1, w ∈ wsX0_copyFrom := fun _ h => List.mem_cons_of_mem _ (List.mem_append_right _ h)
  have m0 : (Cond.fieldLink RX0 11 "SandBench$Bench" "cells" "[I") ∈ wsX0_copyFrom := by decide +kernel
  have m1 : (Cond.methodLink RX0 23 arraycopyName) ∈ wsX0_copyFrom := by decide +kernel
  have m2 : (Cond.native arraycopyName) ∈ wsX0_copyFrom := by decide +kernel
  have m3 : (Cond.static arraycopyName) ∈ wsX0_copyFrom := by decide +kernel
  have m4 : (Cond.initialized "java/lang/System") ∈ wsX0_copyFrom := by decide +kernel
  show xX p l e rmX0_copyFrom s m args below meth c D vwCl (va_A ((wRB ad cI cJ cZ) σ) s.heap.size) (wRB ad cI cJ cZ) [6, 7, 8] σ 0 0 (MQ below (xQv D (wRB ad cI cJ cZ) [6, 7, 8] σ s.heap.size Q) args s 0 0 (va_A ((wRB ad cI cJ cZ) σ) s.heap.size)) 3 σ 0 [(0, .ref (ad 7)), (1, .ref (ad 6)), (2, .int (i32 a2))] []
  unfold vX0_copyFrom at hw
  refine xr_aload_n C 1 dX0_copyFrom_0 rfl rfl ?_
  refine xr_iload_n C 2 dX0_copyFrom_1 rfl rfl ?_
  refine xr_aload_n C 0 dX0_copyFrom_2 rfl rfl ?_
  refine xr_get C hinX0 (N := 1) (ci := 0) (a := (ad 7)) 1 rfl rfl 0 (by decide) m0 rfl rfl dX0_copyFrom_3 ?_
  refine xr_iconst C dX0_copyFrom_6 ?_
  refine xr_bipush C dX0_copyFrom_7 (by decide +kernel) ?_
  obtain ⟨g1, hw⟩ := hw
  refine xr_copy C (t0 := 0) (r := 8) 0 2 rfl rfl rfl (by decide) (by decide) (N0 := 504) (N1 := 63) rfl rfl g1 m1 m2 m3 m4 wRB_cp8 (by decide) (by decide) (Nat.le_of_ble_eq_true rfl) dX0_copyFrom_9 ?_
  refine xr_sig (fun σ2 e3 => ?_)
  have hw := hw σ2 e3
  exact xr_vret C hr hw dX0_copyFrom_12
abbrev rmX0_eventsListed : Room := { frames := 1, cells := 0, slots := 0, locals := 64 }
set_option maxHeartbeats 8000000 in
set_option maxRecDepth 100000 in
theorem mX0_eventsListed {l : Launch} {D : va_G} {ad : Nat → Nat} {cI cJ cZ : ClassId} (σ : xS) (Q : Int → xS → Prop) (hw : vX0_eventsListed σ Q) : xMi False l yX0_eventsListed wsX0_eventsListed rmX0_eventsListed D (xtys cI cJ cZ) (wB ad cI cJ cZ) [7, 8] σ [.ref (ad 7)] Q := by
  refine xenter (F := [7, 8]) (Qc := fun sz => xQi D (wB ad cI cJ cZ) [7, 8] σ sz Q) (own := RX0) (cc := cX0_eventsListed) (maxL := 1) (ret := some .int) (by decide) rfl rfl (Nat.le_of_ble_eq_true rfl) ?_
  intro p e s m args below meth c hargs C hr hnm
  have hinX0 : ∀ w ∈ u_ws RX0 TX0 1, w ∈ wsX0_eventsListed := fun _ h => List.mem_cons_of_mem _ (List.mem_append_right _ h)
  have m0 : (Cond.fieldLink RX0 11 "SandBench$Bench" "cells" "[I") ∈ wsX0_eventsListed := by decide +kernel
  have m1 : (Cond.methodLink RX0 33 Lib.Math.min.name) ∈ wsX0_eventsListed := by decide +kernel
  have m2 : (Cond.static Lib.Math.min.name) ∈ wsX0_eventsListed := by decide +kernel
  have m3 : (Cond.initialized "java/lang/Math") ∈ wsX0_eventsListed := by decide +kernel
  have m4 : (Cond.code Lib.Math.min.name Lib.Math.min.code 2 (some .int)) ∈ wsX0_eventsListed := by decide +kernel
  show xX p l e rmX0_eventsListed s m args below meth c D vwCl (va_A ((wB ad cI cJ cZ) σ) s.heap.size) (wB ad cI cJ cZ) [7, 8] σ 0 0 (MQ below (xQi D (wB ad cI cJ cZ) [7, 8] σ s.heap.size Q) args s 0 0 (va_A ((wB ad cI cJ cZ) σ) s.heap.size)) 1 σ 0 [(0, .ref (ad 7))] []
  unfold vX0_eventsListed at hw
  refine xr_aload_n C 0 dX0_eventsListed_0 rfl rfl ?_
  refine xr_get C hinX0 (N := 1) (ci := 0) (a := (ad 7)) 0 rfl rfl 0 (by decide) m0 rfl rfl dX0_eventsListed_1 ?_
  refine xr_bipush C dX0_eventsListed_4 (by decide +kernel) ?_
  refine xr_iald C (t0 := 0) 1 rfl rfl (by decide) (N := 63) rfl ⟨by decide, by decide⟩ dX0_eventsListed_6 ?_
  refine xr_bipush C dX0_eventsListed_7 (by decide +kernel) ?_
  obtain ⟨g1, hw⟩ := hw
  refine xr_min C g1 ⟨by decide, by decide⟩ m1 m2 m3 m4 (by decide) (Nat.le_of_ble_eq_true rfl) (by decide) (by decide) dX0_eventsListed_9 ?_
  exact xr_iret C hr hw dX0_eventsListed_12
abbrev rmX0_eventPart : Room := { frames := 1, cells := 0, slots := 0, locals := 84 }
set_option maxHeartbeats 8000000 in
set_option maxRecDepth 100000 in
theorem mX0_eventPart {l : Launch} {D : va_G} {ad : Nat → Nat} {cI cJ cZ : ClassId} (σ : xS) (a1 a2 : Int) (Q : Int → xS → Prop) (hw : vX0_eventPart a1 a2 σ Q) : xMi False l yX0_eventPart wsX0_eventPart rmX0_eventPart D (xtys cI cJ cZ) (wB ad cI cJ cZ) [7, 8] σ [.ref (ad 7), .int (i32 a1), .int (i32 a2)] Q := by
  refine xenter (F := [7, 8]) (Qc := fun sz => xQi D (wB ad cI cJ cZ) [7, 8] σ sz Q) (own := RX0) (cc := cX0_eventPart) (maxL := 3) (ret := some .int) (by decide) rfl rfl (Nat.le_of_ble_eq_true rfl) ?_
  intro p e s m args below meth c hargs C hr hnm
  have hinX0 : ∀ w ∈ u_ws RX0 TX0 1, w ∈ wsX0_eventPart := fun _ h => List.mem_cons_of_mem _ (List.mem_append_right _ h)
  have m0 : (Cond.fieldLink RX0 11 "SandBench$Bench" "cells" "[I") ∈ wsX0_eventPart := by decide +kernel
  show xX p l e rmX0_eventPart s m args below meth c D vwCl (va_A ((wB ad cI cJ cZ) σ) s.heap.size) (wB ad cI cJ cZ) [7, 8] σ 0 0 (MQ below (xQi D (wB ad cI cJ cZ) [7, 8] σ s.heap.size Q) args s 0 0 (va_A ((wB ad cI cJ cZ) σ) s.heap.size)) 3 σ 0 [(0, .ref (ad 7)), (1, .int (i32 a1)), (2, .int (i32 a2))] []
  unfold vX0_eventPart at hw
  refine xr_aload_n C 0 dX0_eventPart_0 rfl rfl ?_
  refine xr_get C hinX0 (N := 1) (ci := 0) (a := (ad 7)) 0 rfl rfl 0 (by decide) m0 rfl rfl dX0_eventPart_1 ?_
  refine xr_aload_n C 0 dX0_eventPart_4 rfl rfl ?_
  refine xr_get C hinX0 (N := 1) (ci := 0) (a := (ad 7)) 0 rfl rfl 0 (by decide) m0 rfl rfl dX0_eventPart_5 ?_
  refine xr_bipush C dX0_eventPart_8 (by decide +kernel) ?_
  refine xr_iald C (t0 := 0) 1 rfl rfl (by decide) (N := 63) rfl ⟨by decide, by decide⟩ dX0_eventPart_10 ?_
  refine xr_iconst C dX0_eventPart_11 ?_
  refine xr_isub C dX0_eventPart_12 ?_
  refine xr_iload_n C 1 dX0_eventPart_13 rfl rfl ?_
  refine xr_isub C dX0_eventPart_14 ?_
  refine xr_callSi C (As := [.int (i32 (((σ 8 60) - 1) - a1))]) (rest := [.ref (ad 8)]) (xSp_nil _) (by decide) (fun h => h) (mX0_eventCell σ (((σ 8 60) - 1) - a1) _ hw) (va_cwS 1 C.2.2.2.2.1 gX0_eventPart_X0_eventCell rfl rfl rfl (by decide +kernel) ⟨by decide, by decide⟩) rfl rfl (Nat.le_of_ble_eq_true rfl) ⟨by decide, by decide⟩ dX0_eventPart_15 (fun r1 σ2 hw => ?_)
  refine xr_iload_n C 2 dX0_eventPart_18 rfl rfl ?_
  refine xr_iadd C dX0_eventPart_19 ?_
  obtain ⟨g3, hw⟩ := hw
  refine xr_iald C (t0 := 0) 1 rfl rfl (by decide) (N := 63) rfl g3 dX0_eventPart_20 ?_
  exact xr_iret C hr hw dX0_eventPart_21
abbrev rmX0_time : Room := { frames := 0, cells := 0, slots := 0, locals := 64 }
set_option maxHeartbeats 8000000 in
set_option maxRecDepth 100000 in
theorem mX0_time {l : Launch} {D : va_G} {ad : Nat → Nat} {cI cJ cZ : ClassId} (σ : xS) (Q : Int → xS → Prop) (hw : vX0_time σ Q) : xMi False l yX0_time wsX0_time rmX0_time D (xtys cI cJ cZ) (wB ad cI cJ cZ) [7, 8] σ [.ref (ad 7)] Q := by
  refine xenter (F := [7, 8]) (Qc := fun sz => xQi D (wB ad cI cJ cZ) [7, 8] σ sz Q) (own := RX0) (cc := cX0_time) (maxL := 1) (ret := some .int) (by decide) rfl rfl (Nat.le_of_ble_eq_true rfl) ?_
  intro p e s m args below meth c hargs C hr hnm
  have hinX0 : ∀ w ∈ u_ws RX0 TX0 1, w ∈ wsX0_time := fun _ h => List.mem_cons_of_mem _ (List.mem_append_right _ h)
  have m0 : (Cond.fieldLink RX0 11 "SandBench$Bench" "cells" "[I") ∈ wsX0_time := by decide +kernel
  show xX p l e rmX0_time s m args below meth c D vwCl (va_A ((wB ad cI cJ cZ) σ) s.heap.size) (wB ad cI cJ cZ) [7, 8] σ 0 0 (MQ below (xQi D (wB ad cI cJ cZ) [7, 8] σ s.heap.size Q) args s 0 0 (va_A ((wB ad cI cJ cZ) σ) s.heap.size)) 1 σ 0 [(0, .ref (ad 7))] []
  unfold vX0_time at hw
  refine xr_aload_n C 0 dX0_time_0 rfl rfl ?_
  refine xr_get C hinX0 (N := 1) (ci := 0) (a := (ad 7)) 0 rfl rfl 0 (by decide) m0 rfl rfl dX0_time_1 ?_
  refine xr_bipush C dX0_time_4 (by decide +kernel) ?_
  refine xr_iald C (t0 := 0) 1 rfl rfl (by decide) (N := 63) rfl ⟨by decide, by decide⟩ dX0_time_6 ?_
  exact xr_iret C hr hw dX0_time_7
abbrev rmX0_eventsEver : Room := { frames := 0, cells := 0, slots := 0, locals := 64 }
set_option maxHeartbeats 8000000 in
set_option maxRecDepth 100000 in
theorem mX0_eventsEver {l : Launch} {D : va_G} {ad : Nat → Nat} {cI cJ cZ : ClassId} (σ : xS) (Q : Int → xS → Prop) (hw : vX0_eventsEver σ Q) : xMi False l yX0_eventsEver wsX0_eventsEver rmX0_eventsEver D (xtys cI cJ cZ) (wB ad cI cJ cZ) [7, 8] σ [.ref (ad 7)] Q := by
  refine xenter (F := [7, 8]) (Qc := fun sz => xQi D (wB ad cI cJ cZ) [7, 8] σ sz Q) (own := RX0) (cc := cX0_eventsEver) (maxL := 1) (ret := some .int) (by decide) rfl rfl (Nat.le_of_ble_eq_true rfl) ?_
  intro p e s m args below meth c hargs C hr hnm
  have hinX0 : ∀ w ∈ u_ws RX0 TX0 1, w ∈ wsX0_eventsEver := fun _ h => List.mem_cons_of_mem _ (List.mem_append_right _ h)
  have m0 : (Cond.fieldLink RX0 11 "SandBench$Bench" "cells" "[I") ∈ wsX0_eventsEver := by decide +kernel
  show xX p l e rmX0_eventsEver s m args below meth c D vwCl (va_A ((wB ad cI cJ cZ) σ) s.heap.size) (wB ad cI cJ cZ) [7, 8] σ 0 0 (MQ below (xQi D (wB ad cI cJ cZ) [7, 8] σ s.heap.size Q) args s 0 0 (va_A ((wB ad cI cJ cZ) σ) s.heap.size)) 1 σ 0 [(0, .ref (ad 7))] []
  unfold vX0_eventsEver at hw
  refine xr_aload_n C 0 dX0_eventsEver_0 rfl rfl ?_
  refine xr_get C hinX0 (N := 1) (ci := 0) (a := (ad 7)) 0 rfl rfl 0 (by decide) m0 rfl rfl dX0_eventsEver_1 ?_
  refine xr_bipush C dX0_eventsEver_4 (by decide +kernel) ?_
  refine xr_iald C (t0 := 0) 1 rfl rfl (by decide) (N := 63) rfl ⟨by decide, by decide⟩ dX0_eventsEver_6 ?_
  exact xr_iret C hr hw dX0_eventsEver_7
abbrev rmX0_turns : Room := { frames := 0, cells := 0, slots := 0, locals := 64 }
set_option maxHeartbeats 8000000 in
set_option maxRecDepth 100000 in
theorem mX0_turns {l : Launch} {D : va_G} {ad : Nat → Nat} {cI cJ cZ : ClassId} (σ : xS) (Q : Int → xS → Prop) (hw : vX0_turns σ Q) : xMi False l yX0_turns wsX0_turns rmX0_turns D (xtys cI cJ cZ) (wB ad cI cJ cZ) [7, 8] σ [.ref (ad 7)] Q := by
  refine xenter (F := [7, 8]) (Qc := fun sz => xQi D (wB ad cI cJ cZ) [7, 8] σ sz Q) (own := RX0) (cc := cX0_turns) (maxL := 1) (ret := some .int) (by decide) rfl rfl (Nat.le_of_ble_eq_true rfl) ?_
  intro p e s m args below meth c hargs C hr hnm
  have hinX0 : ∀ w ∈ u_ws RX0 TX0 1, w ∈ wsX0_turns := fun _ h => List.mem_cons_of_mem _ (List.mem_append_right _ h)
  have m0 : (Cond.fieldLink RX0 11 "SandBench$Bench" "cells" "[I") ∈ wsX0_turns := by decide +kernel
  show xX p l e rmX0_turns s m args below meth c D vwCl (va_A ((wB ad cI cJ cZ) σ) s.heap.size) (wB ad cI cJ cZ) [7, 8] σ 0 0 (MQ below (xQi D (wB ad cI cJ cZ) [7, 8] σ s.heap.size Q) args s 0 0 (va_A ((wB ad cI cJ cZ) σ) s.heap.size)) 1 σ 0 [(0, .ref (ad 7))] []
  unfold vX0_turns at hw
  refine xr_aload_n C 0 dX0_turns_0 rfl rfl ?_
  refine xr_get C hinX0 (N := 1) (ci := 0) (a := (ad 7)) 0 rfl rfl 0 (by decide) m0 rfl rfl dX0_turns_1 ?_
  refine xr_bipush C dX0_turns_4 (by decide +kernel) ?_
  refine xr_iald C (t0 := 0) 1 rfl rfl (by decide) (N := 63) rfl ⟨by decide, by decide⟩ dX0_turns_6 ?_
  exact xr_iret C hr hw dX0_turns_7
abbrev rmX0_taps : Room := { frames := 0, cells := 0, slots := 0, locals := 64 }
set_option maxHeartbeats 8000000 in
set_option maxRecDepth 100000 in
theorem mX0_taps {l : Launch} {D : va_G} {ad : Nat → Nat} {cI cJ cZ : ClassId} (σ : xS) (Q : Int → xS → Prop) (hw : vX0_taps σ Q) : xMi False l yX0_taps wsX0_taps rmX0_taps D (xtys cI cJ cZ) (wB ad cI cJ cZ) [7, 8] σ [.ref (ad 7)] Q := by
  refine xenter (F := [7, 8]) (Qc := fun sz => xQi D (wB ad cI cJ cZ) [7, 8] σ sz Q) (own := RX0) (cc := cX0_taps) (maxL := 1) (ret := some .int) (by decide) rfl rfl (Nat.le_of_ble_eq_true rfl) ?_
  intro p e s m args below meth c hargs C hr hnm
  have hinX0 : ∀ w ∈ u_ws RX0 TX0 1, w ∈ wsX0_taps := fun _ h => List.mem_cons_of_mem _ (List.mem_append_right _ h)
  have m0 : (Cond.fieldLink RX0 11 "SandBench$Bench" "cells" "[I") ∈ wsX0_taps := by decide +kernel
  show xX p l e rmX0_taps s m args below meth c D vwCl (va_A ((wB ad cI cJ cZ) σ) s.heap.size) (wB ad cI cJ cZ) [7, 8] σ 0 0 (MQ below (xQi D (wB ad cI cJ cZ) [7, 8] σ s.heap.size Q) args s 0 0 (va_A ((wB ad cI cJ cZ) σ) s.heap.size)) 1 σ 0 [(0, .ref (ad 7))] []
  unfold vX0_taps at hw
  refine xr_aload_n C 0 dX0_taps_0 rfl rfl ?_
  refine xr_get C hinX0 (N := 1) (ci := 0) (a := (ad 7)) 0 rfl rfl 0 (by decide) m0 rfl rfl dX0_taps_1 ?_
  refine xr_bipush C dX0_taps_4 (by decide +kernel) ?_
  refine xr_iald C (t0 := 0) 1 rfl rfl (by decide) (N := 63) rfl ⟨by decide, by decide⟩ dX0_taps_6 ?_
  exact xr_iret C hr hw dX0_taps_7
