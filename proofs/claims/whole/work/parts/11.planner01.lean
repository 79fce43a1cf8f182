abbrev rmX2_shapeOf : Room := { frames := 1, cells := 0, slots := 0, locals := 86 }
set_option maxHeartbeats 8000000 in
set_option maxRecDepth 100000 in
theorem mX2_shapeOf {l : Launch} {D : va_G} {ad : Nat → Nat} {cI cJ cZ : ClassId} (σ : xS) (Q : Int → xS → Prop) (hw : vX2_shapeOf σ Q) : xMi False l yX2_shapeOf wsX2_shapeOf rmX2_shapeOf D (xtys cI cJ cZ) (wB ad cI cJ cZ) [7, 8] σ [.ref (ad 7)] Q := by
  refine xenter (F := [7, 8]) (Qc := fun sz => xQi D (wB ad cI cJ cZ) [7, 8] σ sz Q) (own := RX2) (cc := cX2_shapeOf) (maxL := 3) (ret := some .int) (by decide) rfl rfl (Nat.le_of_ble_eq_true rfl) ?_
  intro p e s m args below meth c hargs C hr hnm
  have L4 : ∀ a, mu (vX2_shapeOf_4  Q) a → xX p l e rmX2_shapeOf s m args below meth c D vwCl (va_A ((wB ad cI cJ cZ) σ) s.heap.size) (wB ad cI cJ cZ) [7, 8] σ 0 0 (MQ below (xQi D (wB ad cI cJ cZ) [7, 8] σ s.heap.size Q) args s 0 0 (va_A ((wB ad cI cJ cZ) σ) s.heap.size)) 3 (a.2.2) 4 [(0, .ref (ad 7)), (1, .int (i32 (a.1))), (2, .int (i32 (a.2.1)))] [] := by
    refine mu_ind (fun K4 hK4 a hw => ?_)
    obtain ⟨x1, x2, σ0⟩ := a
    show xX p l e rmX2_shapeOf s m args below meth c D vwCl (va_A ((wB ad cI cJ cZ) σ) s.heap.size) (wB ad cI cJ cZ) [7, 8] σ 0 0 (MQ below (xQi D (wB ad cI cJ cZ) [7, 8] σ s.heap.size Q) args s 0 0 (va_A ((wB ad cI cJ cZ) σ) s.heap.size)) 3 σ0 4 [(0, .ref (ad 7)), (1, .int (i32 x1)), (2, .int (i32 x2))] []
    unfold vX2_shapeOf_4 at hw
    refine xr_iload_n C 2 dX2_shapeOf_4 rfl rfl ?_
    refine xr_aload_n C 0 dX2_shapeOf_5 rfl rfl ?_
    refine xr_callVi C (ci := 0) (q0 := 0) (As := []) (rest := [.int (i32 x2)]) (xSp_rf _ _) (by decide) (fun h => h) (mX0_glasses σ0 _ hw) (cwV 0 C.2.2.2.2.1 gX2_shapeOf_X0_glasses rfl rfl rfl (by decide +kernel) ⟨by decide, by decide⟩) rfl rfl rfl rfl (Nat.le_of_ble_eq_true rfl) ⟨by decide, by decide⟩ dX2_shapeOf_6 (fun r1 σ2 hw => ?_)
    obtain ⟨g3, hw⟩ := hw
    obtain ⟨g4, hw⟩ := hw
    refine xr_icmp_ge C g3 g4 56 dX2_shapeOf_9 (by decide) (fun c5 => ?_) (fun c5 => ?_)
    · have hw := hw.1 c5
      refine xr_iload_n C 1 dX2_shapeOf_56 rfl rfl ?_
      exact xr_iret C hr hw dX2_shapeOf_57
    · have hw := hw.2 c5
      refine xr_aload_n C 0 dX2_shapeOf_12 rfl rfl ?_
      refine xr_iload_n C 2 dX2_shapeOf_13 rfl rfl ?_
      refine xr_iconst C dX2_shapeOf_14 ?_
      refine xr_callVi C (ci := 0) (q0 := 0) (As := [.int (i32 x2), .int (i32 2)]) (rest := []) (xSp_rf _ _) (by decide) (fun h => h) (mX0_property σ2 x2 2 _ hw) (cwV 2 C.2.2.2.2.1 gX2_shapeOf_X0_property rfl rfl rfl (by decide +kernel) ⟨by decide, by decide⟩) rfl rfl rfl rfl (Nat.le_of_ble_eq_true rfl) ⟨by decide, by decide⟩ dX2_shapeOf_15 (fun r6 σ7 hw => ?_)
      refine xr_iconst C dX2_shapeOf_18 ?_
      obtain ⟨g8, hw⟩ := hw
      refine xr_icmp_eq C g8 ⟨by decide, by decide⟩ 50 dX2_shapeOf_19 (by decide) (fun c9 => ?_) (fun c9 => ?_)
      · have hw := hw.1 c9
        refine xr_iinc C 2 [(0, .ref (ad 7)), (1, .int (i32 x1)), (2, .int (i32 (x2 + 1)))] dX2_shapeOf_50 rfl (by decide) rfl ?_
        refine xr_goto C 4 dX2_shapeOf_53 (by decide) ?_
        exact hK4 (x1, (x2 + 1), σ7) hw
      · have hw := hw.2 c9
        refine xr_iload_n C 1 dX2_shapeOf_22 rfl rfl ?_
        refine xr_aload_n C 0 dX2_shapeOf_23 rfl rfl ?_
        refine xr_iload_n C 2 dX2_shapeOf_24 rfl rfl ?_
        refine xr_iconst C dX2_shapeOf_25 ?_
        refine xr_callVi C (ci := 0) (q0 := 0) (As := [.int (i32 x2), .int (i32 0)]) (rest := [.int (i32 x1)]) (xSp_rf _ _) (by decide) (fun h => h) (mX0_property σ7 x2 0 _ hw) (cwV 2 C.2.2.2.2.1 gX2_shapeOf_X0_property rfl rfl rfl (by decide +kernel) ⟨by decide, by decide⟩) rfl rfl rfl rfl (Nat.le_of_ble_eq_true rfl) ⟨by decide, by decide⟩ dX2_shapeOf_26 (fun r10 σ11 hw => ?_)
        refine xr_iconst C dX2_shapeOf_29 ?_
        refine xr_iload_n C 2 dX2_shapeOf_30 rfl rfl ?_
        refine xr_imul C dX2_shapeOf_31 ?_
        refine xr_ishl C dX2_shapeOf_32 ?_
        refine xr_ior C dX2_shapeOf_33 ?_
        refine xr_istore_n C [(0, .ref (ad 7)), (1, .int (i32 (jor x1 (jshl r10 (4 * x2))))), (2, .int (i32 x2))] dX2_shapeOf_34 rfl (by decide) rfl ?_
        refine xr_iload_n C 1 dX2_shapeOf_35 rfl rfl ?_
        refine xr_aload_n C 0 dX2_shapeOf_36 rfl rfl ?_
        refine xr_iload_n C 2 dX2_shapeOf_37 rfl rfl ?_
        refine xr_iconst C dX2_shapeOf_38 ?_
        refine xr_callVi C (ci := 0) (q0 := 0) (As := [.int (i32 x2), .int (i32 5)]) (rest := [.int (i32 (jor x1 (jshl r10 (4 * x2))))]) (xSp_rf _ _) (by decide) (fun h => h) (mX0_property σ11 x2 5 _ hw) (cwV 2 C.2.2.2.2.1 gX2_shapeOf_X0_property rfl rfl rfl (by decide +kernel) ⟨by decide, by decide⟩) rfl rfl rfl rfl (Nat.le_of_ble_eq_true rfl) ⟨by decide, by decide⟩ dX2_shapeOf_39 (fun r12 σ13 hw => ?_)
        refine xr_iconst C dX2_shapeOf_42 ?_
        refine xr_iconst C dX2_shapeOf_43 ?_
        refine xr_iload_n C 2 dX2_shapeOf_44 rfl rfl ?_
        refine xr_iadd C dX2_shapeOf_45 ?_
        refine xr_imul C dX2_shapeOf_46 ?_
        refine xr_ishl C dX2_shapeOf_47 ?_
        refine xr_ior C dX2_shapeOf_48 ?_
        refine xr_topi (fun t14 e15 => ?_)
        have hw := hw t14 e15
        refine xr_istore_n C [(0, .ref (ad 7)), (1, .int (i32 t14)), (2, .int (i32 x2))] dX2_shapeOf_49 rfl (by decide) rfl ?_
        refine xr_iinc C 2 [(0, .ref (ad 7)), (1, .int (i32 t14)), (2, .int (i32 (x2 + 1)))] dX2_shapeOf_50 rfl (by decide) rfl ?_
        refine xr_goto C 4 dX2_shapeOf_53 (by decide) ?_
        exact hK4 (t14, (x2 + 1), σ13) hw
  show xX p l e rmX2_shapeOf s m args below meth c D vwCl (va_A ((wB ad cI cJ cZ) σ) s.heap.size) (wB ad cI cJ cZ) [7, 8] σ 0 0 (MQ below (xQi D (wB ad cI cJ cZ) [7, 8] σ s.heap.size Q) args s 0 0 (va_A ((wB ad cI cJ cZ) σ) s.heap.size)) 3 σ 0 [(0, .ref (ad 7))] []
  unfold vX2_shapeOf at hw
  refine xr_iconst C dX2_shapeOf_0 ?_
  refine xr_istore_n C [(0, .ref (ad 7)), (1, .int (i32 0))] dX2_shapeOf_1 rfl (by decide) rfl ?_
  refine xr_iconst C dX2_shapeOf_2 ?_
  refine xr_istore_n C [(0, .ref (ad 7)), (1, .int (i32 0)), (2, .int (i32 0))] dX2_shapeOf_3 rfl (by decide) rfl ?_
  exact L4 (0, 0, σ) hw
abbrev rmX2_unitsOf : Room := { frames := 0, cells := 0, slots := 0, locals := 64 }
set_option maxHeartbeats 8000000 in
set_option maxRecDepth 100000 in
theorem mX2_unitsOf {l : Launch} {D : va_G} {cI cJ cZ : ClassId} (σ : xS) (a0 a1 : Int) (Q : Int → xS → Prop) (hw : vX2_unitsOf a0 a1 σ Q) : xMi False l yX2_unitsOf wsX2_unitsOf rmX2_unitsOf D (xtys cI cJ cZ) wN [] σ [.int (i32 a0), .int (i32 a1)] Q := by
  refine xenter (F := []) (Qc := fun sz => xQi D wN [] σ sz Q) (own := RX2) (cc := cX2_unitsOf) (maxL := 2) (ret := some .int) (by decide) rfl rfl (Nat.le_of_ble_eq_true rfl) ?_
  intro p e s m args below meth c hargs C hr hnm
  show xX p l e rmX2_unitsOf s m args below meth c D vwCl (va_A (wN σ) s.heap.size) wN [] σ 0 0 (MQ below (xQi D wN [] σ s.heap.size Q) args s 0 0 (va_A (wN σ) s.heap.size)) 2 σ 0 [(0, .int (i32 a0)), (1, .int (i32 a1))] []
  unfold vX2_unitsOf at hw
  refine xr_iload_n C 0 dX2_unitsOf_0 rfl rfl ?_
  refine xr_iconst C dX2_unitsOf_1 ?_
  refine xr_iload_n C 1 dX2_unitsOf_2 rfl rfl ?_
  refine xr_imul C dX2_unitsOf_3 ?_
  refine xr_ishr C dX2_unitsOf_4 ?_
  refine xr_bipush C dX2_unitsOf_5 (by decide +kernel) ?_
  refine xr_iand C dX2_unitsOf_7 ?_
  exact xr_iret C hr hw dX2_unitsOf_8
abbrev rmX2_findTurned : Room := { frames := 1, cells := 0, slots := 0, locals := 87 }
set_option maxHeartbeats 8000000 in
set_option maxRecDepth 100000 in
theorem mX2_findTurned {l : Launch} {D : va_G} {ad : Nat → Nat} {cI cJ cZ : ClassId} (σ : xS) (Q : xS → Prop) (hw : vX2_findTurned σ Q) : xMv False l yX2_findTurned wsX2_findTurned rmX2_findTurned D (xtys cI cJ cZ) (wBP ad cI cJ cZ) [7, 8, 9, 10, 11, 12, 13, 14] σ [.ref (ad 9), .ref (ad 7)] Q := by
  refine xenter (F := [7, 8, 9, 10, 11, 12, 13, 14]) (Qc := fun sz => xQv D (wBP ad cI cJ cZ) [7, 8, 9, 10, 11, 12, 13, 14] σ sz Q) (own := RX2) (cc := cX2_findTurned) (maxL := 5) (ret := none) (by decide) rfl rfl (Nat.le_of_ble_eq_true rfl) ?_
  intro p e s m args below meth c hargs C hr hnm
  have hinX2 : ∀ w ∈ u_ws RX2 TX2 11, w ∈ wsX2_findTurned := fun _ h => List.mem_cons_of_mem _ (List.mem_append_left _ (List.mem_append_right _ h))
  have m0 : (Cond.fieldLink RX2 17 "SandBench$Planner" "turned" "[I") ∈ wsX2_findTurned := by decide +kernel
  have m1 : (Cond.fieldLink RX2 38 "SandBench$Planner" "full" "I") ∈ wsX2_findTurned := by decide +kernel
  have m2 : (Cond.fieldLink RX2 105 "SandBench$Planner" "usefulSet" "I") ∈ wsX2_findTurned := by decide +kernel
  have L56 : ∀ (K15 : Int × xS → Prop) (hK15 : ∀ a, K15 a → xX p l e rmX2_findTurned s m args below meth c D vwCl (va_A ((wBP ad cI cJ cZ) σ) s.heap.size) (wBP ad cI cJ cZ) [7, 8, 9, 10, 11, 12, 13, 14] σ 0 0 (MQ below (xQv D (wBP ad cI cJ cZ) [7, 8, 9, 10, 11, 12, 13, 14] σ s.heap.size Q) args s 0 0 (va_A ((wBP ad cI cJ cZ) σ) s.heap.size)) 5 (a.2) 15 [(0, .ref (ad 9)), (1, .ref (ad 7)), (2, .int (i32 (a.1)))] []), ∀ a, mu (vX2_findTurned_56 K15 Q) a → xX p l e rmX2_findTurned s m args below meth c D vwCl (va_A ((wBP ad cI cJ cZ) σ) s.heap.size) (wBP ad cI cJ cZ) [7, 8, 9, 10, 11, 12, 13, 14] σ 0 0 (MQ below (xQv D (wBP ad cI cJ cZ) [7, 8, 9, 10, 11, 12, 13, 14] σ s.heap.size Q) args s 0 0 (va_A ((wBP ad cI cJ cZ) σ) s.heap.size)) 5 (a.2.2.2) 56 [(0, .ref (ad 9)), (1, .ref (ad 7)), (2, .int (i32 (a.1))), (3, .int (i32 (a.2.1))), (4, .int (i32 (a.2.2.1)))] [] := by
    intro K15 hK15
    refine mu_ind (fun K56 hK56 a hw => ?_)
    obtain ⟨x2, x3, x4, σ0⟩ := a
    show xX p l e rmX2_findTurned s m args below meth c D vwCl (va_A ((wBP ad cI cJ cZ) σ) s.heap.size) (wBP ad cI cJ cZ) [7, 8, 9, 10, 11, 12, 13, 14] σ 0 0 (MQ below (xQv D (wBP ad cI cJ cZ) [7, 8, 9, 10, 11, 12, 13, 14] σ s.heap.size Q) args s 0 0 (va_A ((wBP ad cI cJ cZ) σ) s.heap.size)) 5 σ0 56 [(0, .ref (ad 9)), (1, .ref (ad 7)), (2, .int (i32 x2)), (3, .int (i32 x3)), (4, .int (i32 x4))] []
    unfold vX2_findTurned_56 at hw
    refine xr_iload C 4 dX2_findTurned_56 rfl ?_
    refine xr_bipush C dX2_findTurned_58 (by decide +kernel) ?_
    obtain ⟨g1, hw⟩ := hw
    refine xr_icmp_ge C g1 ⟨by decide, by decide⟩ 92 dX2_findTurned_60 (by decide) (fun c2 => ?_) (fun c2 => ?_)
    · have hw := hw.1 c2
      refine xr_iinc C 2 [(0, .ref (ad 9)), (1, .ref (ad 7)), (2, .int (i32 (x2 + 1))), (3, .int (i32 x3)), (4, .int (i32 x4))] dX2_findTurned_92 rfl (by decide) rfl ?_
      refine xr_goto C 15 dX2_findTurned_95 (by decide) ?_
      refine xr_sub C [0, 1, 2] [(0, .ref (ad 9)), (1, .ref (ad 7)), (2, .int (i32 (x2 + 1)))] rfl ?_
      exact hK15 ((x2 + 1), σ0) hw
    · have hw := hw.2 c2
      refine xr_iload C 4 dX2_findTurned_63 rfl ?_
      refine xr_iload_n C 3 dX2_findTurned_65 rfl rfl ?_
      refine xr_iand C dX2_findTurned_66 ?_
      obtain ⟨g3, hw⟩ := hw
      refine xr_if_eq C g3 86 dX2_findTurned_67 (by decide) (fun c4 => ?_) (fun c4 => ?_)
      · have hw := hw.1 c4
        refine xr_iinc C 4 [(0, .ref (ad 9)), (1, .ref (ad 7)), (2, .int (i32 x2)), (3, .int (i32 x3)), (4, .int (i32 (x4 + 1)))] dX2_findTurned_86 rfl (by decide) rfl ?_
        refine xr_goto C 56 dX2_findTurned_89 (by decide) ?_
        exact hK56 (x2, x3, (x4 + 1), σ0) hw
      · have hw := hw.2 c4
        refine xr_aload_n C 0 dX2_findTurned_70 rfl rfl ?_
        refine xr_get C hinX2 (N := 11) (ci := 2) (a := (ad 9)) 2 rfl rfl 2 (by decide) m0 rfl rfl dX2_findTurned_71 ?_
        refine xr_iload C 4 dX2_findTurned_74 rfl ?_
        refine xr_dup2 C dX2_findTurned_76 rfl rfl ?_
        obtain ⟨g5, hw⟩ := hw
        refine xr_iald C (t0 := 0) 3 rfl rfl (by decide) (N := 8) rfl g5 dX2_findTurned_77 ?_
        refine xr_bipush C dX2_findTurned_78 (by decide +kernel) ?_
        refine xr_iconst C dX2_findTurned_80 ?_
        refine xr_iload_n C 2 dX2_findTurned_81 rfl rfl ?_
        refine xr_imul C dX2_findTurned_82 ?_
        refine xr_ishl C dX2_findTurned_83 ?_
        refine xr_ior C dX2_findTurned_84 ?_
        refine xr_topi (fun t6 e7 => ?_)
        have hw := hw t6 e7
        refine xr_iast C (t0 := 0) (r := 10) 3 rfl rfl (by decide) (N := 8) rfl g5 wBP_st10 (by decide) dX2_findTurned_85 ?_
        refine xr_sig (fun σ8 e9 => ?_)
        have hw := hw σ8 e9
        refine xr_iinc C 4 [(0, .ref (ad 9)), (1, .ref (ad 7)), (2, .int (i32 x2)), (3, .int (i32 x3)), (4, .int (i32 (x4 + 1)))] dX2_findTurned_86 rfl (by decide) rfl ?_
        refine xr_goto C 56 dX2_findTurned_89 (by decide) ?_
        exact hK56 (x2, x3, (x4 + 1), σ8) hw
  have L15 : ∀ a, mu (vX2_findTurned_15  Q) a → xX p l e rmX2_findTurned s m args below meth c D vwCl (va_A ((wBP ad cI cJ cZ) σ) s.heap.size) (wBP ad cI cJ cZ) [7, 8, 9, 10, 11, 12, 13, 14] σ 0 0 (MQ below (xQv D (wBP ad cI cJ cZ) [7, 8, 9, 10, 11, 12, 13, 14] σ s.heap.size Q) args s 0 0 (va_A ((wBP ad cI cJ cZ) σ) s.heap.size)) 5 (a.2) 15 [(0, .ref (ad 9)), (1, .ref (ad 7)), (2, .int (i32 (a.1)))] [] := by
    refine mu_ind (fun K15 hK15 a hw => ?_)
    obtain ⟨x2, σ0⟩ := a
    show xX p l e rmX2_findTurned s m args below meth c D vwCl (va_A ((wBP ad cI cJ cZ) σ) s.heap.size) (wBP ad cI cJ cZ) [7, 8, 9, 10, 11, 12, 13, 14] σ 0 0 (MQ below (xQv D (wBP ad cI cJ cZ) [7, 8, 9, 10, 11, 12, 13, 14] σ s.heap.size Q) args s 0 0 (va_A ((wBP ad cI cJ cZ) σ) s.heap.size)) 5 σ0 15 [(0, .ref (ad 9)), (1, .ref (ad 7)), (2, .int (i32 x2))] []
    unfold vX2_findTurned_15 at hw
    refine xr_iload_n C 2 dX2_findTurned_15 rfl rfl ?_
    refine xr_aload_n C 1 dX2_findTurned_16 rfl rfl ?_
    refine xr_callVi C (ci := 0) (q0 := 0) (As := []) (rest := [.int (i32 x2)]) (sp_wBP_wB ad cI cJ cZ) (by decide) (fun h => h) (mX0_glasses σ0 _ hw) (cwV 0 C.2.2.2.2.1 gX2_findTurned_X0_glasses rfl rfl rfl (by decide +kernel) ⟨by decide, by decide⟩) rfl rfl rfl rfl (Nat.le_of_ble_eq_true rfl) ⟨by decide, by decide⟩ dX2_findTurned_17 (fun r10 σ11 hw => ?_)
    obtain ⟨g12, hw⟩ := hw
    obtain ⟨g13, hw⟩ := hw
    refine xr_icmp_ge C g12 g13 98 dX2_findTurned_20 (by decide) (fun c14 => ?_) (fun c14 => ?_)
    · have hw := hw.1 c14
      exact xr_vret C hr hw dX2_findTurned_98
    · have hw := hw.2 c14
      refine xr_aload_n C 0 dX2_findTurned_23 rfl rfl ?_
      refine xr_get C hinX2 (N := 11) (ci := 2) (a := (ad 9)) 2 rfl rfl 1 (by decide) m1 rfl rfl dX2_findTurned_24 ?_
      refine xr_iload_n C 2 dX2_findTurned_27 rfl rfl ?_
      refine xr_callSi C (As := [.int (i32 (σ11 9 1)), .int (i32 x2)]) (rest := []) (xSp_nil _) (by decide) (fun h => h) (mX2_unitsOf σ11 (σ11 9 1) x2 _ hw) (va_cwS 2 C.2.2.2.2.1 gX2_findTurned_X2_unitsOf rfl rfl rfl (by decide +kernel) ⟨by decide, by decide⟩) rfl rfl (Nat.le_of_ble_eq_true rfl) ⟨by decide, by decide⟩ dX2_findTurned_28 (fun r15 σ16 hw => ?_)
      obtain ⟨g17, hw⟩ := hw
      refine xr_if_le C g17 92 dX2_findTurned_31 (by decide) (fun c18 => ?_) (fun c18 => ?_)
      · have hw := hw.1 c18
        refine xr_iinc C 2 [(0, .ref (ad 9)), (1, .ref (ad 7)), (2, .int (i32 (x2 + 1)))] dX2_findTurned_92 rfl (by decide) rfl ?_
        refine xr_goto C 15 dX2_findTurned_95 (by decide) ?_
        exact hK15 ((x2 + 1), σ16) hw
      · have hw := hw.2 c18
        refine xr_iconst C dX2_findTurned_34 ?_
        refine xr_aload_n C 1 dX2_findTurned_35 rfl rfl ?_
        refine xr_iload_n C 2 dX2_findTurned_36 rfl rfl ?_
        refine xr_iconst C dX2_findTurned_37 ?_
        refine xr_callVi C (ci := 0) (q0 := 0) (As := [.int (i32 x2), .int (i32 5)]) (rest := [.int (i32 1)]) (sp_wBP_wB ad cI cJ cZ) (by decide) (fun h => h) (mX0_property σ16 x2 5 _ hw) (cwV 2 C.2.2.2.2.1 gX2_findTurned_X0_property rfl rfl rfl (by decide +kernel) ⟨by decide, by decide⟩) rfl rfl rfl rfl (Nat.le_of_ble_eq_true rfl) ⟨by decide, by decide⟩ dX2_findTurned_38 (fun r19 σ20 hw => ?_)
        refine xr_ishl C dX2_findTurned_41 ?_
        refine xr_istore_n C [(0, .ref (ad 9)), (1, .ref (ad 7)), (2, .int (i32 x2)), (3, .int (i32 (jshl 1 r19)))] dX2_findTurned_42 rfl (by decide) rfl ?_
        refine xr_aload_n C 0 dX2_findTurned_43 rfl rfl ?_
        refine xr_dup C dX2_findTurned_44 rfl ?_
        refine xr_get C hinX2 (N := 11) (ci := 2) (a := (ad 9)) 2 rfl rfl 3 (by decide) m2 rfl rfl dX2_findTurned_45 ?_
        refine xr_iload_n C 3 dX2_findTurned_48 rfl rfl ?_
        refine xr_ior C dX2_findTurned_49 ?_
        refine xr_put C (r := 9) (x := (jor (σ20 9 3) (jshl 1 r19))) (ty := .int) hinX2 (N := 11) (ci := 2) tyX2 tyX2_ok nmX2 2 rfl rfl 3 (by decide) m2 rfl rfl (by decide +kernel) rfl rfl (Nat.le_of_ble_eq_true rfl) rfl (by decide) dX2_findTurned_50 ?_
        refine xr_sig (fun σ21 e22 => ?_)
        have hw := hw σ21 e22
        refine xr_iconst C dX2_findTurned_53 ?_
        refine xr_istore C [(0, .ref (ad 9)), (1, .ref (ad 7)), (2, .int (i32 x2)), (3, .int (i32 (jshl 1 r19))), (4, .int (i32 0))] dX2_findTurned_54 (by decide) rfl ?_
        exact L56 K15 hK15 (x2, (jshl 1 r19), 0, σ21) hw
  show xX p l e rmX2_findTurned s m args below meth c D vwCl (va_A ((wBP ad cI cJ cZ) σ) s.heap.size) (wBP ad cI cJ cZ) [7, 8, 9, 10, 11, 12, 13, 14] σ 0 0 (MQ below (xQv D (wBP ad cI cJ cZ) [7, 8, 9, 10, 11, 12, 13, 14] σ s.heap.size Q) args s 0 0 (va_A ((wBP ad cI cJ cZ) σ) s.heap.size)) 5 σ 0 [(0, .ref (ad 9)), (1, .ref (ad 7))] []
  unfold vX2_findTurned at hw
  refine xr_aload_n C 0 dX2_findTurned_0 rfl rfl ?_
  refine xr_get C hinX2 (N := 11) (ci := 2) (a := (ad 9)) 2 rfl rfl 2 (by decide) m0 rfl rfl dX2_findTurned_1 ?_
  refine xr_iconst C dX2_findTurned_4 ?_
  refine xr_callSv C (As := [.ref (ad 10), .int (i32 0)]) (rest := []) (sp_wBP_wF ad cI cJ cZ) (by decide) (fun h => h) (mJ7_fill_53178 σ 0 _ hw) (va_cwS 2 C.2.2.2.2.1 gX2_findTurned_J7_fill_53178 rfl rfl rfl (by decide +kernel) ⟨by decide, by decide⟩) rfl rfl (Nat.le_of_ble_eq_true rfl) ⟨by decide, by decide⟩ dX2_findTurned_5 (fun σ24 hw => ?_)
  refine xr_aload_n C 0 dX2_findTurned_8 rfl rfl ?_
  refine xr_iconst C dX2_findTurned_9 ?_
  refine xr_put C (r := 9) (x := 0) (ty := .int) hinX2 (N := 11) (ci := 2) tyX2 tyX2_ok nmX2 2 rfl rfl 3 (by decide) m2 rfl rfl (by decide +kernel) rfl rfl (Nat.le_of_ble_eq_true rfl) rfl (by decide) dX2_findTurned_10 ?_
  refine xr_sig (fun σ25 e26 => ?_)
  have hw := hw σ25 e26
  refine xr_iconst C dX2_findTurned_13 ?_
  refine xr_istore_n C [(0, .ref (ad 9)), (1, .ref (ad 7)), (2, .int (i32 0))] dX2_findTurned_14 rfl (by decide) rfl ?_
  exact L15 (0, σ25) hw
abbrev rmX2_isMoment : Room := { frames := 1, cells := 0, slots := 0, locals := 85 }
set_option maxHeartbeats 8000000 in
set_option maxRecDepth 100000 in
theorem mX2_isMoment {l : Launch} {D : va_G} {ad : Nat → Nat} {cI cJ cZ : ClassId} (σ : xS) (a1 : Int) (Q : Int → xS → Prop) (hw : vX2_isMoment a1 σ Q) : xMi False l yX2_isMoment wsX2_isMoment rmX2_isMoment D (xtys cI cJ cZ) (wP ad cI cJ cZ) [9, 10, 11, 12, 13, 14] σ [.ref (ad 9), .int (i32 a1)] Q := by
  refine xenter (F := [9, 10, 11, 12, 13, 14]) (Qc := fun sz => xQi D (wP ad cI cJ cZ) [9, 10, 11, 12, 13, 14] σ sz Q) (own := RX2) (cc := cX2_isMoment) (maxL := 6) (ret := some .boolean) (by decide) rfl rfl (Nat.le_of_ble_eq_true rfl) ?_
  intro p e s m args below meth c hargs C hr hnm
  have hinX2 : ∀ w ∈ u_ws RX2 TX2 11, w ∈ wsX2_isMoment := fun _ h => List.mem_cons_of_mem _ (List.mem_append_right _ h)
  have m0 : (Cond.fieldLink RX2 38 "SandBench$Planner" "full" "I") ∈ wsX2_isMoment := by decide +kernel
  have L4 : ∀ a, mu (vX2_isMoment_4  Q) a → xX p l e rmX2_isMoment s m args below meth c D vwCl (va_A ((wP ad cI cJ cZ) σ) s.heap.size) (wP ad cI cJ cZ) [9, 10, 11, 12, 13, 14] σ 0 0 (MQ below (xQi D (wP ad cI cJ cZ) [9, 10, 11, 12, 13, 14] σ s.heap.size Q) args s 0 0 (va_A ((wP ad cI cJ cZ) σ) s.heap.size)) 6 (a.2.2.2) 4 [(0, .ref (ad 9)), (1, .int (i32 (a.1))), (2, .int (i32 (a.2.1))), (3, .int (i32 (a.2.2.1)))] [] := by
    refine mu_ind (fun K4 hK4 a hw => ?_)
    obtain ⟨x1, x2, x3, σ0⟩ := a
    show xX p l e rmX2_isMoment s m args below meth c D vwCl (va_A ((wP ad cI cJ cZ) σ) s.heap.size) (wP ad cI cJ cZ) [9, 10, 11, 12, 13, 14] σ 0 0 (MQ below (xQi D (wP ad cI cJ cZ) [9, 10, 11, 12, 13, 14] σ s.heap.size Q) args s 0 0 (va_A ((wP ad cI cJ cZ) σ) s.heap.size)) 6 σ0 4 [(0, .ref (ad 9)), (1, .int (i32 x1)), (2, .int (i32 x2)), (3, .int (i32 x3))] []
    unfold vX2_isMoment_4 at hw
    refine xr_iload_n C 3 dX2_isMoment_4 rfl rfl ?_
    refine xr_iconst C dX2_isMoment_5 ?_
    obtain ⟨g1, hw⟩ := hw
    refine xr_icmp_ge C g1 ⟨by decide, by decide⟩ 59 dX2_isMoment_6 (by decide) (fun c2 => ?_) (fun c2 => ?_)
    · have hw := hw.1 c2
      refine xr_iload_n C 2 dX2_isMoment_59 rfl rfl ?_
      exact xr_zret C hr hw.1 hw.2 dX2_isMoment_60
    · have hw := hw.2 c2
      refine xr_iload_n C 1 dX2_isMoment_9 rfl rfl ?_
      refine xr_iload_n C 3 dX2_isMoment_10 rfl rfl ?_
      refine xr_callSi C (As := [.int (i32 x1), .int (i32 x3)]) (rest := []) (xSp_nil _) (by decide) (fun h => h) (mX2_unitsOf σ0 x1 x3 _ hw) (va_cwS 2 C.2.2.2.2.1 gX2_isMoment_X2_unitsOf rfl rfl rfl (by decide +kernel) ⟨by decide, by decide⟩) rfl rfl (Nat.le_of_ble_eq_true rfl) ⟨by decide, by decide⟩ dX2_isMoment_11 (fun r3 σ4 hw => ?_)
      refine xr_istore C [(0, .ref (ad 9)), (1, .int (i32 x1)), (2, .int (i32 x2)), (3, .int (i32 x3)), (4, .int (i32 r3))] dX2_isMoment_14 (by decide) rfl ?_
      refine xr_aload_n C 0 dX2_isMoment_16 rfl rfl ?_
      refine xr_get C hinX2 (N := 11) (ci := 2) (a := (ad 9)) 0 rfl rfl 1 (by decide) m0 rfl rfl dX2_isMoment_17 ?_
      refine xr_iload_n C 3 dX2_isMoment_20 rfl rfl ?_
      refine xr_callSi C (As := [.int (i32 (σ4 9 1)), .int (i32 x3)]) (rest := []) (xSp_nil _) (by decide) (fun h => h) (mX2_unitsOf σ4 (σ4 9 1) x3 _ hw) (va_cwS 2 C.2.2.2.2.1 gX2_isMoment_X2_unitsOf rfl rfl rfl (by decide +kernel) ⟨by decide, by decide⟩) rfl rfl (Nat.le_of_ble_eq_true rfl) ⟨by decide, by decide⟩ dX2_isMoment_21 (fun r5 σ6 hw => ?_)
      refine xr_istore C [(0, .ref (ad 9)), (1, .int (i32 x1)), (2, .int (i32 x2)), (3, .int (i32 x3)), (4, .int (i32 r3)), (5, .int (i32 r5))] dX2_isMoment_24 (by decide) rfl ?_
      refine xr_iload C 4 dX2_isMoment_26 rfl ?_
      refine xr_iload C 5 dX2_isMoment_28 rfl ?_
      obtain ⟨g7, hw⟩ := hw
      obtain ⟨g8, hw⟩ := hw
      refine xr_icmp_le C g7 g8 35 dX2_isMoment_30 (by decide) (fun c9 => ?_) (fun c9 => ?_)
      · have hw := hw.1 c9
        refine xr_iload_n C 2 dX2_isMoment_35 rfl rfl ?_
        refine xr_iload C 4 dX2_isMoment_36 rfl ?_
        refine xr_if_ne C g7 50 dX2_isMoment_38 (by decide) (fun c10 => ?_) (fun c10 => ?_)
        · have hw := hw.1 c10
          refine xr_iconst C dX2_isMoment_50 ?_
          refine xr_ior C dX2_isMoment_51 ?_
          refine xr_istore_n C [(0, .ref (ad 9)), (1, .int (i32 x1)), (2, .int (i32 (jor x2 0))), (3, .int (i32 x3)), (4, .int (i32 r3)), (5, .int (i32 r5))] dX2_isMoment_52 rfl (by decide) rfl ?_
          refine xr_iinc C 3 [(0, .ref (ad 9)), (1, .int (i32 x1)), (2, .int (i32 (jor x2 0))), (3, .int (i32 (x3 + 1))), (4, .int (i32 r3)), (5, .int (i32 r5))] dX2_isMoment_53 rfl (by decide) rfl ?_
          refine xr_goto C 4 dX2_isMoment_56 (by decide) ?_
          refine xr_sub C [0, 1, 2, 3] [(0, .ref (ad 9)), (1, .int (i32 x1)), (2, .int (i32 (jor x2 0))), (3, .int (i32 (x3 + 1)))] rfl ?_
          exact hK4 (x1, (jor x2 0), (x3 + 1), σ6) hw
        · have hw := hw.2 c10
          refine xr_iload C 5 dX2_isMoment_41 rfl ?_
          refine xr_if_le C g8 50 dX2_isMoment_43 (by decide) (fun c11 => ?_) (fun c11 => ?_)
          · have hw := hw.1 c11
            refine xr_iconst C dX2_isMoment_50 ?_
            refine xr_ior C dX2_isMoment_51 ?_
            refine xr_istore_n C [(0, .ref (ad 9)), (1, .int (i32 x1)), (2, .int (i32 (jor x2 0))), (3, .int (i32 x3)), (4, .int (i32 r3)), (5, .int (i32 r5))] dX2_isMoment_52 rfl (by decide) rfl ?_
            refine xr_iinc C 3 [(0, .ref (ad 9)), (1, .int (i32 x1)), (2, .int (i32 (jor x2 0))), (3, .int (i32 (x3 + 1))), (4, .int (i32 r3)), (5, .int (i32 r5))] dX2_isMoment_53 rfl (by decide) rfl ?_
            refine xr_goto C 4 dX2_isMoment_56 (by decide) ?_
            refine xr_sub C [0, 1, 2, 3] [(0, .ref (ad 9)), (1, .int (i32 x1)), (2, .int (i32 (jor x2 0))), (3, .int (i32 (x3 + 1)))] rfl ?_
            exact hK4 (x1, (jor x2 0), (x3 + 1), σ6) hw
          · have hw := hw.2 c11
            refine xr_iconst C dX2_isMoment_46 ?_
            refine xr_goto C 51 dX2_isMoment_47 (by decide) ?_
            refine xr_ior C dX2_isMoment_51 ?_
            refine xr_istore_n C [(0, .ref (ad 9)), (1, .int (i32 x1)), (2, .int (i32 (jor x2 1))), (3, .int (i32 x3)), (4, .int (i32 r3)), (5, .int (i32 r5))] dX2_isMoment_52 rfl (by decide) rfl ?_
            refine xr_iinc C 3 [(0, .ref (ad 9)), (1, .int (i32 x1)), (2, .int (i32 (jor x2 1))), (3, .int (i32 (x3 + 1))), (4, .int (i32 r3)), (5, .int (i32 r5))] dX2_isMoment_53 rfl (by decide) rfl ?_
            refine xr_goto C 4 dX2_isMoment_56 (by decide) ?_
            refine xr_sub C [0, 1, 2, 3] [(0, .ref (ad 9)), (1, .int (i32 x1)), (2, .int (i32 (jor x2 1))), (3, .int (i32 (x3 + 1)))] rfl ?_
            exact hK4 (x1, (jor x2 1), (x3 + 1), σ6) hw
      · have hw := hw.2 c9
        refine xr_iconst C dX2_isMoment_33 ?_
        exact xr_zret C hr (Or.inl rfl) hw dX2_isMoment_34
  show xX p l e rmX2_isMoment s m args below meth c D vwCl (va_A ((wP ad cI cJ cZ) σ) s.heap.size) (wP ad cI cJ cZ) [9, 10, 11, 12, 13, 14] σ 0 0 (MQ below (xQi D (wP ad cI cJ cZ) [9, 10, 11, 12, 13, 14] σ s.heap.size Q) args s 0 0 (va_A ((wP ad cI cJ cZ) σ) s.heap.size)) 6 σ 0 [(0, .ref (ad 9)), (1, .int (i32 a1))] []
  unfold vX2_isMoment at hw
  refine xr_iconst C dX2_isMoment_0 ?_
  refine xr_istore_n C [(0, .ref (ad 9)), (1, .int (i32 a1)), (2, .int (i32 0))] dX2_isMoment_1 rfl (by decide) rfl ?_
  refine xr_iconst C dX2_isMoment_2 ?_
  refine xr_istore_n C [(0, .ref (ad 9)), (1, .int (i32 a1)), (2, .int (i32 0)), (3, .int (i32 0))] dX2_isMoment_3 rfl (by decide) rfl ?_
  exact L4 (a1, 0, 0, σ) hw
abbrev rmX2_numberMoments : Room := { frames := 2, cells := 0, slots := 0, locals := 110 }
set_option maxHeartbeats 8000000 in
set_option maxRecDepth 100000 in
theorem mX2_numberMoments {l : Launch} {D : va_G} {ad : Nat → Nat} {cI cJ cZ : ClassId} (σ : xS) (Q : xS → Prop) (hw : vX2_numberMoments σ Q) : xMv False l yX2_numberMoments wsX2_numberMoments rmX2_numberMoments D (xtys cI cJ cZ) (wP ad cI cJ cZ) [9, 10, 11, 12, 13, 14] σ [.ref (ad 9)] Q := by
  refine xenter (F := [9, 10, 11, 12, 13, 14]) (Qc := fun sz => xQv D (wP ad cI cJ cZ) [9, 10, 11, 12, 13, 14] σ sz Q) (own := RX2) (cc := cX2_numberMoments) (maxL := 2) (ret := none) (by decide) rfl rfl (Nat.le_of_ble_eq_true rfl) ?_
  intro p e s m args below meth c hargs C hr hnm
  have hinX2 : ∀ w ∈ u_ws RX2 TX2 11, w ∈ wsX2_numberMoments := fun _ h => List.mem_cons_of_mem _ (List.mem_append_right _ h)
  have m0 : (Cond.fieldLink RX2 38 "SandBench$Planner" "full" "I") ∈ wsX2_numberMoments := by decide +kernel
  have m1 : (Cond.fieldLink RX2 48 "SandBench$Planner" "moments" "I") ∈ wsX2_numberMoments := by decide +kernel
  have m2 : (Cond.fieldLink RX2 21 "SandBench$Planner" "sandOf" "[I") ∈ wsX2_numberMoments := by decide +kernel
  have m3 : (Cond.fieldLink RX2 24 "SandBench$Planner" "momentOf" "[I") ∈ wsX2_numberMoments := by decide +kernel
  have L7 : ∀ a, mu (vX2_numberMoments_7  Q) a → xX p l e rmX2_numberMoments s m args below meth c D vwCl (va_A ((wP ad cI cJ cZ) σ) s.heap.size) (wP ad cI cJ cZ) [9, 10, 11, 12, 13, 14] σ 0 0 (MQ below (xQv D (wP ad cI cJ cZ) [9, 10, 11, 12, 13, 14] σ s.heap.size Q) args s 0 0 (va_A ((wP ad cI cJ cZ) σ) s.heap.size)) 2 (a.2) 7 [(0, .ref (ad 9)), (1, .int (i32 (a.1)))] [] := by
    refine mu_ind (fun K7 hK7 a hw => ?_)
    obtain ⟨x1, σ0⟩ := a
    show xX p l e rmX2_numberMoments s m args below meth c D vwCl (va_A ((wP ad cI cJ cZ) σ) s.heap.size) (wP ad cI cJ cZ) [9, 10, 11, 12, 13, 14] σ 0 0 (MQ below (xQv D (wP ad cI cJ cZ) [9, 10, 11, 12, 13, 14] σ s.heap.size Q) args s 0 0 (va_A ((wP ad cI cJ cZ) σ) s.heap.size)) 2 σ0 7 [(0, .ref (ad 9)), (1, .int (i32 x1))] []
    unfold vX2_numberMoments_7 at hw
    refine xr_iload_n C 1 dX2_numberMoments_7 rfl rfl ?_
    refine xr_aload_n C 0 dX2_numberMoments_8 rfl rfl ?_
    refine xr_get C hinX2 (N := 11) (ci := 2) (a := (ad 9)) 0 rfl rfl 1 (by decide) m0 rfl rfl dX2_numberMoments_9 ?_
    obtain ⟨g1, hw⟩ := hw
    obtain ⟨g2, hw⟩ := hw
    refine xr_icmp_gt C g1 g2 69 dX2_numberMoments_12 (by decide) (fun c3 => ?_) (fun c3 => ?_)
    · have hw := hw.1 c3
      exact xr_vret C hr hw dX2_numberMoments_69
    · have hw := hw.2 c3
      refine xr_aload_n C 0 dX2_numberMoments_15 rfl rfl ?_
      refine xr_iload_n C 1 dX2_numberMoments_16 rfl rfl ?_
      refine xr_callVi C (ci := 2) (q0 := 0) (As := [.int (i32 x1)]) (rest := []) (xSp_rf _ _) (by decide) (fun h => h) (mX2_isMoment σ0 x1 _ hw) (cwV 1 C.2.2.2.2.1 gX2_numberMoments_X2_isMoment rfl rfl rfl (by decide +kernel) ⟨by decide, by decide⟩) rfl rfl rfl rfl (Nat.le_of_ble_eq_true rfl) ⟨by decide, by decide⟩ dX2_numberMoments_17 (fun r4 σ5 hw => ?_)
      obtain ⟨g6, hw⟩ := hw
      refine xr_if_eq C g6 63 dX2_numberMoments_20 (by decide) (fun c7 => ?_) (fun c7 => ?_)
      · have hw := hw.1 c7
        refine xr_iinc C 1 [(0, .ref (ad 9)), (1, .int (i32 (x1 + 1)))] dX2_numberMoments_63 rfl (by decide) rfl ?_
        refine xr_goto C 7 dX2_numberMoments_66 (by decide) ?_
        exact hK7 ((x1 + 1), σ5) hw
      · have hw := hw.2 c7
        refine xr_aload_n C 0 dX2_numberMoments_23 rfl rfl ?_
        refine xr_get C hinX2 (N := 11) (ci := 2) (a := (ad 9)) 0 rfl rfl 6 (by decide) m1 rfl rfl dX2_numberMoments_24 ?_
        refine xr_sipush C dX2_numberMoments_27 (by decide +kernel) ?_
        obtain ⟨g8, hw⟩ := hw
        refine xr_icmp_ge C g8 ⟨by decide, by decide⟩ 63 dX2_numberMoments_30 (by decide) (fun c9 => ?_) (fun c9 => ?_)
        · have hw := hw.1 c9
          refine xr_iinc C 1 [(0, .ref (ad 9)), (1, .int (i32 (x1 + 1)))] dX2_numberMoments_63 rfl (by decide) rfl ?_
          refine xr_goto C 7 dX2_numberMoments_66 (by decide) ?_
          exact hK7 ((x1 + 1), σ5) hw
        · have hw := hw.2 c9
          refine xr_aload_n C 0 dX2_numberMoments_33 rfl rfl ?_
          refine xr_get C hinX2 (N := 11) (ci := 2) (a := (ad 9)) 0 rfl rfl 4 (by decide) m2 rfl rfl dX2_numberMoments_34 ?_
          refine xr_aload_n C 0 dX2_numberMoments_37 rfl rfl ?_
          refine xr_get C hinX2 (N := 11) (ci := 2) (a := (ad 9)) 0 rfl rfl 6 (by decide) m1 rfl rfl dX2_numberMoments_38 ?_
          refine xr_iload_n C 1 dX2_numberMoments_41 rfl rfl ?_
          obtain ⟨g10, hw⟩ := hw
          refine xr_iast C (t0 := 0) (r := 11) 2 rfl rfl (by decide) (N := 469) rfl g10 wP_st11 (by decide) dX2_numberMoments_42 ?_
          refine xr_sig (fun σ11 e12 => ?_)
          have hw := hw σ11 e12
          refine xr_aload_n C 0 dX2_numberMoments_43 rfl rfl ?_
          refine xr_get C hinX2 (N := 11) (ci := 2) (a := (ad 9)) 0 rfl rfl 5 (by decide) m3 rfl rfl dX2_numberMoments_44 ?_
          refine xr_iload_n C 1 dX2_numberMoments_47 rfl rfl ?_
          refine xr_aload_n C 0 dX2_numberMoments_48 rfl rfl ?_
          refine xr_get C hinX2 (N := 11) (ci := 2) (a := (ad 9)) 0 rfl rfl 6 (by decide) m1 rfl rfl dX2_numberMoments_49 ?_
          obtain ⟨g13, hw⟩ := hw
          refine xr_iast C (t0 := 0) (r := 12) 3 rfl rfl (by decide) (N := 4096) rfl g13 wP_st12 (by decide) dX2_numberMoments_52 ?_
          refine xr_sig (fun σ14 e15 => ?_)
          have hw := hw σ14 e15
          refine xr_aload_n C 0 dX2_numberMoments_53 rfl rfl ?_
          refine xr_dup C dX2_numberMoments_54 rfl ?_
          refine xr_get C hinX2 (N := 11) (ci := 2) (a := (ad 9)) 0 rfl rfl 6 (by decide) m1 rfl rfl dX2_numberMoments_55 ?_
          refine xr_iconst C dX2_numberMoments_58 ?_
          refine xr_iadd C dX2_numberMoments_59 ?_
          refine xr_put C (r := 9) (x := ((σ14 9 6) + 1)) (ty := .int) hinX2 (N := 11) (ci := 2) tyX2 tyX2_ok nmX2 0 rfl rfl 6 (by decide) m1 rfl rfl (by decide +kernel) rfl rfl (Nat.le_of_ble_eq_true rfl) rfl (by decide) dX2_numberMoments_60 ?_
          refine xr_sig (fun σ16 e17 => ?_)
          have hw := hw σ16 e17
          refine xr_iinc C 1 [(0, .ref (ad 9)), (1, .int (i32 (x1 + 1)))] dX2_numberMoments_63 rfl (by decide) rfl ?_
          refine xr_goto C 7 dX2_numberMoments_66 (by decide) ?_
          exact hK7 ((x1 + 1), σ16) hw
  show xX p l e rmX2_numberMoments s m args below meth c D vwCl (va_A ((wP ad cI cJ cZ) σ) s.heap.size) (wP ad cI cJ cZ) [9, 10, 11, 12, 13, 14] σ 0 0 (MQ below (xQv D (wP ad cI cJ cZ) [9, 10, 11, 12, 13, 14] σ s.heap.size Q) args s 0 0 (va_A ((wP ad cI cJ cZ) σ) s.heap.size)) 2 σ 0 [(0, .ref (ad 9))] []
  unfold vX2_numberMoments at hw
  refine xr_aload_n C 0 dX2_numberMoments_0 rfl rfl ?_
  refine xr_iconst C dX2_numberMoments_1 ?_
  refine xr_put C (r := 9) (x := 0) (ty := .int) hinX2 (N := 11) (ci := 2) tyX2 tyX2_ok nmX2 0 rfl rfl 6 (by decide) m1 rfl rfl (by decide +kernel) rfl rfl (Nat.le_of_ble_eq_true rfl) rfl (by decide) dX2_numberMoments_2 ?_
  refine xr_sig (fun σ18 e19 => ?_)
  have hw := hw σ18 e19
  refine xr_iconst C dX2_numberMoments_5 ?_
  refine xr_istore_n C [(0, .ref (ad 9)), (1, .int (i32 0))] dX2_numberMoments_6 rfl (by decide) rfl ?_
  exact L7 (0, σ18) hw
abbrev rmX2_secondsToRunOut : Room := { frames := 1, cells := 0, slots := 0, locals := 85 }
set_option maxHeartbeats 8000000 in
set_option maxRecDepth 100000 in
theorem mX2_secondsToRunOut {l : Launch} {D : va_G} {cI cJ cZ : ClassId} (σ : xS) (a0 : Int) (Q : Int → xS → Prop) (hw : vX2_secondsToRunOut a0 σ Q) : xMi False l yX2_secondsToRunOut wsX2_secondsToRunOut rmX2_secondsToRunOut D (xtys cI cJ cZ) wN [] σ [.int (i32 a0)] Q := by
  refine xenter (F := []) (Qc := fun sz => xQi D wN [] σ sz Q) (own := RX2) (cc := cX2_secondsToRunOut) (maxL := 4) (ret := some .int) (by decide) rfl rfl (Nat.le_of_ble_eq_true rfl) ?_
  intro p e s m args below meth c hargs C hr hnm
  have L4 : ∀ a, mu (vX2_secondsToRunOut_4  Q) a → xX p l e rmX2_secondsToRunOut s m args below meth c D vwCl (va_A (wN σ) s.heap.size) wN [] σ 0 0 (MQ below (xQi D wN [] σ s.heap.size Q) args s 0 0 (va_A (wN σ) s.heap.size)) 4 (a.2.2.2) 4 [(0, .int (i32 (a.1))), (1, .int (i32 (a.2.1))), (2, .int (i32 (a.2.2.1)))] [] := by
    refine mu_ind (fun K4 hK4 a hw => ?_)
    obtain ⟨x0, x1, x2, σ0⟩ := a
    show xX p l e rmX2_secondsToRunOut s m args below meth c D vwCl (va_A (wN σ) s.heap.size) wN [] σ 0 0 (MQ below (xQi D wN [] σ s.heap.size Q) args s 0 0 (va_A (wN σ) s.heap.size)) 4 σ0 4 [(0, .int (i32 x0)), (1, .int (i32 x1)), (2, .int (i32 x2))] []
    unfold vX2_secondsToRunOut_4 at hw
    refine xr_iload_n C 2 dX2_secondsToRunOut_4 rfl rfl ?_
    refine xr_iconst C dX2_secondsToRunOut_5 ?_
    obtain ⟨g1, hw⟩ := hw
    refine xr_icmp_ge C g1 ⟨by decide, by decide⟩ 36 dX2_secondsToRunOut_6 (by decide) (fun c2 => ?_) (fun c2 => ?_)
    · have hw := hw.1 c2
      refine xr_iload_n C 1 dX2_secondsToRunOut_36 rfl rfl ?_
      exact xr_iret C hr hw dX2_secondsToRunOut_37
    · have hw := hw.2 c2
      refine xr_iload_n C 0 dX2_secondsToRunOut_9 rfl rfl ?_
      refine xr_iload_n C 2 dX2_secondsToRunOut_10 rfl rfl ?_
      refine xr_callSi C (As := [.int (i32 x0), .int (i32 x2)]) (rest := []) (xSp_rf _ _) (by decide) (fun h => h) (mX2_unitsOf σ0 x0 x2 _ hw) (va_cwS 2 C.2.2.2.2.1 gX2_secondsToRunOut_X2_unitsOf rfl rfl rfl (by decide +kernel) ⟨by decide, by decide⟩) rfl rfl (Nat.le_of_ble_eq_true rfl) ⟨by decide, by decide⟩ dX2_secondsToRunOut_11 (fun r3 σ4 hw => ?_)
      refine xr_istore_n C [(0, .int (i32 x0)), (1, .int (i32 x1)), (2, .int (i32 x2)), (3, .int (i32 r3))] dX2_secondsToRunOut_14 rfl (by decide) rfl ?_
      refine xr_iload_n C 3 dX2_secondsToRunOut_15 rfl rfl ?_
      obtain ⟨g5, hw⟩ := hw
      refine xr_if_le C g5 30 dX2_secondsToRunOut_16 (by decide) (fun c6 => ?_) (fun c6 => ?_)
      · have hw := hw.1 c6
        refine xr_iinc C 2 [(0, .int (i32 x0)), (1, .int (i32 x1)), (2, .int (i32 (x2 + 1))), (3, .int (i32 r3))] dX2_secondsToRunOut_30 rfl (by decide) rfl ?_
        refine xr_goto C 4 dX2_secondsToRunOut_33 (by decide) ?_
        refine xr_sub C [0, 1, 2] [(0, .int (i32 x0)), (1, .int (i32 x1)), (2, .int (i32 (x2 + 1)))] rfl ?_
        exact hK4 (x0, x1, (x2 + 1), σ4) hw
      · have hw := hw.2 c6
        refine xr_iload_n C 1 dX2_secondsToRunOut_19 rfl rfl ?_
        obtain ⟨g7, hw⟩ := hw
        refine xr_if_eq C g7 28 dX2_secondsToRunOut_20 (by decide) (fun c8 => ?_) (fun c8 => ?_)
        · have hw := hw.1 c8
          refine xr_iload_n C 3 dX2_secondsToRunOut_28 rfl rfl ?_
          refine xr_istore_n C [(0, .int (i32 x0)), (1, .int (i32 r3)), (2, .int (i32 x2)), (3, .int (i32 r3))] dX2_secondsToRunOut_29 rfl (by decide) rfl ?_
          refine xr_iinc C 2 [(0, .int (i32 x0)), (1, .int (i32 r3)), (2, .int (i32 (x2 + 1))), (3, .int (i32 r3))] dX2_secondsToRunOut_30 rfl (by decide) rfl ?_
          refine xr_goto C 4 dX2_secondsToRunOut_33 (by decide) ?_
          refine xr_sub C [0, 1, 2] [(0, .int (i32 x0)), (1, .int (i32 r3)), (2, .int (i32 (x2 + 1)))] rfl ?_
          exact hK4 (x0, r3, (x2 + 1), σ4) hw
        · have hw := hw.2 c8
          refine xr_iload_n C 3 dX2_secondsToRunOut_23 rfl rfl ?_
          refine xr_iload_n C 1 dX2_secondsToRunOut_24 rfl rfl ?_
          refine xr_icmp_ge C g5 g7 30 dX2_secondsToRunOut_25 (by decide) (fun c9 => ?_) (fun c9 => ?_)
          · have hw := hw.1 c9
            refine xr_iinc C 2 [(0, .int (i32 x0)), (1, .int (i32 x1)), (2, .int (i32 (x2 + 1))), (3, .int (i32 r3))] dX2_secondsToRunOut_30 rfl (by decide) rfl ?_
            refine xr_goto C 4 dX2_secondsToRunOut_33 (by decide) ?_
            refine xr_sub C [0, 1, 2] [(0, .int (i32 x0)), (1, .int (i32 x1)), (2, .int (i32 (x2 + 1)))] rfl ?_
            exact hK4 (x0, x1, (x2 + 1), σ4) hw
          · have hw := hw.2 c9
            refine xr_iload_n C 3 dX2_secondsToRunOut_28 rfl rfl ?_
            refine xr_istore_n C [(0, .int (i32 x0)), (1, .int (i32 r3)), (2, .int (i32 x2)), (3, .int (i32 r3))] dX2_secondsToRunOut_29 rfl (by decide) rfl ?_
            refine xr_iinc C 2 [(0, .int (i32 x0)), (1, .int (i32 r3)), (2, .int (i32 (x2 + 1))), (3, .int (i32 r3))] dX2_secondsToRunOut_30 rfl (by decide) rfl ?_
            refine xr_goto C 4 dX2_secondsToRunOut_33 (by decide) ?_
            refine xr_sub C [0, 1, 2] [(0, .int (i32 x0)), (1, .int (i32 r3)), (2, .int (i32 (x2 + 1)))] rfl ?_
            exact hK4 (x0, r3, (x2 + 1), σ4) hw
  show xX p l e rmX2_secondsToRunOut s m args below meth c D vwCl (va_A (wN σ) s.heap.size) wN [] σ 0 0 (MQ below (xQi D wN [] σ s.heap.size Q) args s 0 0 (va_A (wN σ) s.heap.size)) 4 σ 0 [(0, .int (i32 a0))] []
  unfold vX2_secondsToRunOut at hw
  refine xr_iconst C dX2_secondsToRunOut_0 ?_
  refine xr_istore_n C [(0, .int (i32 a0)), (1, .int (i32 0))] dX2_secondsToRunOut_1 rfl (by decide) rfl ?_
  refine xr_iconst C dX2_secondsToRunOut_2 ?_
  refine xr_istore_n C [(0, .int (i32 a0)), (1, .int (i32 0)), (2, .int (i32 0))] dX2_secondsToRunOut_3 rfl (by decide) rfl ?_
  exact L4 (a0, 0, 0, σ) hw
abbrev rmX2_behind : Room := { frames := 1, cells := 0, slots := 0, locals := 85 }
set_option maxHeartbeats 8000000 in
set_option maxRecDepth 100000 in
theorem mX2_behind {l : Launch} {D : va_G} {cI cJ cZ : ClassId} (σ : xS) (a0 a1 : Int) (Q : Int → xS → Prop) (hw : vX2_behind a0 a1 σ Q) : xMi False l yX2_behind wsX2_behind rmX2_behind D (xtys cI cJ cZ) wN [] σ [.int (i32 a0), .int (i32 a1)] Q := by
  refine xenter (F := []) (Qc := fun sz => xQi D wN [] σ sz Q) (own := RX2) (cc := cX2_behind) (maxL := 4) (ret := some .int) (by decide) rfl rfl (Nat.le_of_ble_eq_true rfl) ?_
  intro p e s m args below meth c hargs C hr hnm
  have m0 : (Cond.methodLink RX2 131 Lib.Math.max.name) ∈ wsX2_behind := by decide +kernel
  have m1 : (Cond.static Lib.Math.max.name) ∈ wsX2_behind := by decide +kernel
  have m2 : (Cond.initialized "java/lang/Math") ∈ wsX2_behind := by decide +kernel
  have m3 : (Cond.code Lib.Math.max.name Lib.Math.max.code 2 (some .int)) ∈ wsX2_behind := by decide +kernel
  have L4 : ∀ a, mu (vX2_behind_4  Q) a → xX p l e rmX2_behind s m args below meth c D vwCl (va_A (wN σ) s.heap.size) wN [] σ 0 0 (MQ below (xQi D wN [] σ s.heap.size Q) args s 0 0 (va_A (wN σ) s.heap.size)) 4 (a.2.2.2.2) 4 [(0, .int (i32 (a.1))), (1, .int (i32 (a.2.1))), (2, .int (i32 (a.2.2.1))), (3, .int (i32 (a.2.2.2.1)))] [] := by
    refine mu_ind (fun K4 hK4 a hw => ?_)
    obtain ⟨x0, x1, x2, x3, σ0⟩ := a
    show xX p l e rmX2_behind s m args below meth c D vwCl (va_A (wN σ) s.heap.size) wN [] σ 0 0 (MQ below (xQi D wN [] σ s.heap.size Q) args s 0 0 (va_A (wN σ) s.heap.size)) 4 σ0 4 [(0, .int (i32 x0)), (1, .int (i32 x1)), (2, .int (i32 x2)), (3, .int (i32 x3))] []
    unfold vX2_behind_4 at hw
    refine xr_iload_n C 3 dX2_behind_4 rfl rfl ?_
    refine xr_iconst C dX2_behind_5 ?_
    obtain ⟨g1, hw⟩ := hw
    refine xr_icmp_ge C g1 ⟨by decide, by decide⟩ 33 dX2_behind_6 (by decide) (fun c2 => ?_) (fun c2 => ?_)
    · have hw := hw.1 c2
      refine xr_iload_n C 2 dX2_behind_33 rfl rfl ?_
      exact xr_iret C hr hw dX2_behind_34
    · have hw := hw.2 c2
      refine xr_iload_n C 2 dX2_behind_9 rfl rfl ?_
      refine xr_iconst C dX2_behind_10 ?_
      refine xr_iload_n C 0 dX2_behind_11 rfl rfl ?_
      refine xr_iload_n C 3 dX2_behind_12 rfl rfl ?_
      refine xr_callSi C (As := [.int (i32 x0), .int (i32 x3)]) (rest := [.int (i32 0), .int (i32 x2)]) (xSp_rf _ _) (by decide) (fun h => h) (mX2_unitsOf σ0 x0 x3 _ hw) (va_cwS 2 C.2.2.2.2.1 gX2_behind_X2_unitsOf rfl rfl rfl (by decide +kernel) ⟨by decide, by decide⟩) rfl rfl (Nat.le_of_ble_eq_true rfl) ⟨by decide, by decide⟩ dX2_behind_13 (fun r3 σ4 hw => ?_)
      refine xr_iload_n C 1 dX2_behind_16 rfl rfl ?_
      refine xr_isub C dX2_behind_17 ?_
      obtain ⟨g5, hw⟩ := hw
      refine xr_max C ⟨by decide, by decide⟩ g5 m0 m1 m2 m3 (by decide) (Nat.le_of_ble_eq_true rfl) (by decide) (by decide) dX2_behind_18 ?_
      refine xr_iconst C dX2_behind_21 ?_
      refine xr_iload_n C 3 dX2_behind_22 rfl rfl ?_
      refine xr_imul C dX2_behind_23 ?_
      refine xr_ishl C dX2_behind_24 ?_
      refine xr_ior C dX2_behind_25 ?_
      refine xr_topi (fun t6 e7 => ?_)
      have hw := hw t6 e7
      refine xr_istore_n C [(0, .int (i32 x0)), (1, .int (i32 x1)), (2, .int (i32 t6)), (3, .int (i32 x3))] dX2_behind_26 rfl (by decide) rfl ?_
      refine xr_iinc C 3 [(0, .int (i32 x0)), (1, .int (i32 x1)), (2, .int (i32 t6)), (3, .int (i32 (x3 + 1)))] dX2_behind_27 rfl (by decide) rfl ?_
      refine xr_goto C 4 dX2_behind_30 (by decide) ?_
      exact hK4 (x0, x1, t6, (x3 + 1), σ4) hw
  show xX p l e rmX2_behind s m args below meth c D vwCl (va_A (wN σ) s.heap.size) wN [] σ 0 0 (MQ below (xQi D wN [] σ s.heap.size Q) args s 0 0 (va_A (wN σ) s.heap.size)) 4 σ 0 [(0, .int (i32 a0)), (1, .int (i32 a1))] []
  unfold vX2_behind at hw
  refine xr_iconst C dX2_behind_0 ?_
  refine xr_istore_n C [(0, .int (i32 a0)), (1, .int (i32 a1)), (2, .int (i32 0))] dX2_behind_1 rfl (by decide) rfl ?_
  refine xr_iconst C dX2_behind_2 ?_
  refine xr_istore_n C [(0, .int (i32 a0)), (1, .int (i32 a1)), (2, .int (i32 0)), (3, .int (i32 0))] dX2_behind_3 rfl (by decide) rfl ?_
  exact L4 (a0, a1, 0, 0, σ) hw
abbrev rmX2_wayFrom : Room := { frames := 2, cells := 0, slots := 0, locals := 108 }
set_option maxHeartbeats 8000000 in
set_option maxRecDepth 100000 in
theorem mX2_wayFrom {l : Launch} {D : va_G} {ad : Nat → Nat} {cI cJ cZ : ClassId} (σ : xS) (a1 a2 : Int) (Q : Int → xS → Prop) (hw : vX2_wayFrom a1 a2 σ Q) : xMi False l yX2_wayFrom wsX2_wayFrom rmX2_wayFrom D (xtys cI cJ cZ) (wP ad cI cJ cZ) [9, 10, 11, 12, 13, 14] σ [.ref (ad 9), .int (i32 a1), .int (i32 a2)] Q := by
  refine xenter (F := [9, 10, 11, 12, 13, 14]) (Qc := fun sz => xQi D (wP ad cI cJ cZ) [9, 10, 11, 12, 13, 14] σ sz Q) (own := RX2) (cc := cX2_wayFrom) (maxL := 6) (ret := some .int) (by decide) rfl rfl (Nat.le_of_ble_eq_true rfl) ?_
  intro p e s m args below meth c hargs C hr hnm
  have hinX2 : ∀ w ∈ u_ws RX2 TX2 11, w ∈ wsX2_wayFrom := fun _ h => List.mem_cons_of_mem _ (List.mem_append_right _ h)
  have m0 : (Cond.fieldLink RX2 17 "SandBench$Planner" "turned" "[I") ∈ wsX2_wayFrom := by decide +kernel
  have m1 : (Cond.fieldLink RX2 38 "SandBench$Planner" "full" "I") ∈ wsX2_wayFrom := by decide +kernel
  have m2 : (Cond.fieldLink RX2 24 "SandBench$Planner" "momentOf" "[I") ∈ wsX2_wayFrom := by decide +kernel
  show xX p l e rmX2_wayFrom s m args below meth c D vwCl (va_A ((wP ad cI cJ cZ) σ) s.heap.size) (wP ad cI cJ cZ) [9, 10, 11, 12, 13, 14] σ 0 0 (MQ below (xQi D (wP ad cI cJ cZ) [9, 10, 11, 12, 13, 14] σ s.heap.size Q) args s 0 0 (va_A ((wP ad cI cJ cZ) σ) s.heap.size)) 6 σ 0 [(0, .ref (ad 9)), (1, .int (i32 a1)), (2, .int (i32 a2))] []
  unfold vX2_wayFrom at hw
  refine xr_aload_n C 0 dX2_wayFrom_0 rfl rfl ?_
  refine xr_get C hinX2 (N := 11) (ci := 2) (a := (ad 9)) 0 rfl rfl 2 (by decide) m0 rfl rfl dX2_wayFrom_1 ?_
  refine xr_iload_n C 2 dX2_wayFrom_4 rfl rfl ?_
  obtain ⟨g1, hw⟩ := hw
  refine xr_iald C (t0 := 0) 1 rfl rfl (by decide) (N := 8) rfl g1 dX2_wayFrom_5 ?_
  refine xr_istore_n C [(0, .ref (ad 9)), (1, .int (i32 a1)), (2, .int (i32 a2)), (3, .int (i32 (σ 10 (a2.toNat))))] dX2_wayFrom_6 rfl (by decide) rfl ?_
  refine xr_iload_n C 1 dX2_wayFrom_7 rfl rfl ?_
  refine xr_iload_n C 3 dX2_wayFrom_8 rfl rfl ?_
  refine xr_iconst C dX2_wayFrom_9 ?_
  refine xr_ixor C dX2_wayFrom_10 ?_
  refine xr_iand C dX2_wayFrom_11 ?_
  refine xr_aload_n C 0 dX2_wayFrom_12 rfl rfl ?_
  refine xr_get C hinX2 (N := 11) (ci := 2) (a := (ad 9)) 0 rfl rfl 1 (by decide) m1 rfl rfl dX2_wayFrom_13 ?_
  refine xr_iload_n C 3 dX2_wayFrom_16 rfl rfl ?_
  refine xr_iand C dX2_wayFrom_17 ?_
  refine xr_iadd C dX2_wayFrom_18 ?_
  refine xr_iload_n C 1 dX2_wayFrom_19 rfl rfl ?_
  refine xr_iload_n C 3 dX2_wayFrom_20 rfl rfl ?_
  refine xr_iand C dX2_wayFrom_21 ?_
  refine xr_isub C dX2_wayFrom_22 ?_
  refine xr_topi (fun t2 e3 => ?_)
  have hw := hw t2 e3
  refine xr_istore C [(0, .ref (ad 9)), (1, .int (i32 a1)), (2, .int (i32 a2)), (3, .int (i32 (σ 10 (a2.toNat)))), (4, .int (i32 t2))] dX2_wayFrom_23 (by decide) rfl ?_
  refine xr_iload C 4 dX2_wayFrom_25 rfl ?_
  refine xr_callSi C (As := [.int (i32 t2)]) (rest := []) (xSp_nil _) (by decide) (fun h => h) (mX2_secondsToRunOut σ t2 _ hw) (va_cwS 1 C.2.2.2.2.1 gX2_wayFrom_X2_secondsToRunOut rfl rfl rfl (by decide +kernel) ⟨by decide, by decide⟩) rfl rfl (Nat.le_of_ble_eq_true rfl) ⟨by decide, by decide⟩ dX2_wayFrom_27 (fun r4 σ5 hw => ?_)
  refine xr_istore C [(0, .ref (ad 9)), (1, .int (i32 a1)), (2, .int (i32 a2)), (3, .int (i32 (σ 10 (a2.toNat)))), (4, .int (i32 t2)), (5, .int (i32 r4))] dX2_wayFrom_30 (by decide) rfl ?_
  refine xr_iload C 5 dX2_wayFrom_32 rfl ?_
  obtain ⟨g6, hw⟩ := hw
  refine xr_if_ne C g6 41 dX2_wayFrom_34 (by decide) (fun c7 => ?_) (fun c7 => ?_)
  · have hw := hw.1 c7
    refine xr_aload_n C 0 dX2_wayFrom_41 rfl rfl ?_
    refine xr_get C hinX2 (N := 11) (ci := 2) (a := (ad 9)) 0 rfl rfl 5 (by decide) m2 rfl rfl dX2_wayFrom_42 ?_
    refine xr_iload C 4 dX2_wayFrom_45 rfl ?_
    refine xr_iload C 5 dX2_wayFrom_47 rfl ?_
    refine xr_callSi C (As := [.int (i32 t2), .int (i32 r4)]) (rest := [.ref (ad 12)]) (xSp_nil _) (by decide) (fun h => h) (mX2_behind σ5 t2 r4 _ hw) (va_cwS 2 C.2.2.2.2.1 gX2_wayFrom_X2_behind rfl rfl rfl (by decide +kernel) ⟨by decide, by decide⟩) rfl rfl (Nat.le_of_ble_eq_true rfl) ⟨by decide, by decide⟩ dX2_wayFrom_49 (fun r8 σ9 hw => ?_)
    obtain ⟨g10, hw⟩ := hw
    refine xr_iald C (t0 := 0) 3 rfl rfl (by decide) (N := 4096) rfl g10 dX2_wayFrom_52 ?_
    refine xr_iconst C dX2_wayFrom_53 ?_
    refine xr_ishl C dX2_wayFrom_54 ?_
    refine xr_iload C 5 dX2_wayFrom_55 rfl ?_
    refine xr_ior C dX2_wayFrom_57 ?_
    exact xr_iret C hr hw dX2_wayFrom_58
  · have hw := hw.2 c7
    refine xr_iconst C dX2_wayFrom_37 ?_
    refine xr_goto C 58 dX2_wayFrom_38 (by decide) ?_
    exact xr_iret C hr hw dX2_wayFrom_58
abbrev rmX2_findWays : Room := { frames := 3, cells := 0, slots := 0, locals := 133 }
set_option maxHeartbeats 8000000 in
set_option maxRecDepth 100000 in
theorem mX2_findWays {l : Launch} {D : va_G} {ad : Nat → Nat} {cI cJ cZ : ClassId} (σ : xS) (a1 a2 : Int) (Q : xS → Prop) (hw : vX2_findWays a1 a2 σ Q) : xMv False l yX2_findWays wsX2_findWays rmX2_findWays D (xtys cI cJ cZ) (wP ad cI cJ cZ) [9, 10, 11, 12, 13, 14] σ [.ref (ad 9), .int (i32 a1), .int (i32 a2)] Q := by
  refine xenter (F := [9, 10, 11, 12, 13, 14]) (Qc := fun sz => xQv D (wP ad cI cJ cZ) [9, 10, 11, 12, 13, 14] σ sz Q) (own := RX2) (cc := cX2_findWays) (maxL := 4) (ret := none) (by decide) rfl rfl (Nat.le_of_ble_eq_true rfl) ?_
  intro p e s m args below meth c hargs C hr hnm
  have hinX2 : ∀ w ∈ u_ws RX2 TX2 11, w ∈ wsX2_findWays := fun _ h => List.mem_cons_of_mem _ (List.mem_append_right _ h)
  have m0 : (Cond.fieldLink RX2 27 "SandBench$Planner" "ways" "[I") ∈ wsX2_findWays := by decide +kernel
  have m1 : (Cond.fieldLink RX2 105 "SandBench$Planner" "usefulSet" "I") ∈ wsX2_findWays := by decide +kernel
  have B39 : ∀ (K2 : Int × Int × Int × xS → Prop) (hK2 : ∀ a, K2 a → xX p l e rmX2_findWays s m args below meth c D vwCl (va_A ((wP ad cI cJ cZ) σ) s.heap.size) (wP ad cI cJ cZ) [9, 10, 11, 12, 13, 14] σ 0 0 (MQ below (xQv D (wP ad cI cJ cZ) [9, 10, 11, 12, 13, 14] σ s.heap.size Q) args s 0 0 (va_A ((wP ad cI cJ cZ) σ) s.heap.size)) 4 (a.2.2.2) 2 [(0, .ref (ad 9)), (1, .int (i32 (a.1))), (2, .int (i32 (a.2.1))), (3, .int (i32 (a.2.2.1)))] []) (x1 x2 x3 y1 y2 : Int) (σ0 : xS), vX2_findWays_39 K2 Q x1 x2 x3 y1 y2 σ0 → xX p l e rmX2_findWays s m args below meth c D vwCl (va_A ((wP ad cI cJ cZ) σ) s.heap.size) (wP ad cI cJ cZ) [9, 10, 11, 12, 13, 14] σ 0 0 (MQ below (xQv D (wP ad cI cJ cZ) [9, 10, 11, 12, 13, 14] σ s.heap.size Q) args s 0 0 (va_A ((wP ad cI cJ cZ) σ) s.heap.size)) 4 σ0 39 [(0, .ref (ad 9)), (1, .int (i32 x1)), (2, .int (i32 x2)), (3, .int (i32 x3))] [.int (i32 y2), .int (i32 y1), .ref (ad 13)] := by
    intro K2 hK2 x1 x2 x3 y1 y2 σ0 hw
    unfold vX2_findWays_39 at hw
    obtain ⟨g1, hw⟩ := hw
    refine xr_iast C (t0 := 0) (r := 13) 4 rfl rfl (by decide) (N := 3760) rfl g1 wP_st13 (by decide) dX2_findWays_39 ?_
    refine xr_sig (fun σ2 e3 => ?_)
    have hw := hw σ2 e3
    refine xr_iinc C 3 [(0, .ref (ad 9)), (1, .int (i32 x1)), (2, .int (i32 x2)), (3, .int (i32 (x3 + 1)))] dX2_findWays_40 rfl (by decide) rfl ?_
    refine xr_goto C 2 dX2_findWays_43 (by decide) ?_
    exact hK2 (x1, x2, (x3 + 1), σ2) hw
  have L2 : ∀ a, mu (vX2_findWays_2  Q) a → xX p l e rmX2_findWays s m args below meth c D vwCl (va_A ((wP ad cI cJ cZ) σ) s.heap.size) (wP ad cI cJ cZ) [9, 10, 11, 12, 13, 14] σ 0 0 (MQ below (xQv D (wP ad cI cJ cZ) [9, 10, 11, 12, 13, 14] σ s.heap.size Q) args s 0 0 (va_A ((wP ad cI cJ cZ) σ) s.heap.size)) 4 (a.2.2.2) 2 [(0, .ref (ad 9)), (1, .int (i32 (a.1))), (2, .int (i32 (a.2.1))), (3, .int (i32 (a.2.2.1)))] [] := by
    refine mu_ind (fun K2 hK2 a hw => ?_)
    obtain ⟨x1, x2, x3, σ0⟩ := a
    show xX p l e rmX2_findWays s m args below meth c D vwCl (va_A ((wP ad cI cJ cZ) σ) s.heap.size) (wP ad cI cJ cZ) [9, 10, 11, 12, 13, 14] σ 0 0 (MQ below (xQv D (wP ad cI cJ cZ) [9, 10, 11, 12, 13, 14] σ s.heap.size Q) args s 0 0 (va_A ((wP ad cI cJ cZ) σ) s.heap.size)) 4 σ0 2 [(0, .ref (ad 9)), (1, .int (i32 x1)), (2, .int (i32 x2)), (3, .int (i32 x3))] []
    unfold vX2_findWays_2 at hw
    refine xr_iload_n C 3 dX2_findWays_2 rfl rfl ?_
    refine xr_bipush C dX2_findWays_3 (by decide +kernel) ?_
    obtain ⟨g4, hw⟩ := hw
    refine xr_icmp_ge C g4 ⟨by decide, by decide⟩ 46 dX2_findWays_5 (by decide) (fun c5 => ?_) (fun c5 => ?_)
    · have hw := hw.1 c5
      exact xr_vret C hr hw dX2_findWays_46
    · have hw := hw.2 c5
      refine xr_aload_n C 0 dX2_findWays_8 rfl rfl ?_
      refine xr_get C hinX2 (N := 11) (ci := 2) (a := (ad 9)) 0 rfl rfl 7 (by decide) m0 rfl rfl dX2_findWays_9 ?_
      refine xr_iload_n C 1 dX2_findWays_12 rfl rfl ?_
      refine xr_bipush C dX2_findWays_13 (by decide +kernel) ?_
      refine xr_imul C dX2_findWays_15 ?_
      refine xr_iload_n C 3 dX2_findWays_16 rfl rfl ?_
      refine xr_iadd C dX2_findWays_17 ?_
      refine xr_iload_n C 3 dX2_findWays_18 rfl rfl ?_
      refine xr_aload_n C 0 dX2_findWays_19 rfl rfl ?_
      refine xr_get C hinX2 (N := 11) (ci := 2) (a := (ad 9)) 0 rfl rfl 3 (by decide) m1 rfl rfl dX2_findWays_20 ?_
      refine xr_iconst C dX2_findWays_23 ?_
      refine xr_ixor C dX2_findWays_24 ?_
      refine xr_iand C dX2_findWays_25 ?_
      obtain ⟨g6, hw⟩ := hw
      refine xr_if_ne C g6 38 dX2_findWays_26 (by decide) (fun c7 => ?_) (fun c7 => ?_)
      · have hw := hw.1 c7
        refine xr_iconst C dX2_findWays_38 ?_
        exact B39 K2 hK2 x1 x2 x3 ((x1 * 8) + x3) 0 σ0 hw
      · have hw := hw.2 c7
        refine xr_aload_n C 0 dX2_findWays_29 rfl rfl ?_
        refine xr_iload_n C 2 dX2_findWays_30 rfl rfl ?_
        refine xr_iload_n C 3 dX2_findWays_31 rfl rfl ?_
        refine xr_callVi C (ci := 2) (q0 := 0) (As := [.int (i32 x2), .int (i32 x3)]) (rest := [.int (i32 ((x1 * 8) + x3)), .ref (ad 13)]) (xSp_rf _ _) (by decide) (fun h => h) (mX2_wayFrom σ0 x2 x3 _ hw) (cwV 2 C.2.2.2.2.1 gX2_findWays_X2_wayFrom rfl rfl rfl (by decide +kernel) ⟨by decide, by decide⟩) rfl rfl rfl rfl (Nat.le_of_ble_eq_true rfl) ⟨by decide, by decide⟩ dX2_findWays_32 (fun r8 σ9 hw => ?_)
        refine xr_goto C 39 dX2_findWays_35 (by decide) ?_
        exact B39 K2 hK2 x1 x2 x3 ((x1 * 8) + x3) r8 σ9 hw
  show xX p l e rmX2_findWays s m args below meth c D vwCl (va_A ((wP ad cI cJ cZ) σ) s.heap.size) (wP ad cI cJ cZ) [9, 10, 11, 12, 13, 14] σ 0 0 (MQ below (xQv D (wP ad cI cJ cZ) [9, 10, 11, 12, 13, 14] σ s.heap.size Q) args s 0 0 (va_A ((wP ad cI cJ cZ) σ) s.heap.size)) 4 σ 0 [(0, .ref (ad 9)), (1, .int (i32 a1)), (2, .int (i32 a2))] []
  unfold vX2_findWays at hw
  refine xr_iconst C dX2_findWays_0 ?_
  refine xr_istore_n C [(0, .ref (ad 9)), (1, .int (i32 a1)), (2, .int (i32 a2)), (3, .int (i32 0))] dX2_findWays_1 rfl (by decide) rfl ?_
  exact L2 (a1, a2, 0, σ) hw
abbrev rmX2_sandAbove : Room := { frames := 1, cells := 0, slots := 0, locals := 86 }
set_option maxHeartbeats 8000000 in
set_option maxRecDepth 100000 in
theorem mX2_sandAbove {l : Launch} {D : va_G} {ad : Nat → Nat} {cI cJ cZ : ClassId} (σ : xS) (Q : Int → xS → Prop) (hw : vX2_sandAbove σ Q) : xMi False l yX2_sandAbove wsX2_sandAbove rmX2_sandAbove D (xtys cI cJ cZ) (wB ad cI cJ cZ) [7, 8] σ [.ref (ad 7)] Q := by
  refine xenter (F := [7, 8]) (Qc := fun sz => xQi D (wB ad cI cJ cZ) [7, 8] σ sz Q) (own := RX2) (cc := cX2_sandAbove) (maxL := 3) (ret := some .int) (by decide) rfl rfl (Nat.le_of_ble_eq_true rfl) ?_
  intro p e s m args below meth c hargs C hr hnm
  have L4 : ∀ a, mu (vX2_sandAbove_4  Q) a → xX p l e rmX2_sandAbove s m args below meth c D vwCl (va_A ((wB ad cI cJ cZ) σ) s.heap.size) (wB ad cI cJ cZ) [7, 8] σ 0 0 (MQ below (xQi D (wB ad cI cJ cZ) [7, 8] σ s.heap.size Q) args s 0 0 (va_A ((wB ad cI cJ cZ) σ) s.heap.size)) 3 (a.2.2) 4 [(0, .ref (ad 7)), (1, .int (i32 (a.1))), (2, .int (i32 (a.2.1)))] [] := by
    refine mu_ind (fun K4 hK4 a hw => ?_)
    obtain ⟨x1, x2, σ0⟩ := a
    show xX p l e rmX2_sandAbove s m args below meth c D vwCl (va_A ((wB ad cI cJ cZ) σ) s.heap.size) (wB ad cI cJ cZ) [7, 8] σ 0 0 (MQ below (xQi D (wB ad cI cJ cZ) [7, 8] σ s.heap.size Q) args s 0 0 (va_A ((wB ad cI cJ cZ) σ) s.heap.size)) 3 σ0 4 [(0, .ref (ad 7)), (1, .int (i32 x1)), (2, .int (i32 x2))] []
    unfold vX2_sandAbove_4 at hw
    refine xr_iload_n C 2 dX2_sandAbove_4 rfl rfl ?_
    refine xr_aload_n C 0 dX2_sandAbove_5 rfl rfl ?_
    refine xr_callVi C (ci := 0) (q0 := 0) (As := []) (rest := [.int (i32 x2)]) (xSp_rf _ _) (by decide) (fun h => h) (mX0_glasses σ0 _ hw) (cwV 0 C.2.2.2.2.1 gX2_sandAbove_X0_glasses rfl rfl rfl (by decide +kernel) ⟨by decide, by decide⟩) rfl rfl rfl rfl (Nat.le_of_ble_eq_true rfl) ⟨by decide, by decide⟩ dX2_sandAbove_6 (fun r1 σ2 hw => ?_)
    obtain ⟨g3, hw⟩ := hw
    obtain ⟨g4, hw⟩ := hw
    refine xr_icmp_ge C g3 g4 41 dX2_sandAbove_9 (by decide) (fun c5 => ?_) (fun c5 => ?_)
    · have hw := hw.1 c5
      refine xr_iload_n C 1 dX2_sandAbove_41 rfl rfl ?_
      exact xr_iret C hr hw dX2_sandAbove_42
    · have hw := hw.2 c5
      refine xr_aload_n C 0 dX2_sandAbove_12 rfl rfl ?_
      refine xr_iload_n C 2 dX2_sandAbove_13 rfl rfl ?_
      refine xr_iconst C dX2_sandAbove_14 ?_
      refine xr_callVi C (ci := 0) (q0 := 0) (As := [.int (i32 x2), .int (i32 2)]) (rest := []) (xSp_rf _ _) (by decide) (fun h => h) (mX0_property σ2 x2 2 _ hw) (cwV 2 C.2.2.2.2.1 gX2_sandAbove_X0_property rfl rfl rfl (by decide +kernel) ⟨by decide, by decide⟩) rfl rfl rfl rfl (Nat.le_of_ble_eq_true rfl) ⟨by decide, by decide⟩ dX2_sandAbove_15 (fun r6 σ7 hw => ?_)
      refine xr_iconst C dX2_sandAbove_18 ?_
      obtain ⟨g8, hw⟩ := hw
      refine xr_icmp_eq C g8 ⟨by decide, by decide⟩ 35 dX2_sandAbove_19 (by decide) (fun c9 => ?_) (fun c9 => ?_)
      · have hw := hw.1 c9
        refine xr_iinc C 2 [(0, .ref (ad 7)), (1, .int (i32 x1)), (2, .int (i32 (x2 + 1)))] dX2_sandAbove_35 rfl (by decide) rfl ?_
        refine xr_goto C 4 dX2_sandAbove_38 (by decide) ?_
        exact hK4 (x1, (x2 + 1), σ7) hw
      · have hw := hw.2 c9
        refine xr_iload_n C 1 dX2_sandAbove_22 rfl rfl ?_
        refine xr_aload_n C 0 dX2_sandAbove_23 rfl rfl ?_
        refine xr_iload_n C 2 dX2_sandAbove_24 rfl rfl ?_
        refine xr_iconst C dX2_sandAbove_25 ?_
        refine xr_callVi C (ci := 0) (q0 := 0) (As := [.int (i32 x2), .int (i32 1)]) (rest := [.int (i32 x1)]) (xSp_rf _ _) (by decide) (fun h => h) (mX0_property σ7 x2 1 _ hw) (cwV 2 C.2.2.2.2.1 gX2_sandAbove_X0_property rfl rfl rfl (by decide +kernel) ⟨by decide, by decide⟩) rfl rfl rfl rfl (Nat.le_of_ble_eq_true rfl) ⟨by decide, by decide⟩ dX2_sandAbove_26 (fun r10 σ11 hw => ?_)
        refine xr_iconst C dX2_sandAbove_29 ?_
        refine xr_iload_n C 2 dX2_sandAbove_30 rfl rfl ?_
        refine xr_imul C dX2_sandAbove_31 ?_
        refine xr_ishl C dX2_sandAbove_32 ?_
        refine xr_ior C dX2_sandAbove_33 ?_
        refine xr_istore_n C [(0, .ref (ad 7)), (1, .int (i32 (jor x1 (jshl r10 (4 * x2))))), (2, .int (i32 x2))] dX2_sandAbove_34 rfl (by decide) rfl ?_
        refine xr_iinc C 2 [(0, .ref (ad 7)), (1, .int (i32 (jor x1 (jshl r10 (4 * x2))))), (2, .int (i32 (x2 + 1)))] dX2_sandAbove_35 rfl (by decide) rfl ?_
        refine xr_goto C 4 dX2_sandAbove_38 (by decide) ?_
        exact hK4 ((jor x1 (jshl r10 (4 * x2))), (x2 + 1), σ11) hw
  show xX p l e rmX2_sandAbove s m args below meth c D vwCl (va_A ((wB ad cI cJ cZ) σ) s.heap.size) (wB ad cI cJ cZ) [7, 8] σ 0 0 (MQ below (xQi D (wB ad cI cJ cZ) [7, 8] σ s.heap.size Q) args s 0 0 (va_A ((wB ad cI cJ cZ) σ) s.heap.size)) 3 σ 0 [(0, .ref (ad 7))] []
  unfold vX2_sandAbove at hw
  refine xr_iconst C dX2_sandAbove_0 ?_
  refine xr_istore_n C [(0, .ref (ad 7)), (1, .int (i32 0))] dX2_sandAbove_1 rfl (by decide) rfl ?_
  refine xr_iconst C dX2_sandAbove_2 ?_
  refine xr_istore_n C [(0, .ref (ad 7)), (1, .int (i32 0)), (2, .int (i32 0))] dX2_sandAbove_3 rfl (by decide) rfl ?_
  exact L4 (0, 0, σ) hw
abbrev rmX2_lookAt : Room := { frames := 4, cells := 0, slots := 0, locals := 156 }
set_option maxHeartbeats 8000000 in
set_option maxRecDepth 100000 in
theorem mX2_lookAt {l : Launch} {D : va_G} {ad : Nat → Nat} {cI cJ cZ : ClassId} (σ : xS) (Q : xS → Prop) (hw : vX2_lookAt σ Q) : xMv False l yX2_lookAt wsX2_lookAt rmX2_lookAt D (xtys cI cJ cZ) (wBP ad cI cJ cZ) [7, 8, 9, 10, 11, 12, 13, 14] σ [.ref (ad 9), .ref (ad 7)] Q := by
  refine xenter (F := [7, 8, 9, 10, 11, 12, 13, 14]) (Qc := fun sz => xQv D (wBP ad cI cJ cZ) [7, 8, 9, 10, 11, 12, 13, 14] σ sz Q) (own := RX2) (cc := cX2_lookAt) (maxL := 4) (ret := none) (by decide) rfl rfl (Nat.le_of_ble_eq_true rfl) ?_
  intro p e s m args below meth c hargs C hr hnm
  have hinX2 : ∀ w ∈ u_ws RX2 TX2 11, w ∈ wsX2_lookAt := fun _ h => List.mem_cons_of_mem _ (List.mem_append_left _ (List.mem_append_right _ h))
  have m0 : (Cond.fieldLink RX2 48 "SandBench$Planner" "moments" "I") ∈ wsX2_lookAt := by decide +kernel
  have m1 : (Cond.fieldLink RX2 55 "SandBench$Planner" "costs" "I") ∈ wsX2_lookAt := by decide +kernel
  have m2 : (Cond.fieldLink RX2 58 "SandBench$Planner" "idleCosts" "I") ∈ wsX2_lookAt := by decide +kernel
  have m3 : (Cond.fieldLink RX2 21 "SandBench$Planner" "sandOf" "[I") ∈ wsX2_lookAt := by decide +kernel
  have m4 : (Cond.fieldLink RX2 13 "SandBench$Planner" "shape" "I") ∈ wsX2_lookAt := by decide +kernel
  have m5 : (Cond.fieldLink RX2 38 "SandBench$Planner" "full" "I") ∈ wsX2_lookAt := by decide +kernel
  have B73 : ∀ (σ0 : xS), vX2_lookAt_73  Q σ0 → xX p l e rmX2_lookAt s m args below meth c D vwCl (va_A ((wBP ad cI cJ cZ) σ) s.heap.size) (wBP ad cI cJ cZ) [7, 8, 9, 10, 11, 12, 13, 14] σ 0 0 (MQ below (xQv D (wBP ad cI cJ cZ) [7, 8, 9, 10, 11, 12, 13, 14] σ s.heap.size Q) args s 0 0 (va_A ((wBP ad cI cJ cZ) σ) s.heap.size)) 4 σ0 73 [(0, .ref (ad 9)), (1, .ref (ad 7))] [] := by
    intro σ0 hw
    unfold vX2_lookAt_73 at hw
    refine xr_aload_n C 0 dX2_lookAt_73 rfl rfl ?_
    refine xr_sipush C dX2_lookAt_74 (by decide +kernel) ?_
    refine xr_aload_n C 1 dX2_lookAt_77 rfl rfl ?_
    refine xr_callSi C (As := [.ref (ad 7)]) (rest := [.int (i32 469), .ref (ad 9)]) (sp_wBP_wB ad cI cJ cZ) (by decide) (fun h => h) (mX2_sandAbove σ0 _ hw) (va_cwS 1 C.2.2.2.2.1 gX2_lookAt_X2_sandAbove rfl rfl rfl (by decide +kernel) ⟨by decide, by decide⟩) rfl rfl (Nat.le_of_ble_eq_true rfl) ⟨by decide, by decide⟩ dX2_lookAt_78 (fun r1 σ2 hw => ?_)
    refine xr_callVv C (ci := 2) (q0 := 0) (As := [.int (i32 469), .int (i32 r1)]) (rest := []) (sp_wBP_wP ad cI cJ cZ) (by decide) (fun h => h) (mX2_findWays σ2 469 r1 _ hw) (cwV 2 C.2.2.2.2.1 gX2_lookAt_X2_findWays rfl rfl rfl (by decide +kernel) ⟨by decide, by decide⟩) rfl rfl rfl rfl (Nat.le_of_ble_eq_true rfl) ⟨by decide, by decide⟩ dX2_lookAt_81 (fun σ4 hw => ?_)
    exact xr_vret C hr hw dX2_lookAt_84
  have L38 : ∀ a, mu (vX2_lookAt_38  Q) a → xX p l e rmX2_lookAt s m args below meth c D vwCl (va_A ((wBP ad cI cJ cZ) σ) s.heap.size) (wBP ad cI cJ cZ) [7, 8, 9, 10, 11, 12, 13, 14] σ 0 0 (MQ below (xQv D (wBP ad cI cJ cZ) [7, 8, 9, 10, 11, 12, 13, 14] σ s.heap.size Q) args s 0 0 (va_A ((wBP ad cI cJ cZ) σ) s.heap.size)) 4 (a.2) 38 [(0, .ref (ad 9)), (1, .ref (ad 7)), (3, .int (i32 (a.1)))] [] := by
    refine mu_ind (fun K38 hK38 a hw => ?_)
    obtain ⟨x3, σ0⟩ := a
    show xX p l e rmX2_lookAt s m args below meth c D vwCl (va_A ((wBP ad cI cJ cZ) σ) s.heap.size) (wBP ad cI cJ cZ) [7, 8, 9, 10, 11, 12, 13, 14] σ 0 0 (MQ below (xQv D (wBP ad cI cJ cZ) [7, 8, 9, 10, 11, 12, 13, 14] σ s.heap.size Q) args s 0 0 (va_A ((wBP ad cI cJ cZ) σ) s.heap.size)) 4 σ0 38 [(0, .ref (ad 9)), (1, .ref (ad 7)), (3, .int (i32 x3))] []
    unfold vX2_lookAt_38 at hw
    refine xr_iload_n C 2 dX2_lookAt_38 rfl rfl ?_
    refine xr_aload_n C 0 dX2_lookAt_39 rfl rfl ?_
    refine xr_get C hinX2 (N := 11) (ci := 2) (a := (ad 9)) 2 rfl rfl 6 (by decide) m0 rfl rfl dX2_lookAt_40 ?_
    obtain ⟨g5, hw⟩ := hw
    obtain ⟨g6, hw⟩ := hw
    refine xr_icmp_ge C g5 g6 63 dX2_lookAt_43 (by decide) (fun c7 => ?_) (fun c7 => ?_)
    · have hw := hw.1 c7
      refine xr_aload_n C 0 dX2_lookAt_63 rfl rfl ?_
      refine xr_iconst C dX2_lookAt_64 ?_
      refine xr_put C (r := 9) (x := 0) (ty := .int) hinX2 (N := 11) (ci := 2) tyX2 tyX2_ok nmX2 2 rfl rfl 9 (by decide) m1 rfl rfl (by decide +kernel) rfl rfl (Nat.le_of_ble_eq_true rfl) rfl (by decide) dX2_lookAt_65 ?_
      refine xr_sig (fun σ8 e9 => ?_)
      have hw := hw σ8 e9
      refine xr_aload_n C 0 dX2_lookAt_68 rfl rfl ?_
      refine xr_iconst C dX2_lookAt_69 ?_
      refine xr_put C (r := 9) (x := 0) (ty := .int) hinX2 (N := 11) (ci := 2) tyX2 tyX2_ok nmX2 2 rfl rfl 10 (by decide) m2 rfl rfl (by decide +kernel) rfl rfl (Nat.le_of_ble_eq_true rfl) rfl (by decide) dX2_lookAt_70 ?_
      refine xr_sig (fun σ10 e11 => ?_)
      have hw := hw σ10 e11
      refine xr_sub C [0, 1] [(0, .ref (ad 9)), (1, .ref (ad 7))] rfl ?_
      exact B73 σ10 hw
    · have hw := hw.2 c7
      refine xr_aload_n C 0 dX2_lookAt_46 rfl rfl ?_
      refine xr_iload_n C 2 dX2_lookAt_47 rfl rfl ?_
      refine xr_aload_n C 0 dX2_lookAt_48 rfl rfl ?_
      refine xr_get C hinX2 (N := 11) (ci := 2) (a := (ad 9)) 2 rfl rfl 4 (by decide) m3 rfl rfl dX2_lookAt_49 ?_
      refine xr_iload_n C 2 dX2_lookAt_52 rfl rfl ?_
      obtain ⟨g12, hw⟩ := hw
      refine xr_iald C (t0 := 0) 4 rfl rfl (by decide) (N := 469) rfl g12 dX2_lookAt_53 ?_
      refine xr_callVv C (ci := 2) (q0 := 0) (As := [.int (i32 x3), .int (i32 (σ0 11 (x3.toNat)))]) (rest := []) (sp_wBP_wP ad cI cJ cZ) (by decide) (fun h => h) (mX2_findWays σ0 x3 (σ0 11 (x3.toNat)) _ hw) (cwV 2 C.2.2.2.2.1 gX2_lookAt_X2_findWays rfl rfl rfl (by decide +kernel) ⟨by decide, by decide⟩) rfl rfl rfl rfl (Nat.le_of_ble_eq_true rfl) ⟨by decide, by decide⟩ dX2_lookAt_54 (fun σ14 hw => ?_)
      refine xr_iinc C 2 [(0, .ref (ad 9)), (1, .ref (ad 7)), (3, .int (i32 (x3 + 1)))] dX2_lookAt_57 rfl (by decide) rfl ?_
      refine xr_goto C 38 dX2_lookAt_60 (by decide) ?_
      exact hK38 ((x3 + 1), σ14) hw
  show xX p l e rmX2_lookAt s m args below meth c D vwCl (va_A ((wBP ad cI cJ cZ) σ) s.heap.size) (wBP ad cI cJ cZ) [7, 8, 9, 10, 11, 12, 13, 14] σ 0 0 (MQ below (xQv D (wBP ad cI cJ cZ) [7, 8, 9, 10, 11, 12, 13, 14] σ s.heap.size Q) args s 0 0 (va_A ((wBP ad cI cJ cZ) σ) s.heap.size)) 4 σ 0 [(0, .ref (ad 9)), (1, .ref (ad 7))] []
  unfold vX2_lookAt at hw
  refine xr_aload_n C 1 dX2_lookAt_0 rfl rfl ?_
  refine xr_callSi C (As := [.ref (ad 7)]) (rest := []) (sp_wBP_wB ad cI cJ cZ) (by decide) (fun h => h) (mX2_shapeOf σ _ hw) (va_cwS 1 C.2.2.2.2.1 gX2_lookAt_X2_shapeOf rfl rfl rfl (by decide +kernel) ⟨by decide, by decide⟩) rfl rfl (Nat.le_of_ble_eq_true rfl) ⟨by decide, by decide⟩ dX2_lookAt_1 (fun r15 σ16 hw => ?_)
  refine xr_istore_n C [(0, .ref (ad 9)), (1, .ref (ad 7)), (2, .int (i32 r15))] dX2_lookAt_4 rfl (by decide) rfl ?_
  refine xr_iload_n C 2 dX2_lookAt_5 rfl rfl ?_
  refine xr_aload_n C 0 dX2_lookAt_6 rfl rfl ?_
  refine xr_get C hinX2 (N := 11) (ci := 2) (a := (ad 9)) 2 rfl rfl 0 (by decide) m4 rfl rfl dX2_lookAt_7 ?_
  obtain ⟨g17, hw⟩ := hw
  obtain ⟨g18, hw⟩ := hw
  refine xr_icmp_eq C g17 g18 73 dX2_lookAt_10 (by decide) (fun c19 => ?_) (fun c19 => ?_)
  · have hw := hw.1 c19
    refine xr_sub C [0, 1] [(0, .ref (ad 9)), (1, .ref (ad 7))] rfl ?_
    exact B73 σ16 hw
  · have hw := hw.2 c19
    refine xr_aload_n C 0 dX2_lookAt_13 rfl rfl ?_
    refine xr_iload_n C 2 dX2_lookAt_14 rfl rfl ?_
    refine xr_put C (r := 9) (x := r15) (ty := .int) hinX2 (N := 11) (ci := 2) tyX2 tyX2_ok nmX2 2 rfl rfl 0 (by decide) m4 rfl rfl (by decide +kernel) rfl rfl (Nat.le_of_ble_eq_true rfl) rfl (by decide) dX2_lookAt_15 ?_
    refine xr_sig (fun σ20 e21 => ?_)
    have hw := hw σ20 e21
    refine xr_aload_n C 0 dX2_lookAt_18 rfl rfl ?_
    refine xr_iload_n C 2 dX2_lookAt_19 rfl rfl ?_
    refine xr_sipush C dX2_lookAt_20 (by decide +kernel) ?_
    refine xr_iand C dX2_lookAt_23 ?_
    refine xr_put C (r := 9) (x := (jand r15 4095)) (ty := .int) hinX2 (N := 11) (ci := 2) tyX2 tyX2_ok nmX2 2 rfl rfl 1 (by decide) m5 rfl rfl (by decide +kernel) rfl rfl (Nat.le_of_ble_eq_true rfl) rfl (by decide) dX2_lookAt_24 ?_
    refine xr_sig (fun σ22 e23 => ?_)
    have hw := hw σ22 e23
    refine xr_aload_n C 0 dX2_lookAt_27 rfl rfl ?_
    refine xr_aload_n C 1 dX2_lookAt_28 rfl rfl ?_
    refine xr_callVv C (ci := 2) (q0 := 2) (As := [.ref (ad 7)]) (rest := []) (xSp_rf _ _) (by decide) (fun h => h) (mX2_findTurned σ22 _ hw) (cwV 1 C.2.2.2.2.1 gX2_lookAt_X2_findTurned rfl rfl rfl (by decide +kernel) ⟨by decide, by decide⟩) rfl rfl rfl rfl (Nat.le_of_ble_eq_true rfl) ⟨by decide, by decide⟩ dX2_lookAt_29 (fun σ25 hw => ?_)
    refine xr_aload_n C 0 dX2_lookAt_32 rfl rfl ?_
    refine xr_callVv C (ci := 2) (q0 := 0) (As := []) (rest := []) (sp_wBP_wP ad cI cJ cZ) (by decide) (fun h => h) (mX2_numberMoments σ25 _ hw) (cwV 0 C.2.2.2.2.1 gX2_lookAt_X2_numberMoments rfl rfl rfl (by decide +kernel) ⟨by decide, by decide⟩) rfl rfl rfl rfl (Nat.le_of_ble_eq_true rfl) ⟨by decide, by decide⟩ dX2_lookAt_33 (fun σ27 hw => ?_)
    refine xr_iconst C dX2_lookAt_36 ?_
    refine xr_istore_n C [(0, .ref (ad 9)), (1, .ref (ad 7)), (2, .int (i32 r15)), (3, .int (i32 0))] dX2_lookAt_37 rfl (by decide) rfl ?_
    refine xr_sub C [0, 1, 3] [(0, .ref (ad 9)), (1, .ref (ad 7)), (3, .int (i32 0))] rfl ?_
    exact L38 (0, σ27) hw
