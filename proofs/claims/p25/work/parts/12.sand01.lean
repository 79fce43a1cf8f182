abbrev rmX4_setGlasses : Room := { frames := 4, cells := 0, slots := 0, locals := 154 }
set_option maxHeartbeats 8000000 in
set_option maxRecDepth 100000 in
theorem mX4_setGlasses {l : Launch} {D : va_G} {pv : Value} {ad : Nat → Nat} {cI cJ cZ : ClassId} (σ : xS) (a1 : Int) (Q : Int → xS → Prop) (hw : vX4_setGlasses a1 σ Q) : xMi False l yX4_setGlasses wsX4_setGlasses rmX4_setGlasses D (xtys cI cJ cZ) (wX pv ad cI cJ cZ) [0, 1, 2, 3, 4, 5, 6, 7, 8] σ [.ref (ad 0), .int (i32 a1)] Q := by
  refine xenter (F := [0, 1, 2, 3, 4, 5, 6, 7, 8]) (Qc := fun sz => xQi D (wX pv ad cI cJ cZ) [0, 1, 2, 3, 4, 5, 6, 7, 8] σ sz Q) (own := RX4) (cc := cX4_setGlasses) (maxL := 3) (ret := some .int) (by decide) rfl rfl (Nat.le_of_ble_eq_true rfl) ?_
  intro p e s m args below meth c hargs C hr hnm
  have hinX4 : ∀ w ∈ u_ws RX4 TX4 4, w ∈ wsX4_setGlasses := fun _ h => List.mem_cons_of_mem _ (List.mem_append_left _ (List.mem_append_left _ (List.mem_append_right _ h)))
  have m0 : (Cond.fieldLink RX4 19 "SandBench" "history" "LSandBench$History;") ∈ wsX4_setGlasses := by decide +kernel
  have m1 : (Cond.fieldLink RX4 10 "SandBench" "bench" "LSandBench$Bench;") ∈ wsX4_setGlasses := by decide +kernel
  show xX p l e rmX4_setGlasses s m args below meth c D vwCl (va_A ((wX pv ad cI cJ cZ) σ) s.heap.size) (wX pv ad cI cJ cZ) [0, 1, 2, 3, 4, 5, 6, 7, 8] σ 0 0 (MQ below (xQi D (wX pv ad cI cJ cZ) [0, 1, 2, 3, 4, 5, 6, 7, 8] σ s.heap.size Q) args s 0 0 (va_A ((wX pv ad cI cJ cZ) σ) s.heap.size)) 3 σ 0 [(0, .ref (ad 0)), (1, .int (i32 a1))] []
  unfold vX4_setGlasses at hw
  refine xr_iload_n C 1 dX4_setGlasses_0 rfl rfl ?_
  refine xr_iconst C dX4_setGlasses_1 ?_
  obtain ⟨g1, hw⟩ := hw
  refine xr_icmp_lt C g1 ⟨by decide, by decide⟩ 10 dX4_setGlasses_2 (by decide) (fun c2 => ?_) (fun c2 => ?_)
  · have hw := hw.1 c2
    refine xr_bipush C dX4_setGlasses_10 (by decide +kernel) ?_
    exact xr_iret C hr hw dX4_setGlasses_12
  · have hw := hw.2 c2
    refine xr_iload_n C 1 dX4_setGlasses_5 rfl rfl ?_
    refine xr_iconst C dX4_setGlasses_6 ?_
    refine xr_icmp_le C g1 ⟨by decide, by decide⟩ 13 dX4_setGlasses_7 (by decide) (fun c3 => ?_) (fun c3 => ?_)
    · have hw := hw.1 c3
      refine xr_aload_n C 0 dX4_setGlasses_13 rfl rfl ?_
      refine xr_get C hinX4 (N := 4) (ci := 3) (a := (ad 0)) 0 rfl rfl 1 (by decide) m0 rfl rfl dX4_setGlasses_14 ?_
      refine xr_aload_n C 0 dX4_setGlasses_17 rfl rfl ?_
      refine xr_get C hinX4 (N := 4) (ci := 3) (a := (ad 0)) 0 rfl rfl 0 (by decide) m1 rfl rfl dX4_setGlasses_18 ?_
      refine xr_callVv C (ci := 1) (q0 := 0) (As := [.ref (ad 7)]) (rest := []) (sp_wX_wHB pv ad cI cJ cZ) (by decide) (fun h => h) (mX1_keep σ _ hw) (cwV 1 C.2.2.2.2.1 gX4_setGlasses_X1_keep rfl rfl rfl (by decide +kernel) ⟨by decide, by decide⟩) rfl rfl rfl rfl (Nat.le_of_ble_eq_true rfl) ⟨by decide, by decide⟩ dX4_setGlasses_21 (fun σ5 hw => ?_)
      refine xr_aload_n C 0 dX4_setGlasses_24 rfl rfl ?_
      refine xr_get C hinX4 (N := 4) (ci := 3) (a := (ad 0)) 0 rfl rfl 0 (by decide) m1 rfl rfl dX4_setGlasses_25 ?_
      refine xr_callVi C (ci := 0) (q0 := 0) (As := []) (rest := []) (sp_wX_wB pv ad cI cJ cZ) (by decide) (fun h => h) (mX0_glasses σ5 _ hw) (cwV 0 C.2.2.2.2.1 gX4_setGlasses_X0_glasses rfl rfl rfl (by decide +kernel) ⟨by decide, by decide⟩) rfl rfl rfl rfl (Nat.le_of_ble_eq_true rfl) ⟨by decide, by decide⟩ dX4_setGlasses_28 (fun r6 σ7 hw => ?_)
      refine xr_istore_n C [(0, .ref (ad 0)), (1, .int (i32 a1)), (2, .int (i32 r6))] dX4_setGlasses_31 rfl (by decide) rfl ?_
      refine xr_aload_n C 0 dX4_setGlasses_32 rfl rfl ?_
      refine xr_get C hinX4 (N := 4) (ci := 3) (a := (ad 0)) 0 rfl rfl 0 (by decide) m1 rfl rfl dX4_setGlasses_33 ?_
      refine xr_iload_n C 1 dX4_setGlasses_36 rfl rfl ?_
      refine xr_callVv C (ci := 0) (q0 := 0) (As := [.int (i32 a1)]) (rest := []) (sp_wX_wB pv ad cI cJ cZ) (by decide) (fun h => h) (mX0_renew σ7 a1 _ hw) (cwV 1 C.2.2.2.2.1 gX4_setGlasses_X0_renew rfl rfl rfl (by decide +kernel) ⟨by decide, by decide⟩) rfl rfl rfl rfl (Nat.le_of_ble_eq_true rfl) ⟨by decide, by decide⟩ dX4_setGlasses_37 (fun σ9 hw => ?_)
      refine xr_iload_n C 2 dX4_setGlasses_40 rfl rfl ?_
      exact xr_iret C hr hw dX4_setGlasses_41
    · have hw := hw.2 c3
      refine xr_bipush C dX4_setGlasses_10 (by decide +kernel) ?_
      exact xr_iret C hr hw dX4_setGlasses_12
abbrev rmX4_setAmount : Room := { frames := 3, cells := 0, slots := 0, locals := 130 }
set_option maxHeartbeats 8000000 in
set_option maxRecDepth 100000 in
theorem mX4_setAmount {l : Launch} {D : va_G} {pv : Value} {ad : Nat → Nat} {cI cJ cZ : ClassId} (σ : xS) (a1 a2 : Int) (Q : Int → xS → Prop) (hw : vX4_setAmount a1 a2 σ Q) : xMi False l yX4_setAmount wsX4_setAmount rmX4_setAmount D (xtys cI cJ cZ) (wX pv ad cI cJ cZ) [0, 1, 2, 3, 4, 5, 6, 7, 8] σ [.ref (ad 0), .int (i32 a1), .int (i32 a2)] Q := by
  refine xenter (F := [0, 1, 2, 3, 4, 5, 6, 7, 8]) (Qc := fun sz => xQi D (wX pv ad cI cJ cZ) [0, 1, 2, 3, 4, 5, 6, 7, 8] σ sz Q) (own := RX4) (cc := cX4_setAmount) (maxL := 4) (ret := some .int) (by decide) rfl rfl (Nat.le_of_ble_eq_true rfl) ?_
  intro p e s m args below meth c hargs C hr hnm
  have hinX4 : ∀ w ∈ u_ws RX4 TX4 4, w ∈ wsX4_setAmount := fun _ h => List.mem_cons_of_mem _ (List.mem_append_left _ (List.mem_append_left _ (List.mem_append_right _ h)))
  have m0 : (Cond.fieldLink RX4 10 "SandBench" "bench" "LSandBench$Bench;") ∈ wsX4_setAmount := by decide +kernel
  have m1 : (Cond.fieldLink RX4 19 "SandBench" "history" "LSandBench$History;") ∈ wsX4_setAmount := by decide +kernel
  show xX p l e rmX4_setAmount s m args below meth c D vwCl (va_A ((wX pv ad cI cJ cZ) σ) s.heap.size) (wX pv ad cI cJ cZ) [0, 1, 2, 3, 4, 5, 6, 7, 8] σ 0 0 (MQ below (xQi D (wX pv ad cI cJ cZ) [0, 1, 2, 3, 4, 5, 6, 7, 8] σ s.heap.size Q) args s 0 0 (va_A ((wX pv ad cI cJ cZ) σ) s.heap.size)) 4 σ 0 [(0, .ref (ad 0)), (1, .int (i32 a1)), (2, .int (i32 a2))] []
  unfold vX4_setAmount at hw
  refine xr_aload_n C 0 dX4_setAmount_0 rfl rfl ?_
  refine xr_get C hinX4 (N := 4) (ci := 3) (a := (ad 0)) 0 rfl rfl 0 (by decide) m0 rfl rfl dX4_setAmount_1 ?_
  refine xr_iload_n C 1 dX4_setAmount_4 rfl rfl ?_
  refine xr_callVi C (ci := 0) (q0 := 0) (As := [.int (i32 a1)]) (rest := []) (sp_wX_wB pv ad cI cJ cZ) (by decide) (fun h => h) (mX0_has σ a1 _ hw) (cwV 1 C.2.2.2.2.1 gX4_setAmount_X0_has rfl rfl rfl (by decide +kernel) ⟨by decide, by decide⟩) rfl rfl rfl rfl (Nat.le_of_ble_eq_true rfl) ⟨by decide, by decide⟩ dX4_setAmount_5 (fun r1 σ2 hw => ?_)
  obtain ⟨g3, hw⟩ := hw
  refine xr_if_eq C g3 22 dX4_setAmount_8 (by decide) (fun c4 => ?_) (fun c4 => ?_)
  · have hw := hw.1 c4
    refine xr_bipush C dX4_setAmount_22 (by decide +kernel) ?_
    exact xr_iret C hr hw dX4_setAmount_24
  · have hw := hw.2 c4
    refine xr_iload_n C 2 dX4_setAmount_11 rfl rfl ?_
    refine xr_iconst C dX4_setAmount_12 ?_
    obtain ⟨g5, hw⟩ := hw
    refine xr_icmp_lt C g5 ⟨by decide, by decide⟩ 22 dX4_setAmount_13 (by decide) (fun c6 => ?_) (fun c6 => ?_)
    · have hw := hw.1 c6
      refine xr_bipush C dX4_setAmount_22 (by decide +kernel) ?_
      exact xr_iret C hr hw dX4_setAmount_24
    · have hw := hw.2 c6
      refine xr_iload_n C 2 dX4_setAmount_16 rfl rfl ?_
      refine xr_bipush C dX4_setAmount_17 (by decide +kernel) ?_
      refine xr_icmp_le C g5 ⟨by decide, by decide⟩ 25 dX4_setAmount_19 (by decide) (fun c7 => ?_) (fun c7 => ?_)
      · have hw := hw.1 c7
        refine xr_aload_n C 0 dX4_setAmount_25 rfl rfl ?_
        refine xr_get C hinX4 (N := 4) (ci := 3) (a := (ad 0)) 0 rfl rfl 1 (by decide) m1 rfl rfl dX4_setAmount_26 ?_
        refine xr_aload_n C 0 dX4_setAmount_29 rfl rfl ?_
        refine xr_get C hinX4 (N := 4) (ci := 3) (a := (ad 0)) 0 rfl rfl 0 (by decide) m0 rfl rfl dX4_setAmount_30 ?_
        refine xr_callVv C (ci := 1) (q0 := 0) (As := [.ref (ad 7)]) (rest := []) (sp_wX_wHB pv ad cI cJ cZ) (by decide) (fun h => h) (mX1_keep σ2 _ hw) (cwV 1 C.2.2.2.2.1 gX4_setAmount_X1_keep rfl rfl rfl (by decide +kernel) ⟨by decide, by decide⟩) rfl rfl rfl rfl (Nat.le_of_ble_eq_true rfl) ⟨by decide, by decide⟩ dX4_setAmount_33 (fun σ9 hw => ?_)
        refine xr_aload_n C 0 dX4_setAmount_36 rfl rfl ?_
        refine xr_get C hinX4 (N := 4) (ci := 3) (a := (ad 0)) 0 rfl rfl 0 (by decide) m0 rfl rfl dX4_setAmount_37 ?_
        refine xr_iload_n C 1 dX4_setAmount_40 rfl rfl ?_
        refine xr_iconst C dX4_setAmount_41 ?_
        refine xr_callVi C (ci := 0) (q0 := 0) (As := [.int (i32 a1), .int (i32 0)]) (rest := []) (sp_wX_wB pv ad cI cJ cZ) (by decide) (fun h => h) (mX0_property σ9 a1 0 _ hw) (cwV 2 C.2.2.2.2.1 gX4_setAmount_X0_property rfl rfl rfl (by decide +kernel) ⟨by decide, by decide⟩) rfl rfl rfl rfl (Nat.le_of_ble_eq_true rfl) ⟨by decide, by decide⟩ dX4_setAmount_42 (fun r10 σ11 hw => ?_)
        refine xr_istore_n C [(0, .ref (ad 0)), (1, .int (i32 a1)), (2, .int (i32 a2)), (3, .int (i32 r10))] dX4_setAmount_45 rfl (by decide) rfl ?_
        refine xr_aload_n C 0 dX4_setAmount_46 rfl rfl ?_
        refine xr_get C hinX4 (N := 4) (ci := 3) (a := (ad 0)) 0 rfl rfl 0 (by decide) m0 rfl rfl dX4_setAmount_47 ?_
        refine xr_iload_n C 1 dX4_setAmount_50 rfl rfl ?_
        refine xr_iload_n C 2 dX4_setAmount_51 rfl rfl ?_
        refine xr_callVv C (ci := 0) (q0 := 0) (As := [.int (i32 a1), .int (i32 a2)]) (rest := []) (sp_wX_wB pv ad cI cJ cZ) (by decide) (fun h => h) (mX0_fill σ11 a1 a2 _ hw) (cwV 2 C.2.2.2.2.1 gX4_setAmount_X0_fill rfl rfl rfl (by decide +kernel) ⟨by decide, by decide⟩) rfl rfl rfl rfl (Nat.le_of_ble_eq_true rfl) ⟨by decide, by decide⟩ dX4_setAmount_52 (fun σ13 hw => ?_)
        refine xr_iload_n C 3 dX4_setAmount_55 rfl rfl ?_
        exact xr_iret C hr hw dX4_setAmount_56
      · have hw := hw.2 c7
        refine xr_bipush C dX4_setAmount_22 (by decide +kernel) ?_
        exact xr_iret C hr hw dX4_setAmount_24
abbrev rmX4_setKind : Room := { frames := 3, cells := 0, slots := 0, locals := 131 }
set_option maxHeartbeats 8000000 in
set_option maxRecDepth 100000 in
theorem mX4_setKind {l : Launch} {D : va_G} {pv : Value} {ad : Nat → Nat} {cI cJ cZ : ClassId} (σ : xS) (a1 a2 a3 : Int) (Q : Int → xS → Prop) (hw : vX4_setKind a1 a2 a3 σ Q) : xMi False l yX4_setKind wsX4_setKind rmX4_setKind D (xtys cI cJ cZ) (wX pv ad cI cJ cZ) [0, 1, 2, 3, 4, 5, 6, 7, 8] σ [.ref (ad 0), .int (i32 a1), .int (i32 a2), .int (i32 a3)] Q := by
  refine xenter (F := [0, 1, 2, 3, 4, 5, 6, 7, 8]) (Qc := fun sz => xQi D (wX pv ad cI cJ cZ) [0, 1, 2, 3, 4, 5, 6, 7, 8] σ sz Q) (own := RX4) (cc := cX4_setKind) (maxL := 5) (ret := some .int) (by decide) rfl rfl (Nat.le_of_ble_eq_true rfl) ?_
  intro p e s m args below meth c hargs C hr hnm
  have hinX4 : ∀ w ∈ u_ws RX4 TX4 4, w ∈ wsX4_setKind := fun _ h => List.mem_cons_of_mem _ (List.mem_append_left _ (List.mem_append_left _ (List.mem_append_right _ h)))
  have m0 : (Cond.fieldLink RX4 10 "SandBench" "bench" "LSandBench$Bench;") ∈ wsX4_setKind := by decide +kernel
  have m1 : (Cond.fieldLink RX4 19 "SandBench" "history" "LSandBench$History;") ∈ wsX4_setKind := by decide +kernel
  show xX p l e rmX4_setKind s m args below meth c D vwCl (va_A ((wX pv ad cI cJ cZ) σ) s.heap.size) (wX pv ad cI cJ cZ) [0, 1, 2, 3, 4, 5, 6, 7, 8] σ 0 0 (MQ below (xQi D (wX pv ad cI cJ cZ) [0, 1, 2, 3, 4, 5, 6, 7, 8] σ s.heap.size Q) args s 0 0 (va_A ((wX pv ad cI cJ cZ) σ) s.heap.size)) 5 σ 0 [(0, .ref (ad 0)), (1, .int (i32 a1)), (2, .int (i32 a2)), (3, .int (i32 a3))] []
  unfold vX4_setKind at hw
  refine xr_aload_n C 0 dX4_setKind_0 rfl rfl ?_
  refine xr_get C hinX4 (N := 4) (ci := 3) (a := (ad 0)) 0 rfl rfl 0 (by decide) m0 rfl rfl dX4_setKind_1 ?_
  refine xr_iload_n C 1 dX4_setKind_4 rfl rfl ?_
  refine xr_callVi C (ci := 0) (q0 := 0) (As := [.int (i32 a1)]) (rest := []) (sp_wX_wB pv ad cI cJ cZ) (by decide) (fun h => h) (mX0_has σ a1 _ hw) (cwV 1 C.2.2.2.2.1 gX4_setKind_X0_has rfl rfl rfl (by decide +kernel) ⟨by decide, by decide⟩) rfl rfl rfl rfl (Nat.le_of_ble_eq_true rfl) ⟨by decide, by decide⟩ dX4_setKind_5 (fun r1 σ2 hw => ?_)
  obtain ⟨g3, hw⟩ := hw
  refine xr_if_eq C g3 31 dX4_setKind_8 (by decide) (fun c4 => ?_) (fun c4 => ?_)
  · have hw := hw.1 c4
    refine xr_bipush C dX4_setKind_31 (by decide +kernel) ?_
    exact xr_iret C hr hw dX4_setKind_33
  · have hw := hw.2 c4
    refine xr_iload_n C 2 dX4_setKind_11 rfl rfl ?_
    obtain ⟨g5, hw⟩ := hw
    refine xr_if_lt C g5 31 dX4_setKind_12 (by decide) (fun c6 => ?_) (fun c6 => ?_)
    · have hw := hw.1 c6
      refine xr_bipush C dX4_setKind_31 (by decide +kernel) ?_
      exact xr_iret C hr hw dX4_setKind_33
    · have hw := hw.2 c6
      refine xr_iload_n C 2 dX4_setKind_15 rfl rfl ?_
      refine xr_iconst C dX4_setKind_16 ?_
      refine xr_icmp_gt C g5 ⟨by decide, by decide⟩ 31 dX4_setKind_17 (by decide) (fun c7 => ?_) (fun c7 => ?_)
      · have hw := hw.1 c7
        refine xr_bipush C dX4_setKind_31 (by decide +kernel) ?_
        exact xr_iret C hr hw dX4_setKind_33
      · have hw := hw.2 c7
        refine xr_iload_n C 3 dX4_setKind_20 rfl rfl ?_
        refine xr_iconst C dX4_setKind_21 ?_
        obtain ⟨g8, hw⟩ := hw
        refine xr_icmp_lt C g8 ⟨by decide, by decide⟩ 31 dX4_setKind_22 (by decide) (fun c9 => ?_) (fun c9 => ?_)
        · have hw := hw.1 c9
          refine xr_bipush C dX4_setKind_31 (by decide +kernel) ?_
          exact xr_iret C hr hw dX4_setKind_33
        · have hw := hw.2 c9
          refine xr_iload_n C 3 dX4_setKind_25 rfl rfl ?_
          refine xr_bipush C dX4_setKind_26 (by decide +kernel) ?_
          refine xr_icmp_le C g8 ⟨by decide, by decide⟩ 34 dX4_setKind_28 (by decide) (fun c10 => ?_) (fun c10 => ?_)
          · have hw := hw.1 c10
            refine xr_aload_n C 0 dX4_setKind_34 rfl rfl ?_
            refine xr_get C hinX4 (N := 4) (ci := 3) (a := (ad 0)) 0 rfl rfl 1 (by decide) m1 rfl rfl dX4_setKind_35 ?_
            refine xr_aload_n C 0 dX4_setKind_38 rfl rfl ?_
            refine xr_get C hinX4 (N := 4) (ci := 3) (a := (ad 0)) 0 rfl rfl 0 (by decide) m0 rfl rfl dX4_setKind_39 ?_
            refine xr_callVv C (ci := 1) (q0 := 0) (As := [.ref (ad 7)]) (rest := []) (sp_wX_wHB pv ad cI cJ cZ) (by decide) (fun h => h) (mX1_keep σ2 _ hw) (cwV 1 C.2.2.2.2.1 gX4_setKind_X1_keep rfl rfl rfl (by decide +kernel) ⟨by decide, by decide⟩) rfl rfl rfl rfl (Nat.le_of_ble_eq_true rfl) ⟨by decide, by decide⟩ dX4_setKind_42 (fun σ12 hw => ?_)
            refine xr_aload_n C 0 dX4_setKind_45 rfl rfl ?_
            refine xr_get C hinX4 (N := 4) (ci := 3) (a := (ad 0)) 0 rfl rfl 0 (by decide) m0 rfl rfl dX4_setKind_46 ?_
            refine xr_iload_n C 1 dX4_setKind_49 rfl rfl ?_
            refine xr_iconst C dX4_setKind_50 ?_
            refine xr_callVi C (ci := 0) (q0 := 0) (As := [.int (i32 a1), .int (i32 2)]) (rest := []) (sp_wX_wB pv ad cI cJ cZ) (by decide) (fun h => h) (mX0_property σ12 a1 2 _ hw) (cwV 2 C.2.2.2.2.1 gX4_setKind_X0_property rfl rfl rfl (by decide +kernel) ⟨by decide, by decide⟩) rfl rfl rfl rfl (Nat.le_of_ble_eq_true rfl) ⟨by decide, by decide⟩ dX4_setKind_51 (fun r13 σ14 hw => ?_)
            refine xr_istore C [(0, .ref (ad 0)), (1, .int (i32 a1)), (2, .int (i32 a2)), (3, .int (i32 a3)), (4, .int (i32 r13))] dX4_setKind_54 (by decide) rfl ?_
            refine xr_aload_n C 0 dX4_setKind_56 rfl rfl ?_
            refine xr_get C hinX4 (N := 4) (ci := 3) (a := (ad 0)) 0 rfl rfl 0 (by decide) m0 rfl rfl dX4_setKind_57 ?_
            refine xr_iload_n C 1 dX4_setKind_60 rfl rfl ?_
            refine xr_iload_n C 2 dX4_setKind_61 rfl rfl ?_
            refine xr_iload_n C 3 dX4_setKind_62 rfl rfl ?_
            refine xr_callVv C (ci := 0) (q0 := 0) (As := [.int (i32 a1), .int (i32 a2), .int (i32 a3)]) (rest := []) (sp_wX_wB pv ad cI cJ cZ) (by decide) (fun h => h) (mX0_makeKind σ14 a1 a2 a3 _ hw) (cwV 3 C.2.2.2.2.1 gX4_setKind_X0_makeKind rfl rfl rfl (by decide +kernel) ⟨by decide, by decide⟩) rfl rfl rfl rfl (Nat.le_of_ble_eq_true rfl) ⟨by decide, by decide⟩ dX4_setKind_63 (fun σ16 hw => ?_)
            refine xr_iload C 4 dX4_setKind_66 rfl ?_
            exact xr_iret C hr hw dX4_setKind_68
          · have hw := hw.2 c10
            refine xr_bipush C dX4_setKind_31 (by decide +kernel) ?_
            exact xr_iret C hr hw dX4_setKind_33
abbrev rmX4_fix : Room := { frames := 3, cells := 0, slots := 0, locals := 111 }
set_option maxHeartbeats 8000000 in
set_option maxRecDepth 100000 in
theorem mX4_fix {l : Launch} {D : va_G} {pv : Value} {ad : Nat → Nat} {cI cJ cZ : ClassId} (σ : xS) (a1 a2 : Int) (Q : Int → xS → Prop) (hw : vX4_fix a1 a2 σ Q) : xMi False l yX4_fix wsX4_fix rmX4_fix D (xtys cI cJ cZ) (wX pv ad cI cJ cZ) [0, 1, 2, 3, 4, 5, 6, 7, 8] σ [.ref (ad 0), .int (i32 a1), .int (i32 a2)] Q := by
  refine xenter (F := [0, 1, 2, 3, 4, 5, 6, 7, 8]) (Qc := fun sz => xQi D (wX pv ad cI cJ cZ) [0, 1, 2, 3, 4, 5, 6, 7, 8] σ sz Q) (own := RX4) (cc := cX4_fix) (maxL := 5) (ret := some .int) (by decide) rfl rfl (Nat.le_of_ble_eq_true rfl) ?_
  intro p e s m args below meth c hargs C hr hnm
  have hinX4 : ∀ w ∈ u_ws RX4 TX4 4, w ∈ wsX4_fix := fun _ h => List.mem_cons_of_mem _ (List.mem_append_left _ (List.mem_append_left _ (List.mem_append_right _ h)))
  have m0 : (Cond.fieldLink RX4 10 "SandBench" "bench" "LSandBench$Bench;") ∈ wsX4_fix := by decide +kernel
  have m1 : (Cond.fieldLink RX4 19 "SandBench" "history" "LSandBench$History;") ∈ wsX4_fix := by decide +kernel
  show xX p l e rmX4_fix s m args below meth c D vwCl (va_A ((wX pv ad cI cJ cZ) σ) s.heap.size) (wX pv ad cI cJ cZ) [0, 1, 2, 3, 4, 5, 6, 7, 8] σ 0 0 (MQ below (xQi D (wX pv ad cI cJ cZ) [0, 1, 2, 3, 4, 5, 6, 7, 8] σ s.heap.size Q) args s 0 0 (va_A ((wX pv ad cI cJ cZ) σ) s.heap.size)) 5 σ 0 [(0, .ref (ad 0)), (1, .int (i32 a1)), (2, .int (i32 a2))] []
  unfold vX4_fix at hw
  refine xr_aload_n C 0 dX4_fix_0 rfl rfl ?_
  refine xr_get C hinX4 (N := 4) (ci := 3) (a := (ad 0)) 0 rfl rfl 0 (by decide) m0 rfl rfl dX4_fix_1 ?_
  refine xr_iload_n C 1 dX4_fix_4 rfl rfl ?_
  refine xr_callVi C (ci := 0) (q0 := 0) (As := [.int (i32 a1)]) (rest := []) (sp_wX_wB pv ad cI cJ cZ) (by decide) (fun h => h) (mX0_has σ a1 _ hw) (cwV 1 C.2.2.2.2.1 gX4_fix_X0_has rfl rfl rfl (by decide +kernel) ⟨by decide, by decide⟩) rfl rfl rfl rfl (Nat.le_of_ble_eq_true rfl) ⟨by decide, by decide⟩ dX4_fix_5 (fun r1 σ2 hw => ?_)
  obtain ⟨g3, hw⟩ := hw
  refine xr_if_eq C g3 22 dX4_fix_8 (by decide) (fun c4 => ?_) (fun c4 => ?_)
  · have hw := hw.1 c4
    refine xr_bipush C dX4_fix_22 (by decide +kernel) ?_
    exact xr_iret C hr hw dX4_fix_24
  · have hw := hw.2 c4
    refine xr_aload_n C 0 dX4_fix_11 rfl rfl ?_
    refine xr_get C hinX4 (N := 4) (ci := 3) (a := (ad 0)) 0 rfl rfl 0 (by decide) m0 rfl rfl dX4_fix_12 ?_
    refine xr_iload_n C 2 dX4_fix_15 rfl rfl ?_
    refine xr_callVi C (ci := 0) (q0 := 0) (As := [.int (i32 a2)]) (rest := []) (sp_wX_wB pv ad cI cJ cZ) (by decide) (fun h => h) (mX0_has σ2 a2 _ hw) (cwV 1 C.2.2.2.2.1 gX4_fix_X0_has rfl rfl rfl (by decide +kernel) ⟨by decide, by decide⟩) rfl rfl rfl rfl (Nat.le_of_ble_eq_true rfl) ⟨by decide, by decide⟩ dX4_fix_16 (fun r5 σ6 hw => ?_)
    obtain ⟨g7, hw⟩ := hw
    refine xr_if_ne C g7 25 dX4_fix_19 (by decide) (fun c8 => ?_) (fun c8 => ?_)
    · have hw := hw.1 c8
      refine xr_aload_n C 0 dX4_fix_25 rfl rfl ?_
      refine xr_get C hinX4 (N := 4) (ci := 3) (a := (ad 0)) 0 rfl rfl 0 (by decide) m0 rfl rfl dX4_fix_26 ?_
      refine xr_iload_n C 1 dX4_fix_29 rfl rfl ?_
      refine xr_iconst C dX4_fix_30 ?_
      refine xr_callVi C (ci := 0) (q0 := 0) (As := [.int (i32 a1), .int (i32 5)]) (rest := []) (sp_wX_wB pv ad cI cJ cZ) (by decide) (fun h => h) (mX0_property σ6 a1 5 _ hw) (cwV 2 C.2.2.2.2.1 gX4_fix_X0_property rfl rfl rfl (by decide +kernel) ⟨by decide, by decide⟩) rfl rfl rfl rfl (Nat.le_of_ble_eq_true rfl) ⟨by decide, by decide⟩ dX4_fix_31 (fun r9 σ10 hw => ?_)
      refine xr_istore_n C [(0, .ref (ad 0)), (1, .int (i32 a1)), (2, .int (i32 a2)), (3, .int (i32 r9))] dX4_fix_34 rfl (by decide) rfl ?_
      refine xr_aload_n C 0 dX4_fix_35 rfl rfl ?_
      refine xr_get C hinX4 (N := 4) (ci := 3) (a := (ad 0)) 0 rfl rfl 0 (by decide) m0 rfl rfl dX4_fix_36 ?_
      refine xr_iload_n C 2 dX4_fix_39 rfl rfl ?_
      refine xr_iconst C dX4_fix_40 ?_
      refine xr_callVi C (ci := 0) (q0 := 0) (As := [.int (i32 a2), .int (i32 5)]) (rest := []) (sp_wX_wB pv ad cI cJ cZ) (by decide) (fun h => h) (mX0_property σ10 a2 5 _ hw) (cwV 2 C.2.2.2.2.1 gX4_fix_X0_property rfl rfl rfl (by decide +kernel) ⟨by decide, by decide⟩) rfl rfl rfl rfl (Nat.le_of_ble_eq_true rfl) ⟨by decide, by decide⟩ dX4_fix_41 (fun r11 σ12 hw => ?_)
      refine xr_istore C [(0, .ref (ad 0)), (1, .int (i32 a1)), (2, .int (i32 a2)), (3, .int (i32 r9)), (4, .int (i32 r11))] dX4_fix_44 (by decide) rfl ?_
      refine xr_iload_n C 3 dX4_fix_46 rfl rfl ?_
      refine xr_iload C 4 dX4_fix_47 rfl ?_
      obtain ⟨g13, hw⟩ := hw
      obtain ⟨g14, hw⟩ := hw
      refine xr_icmp_ne C g13 g14 55 dX4_fix_49 (by decide) (fun c15 => ?_) (fun c15 => ?_)
      · have hw := hw.1 c15
        refine xr_aload_n C 0 dX4_fix_55 rfl rfl ?_
        refine xr_get C hinX4 (N := 4) (ci := 3) (a := (ad 0)) 0 rfl rfl 1 (by decide) m1 rfl rfl dX4_fix_56 ?_
        refine xr_aload_n C 0 dX4_fix_59 rfl rfl ?_
        refine xr_get C hinX4 (N := 4) (ci := 3) (a := (ad 0)) 0 rfl rfl 0 (by decide) m0 rfl rfl dX4_fix_60 ?_
        refine xr_callVv C (ci := 1) (q0 := 0) (As := [.ref (ad 7)]) (rest := []) (sp_wX_wHB pv ad cI cJ cZ) (by decide) (fun h => h) (mX1_keep σ12 _ hw) (cwV 1 C.2.2.2.2.1 gX4_fix_X1_keep rfl rfl rfl (by decide +kernel) ⟨by decide, by decide⟩) rfl rfl rfl rfl (Nat.le_of_ble_eq_true rfl) ⟨by decide, by decide⟩ dX4_fix_63 (fun σ17 hw => ?_)
        refine xr_aload_n C 0 dX4_fix_66 rfl rfl ?_
        refine xr_get C hinX4 (N := 4) (ci := 3) (a := (ad 0)) 0 rfl rfl 0 (by decide) m0 rfl rfl dX4_fix_67 ?_
        refine xr_iload_n C 3 dX4_fix_70 rfl rfl ?_
        refine xr_iload C 4 dX4_fix_71 rfl ?_
        refine xr_callVv C (ci := 0) (q0 := 0) (As := [.int (i32 r9), .int (i32 r11)]) (rest := []) (sp_wX_wB pv ad cI cJ cZ) (by decide) (fun h => h) (mX0_join σ17 r9 r11 _ hw) (cwV 2 C.2.2.2.2.1 gX4_fix_X0_join rfl rfl rfl (by decide +kernel) ⟨by decide, by decide⟩) rfl rfl rfl rfl (Nat.le_of_ble_eq_true rfl) ⟨by decide, by decide⟩ dX4_fix_73 (fun σ19 hw => ?_)
        refine xr_aload_n C 0 dX4_fix_76 rfl rfl ?_
        refine xr_get C hinX4 (N := 4) (ci := 3) (a := (ad 0)) 0 rfl rfl 0 (by decide) m0 rfl rfl dX4_fix_77 ?_
        refine xr_iload_n C 1 dX4_fix_80 rfl rfl ?_
        refine xr_iconst C dX4_fix_81 ?_
        refine xr_callVi C (ci := 0) (q0 := 0) (As := [.int (i32 a1), .int (i32 5)]) (rest := []) (sp_wX_wB pv ad cI cJ cZ) (by decide) (fun h => h) (mX0_property σ19 a1 5 _ hw) (cwV 2 C.2.2.2.2.1 gX4_fix_X0_property rfl rfl rfl (by decide +kernel) ⟨by decide, by decide⟩) rfl rfl rfl rfl (Nat.le_of_ble_eq_true rfl) ⟨by decide, by decide⟩ dX4_fix_82 (fun r20 σ21 hw => ?_)
        exact xr_iret C hr hw dX4_fix_85
      · have hw := hw.2 c15
        refine xr_bipush C dX4_fix_52 (by decide +kernel) ?_
        exact xr_iret C hr hw dX4_fix_54
    · have hw := hw.2 c8
      refine xr_bipush C dX4_fix_22 (by decide +kernel) ?_
      exact xr_iret C hr hw dX4_fix_24
abbrev rmX4_loosen : Room := { frames := 3, cells := 0, slots := 0, locals := 109 }
set_option maxHeartbeats 8000000 in
set_option maxRecDepth 100000 in
theorem mX4_loosen {l : Launch} {D : va_G} {pv : Value} {ad : Nat → Nat} {cI cJ cZ : ClassId} (σ : xS) (a1 : Int) (Q : Int → xS → Prop) (hw : vX4_loosen a1 σ Q) : xMi False l yX4_loosen wsX4_loosen rmX4_loosen D (xtys cI cJ cZ) (wX pv ad cI cJ cZ) [0, 1, 2, 3, 4, 5, 6, 7, 8] σ [.ref (ad 0), .int (i32 a1)] Q := by
  refine xenter (F := [0, 1, 2, 3, 4, 5, 6, 7, 8]) (Qc := fun sz => xQi D (wX pv ad cI cJ cZ) [0, 1, 2, 3, 4, 5, 6, 7, 8] σ sz Q) (own := RX4) (cc := cX4_loosen) (maxL := 3) (ret := some .int) (by decide) rfl rfl (Nat.le_of_ble_eq_true rfl) ?_
  intro p e s m args below meth c hargs C hr hnm
  have hinX4 : ∀ w ∈ u_ws RX4 TX4 4, w ∈ wsX4_loosen := fun _ h => List.mem_cons_of_mem _ (List.mem_append_left _ (List.mem_append_left _ (List.mem_append_right _ h)))
  have m0 : (Cond.fieldLink RX4 10 "SandBench" "bench" "LSandBench$Bench;") ∈ wsX4_loosen := by decide +kernel
  have m1 : (Cond.fieldLink RX4 19 "SandBench" "history" "LSandBench$History;") ∈ wsX4_loosen := by decide +kernel
  show xX p l e rmX4_loosen s m args below meth c D vwCl (va_A ((wX pv ad cI cJ cZ) σ) s.heap.size) (wX pv ad cI cJ cZ) [0, 1, 2, 3, 4, 5, 6, 7, 8] σ 0 0 (MQ below (xQi D (wX pv ad cI cJ cZ) [0, 1, 2, 3, 4, 5, 6, 7, 8] σ s.heap.size Q) args s 0 0 (va_A ((wX pv ad cI cJ cZ) σ) s.heap.size)) 3 σ 0 [(0, .ref (ad 0)), (1, .int (i32 a1))] []
  unfold vX4_loosen at hw
  refine xr_aload_n C 0 dX4_loosen_0 rfl rfl ?_
  refine xr_get C hinX4 (N := 4) (ci := 3) (a := (ad 0)) 0 rfl rfl 0 (by decide) m0 rfl rfl dX4_loosen_1 ?_
  refine xr_iload_n C 1 dX4_loosen_4 rfl rfl ?_
  refine xr_callVi C (ci := 0) (q0 := 0) (As := [.int (i32 a1)]) (rest := []) (sp_wX_wB pv ad cI cJ cZ) (by decide) (fun h => h) (mX0_has σ a1 _ hw) (cwV 1 C.2.2.2.2.1 gX4_loosen_X0_has rfl rfl rfl (by decide +kernel) ⟨by decide, by decide⟩) rfl rfl rfl rfl (Nat.le_of_ble_eq_true rfl) ⟨by decide, by decide⟩ dX4_loosen_5 (fun r1 σ2 hw => ?_)
  obtain ⟨g3, hw⟩ := hw
  refine xr_if_ne C g3 14 dX4_loosen_8 (by decide) (fun c4 => ?_) (fun c4 => ?_)
  · have hw := hw.1 c4
    refine xr_aload_n C 0 dX4_loosen_14 rfl rfl ?_
    refine xr_get C hinX4 (N := 4) (ci := 3) (a := (ad 0)) 0 rfl rfl 0 (by decide) m0 rfl rfl dX4_loosen_15 ?_
    refine xr_iload_n C 1 dX4_loosen_18 rfl rfl ?_
    refine xr_iconst C dX4_loosen_19 ?_
    refine xr_callVi C (ci := 0) (q0 := 0) (As := [.int (i32 a1), .int (i32 5)]) (rest := []) (sp_wX_wB pv ad cI cJ cZ) (by decide) (fun h => h) (mX0_property σ2 a1 5 _ hw) (cwV 2 C.2.2.2.2.1 gX4_loosen_X0_property rfl rfl rfl (by decide +kernel) ⟨by decide, by decide⟩) rfl rfl rfl rfl (Nat.le_of_ble_eq_true rfl) ⟨by decide, by decide⟩ dX4_loosen_20 (fun r5 σ6 hw => ?_)
    refine xr_istore_n C [(0, .ref (ad 0)), (1, .int (i32 a1)), (2, .int (i32 r5))] dX4_loosen_23 rfl (by decide) rfl ?_
    refine xr_aload_n C 0 dX4_loosen_24 rfl rfl ?_
    refine xr_get C hinX4 (N := 4) (ci := 3) (a := (ad 0)) 0 rfl rfl 0 (by decide) m0 rfl rfl dX4_loosen_25 ?_
    refine xr_iload_n C 2 dX4_loosen_28 rfl rfl ?_
    refine xr_callVi C (ci := 0) (q0 := 0) (As := [.int (i32 r5)]) (rest := []) (sp_wX_wB pv ad cI cJ cZ) (by decide) (fun h => h) (mX0_glassesOf σ6 r5 _ hw) (cwV 1 C.2.2.2.2.1 gX4_loosen_X0_glassesOf rfl rfl rfl (by decide +kernel) ⟨by decide, by decide⟩) rfl rfl rfl rfl (Nat.le_of_ble_eq_true rfl) ⟨by decide, by decide⟩ dX4_loosen_29 (fun r7 σ8 hw => ?_)
    refine xr_iconst C dX4_loosen_32 ?_
    obtain ⟨g9, hw⟩ := hw
    refine xr_icmp_ne C g9 ⟨by decide, by decide⟩ 39 dX4_loosen_33 (by decide) (fun c10 => ?_) (fun c10 => ?_)
    · have hw := hw.1 c10
      refine xr_aload_n C 0 dX4_loosen_39 rfl rfl ?_
      refine xr_get C hinX4 (N := 4) (ci := 3) (a := (ad 0)) 0 rfl rfl 1 (by decide) m1 rfl rfl dX4_loosen_40 ?_
      refine xr_aload_n C 0 dX4_loosen_43 rfl rfl ?_
      refine xr_get C hinX4 (N := 4) (ci := 3) (a := (ad 0)) 0 rfl rfl 0 (by decide) m0 rfl rfl dX4_loosen_44 ?_
      refine xr_callVv C (ci := 1) (q0 := 0) (As := [.ref (ad 7)]) (rest := []) (sp_wX_wHB pv ad cI cJ cZ) (by decide) (fun h => h) (mX1_keep σ8 _ hw) (cwV 1 C.2.2.2.2.1 gX4_loosen_X1_keep rfl rfl rfl (by decide +kernel) ⟨by decide, by decide⟩) rfl rfl rfl rfl (Nat.le_of_ble_eq_true rfl) ⟨by decide, by decide⟩ dX4_loosen_47 (fun σ12 hw => ?_)
      refine xr_aload_n C 0 dX4_loosen_50 rfl rfl ?_
      refine xr_get C hinX4 (N := 4) (ci := 3) (a := (ad 0)) 0 rfl rfl 0 (by decide) m0 rfl rfl dX4_loosen_51 ?_
      refine xr_iload_n C 2 dX4_loosen_54 rfl rfl ?_
      refine xr_callVv C (ci := 0) (q0 := 0) (As := [.int (i32 r5)]) (rest := []) (sp_wX_wB pv ad cI cJ cZ) (by decide) (fun h => h) (mX0_scatter σ12 r5 _ hw) (cwV 1 C.2.2.2.2.1 gX4_loosen_X0_scatter rfl rfl rfl (by decide +kernel) ⟨by decide, by decide⟩) rfl rfl rfl rfl (Nat.le_of_ble_eq_true rfl) ⟨by decide, by decide⟩ dX4_loosen_55 (fun σ14 hw => ?_)
      refine xr_aload_n C 0 dX4_loosen_58 rfl rfl ?_
      refine xr_get C hinX4 (N := 4) (ci := 3) (a := (ad 0)) 0 rfl rfl 0 (by decide) m0 rfl rfl dX4_loosen_59 ?_
      refine xr_callVi C (ci := 0) (q0 := 0) (As := []) (rest := []) (sp_wX_wB pv ad cI cJ cZ) (by decide) (fun h => h) (mX0_stacks σ14 _ hw) (cwV 0 C.2.2.2.2.1 gX4_loosen_X0_stacks rfl rfl rfl (by decide +kernel) ⟨by decide, by decide⟩) rfl rfl rfl rfl (Nat.le_of_ble_eq_true rfl) ⟨by decide, by decide⟩ dX4_loosen_62 (fun r15 σ16 hw => ?_)
      exact xr_iret C hr hw dX4_loosen_65
    · have hw := hw.2 c10
      refine xr_bipush C dX4_loosen_36 (by decide +kernel) ?_
      exact xr_iret C hr hw dX4_loosen_38
  · have hw := hw.2 c4
    refine xr_bipush C dX4_loosen_11 (by decide +kernel) ?_
    exact xr_iret C hr hw dX4_loosen_13
abbrev rmX4_turn : Room := { frames := 3, cells := 0, slots := 0, locals := 131 }
set_option maxHeartbeats 8000000 in
set_option maxRecDepth 100000 in
theorem mX4_turn {l : Launch} {D : va_G} {pv : Value} {ad : Nat → Nat} {cI cJ cZ : ClassId} (σ : xS) (a1 : Int) (Q : Int → xS → Prop) (hw : vX4_turn a1 σ Q) : xMi False l yX4_turn wsX4_turn rmX4_turn D (xtys cI cJ cZ) (wX pv ad cI cJ cZ) [0, 1, 2, 3, 4, 5, 6, 7, 8] σ [.ref (ad 0), .int (i32 a1)] Q := by
  refine xenter (F := [0, 1, 2, 3, 4, 5, 6, 7, 8]) (Qc := fun sz => xQi D (wX pv ad cI cJ cZ) [0, 1, 2, 3, 4, 5, 6, 7, 8] σ sz Q) (own := RX4) (cc := cX4_turn) (maxL := 2) (ret := some .int) (by decide) rfl rfl (Nat.le_of_ble_eq_true rfl) ?_
  intro p e s m args below meth c hargs C hr hnm
  have hinX4 : ∀ w ∈ u_ws RX4 TX4 4, w ∈ wsX4_turn := fun _ h => List.mem_cons_of_mem _ (List.mem_append_left _ (List.mem_append_left _ (List.mem_append_right _ h)))
  have m0 : (Cond.fieldLink RX4 10 "SandBench" "bench" "LSandBench$Bench;") ∈ wsX4_turn := by decide +kernel
  have m1 : (Cond.fieldLink RX4 19 "SandBench" "history" "LSandBench$History;") ∈ wsX4_turn := by decide +kernel
  show xX p l e rmX4_turn s m args below meth c D vwCl (va_A ((wX pv ad cI cJ cZ) σ) s.heap.size) (wX pv ad cI cJ cZ) [0, 1, 2, 3, 4, 5, 6, 7, 8] σ 0 0 (MQ below (xQi D (wX pv ad cI cJ cZ) [0, 1, 2, 3, 4, 5, 6, 7, 8] σ s.heap.size Q) args s 0 0 (va_A ((wX pv ad cI cJ cZ) σ) s.heap.size)) 2 σ 0 [(0, .ref (ad 0)), (1, .int (i32 a1))] []
  unfold vX4_turn at hw
  refine xr_aload_n C 0 dX4_turn_0 rfl rfl ?_
  refine xr_get C hinX4 (N := 4) (ci := 3) (a := (ad 0)) 0 rfl rfl 0 (by decide) m0 rfl rfl dX4_turn_1 ?_
  refine xr_iload_n C 1 dX4_turn_4 rfl rfl ?_
  refine xr_callVi C (ci := 0) (q0 := 0) (As := [.int (i32 a1)]) (rest := []) (sp_wX_wB pv ad cI cJ cZ) (by decide) (fun h => h) (mX0_has σ a1 _ hw) (cwV 1 C.2.2.2.2.1 gX4_turn_X0_has rfl rfl rfl (by decide +kernel) ⟨by decide, by decide⟩) rfl rfl rfl rfl (Nat.le_of_ble_eq_true rfl) ⟨by decide, by decide⟩ dX4_turn_5 (fun r1 σ2 hw => ?_)
  obtain ⟨g3, hw⟩ := hw
  refine xr_if_ne C g3 14 dX4_turn_8 (by decide) (fun c4 => ?_) (fun c4 => ?_)
  · have hw := hw.1 c4
    refine xr_aload_n C 0 dX4_turn_14 rfl rfl ?_
    refine xr_get C hinX4 (N := 4) (ci := 3) (a := (ad 0)) 0 rfl rfl 1 (by decide) m1 rfl rfl dX4_turn_15 ?_
    refine xr_aload_n C 0 dX4_turn_18 rfl rfl ?_
    refine xr_get C hinX4 (N := 4) (ci := 3) (a := (ad 0)) 0 rfl rfl 0 (by decide) m0 rfl rfl dX4_turn_19 ?_
    refine xr_callVv C (ci := 1) (q0 := 0) (As := [.ref (ad 7)]) (rest := []) (sp_wX_wHB pv ad cI cJ cZ) (by decide) (fun h => h) (mX1_keep σ2 _ hw) (cwV 1 C.2.2.2.2.1 gX4_turn_X1_keep rfl rfl rfl (by decide +kernel) ⟨by decide, by decide⟩) rfl rfl rfl rfl (Nat.le_of_ble_eq_true rfl) ⟨by decide, by decide⟩ dX4_turn_22 (fun σ6 hw => ?_)
    refine xr_aload_n C 0 dX4_turn_25 rfl rfl ?_
    refine xr_get C hinX4 (N := 4) (ci := 3) (a := (ad 0)) 0 rfl rfl 0 (by decide) m0 rfl rfl dX4_turn_26 ?_
    refine xr_iload_n C 1 dX4_turn_29 rfl rfl ?_
    refine xr_callVv C (ci := 0) (q0 := 0) (As := [.int (i32 a1)]) (rest := []) (sp_wX_wB pv ad cI cJ cZ) (by decide) (fun h => h) (mX0_turnStackOf σ6 a1 _ hw) (cwV 1 C.2.2.2.2.1 gX4_turn_X0_turnStackOf rfl rfl rfl (by decide +kernel) ⟨by decide, by decide⟩) rfl rfl rfl rfl (Nat.le_of_ble_eq_true rfl) ⟨by decide, by decide⟩ dX4_turn_30 (fun σ8 hw => ?_)
    refine xr_aload_n C 0 dX4_turn_33 rfl rfl ?_
    refine xr_get C hinX4 (N := 4) (ci := 3) (a := (ad 0)) 0 rfl rfl 0 (by decide) m0 rfl rfl dX4_turn_34 ?_
    refine xr_iload_n C 1 dX4_turn_37 rfl rfl ?_
    refine xr_iconst C dX4_turn_38 ?_
    refine xr_callVi C (ci := 0) (q0 := 0) (As := [.int (i32 a1), .int (i32 1)]) (rest := []) (sp_wX_wB pv ad cI cJ cZ) (by decide) (fun h => h) (mX0_property σ8 a1 1 _ hw) (cwV 2 C.2.2.2.2.1 gX4_turn_X0_property rfl rfl rfl (by decide +kernel) ⟨by decide, by decide⟩) rfl rfl rfl rfl (Nat.le_of_ble_eq_true rfl) ⟨by decide, by decide⟩ dX4_turn_39 (fun r9 σ10 hw => ?_)
    exact xr_iret C hr hw dX4_turn_42
  · have hw := hw.2 c4
    refine xr_bipush C dX4_turn_11 (by decide +kernel) ?_
    exact xr_iret C hr hw dX4_turn_13
abbrev rmX4_tap : Room := { frames := 3, cells := 0, slots := 0, locals := 129 }
set_option maxHeartbeats 8000000 in
set_option maxRecDepth 100000 in
theorem mX4_tap {l : Launch} {D : va_G} {pv : Value} {ad : Nat → Nat} {cI cJ cZ : ClassId} (σ : xS) (a1 : Int) (Q : Int → xS → Prop) (hw : vX4_tap a1 σ Q) : xMi False l yX4_tap wsX4_tap rmX4_tap D (xtys cI cJ cZ) (wX pv ad cI cJ cZ) [0, 1, 2, 3, 4, 5, 6, 7, 8] σ [.ref (ad 0), .int (i32 a1)] Q := by
  refine xenter (F := [0, 1, 2, 3, 4, 5, 6, 7, 8]) (Qc := fun sz => xQi D (wX pv ad cI cJ cZ) [0, 1, 2, 3, 4, 5, 6, 7, 8] σ sz Q) (own := RX4) (cc := cX4_tap) (maxL := 3) (ret := some .int) (by decide) rfl rfl (Nat.le_of_ble_eq_true rfl) ?_
  intro p e s m args below meth c hargs C hr hnm
  have hinX4 : ∀ w ∈ u_ws RX4 TX4 4, w ∈ wsX4_tap := fun _ h => List.mem_cons_of_mem _ (List.mem_append_left _ (List.mem_append_left _ (List.mem_append_right _ h)))
  have m0 : (Cond.fieldLink RX4 10 "SandBench" "bench" "LSandBench$Bench;") ∈ wsX4_tap := by decide +kernel
  have m1 : (Cond.fieldLink RX4 19 "SandBench" "history" "LSandBench$History;") ∈ wsX4_tap := by decide +kernel
  show xX p l e rmX4_tap s m args below meth c D vwCl (va_A ((wX pv ad cI cJ cZ) σ) s.heap.size) (wX pv ad cI cJ cZ) [0, 1, 2, 3, 4, 5, 6, 7, 8] σ 0 0 (MQ below (xQi D (wX pv ad cI cJ cZ) [0, 1, 2, 3, 4, 5, 6, 7, 8] σ s.heap.size Q) args s 0 0 (va_A ((wX pv ad cI cJ cZ) σ) s.heap.size)) 3 σ 0 [(0, .ref (ad 0)), (1, .int (i32 a1))] []
  unfold vX4_tap at hw
  refine xr_aload_n C 0 dX4_tap_0 rfl rfl ?_
  refine xr_get C hinX4 (N := 4) (ci := 3) (a := (ad 0)) 0 rfl rfl 0 (by decide) m0 rfl rfl dX4_tap_1 ?_
  refine xr_iload_n C 1 dX4_tap_4 rfl rfl ?_
  refine xr_callVi C (ci := 0) (q0 := 0) (As := [.int (i32 a1)]) (rest := []) (sp_wX_wB pv ad cI cJ cZ) (by decide) (fun h => h) (mX0_has σ a1 _ hw) (cwV 1 C.2.2.2.2.1 gX4_tap_X0_has rfl rfl rfl (by decide +kernel) ⟨by decide, by decide⟩) rfl rfl rfl rfl (Nat.le_of_ble_eq_true rfl) ⟨by decide, by decide⟩ dX4_tap_5 (fun r1 σ2 hw => ?_)
  obtain ⟨g3, hw⟩ := hw
  refine xr_if_ne C g3 14 dX4_tap_8 (by decide) (fun c4 => ?_) (fun c4 => ?_)
  · have hw := hw.1 c4
    refine xr_aload_n C 0 dX4_tap_14 rfl rfl ?_
    refine xr_get C hinX4 (N := 4) (ci := 3) (a := (ad 0)) 0 rfl rfl 1 (by decide) m1 rfl rfl dX4_tap_15 ?_
    refine xr_aload_n C 0 dX4_tap_18 rfl rfl ?_
    refine xr_get C hinX4 (N := 4) (ci := 3) (a := (ad 0)) 0 rfl rfl 0 (by decide) m0 rfl rfl dX4_tap_19 ?_
    refine xr_callVv C (ci := 1) (q0 := 0) (As := [.ref (ad 7)]) (rest := []) (sp_wX_wHB pv ad cI cJ cZ) (by decide) (fun h => h) (mX1_keep σ2 _ hw) (cwV 1 C.2.2.2.2.1 gX4_tap_X1_keep rfl rfl rfl (by decide +kernel) ⟨by decide, by decide⟩) rfl rfl rfl rfl (Nat.le_of_ble_eq_true rfl) ⟨by decide, by decide⟩ dX4_tap_22 (fun σ6 hw => ?_)
    refine xr_aload_n C 0 dX4_tap_25 rfl rfl ?_
    refine xr_get C hinX4 (N := 4) (ci := 3) (a := (ad 0)) 0 rfl rfl 0 (by decide) m0 rfl rfl dX4_tap_26 ?_
    refine xr_iload_n C 1 dX4_tap_29 rfl rfl ?_
    refine xr_iconst C dX4_tap_30 ?_
    refine xr_callVi C (ci := 0) (q0 := 0) (As := [.int (i32 a1), .int (i32 4)]) (rest := []) (sp_wX_wB pv ad cI cJ cZ) (by decide) (fun h => h) (mX0_property σ6 a1 4 _ hw) (cwV 2 C.2.2.2.2.1 gX4_tap_X0_property rfl rfl rfl (by decide +kernel) ⟨by decide, by decide⟩) rfl rfl rfl rfl (Nat.le_of_ble_eq_true rfl) ⟨by decide, by decide⟩ dX4_tap_31 (fun r7 σ8 hw => ?_)
    refine xr_istore_n C [(0, .ref (ad 0)), (1, .int (i32 a1)), (2, .int (i32 r7))] dX4_tap_34 rfl (by decide) rfl ?_
    refine xr_aload_n C 0 dX4_tap_35 rfl rfl ?_
    refine xr_get C hinX4 (N := 4) (ci := 3) (a := (ad 0)) 0 rfl rfl 0 (by decide) m0 rfl rfl dX4_tap_36 ?_
    refine xr_iload_n C 1 dX4_tap_39 rfl rfl ?_
    refine xr_callVv C (ci := 0) (q0 := 0) (As := [.int (i32 a1)]) (rest := []) (sp_wX_wB pv ad cI cJ cZ) (by decide) (fun h => h) (mX0_tapGlass σ8 a1 _ hw) (cwV 1 C.2.2.2.2.1 gX4_tap_X0_tapGlass rfl rfl rfl (by decide +kernel) ⟨by decide, by decide⟩) rfl rfl rfl rfl (Nat.le_of_ble_eq_true rfl) ⟨by decide, by decide⟩ dX4_tap_40 (fun σ10 hw => ?_)
    refine xr_iload_n C 2 dX4_tap_43 rfl rfl ?_
    exact xr_iret C hr hw dX4_tap_44
  · have hw := hw.2 c4
    refine xr_bipush C dX4_tap_11 (by decide +kernel) ?_
    exact xr_iret C hr hw dX4_tap_13
abbrev rmX4_pass : Room := { frames := 5, cells := 0, slots := 0, locals := 173 }
set_option maxHeartbeats 8000000 in
set_option maxRecDepth 100000 in
theorem mX4_pass {l : Launch} {D : va_G} {pv : Value} {ad : Nat → Nat} {cI cJ cZ : ClassId} (σ : xS) (a1 : Int) (Q : Int → xS → Prop) (hw : vX4_pass a1 σ Q) : xMi False l yX4_pass wsX4_pass rmX4_pass D (xtys cI cJ cZ) (wX pv ad cI cJ cZ) [0, 1, 2, 3, 4, 5, 6, 7, 8] σ [.ref (ad 0), .int (i32 a1)] Q := by
  refine xenter (F := [0, 1, 2, 3, 4, 5, 6, 7, 8]) (Qc := fun sz => xQi D (wX pv ad cI cJ cZ) [0, 1, 2, 3, 4, 5, 6, 7, 8] σ sz Q) (own := RX4) (cc := cX4_pass) (maxL := 2) (ret := some .int) (by decide) rfl rfl (Nat.le_of_ble_eq_true rfl) ?_
  intro p e s m args below meth c hargs C hr hnm
  have hinX4 : ∀ w ∈ u_ws RX4 TX4 4, w ∈ wsX4_pass := fun _ h => List.mem_cons_of_mem _ (List.mem_append_left _ (List.mem_append_left _ (List.mem_append_right _ h)))
  have m0 : (Cond.fieldLink RX4 10 "SandBench" "bench" "LSandBench$Bench;") ∈ wsX4_pass := by decide +kernel
  have m1 : (Cond.fieldLink RX4 19 "SandBench" "history" "LSandBench$History;") ∈ wsX4_pass := by decide +kernel
  show xX p l e rmX4_pass s m args below meth c D vwCl (va_A ((wX pv ad cI cJ cZ) σ) s.heap.size) (wX pv ad cI cJ cZ) [0, 1, 2, 3, 4, 5, 6, 7, 8] σ 0 0 (MQ below (xQi D (wX pv ad cI cJ cZ) [0, 1, 2, 3, 4, 5, 6, 7, 8] σ s.heap.size Q) args s 0 0 (va_A ((wX pv ad cI cJ cZ) σ) s.heap.size)) 2 σ 0 [(0, .ref (ad 0)), (1, .int (i32 a1))] []
  unfold vX4_pass at hw
  refine xr_iload_n C 1 dX4_pass_0 rfl rfl ?_
  refine xr_iconst C dX4_pass_1 ?_
  obtain ⟨g1, hw⟩ := hw
  refine xr_icmp_lt C g1 ⟨by decide, by decide⟩ 12 dX4_pass_2 (by decide) (fun c2 => ?_) (fun c2 => ?_)
  · have hw := hw.1 c2
    refine xr_bipush C dX4_pass_12 (by decide +kernel) ?_
    exact xr_iret C hr hw dX4_pass_14
  · have hw := hw.2 c2
    refine xr_iload_n C 1 dX4_pass_5 rfl rfl ?_
    refine xr_sipush C dX4_pass_6 (by decide +kernel) ?_
    refine xr_icmp_le C g1 ⟨by decide, by decide⟩ 15 dX4_pass_9 (by decide) (fun c3 => ?_) (fun c3 => ?_)
    · have hw := hw.1 c3
      refine xr_aload_n C 0 dX4_pass_15 rfl rfl ?_
      refine xr_get C hinX4 (N := 4) (ci := 3) (a := (ad 0)) 0 rfl rfl 0 (by decide) m0 rfl rfl dX4_pass_16 ?_
      refine xr_iload_n C 1 dX4_pass_19 rfl rfl ?_
      refine xr_callVi C (ci := 0) (q0 := 0) (As := [.int (i32 a1)]) (rest := []) (sp_wX_wB pv ad cI cJ cZ) (by decide) (fun h => h) (mX0_hasTimeFor σ a1 _ hw) (cwV 1 C.2.2.2.2.1 gX4_pass_X0_hasTimeFor rfl rfl rfl (by decide +kernel) ⟨by decide, by decide⟩) rfl rfl rfl rfl (Nat.le_of_ble_eq_true rfl) ⟨by decide, by decide⟩ dX4_pass_20 (fun r4 σ5 hw => ?_)
      obtain ⟨g6, hw⟩ := hw
      refine xr_if_ne C g6 29 dX4_pass_23 (by decide) (fun c7 => ?_) (fun c7 => ?_)
      · have hw := hw.1 c7
        refine xr_aload_n C 0 dX4_pass_29 rfl rfl ?_
        refine xr_get C hinX4 (N := 4) (ci := 3) (a := (ad 0)) 0 rfl rfl 1 (by decide) m1 rfl rfl dX4_pass_30 ?_
        refine xr_aload_n C 0 dX4_pass_33 rfl rfl ?_
        refine xr_get C hinX4 (N := 4) (ci := 3) (a := (ad 0)) 0 rfl rfl 0 (by decide) m0 rfl rfl dX4_pass_34 ?_
        refine xr_callVv C (ci := 1) (q0 := 0) (As := [.ref (ad 7)]) (rest := []) (sp_wX_wHB pv ad cI cJ cZ) (by decide) (fun h => h) (mX1_keep σ5 _ hw) (cwV 1 C.2.2.2.2.1 gX4_pass_X1_keep rfl rfl rfl (by decide +kernel) ⟨by decide, by decide⟩) rfl rfl rfl rfl (Nat.le_of_ble_eq_true rfl) ⟨by decide, by decide⟩ dX4_pass_37 (fun σ9 hw => ?_)
        refine xr_aload_n C 0 dX4_pass_40 rfl rfl ?_
        refine xr_get C hinX4 (N := 4) (ci := 3) (a := (ad 0)) 0 rfl rfl 0 (by decide) m0 rfl rfl dX4_pass_41 ?_
        refine xr_iload_n C 1 dX4_pass_44 rfl rfl ?_
        refine xr_callVi C (ci := 0) (q0 := 0) (As := [.int (i32 a1)]) (rest := []) (sp_wX_wB pv ad cI cJ cZ) (by decide) (fun h => h) (mX0_letPass σ9 a1 _ hw) (cwV 1 C.2.2.2.2.1 gX4_pass_X0_letPass rfl rfl rfl (by decide +kernel) ⟨by decide, by decide⟩) rfl rfl rfl rfl (Nat.le_of_ble_eq_true rfl) ⟨by decide, by decide⟩ dX4_pass_45 (fun r10 σ11 hw => ?_)
        exact xr_iret C hr hw dX4_pass_48
      · have hw := hw.2 c7
        refine xr_bipush C dX4_pass_26 (by decide +kernel) ?_
        exact xr_iret C hr hw dX4_pass_28
    · have hw := hw.2 c3
      refine xr_bipush C dX4_pass_12 (by decide +kernel) ?_
      exact xr_iret C hr hw dX4_pass_14
abbrev rmX4_await : Room := { frames := 5, cells := 0, slots := 0, locals := 173 }
set_option maxHeartbeats 8000000 in
set_option maxRecDepth 100000 in
theorem mX4_await {l : Launch} {D : va_G} {pv : Value} {ad : Nat → Nat} {cI cJ cZ : ClassId} (σ : xS) (Q : Int → xS → Prop) (hw : vX4_await σ Q) : xMi False l yX4_await wsX4_await rmX4_await D (xtys cI cJ cZ) (wX pv ad cI cJ cZ) [0, 1, 2, 3, 4, 5, 6, 7, 8] σ [.ref (ad 0)] Q := by
  refine xenter (F := [0, 1, 2, 3, 4, 5, 6, 7, 8]) (Qc := fun sz => xQi D (wX pv ad cI cJ cZ) [0, 1, 2, 3, 4, 5, 6, 7, 8] σ sz Q) (own := RX4) (cc := cX4_await) (maxL := 2) (ret := some .int) (by decide) rfl rfl (Nat.le_of_ble_eq_true rfl) ?_
  intro p e s m args below meth c hargs C hr hnm
  have hinX4 : ∀ w ∈ u_ws RX4 TX4 4, w ∈ wsX4_await := fun _ h => List.mem_cons_of_mem _ (List.mem_append_left _ (List.mem_append_left _ (List.mem_append_right _ h)))
  have m0 : (Cond.fieldLink RX4 10 "SandBench" "bench" "LSandBench$Bench;") ∈ wsX4_await := by decide +kernel
  have m1 : (Cond.fieldLink RX4 19 "SandBench" "history" "LSandBench$History;") ∈ wsX4_await := by decide +kernel
  show xX p l e rmX4_await s m args below meth c D vwCl (va_A ((wX pv ad cI cJ cZ) σ) s.heap.size) (wX pv ad cI cJ cZ) [0, 1, 2, 3, 4, 5, 6, 7, 8] σ 0 0 (MQ below (xQi D (wX pv ad cI cJ cZ) [0, 1, 2, 3, 4, 5, 6, 7, 8] σ s.heap.size Q) args s 0 0 (va_A ((wX pv ad cI cJ cZ) σ) s.heap.size)) 2 σ 0 [(0, .ref (ad 0))] []
  unfold vX4_await at hw
  refine xr_aload_n C 0 dX4_await_0 rfl rfl ?_
  refine xr_get C hinX4 (N := 4) (ci := 3) (a := (ad 0)) 0 rfl rfl 0 (by decide) m0 rfl rfl dX4_await_1 ?_
  refine xr_callVi C (ci := 0) (q0 := 0) (As := []) (rest := []) (sp_wX_wB pv ad cI cJ cZ) (by decide) (fun h => h) (mX0_secondsToEvent σ _ hw) (cwV 0 C.2.2.2.2.1 gX4_await_X0_secondsToEvent rfl rfl rfl (by decide +kernel) ⟨by decide, by decide⟩) rfl rfl rfl rfl (Nat.le_of_ble_eq_true rfl) ⟨by decide, by decide⟩ dX4_await_4 (fun r1 σ2 hw => ?_)
  refine xr_istore_n C [(0, .ref (ad 0)), (1, .int (i32 r1))] dX4_await_7 rfl (by decide) rfl ?_
  refine xr_iload_n C 1 dX4_await_8 rfl rfl ?_
  obtain ⟨g3, hw⟩ := hw
  refine xr_if_ne C g3 15 dX4_await_9 (by decide) (fun c4 => ?_) (fun c4 => ?_)
  · have hw := hw.1 c4
    refine xr_aload_n C 0 dX4_await_15 rfl rfl ?_
    refine xr_get C hinX4 (N := 4) (ci := 3) (a := (ad 0)) 0 rfl rfl 0 (by decide) m0 rfl rfl dX4_await_16 ?_
    refine xr_iload_n C 1 dX4_await_19 rfl rfl ?_
    refine xr_callVi C (ci := 0) (q0 := 0) (As := [.int (i32 r1)]) (rest := []) (sp_wX_wB pv ad cI cJ cZ) (by decide) (fun h => h) (mX0_hasTimeFor σ2 r1 _ hw) (cwV 1 C.2.2.2.2.1 gX4_await_X0_hasTimeFor rfl rfl rfl (by decide +kernel) ⟨by decide, by decide⟩) rfl rfl rfl rfl (Nat.le_of_ble_eq_true rfl) ⟨by decide, by decide⟩ dX4_await_20 (fun r5 σ6 hw => ?_)
    obtain ⟨g7, hw⟩ := hw
    refine xr_if_ne C g7 29 dX4_await_23 (by decide) (fun c8 => ?_) (fun c8 => ?_)
    · have hw := hw.1 c8
      refine xr_aload_n C 0 dX4_await_29 rfl rfl ?_
      refine xr_get C hinX4 (N := 4) (ci := 3) (a := (ad 0)) 0 rfl rfl 1 (by decide) m1 rfl rfl dX4_await_30 ?_
      refine xr_aload_n C 0 dX4_await_33 rfl rfl ?_
      refine xr_get C hinX4 (N := 4) (ci := 3) (a := (ad 0)) 0 rfl rfl 0 (by decide) m0 rfl rfl dX4_await_34 ?_
      refine xr_callVv C (ci := 1) (q0 := 0) (As := [.ref (ad 7)]) (rest := []) (sp_wX_wHB pv ad cI cJ cZ) (by decide) (fun h => h) (mX1_keep σ6 _ hw) (cwV 1 C.2.2.2.2.1 gX4_await_X1_keep rfl rfl rfl (by decide +kernel) ⟨by decide, by decide⟩) rfl rfl rfl rfl (Nat.le_of_ble_eq_true rfl) ⟨by decide, by decide⟩ dX4_await_37 (fun σ10 hw => ?_)
      refine xr_aload_n C 0 dX4_await_40 rfl rfl ?_
      refine xr_get C hinX4 (N := 4) (ci := 3) (a := (ad 0)) 0 rfl rfl 0 (by decide) m0 rfl rfl dX4_await_41 ?_
      refine xr_iload_n C 1 dX4_await_44 rfl rfl ?_
      refine xr_callVi C (ci := 0) (q0 := 0) (As := [.int (i32 r1)]) (rest := []) (sp_wX_wB pv ad cI cJ cZ) (by decide) (fun h => h) (mX0_letPass σ10 r1 _ hw) (cwV 1 C.2.2.2.2.1 gX4_await_X0_letPass rfl rfl rfl (by decide +kernel) ⟨by decide, by decide⟩) rfl rfl rfl rfl (Nat.le_of_ble_eq_true rfl) ⟨by decide, by decide⟩ dX4_await_45 (fun r11 σ12 hw => ?_)
      refine xr_pop C dX4_await_48 rfl ?_
      refine xr_iload_n C 1 dX4_await_49 rfl rfl ?_
      exact xr_iret C hr hw dX4_await_50
    · have hw := hw.2 c8
      refine xr_bipush C dX4_await_26 (by decide +kernel) ?_
      exact xr_iret C hr hw dX4_await_28
  · have hw := hw.2 c4
    refine xr_bipush C dX4_await_12 (by decide +kernel) ?_
    exact xr_iret C hr hw dX4_await_14
abbrev rmX4_mark : Room := { frames := 3, cells := 0, slots := 0, locals := 107 }
set_option maxHeartbeats 8000000 in
set_option maxRecDepth 100000 in
theorem mX4_mark {l : Launch} {D : va_G} {pv : Value} {ad : Nat → Nat} {cI cJ cZ : ClassId} (σ : xS) (Q : Int → xS → Prop) (hw : vX4_mark σ Q) : xMi False l yX4_mark wsX4_mark rmX4_mark D (xtys cI cJ cZ) (wX pv ad cI cJ cZ) [0, 1, 2, 3, 4, 5, 6, 7, 8] σ [.ref (ad 0)] Q := by
  refine xenter (F := [0, 1, 2, 3, 4, 5, 6, 7, 8]) (Qc := fun sz => xQi D (wX pv ad cI cJ cZ) [0, 1, 2, 3, 4, 5, 6, 7, 8] σ sz Q) (own := RX4) (cc := cX4_mark) (maxL := 2) (ret := some .int) (by decide) rfl rfl (Nat.le_of_ble_eq_true rfl) ?_
  intro p e s m args below meth c hargs C hr hnm
  have hinX4 : ∀ w ∈ u_ws RX4 TX4 4, w ∈ wsX4_mark := fun _ h => List.mem_cons_of_mem _ (List.mem_append_left _ (List.mem_append_left _ (List.mem_append_right _ h)))
  have m0 : (Cond.fieldLink RX4 19 "SandBench" "history" "LSandBench$History;") ∈ wsX4_mark := by decide +kernel
  have m1 : (Cond.fieldLink RX4 10 "SandBench" "bench" "LSandBench$Bench;") ∈ wsX4_mark := by decide +kernel
  show xX p l e rmX4_mark s m args below meth c D vwCl (va_A ((wX pv ad cI cJ cZ) σ) s.heap.size) (wX pv ad cI cJ cZ) [0, 1, 2, 3, 4, 5, 6, 7, 8] σ 0 0 (MQ below (xQi D (wX pv ad cI cJ cZ) [0, 1, 2, 3, 4, 5, 6, 7, 8] σ s.heap.size Q) args s 0 0 (va_A ((wX pv ad cI cJ cZ) σ) s.heap.size)) 2 σ 0 [(0, .ref (ad 0))] []
  unfold vX4_mark at hw
  refine xr_aload_n C 0 dX4_mark_0 rfl rfl ?_
  refine xr_get C hinX4 (N := 4) (ci := 3) (a := (ad 0)) 0 rfl rfl 1 (by decide) m0 rfl rfl dX4_mark_1 ?_
  refine xr_aload_n C 0 dX4_mark_4 rfl rfl ?_
  refine xr_get C hinX4 (N := 4) (ci := 3) (a := (ad 0)) 0 rfl rfl 0 (by decide) m1 rfl rfl dX4_mark_5 ?_
  refine xr_callVv C (ci := 1) (q0 := 0) (As := [.ref (ad 7)]) (rest := []) (sp_wX_wHB pv ad cI cJ cZ) (by decide) (fun h => h) (mX1_keep σ _ hw) (cwV 1 C.2.2.2.2.1 gX4_mark_X1_keep rfl rfl rfl (by decide +kernel) ⟨by decide, by decide⟩) rfl rfl rfl rfl (Nat.le_of_ble_eq_true rfl) ⟨by decide, by decide⟩ dX4_mark_8 (fun σ2 hw => ?_)
  refine xr_aload_n C 0 dX4_mark_11 rfl rfl ?_
  refine xr_get C hinX4 (N := 4) (ci := 3) (a := (ad 0)) 0 rfl rfl 0 (by decide) m1 rfl rfl dX4_mark_12 ?_
  refine xr_callVi C (ci := 0) (q0 := 0) (As := []) (rest := []) (sp_wX_wB pv ad cI cJ cZ) (by decide) (fun h => h) (mX0_markedTime σ2 _ hw) (cwV 0 C.2.2.2.2.1 gX4_mark_X0_markedTime rfl rfl rfl (by decide +kernel) ⟨by decide, by decide⟩) rfl rfl rfl rfl (Nat.le_of_ble_eq_true rfl) ⟨by decide, by decide⟩ dX4_mark_15 (fun r3 σ4 hw => ?_)
  refine xr_istore_n C [(0, .ref (ad 0)), (1, .int (i32 r3))] dX4_mark_18 rfl (by decide) rfl ?_
  refine xr_aload_n C 0 dX4_mark_19 rfl rfl ?_
  refine xr_get C hinX4 (N := 4) (ci := 3) (a := (ad 0)) 0 rfl rfl 0 (by decide) m1 rfl rfl dX4_mark_20 ?_
  refine xr_callVv C (ci := 0) (q0 := 0) (As := []) (rest := []) (sp_wX_wB pv ad cI cJ cZ) (by decide) (fun h => h) (mX0_markTime σ4 _ hw) (cwV 0 C.2.2.2.2.1 gX4_mark_X0_markTime rfl rfl rfl (by decide +kernel) ⟨by decide, by decide⟩) rfl rfl rfl rfl (Nat.le_of_ble_eq_true rfl) ⟨by decide, by decide⟩ dX4_mark_23 (fun σ6 hw => ?_)
  refine xr_iload_n C 1 dX4_mark_26 rfl rfl ?_
  exact xr_iret C hr hw dX4_mark_27
abbrev rmX4_undo : Room := { frames := 3, cells := 0, slots := 0, locals := 107 }
set_option maxHeartbeats 8000000 in
set_option maxRecDepth 100000 in
theorem mX4_undo {l : Launch} {D : va_G} {pv : Value} {ad : Nat → Nat} {cI cJ cZ : ClassId} (σ : xS) (Q : Int → xS → Prop) (hw : vX4_undo σ Q) : xMi False l yX4_undo wsX4_undo rmX4_undo D (xtys cI cJ cZ) (wX pv ad cI cJ cZ) [0, 1, 2, 3, 4, 5, 6, 7, 8] σ [.ref (ad 0)] Q := by
  refine xenter (F := [0, 1, 2, 3, 4, 5, 6, 7, 8]) (Qc := fun sz => xQi D (wX pv ad cI cJ cZ) [0, 1, 2, 3, 4, 5, 6, 7, 8] σ sz Q) (own := RX4) (cc := cX4_undo) (maxL := 1) (ret := some .int) (by decide) rfl rfl (Nat.le_of_ble_eq_true rfl) ?_
  intro p e s m args below meth c hargs C hr hnm
  have hinX4 : ∀ w ∈ u_ws RX4 TX4 4, w ∈ wsX4_undo := fun _ h => List.mem_cons_of_mem _ (List.mem_append_left _ (List.mem_append_left _ (List.mem_append_right _ h)))
  have m0 : (Cond.fieldLink RX4 19 "SandBench" "history" "LSandBench$History;") ∈ wsX4_undo := by decide +kernel
  have m1 : (Cond.fieldLink RX4 10 "SandBench" "bench" "LSandBench$Bench;") ∈ wsX4_undo := by decide +kernel
  show xX p l e rmX4_undo s m args below meth c D vwCl (va_A ((wX pv ad cI cJ cZ) σ) s.heap.size) (wX pv ad cI cJ cZ) [0, 1, 2, 3, 4, 5, 6, 7, 8] σ 0 0 (MQ below (xQi D (wX pv ad cI cJ cZ) [0, 1, 2, 3, 4, 5, 6, 7, 8] σ s.heap.size Q) args s 0 0 (va_A ((wX pv ad cI cJ cZ) σ) s.heap.size)) 1 σ 0 [(0, .ref (ad 0))] []
  unfold vX4_undo at hw
  refine xr_aload_n C 0 dX4_undo_0 rfl rfl ?_
  refine xr_get C hinX4 (N := 4) (ci := 3) (a := (ad 0)) 0 rfl rfl 1 (by decide) m0 rfl rfl dX4_undo_1 ?_
  refine xr_aload_n C 0 dX4_undo_4 rfl rfl ?_
  refine xr_get C hinX4 (N := 4) (ci := 3) (a := (ad 0)) 0 rfl rfl 0 (by decide) m1 rfl rfl dX4_undo_5 ?_
  refine xr_callVi C (ci := 1) (q0 := 0) (As := [.ref (ad 7)]) (rest := []) (sp_wX_wHB pv ad cI cJ cZ) (by decide) (fun h => h) (mX1_restore σ _ hw) (cwV 1 C.2.2.2.2.1 gX4_undo_X1_restore rfl rfl rfl (by decide +kernel) ⟨by decide, by decide⟩) rfl rfl rfl rfl (Nat.le_of_ble_eq_true rfl) ⟨by decide, by decide⟩ dX4_undo_8 (fun r1 σ2 hw => ?_)
  obtain ⟨g3, hw⟩ := hw
  refine xr_if_eq C g3 24 dX4_undo_11 (by decide) (fun c4 => ?_) (fun c4 => ?_)
  · have hw := hw.1 c4
    refine xr_bipush C dX4_undo_24 (by decide +kernel) ?_
    exact xr_iret C hr hw dX4_undo_26
  · have hw := hw.2 c4
    refine xr_aload_n C 0 dX4_undo_14 rfl rfl ?_
    refine xr_get C hinX4 (N := 4) (ci := 3) (a := (ad 0)) 0 rfl rfl 1 (by decide) m0 rfl rfl dX4_undo_15 ?_
    refine xr_callVi C (ci := 1) (q0 := 0) (As := []) (rest := []) (sp_wX_wHB pv ad cI cJ cZ) (by decide) (fun h => h) (mX1_states σ2 _ hw) (cwV 0 C.2.2.2.2.1 gX4_undo_X1_states rfl rfl rfl (by decide +kernel) ⟨by decide, by decide⟩) rfl rfl rfl rfl (Nat.le_of_ble_eq_true rfl) ⟨by decide, by decide⟩ dX4_undo_18 (fun r5 σ6 hw => ?_)
    refine xr_goto C 26 dX4_undo_21 (by decide) ?_
    exact xr_iret C hr hw dX4_undo_26
abbrev rmX4_glass : Room := { frames := 2, cells := 0, slots := 0, locals := 107 }
set_option maxHeartbeats 8000000 in
set_option maxRecDepth 100000 in
theorem mX4_glass {l : Launch} {D : va_G} {pv : Value} {ad : Nat → Nat} {cI cJ cZ : ClassId} (σ : xS) (a1 a2 : Int) (Q : Int → xS → Prop) (hw : vX4_glass a1 a2 σ Q) : xMi False l yX4_glass wsX4_glass rmX4_glass D (xtys cI cJ cZ) (wX pv ad cI cJ cZ) [0, 1, 2, 3, 4, 5, 6, 7, 8] σ [.ref (ad 0), .int (i32 a1), .int (i32 a2)] Q := by
  refine xenter (F := [0, 1, 2, 3, 4, 5, 6, 7, 8]) (Qc := fun sz => xQi D (wX pv ad cI cJ cZ) [0, 1, 2, 3, 4, 5, 6, 7, 8] σ sz Q) (own := RX4) (cc := cX4_glass) (maxL := 3) (ret := some .int) (by decide) rfl rfl (Nat.le_of_ble_eq_true rfl) ?_
  intro p e s m args below meth c hargs C hr hnm
  have hinX4 : ∀ w ∈ u_ws RX4 TX4 4, w ∈ wsX4_glass := fun _ h => List.mem_cons_of_mem _ (List.mem_append_left _ (List.mem_append_right _ h))
  have m0 : (Cond.fieldLink RX4 10 "SandBench" "bench" "LSandBench$Bench;") ∈ wsX4_glass := by decide +kernel
  show xX p l e rmX4_glass s m args below meth c D vwCl (va_A ((wX pv ad cI cJ cZ) σ) s.heap.size) (wX pv ad cI cJ cZ) [0, 1, 2, 3, 4, 5, 6, 7, 8] σ 0 0 (MQ below (xQi D (wX pv ad cI cJ cZ) [0, 1, 2, 3, 4, 5, 6, 7, 8] σ s.heap.size Q) args s 0 0 (va_A ((wX pv ad cI cJ cZ) σ) s.heap.size)) 3 σ 0 [(0, .ref (ad 0)), (1, .int (i32 a1)), (2, .int (i32 a2))] []
  unfold vX4_glass at hw
  refine xr_aload_n C 0 dX4_glass_0 rfl rfl ?_
  refine xr_get C hinX4 (N := 4) (ci := 3) (a := (ad 0)) 0 rfl rfl 0 (by decide) m0 rfl rfl dX4_glass_1 ?_
  refine xr_iload_n C 1 dX4_glass_4 rfl rfl ?_
  refine xr_callVi C (ci := 0) (q0 := 0) (As := [.int (i32 a1)]) (rest := []) (sp_wX_wB pv ad cI cJ cZ) (by decide) (fun h => h) (mX0_has σ a1 _ hw) (cwV 1 C.2.2.2.2.1 gX4_glass_X0_has rfl rfl rfl (by decide +kernel) ⟨by decide, by decide⟩) rfl rfl rfl rfl (Nat.le_of_ble_eq_true rfl) ⟨by decide, by decide⟩ dX4_glass_5 (fun r1 σ2 hw => ?_)
  obtain ⟨g3, hw⟩ := hw
  refine xr_if_eq C g3 21 dX4_glass_8 (by decide) (fun c4 => ?_) (fun c4 => ?_)
  · have hw := hw.1 c4
    refine xr_bipush C dX4_glass_21 (by decide +kernel) ?_
    exact xr_iret C hr hw dX4_glass_23
  · have hw := hw.2 c4
    refine xr_iload_n C 2 dX4_glass_11 rfl rfl ?_
    obtain ⟨g5, hw⟩ := hw
    refine xr_if_lt C g5 21 dX4_glass_12 (by decide) (fun c6 => ?_) (fun c6 => ?_)
    · have hw := hw.1 c6
      refine xr_bipush C dX4_glass_21 (by decide +kernel) ?_
      exact xr_iret C hr hw dX4_glass_23
    · have hw := hw.2 c6
      refine xr_iload_n C 2 dX4_glass_15 rfl rfl ?_
      refine xr_bipush C dX4_glass_16 (by decide +kernel) ?_
      refine xr_icmp_le C g5 ⟨by decide, by decide⟩ 24 dX4_glass_18 (by decide) (fun c7 => ?_) (fun c7 => ?_)
      · have hw := hw.1 c7
        refine xr_iload_n C 2 dX4_glass_24 rfl rfl ?_
        refine xr_bipush C dX4_glass_25 (by decide +kernel) ?_
        refine xr_icmp_ge C g5 ⟨by decide, by decide⟩ 40 dX4_glass_27 (by decide) (fun c8 => ?_) (fun c8 => ?_)
        · have hw := hw.1 c8
          refine xr_aload_n C 0 dX4_glass_40 rfl rfl ?_
          refine xr_get C hinX4 (N := 4) (ci := 3) (a := (ad 0)) 0 rfl rfl 0 (by decide) m0 rfl rfl dX4_glass_41 ?_
          refine xr_iload_n C 1 dX4_glass_44 rfl rfl ?_
          refine xr_callVi C (ci := 0) (q0 := 0) (As := [.int (i32 a1)]) (rest := []) (sp_wX_wB pv ad cI cJ cZ) (by decide) (fun h => h) (mX0_runs σ2 a1 _ hw) (cwV 1 C.2.2.2.2.1 gX4_glass_X0_runs rfl rfl rfl (by decide +kernel) ⟨by decide, by decide⟩) rfl rfl rfl rfl (Nat.le_of_ble_eq_true rfl) ⟨by decide, by decide⟩ dX4_glass_45 (fun r9 σ10 hw => ?_)
          obtain ⟨g11, hw⟩ := hw
          refine xr_if_eq C g11 55 dX4_glass_48 (by decide) (fun c12 => ?_) (fun c12 => ?_)
          · have hw := hw.1 c12
            refine xr_iconst C dX4_glass_55 ?_
            exact xr_iret C hr hw dX4_glass_56
          · have hw := hw.2 c12
            refine xr_iconst C dX4_glass_51 ?_
            refine xr_goto C 56 dX4_glass_52 (by decide) ?_
            exact xr_iret C hr hw dX4_glass_56
        · have hw := hw.2 c8
          refine xr_aload_n C 0 dX4_glass_30 rfl rfl ?_
          refine xr_get C hinX4 (N := 4) (ci := 3) (a := (ad 0)) 0 rfl rfl 0 (by decide) m0 rfl rfl dX4_glass_31 ?_
          refine xr_iload_n C 1 dX4_glass_34 rfl rfl ?_
          refine xr_iload_n C 2 dX4_glass_35 rfl rfl ?_
          refine xr_callVi C (ci := 0) (q0 := 0) (As := [.int (i32 a1), .int (i32 a2)]) (rest := []) (sp_wX_wB pv ad cI cJ cZ) (by decide) (fun h => h) (mX0_property σ2 a1 a2 _ hw) (cwV 2 C.2.2.2.2.1 gX4_glass_X0_property rfl rfl rfl (by decide +kernel) ⟨by decide, by decide⟩) rfl rfl rfl rfl (Nat.le_of_ble_eq_true rfl) ⟨by decide, by decide⟩ dX4_glass_36 (fun r13 σ14 hw => ?_)
          exact xr_iret C hr hw dX4_glass_39
      · have hw := hw.2 c7
        refine xr_bipush C dX4_glass_21 (by decide +kernel) ?_
        exact xr_iret C hr hw dX4_glass_23
abbrev rmX4_event : Room := { frames := 2, cells := 0, slots := 0, locals := 106 }
set_option maxHeartbeats 8000000 in
set_option maxRecDepth 100000 in
theorem mX4_event {l : Launch} {D : va_G} {pv : Value} {ad : Nat → Nat} {cI cJ cZ : ClassId} (σ : xS) (a1 a2 : Int) (Q : Int → xS → Prop) (hw : vX4_event a1 a2 σ Q) : xMi False l yX4_event wsX4_event rmX4_event D (xtys cI cJ cZ) (wX pv ad cI cJ cZ) [0, 1, 2, 3, 4, 5, 6, 7, 8] σ [.ref (ad 0), .int (i32 a1), .int (i32 a2)] Q := by
  refine xenter (F := [0, 1, 2, 3, 4, 5, 6, 7, 8]) (Qc := fun sz => xQi D (wX pv ad cI cJ cZ) [0, 1, 2, 3, 4, 5, 6, 7, 8] σ sz Q) (own := RX4) (cc := cX4_event) (maxL := 3) (ret := some .int) (by decide) rfl rfl (Nat.le_of_ble_eq_true rfl) ?_
  intro p e s m args below meth c hargs C hr hnm
  have hinX4 : ∀ w ∈ u_ws RX4 TX4 4, w ∈ wsX4_event := fun _ h => List.mem_cons_of_mem _ (List.mem_append_left _ (List.mem_append_right _ h))
  have m0 : (Cond.fieldLink RX4 10 "SandBench" "bench" "LSandBench$Bench;") ∈ wsX4_event := by decide +kernel
  show xX p l e rmX4_event s m args below meth c D vwCl (va_A ((wX pv ad cI cJ cZ) σ) s.heap.size) (wX pv ad cI cJ cZ) [0, 1, 2, 3, 4, 5, 6, 7, 8] σ 0 0 (MQ below (xQi D (wX pv ad cI cJ cZ) [0, 1, 2, 3, 4, 5, 6, 7, 8] σ s.heap.size Q) args s 0 0 (va_A ((wX pv ad cI cJ cZ) σ) s.heap.size)) 3 σ 0 [(0, .ref (ad 0)), (1, .int (i32 a1)), (2, .int (i32 a2))] []
  unfold vX4_event at hw
  refine xr_iload_n C 1 dX4_event_0 rfl rfl ?_
  obtain ⟨g1, hw⟩ := hw
  refine xr_if_lt C g1 13 dX4_event_1 (by decide) (fun c2 => ?_) (fun c2 => ?_)
  · have hw := hw.1 c2
    refine xr_bipush C dX4_event_13 (by decide +kernel) ?_
    exact xr_iret C hr hw dX4_event_15
  · have hw := hw.2 c2
    refine xr_iload_n C 2 dX4_event_4 rfl rfl ?_
    obtain ⟨g3, hw⟩ := hw
    refine xr_if_lt C g3 13 dX4_event_5 (by decide) (fun c4 => ?_) (fun c4 => ?_)
    · have hw := hw.1 c4
      refine xr_bipush C dX4_event_13 (by decide +kernel) ?_
      exact xr_iret C hr hw dX4_event_15
    · have hw := hw.2 c4
      refine xr_iload_n C 2 dX4_event_8 rfl rfl ?_
      refine xr_iconst C dX4_event_9 ?_
      refine xr_icmp_lt C g3 ⟨by decide, by decide⟩ 16 dX4_event_10 (by decide) (fun c5 => ?_) (fun c5 => ?_)
      · have hw := hw.1 c5
        refine xr_iload_n C 1 dX4_event_16 rfl rfl ?_
        refine xr_aload_n C 0 dX4_event_17 rfl rfl ?_
        refine xr_get C hinX4 (N := 4) (ci := 3) (a := (ad 0)) 0 rfl rfl 0 (by decide) m0 rfl rfl dX4_event_18 ?_
        refine xr_callVi C (ci := 0) (q0 := 0) (As := []) (rest := [.int (i32 a1)]) (sp_wX_wB pv ad cI cJ cZ) (by decide) (fun h => h) (mX0_eventsListed σ _ hw) (cwV 0 C.2.2.2.2.1 gX4_event_X0_eventsListed rfl rfl rfl (by decide +kernel) ⟨by decide, by decide⟩) rfl rfl rfl rfl (Nat.le_of_ble_eq_true rfl) ⟨by decide, by decide⟩ dX4_event_21 (fun r6 σ7 hw => ?_)
        obtain ⟨g8, hw⟩ := hw
        refine xr_icmp_ge C g1 g8 39 dX4_event_24 (by decide) (fun c9 => ?_) (fun c9 => ?_)
        · have hw := hw.1 c9
          refine xr_iconst C dX4_event_39 ?_
          exact xr_iret C hr hw dX4_event_40
        · have hw := hw.2 c9
          refine xr_aload_n C 0 dX4_event_27 rfl rfl ?_
          refine xr_get C hinX4 (N := 4) (ci := 3) (a := (ad 0)) 0 rfl rfl 0 (by decide) m0 rfl rfl dX4_event_28 ?_
          refine xr_iload_n C 1 dX4_event_31 rfl rfl ?_
          refine xr_iload_n C 2 dX4_event_32 rfl rfl ?_
          refine xr_callVi C (ci := 0) (q0 := 0) (As := [.int (i32 a1), .int (i32 a2)]) (rest := []) (sp_wX_wB pv ad cI cJ cZ) (by decide) (fun h => h) (mX0_eventPart σ7 a1 a2 _ hw) (cwV 2 C.2.2.2.2.1 gX4_event_X0_eventPart rfl rfl rfl (by decide +kernel) ⟨by decide, by decide⟩) rfl rfl rfl rfl (Nat.le_of_ble_eq_true rfl) ⟨by decide, by decide⟩ dX4_event_33 (fun r10 σ11 hw => ?_)
          refine xr_goto C 40 dX4_event_36 (by decide) ?_
          exact xr_iret C hr hw dX4_event_40
      · have hw := hw.2 c5
        refine xr_bipush C dX4_event_13 (by decide +kernel) ?_
        exact xr_iret C hr hw dX4_event_15
abbrev rmX4_count : Room := { frames := 2, cells := 0, slots := 0, locals := 108 }
set_option maxHeartbeats 8000000 in
set_option maxRecDepth 100000 in
theorem mX4_count {l : Launch} {D : va_G} {pv : Value} {ad : Nat → Nat} {cI cJ cZ : ClassId} (σ : xS) (a1 : Int) (Q : Int → xS → Prop) (hw : vX4_count a1 σ Q) : xMi False l yX4_count wsX4_count rmX4_count D (xtys cI cJ cZ) (wX pv ad cI cJ cZ) [0, 1, 2, 3, 4, 5, 6, 7, 8] σ [.ref (ad 0), .int (i32 a1)] Q := by
  refine xenter (F := [0, 1, 2, 3, 4, 5, 6, 7, 8]) (Qc := fun sz => xQi D (wX pv ad cI cJ cZ) [0, 1, 2, 3, 4, 5, 6, 7, 8] σ sz Q) (own := RX4) (cc := cX4_count) (maxL := 2) (ret := some .int) (by decide) rfl rfl (Nat.le_of_ble_eq_true rfl) ?_
  intro p e s m args below meth c hargs C hr hnm
  have hinX4 : ∀ w ∈ u_ws RX4 TX4 4, w ∈ wsX4_count := fun _ h => List.mem_cons_of_mem _ (List.mem_append_left _ (List.mem_append_left _ (List.mem_append_left _ (List.mem_append_right _ h))))
  have m0 : (Cond.fieldLink RX4 10 "SandBench" "bench" "LSandBench$Bench;") ∈ wsX4_count := by decide +kernel
  have m1 : (Cond.fieldLink RX4 19 "SandBench" "history" "LSandBench$History;") ∈ wsX4_count := by decide +kernel
  have m2 : (Cond.fieldLink RX4 26 "SandBench" "script" "LSandBench$Script;") ∈ wsX4_count := by decide +kernel
  show xX p l e rmX4_count s m args below meth c D vwCl (va_A ((wX pv ad cI cJ cZ) σ) s.heap.size) (wX pv ad cI cJ cZ) [0, 1, 2, 3, 4, 5, 6, 7, 8] σ 0 0 (MQ below (xQi D (wX pv ad cI cJ cZ) [0, 1, 2, 3, 4, 5, 6, 7, 8] σ s.heap.size Q) args s 0 0 (va_A ((wX pv ad cI cJ cZ) σ) s.heap.size)) 2 σ 0 [(0, .ref (ad 0)), (1, .int (i32 a1))] []
  unfold vX4_count at hw
  refine xr_iload_n C 1 dX4_count_0 rfl rfl ?_
  obtain ⟨g1, hw⟩ := hw
  by_cases c2 : a1 < 0 ∨ 9 < a1
  · have hw := hw.1 c2
    refine xr_tabOut C g1 159 dX4_count_1 c2 (by decide) ?_
    refine xr_bipush C dX4_count_159 (by decide +kernel) ?_
    exact xr_iret C hr hw dX4_count_161
  · have hw := hw.2
    have hbc2 : (0 : Int) ≤ a1 := Int.not_lt.mp (fun q => c2 (Or.inl q))
    by_cases c3 : a1 = 0
    · have hw := hw.1 c3
      refine xr_tabIn C (off := 55) 0 c3 ⟨by decide, by decide⟩ 56 dX4_count_1 (by decide) (by decide) (by decide +kernel) (by decide) ?_
      refine xr_aload_n C 0 dX4_count_56 rfl rfl ?_
      refine xr_get C hinX4 (N := 4) (ci := 3) (a := (ad 0)) 0 rfl rfl 0 (by decide) m0 rfl rfl dX4_count_57 ?_
      refine xr_callVi C (ci := 0) (q0 := 0) (As := []) (rest := []) (sp_wX_wB pv ad cI cJ cZ) (by decide) (fun h => h) (mX0_glasses σ _ hw) (cwV 0 C.2.2.2.2.1 gX4_count_X0_glasses rfl rfl rfl (by decide +kernel) ⟨by decide, by decide⟩) rfl rfl rfl rfl (Nat.le_of_ble_eq_true rfl) ⟨by decide, by decide⟩ dX4_count_60 (fun r4 σ5 hw => ?_)
      exact xr_iret C hr hw dX4_count_63
    · have hw := hw.2
      have hbc2 : (1 : Int) ≤ a1 := Int.lt_iff_le_and_ne.mpr ⟨hbc2, fun q => c3 q.symm⟩
      by_cases c6 : a1 = 1
      · have hw := hw.1 c6
        refine xr_tabIn C (off := 63) 1 c6 ⟨by decide, by decide⟩ 64 dX4_count_1 (by decide) (by decide) (by decide +kernel) (by decide) ?_
        refine xr_aload_n C 0 dX4_count_64 rfl rfl ?_
        refine xr_get C hinX4 (N := 4) (ci := 3) (a := (ad 0)) 0 rfl rfl 0 (by decide) m0 rfl rfl dX4_count_65 ?_
        refine xr_callVi C (ci := 0) (q0 := 0) (As := []) (rest := []) (sp_wX_wB pv ad cI cJ cZ) (by decide) (fun h => h) (mX0_stacks σ _ hw) (cwV 0 C.2.2.2.2.1 gX4_count_X0_stacks rfl rfl rfl (by decide +kernel) ⟨by decide, by decide⟩) rfl rfl rfl rfl (Nat.le_of_ble_eq_true rfl) ⟨by decide, by decide⟩ dX4_count_68 (fun r7 σ8 hw => ?_)
        exact xr_iret C hr hw dX4_count_71
      · have hw := hw.2
        have hbc2 : (2 : Int) ≤ a1 := Int.lt_iff_le_and_ne.mpr ⟨hbc2, fun q => c6 q.symm⟩
        by_cases c9 : a1 = 2
        · have hw := hw.1 c9
          refine xr_tabIn C (off := 71) 2 c9 ⟨by decide, by decide⟩ 72 dX4_count_1 (by decide) (by decide) (by decide +kernel) (by decide) ?_
          refine xr_aload_n C 0 dX4_count_72 rfl rfl ?_
          refine xr_get C hinX4 (N := 4) (ci := 3) (a := (ad 0)) 0 rfl rfl 0 (by decide) m0 rfl rfl dX4_count_73 ?_
          refine xr_callVi C (ci := 0) (q0 := 0) (As := []) (rest := []) (sp_wX_wB pv ad cI cJ cZ) (by decide) (fun h => h) (mX0_time σ _ hw) (cwV 0 C.2.2.2.2.1 gX4_count_X0_time rfl rfl rfl (by decide +kernel) ⟨by decide, by decide⟩) rfl rfl rfl rfl (Nat.le_of_ble_eq_true rfl) ⟨by decide, by decide⟩ dX4_count_76 (fun r10 σ11 hw => ?_)
          exact xr_iret C hr hw dX4_count_79
        · have hw := hw.2
          have hbc2 : (3 : Int) ≤ a1 := Int.lt_iff_le_and_ne.mpr ⟨hbc2, fun q => c9 q.symm⟩
          by_cases c12 : a1 = 3
          · have hw := hw.1 c12
            refine xr_tabIn C (off := 79) 3 c12 ⟨by decide, by decide⟩ 80 dX4_count_1 (by decide) (by decide) (by decide +kernel) (by decide) ?_
            refine xr_aload_n C 0 dX4_count_80 rfl rfl ?_
            refine xr_get C hinX4 (N := 4) (ci := 3) (a := (ad 0)) 0 rfl rfl 0 (by decide) m0 rfl rfl dX4_count_81 ?_
            refine xr_callVi C (ci := 0) (q0 := 0) (As := []) (rest := []) (sp_wX_wB pv ad cI cJ cZ) (by decide) (fun h => h) (mX0_markedTime σ _ hw) (cwV 0 C.2.2.2.2.1 gX4_count_X0_markedTime rfl rfl rfl (by decide +kernel) ⟨by decide, by decide⟩) rfl rfl rfl rfl (Nat.le_of_ble_eq_true rfl) ⟨by decide, by decide⟩ dX4_count_84 (fun r13 σ14 hw => ?_)
            refine xr_iconst C dX4_count_87 ?_
            obtain ⟨g15, hw⟩ := hw
            refine xr_icmp_ne C g15 ⟨by decide, by decide⟩ 95 dX4_count_88 (by decide) (fun c16 => ?_) (fun c16 => ?_)
            · have hw := hw.1 c16
              refine xr_aload_n C 0 dX4_count_95 rfl rfl ?_
              refine xr_get C hinX4 (N := 4) (ci := 3) (a := (ad 0)) 0 rfl rfl 0 (by decide) m0 rfl rfl dX4_count_96 ?_
              refine xr_callVi C (ci := 0) (q0 := 0) (As := []) (rest := []) (sp_wX_wB pv ad cI cJ cZ) (by decide) (fun h => h) (mX0_time σ14 _ hw) (cwV 0 C.2.2.2.2.1 gX4_count_X0_time rfl rfl rfl (by decide +kernel) ⟨by decide, by decide⟩) rfl rfl rfl rfl (Nat.le_of_ble_eq_true rfl) ⟨by decide, by decide⟩ dX4_count_99 (fun r17 σ18 hw => ?_)
              refine xr_aload_n C 0 dX4_count_102 rfl rfl ?_
              refine xr_get C hinX4 (N := 4) (ci := 3) (a := (ad 0)) 0 rfl rfl 0 (by decide) m0 rfl rfl dX4_count_103 ?_
              refine xr_callVi C (ci := 0) (q0 := 0) (As := []) (rest := [.int (i32 r17)]) (sp_wX_wB pv ad cI cJ cZ) (by decide) (fun h => h) (mX0_markedTime σ18 _ hw) (cwV 0 C.2.2.2.2.1 gX4_count_X0_markedTime rfl rfl rfl (by decide +kernel) ⟨by decide, by decide⟩) rfl rfl rfl rfl (Nat.le_of_ble_eq_true rfl) ⟨by decide, by decide⟩ dX4_count_106 (fun r19 σ20 hw => ?_)
              refine xr_isub C dX4_count_109 ?_
              exact xr_iret C hr hw dX4_count_110
            · have hw := hw.2 c16
              refine xr_iconst C dX4_count_91 ?_
              refine xr_goto C 110 dX4_count_92 (by decide) ?_
              exact xr_iret C hr hw dX4_count_110
          · have hw := hw.2
            have hbc2 : (4 : Int) ≤ a1 := Int.lt_iff_le_and_ne.mpr ⟨hbc2, fun q => c12 q.symm⟩
            by_cases c21 : a1 = 4
            · have hw := hw.1 c21
              refine xr_tabIn C (off := 110) 4 c21 ⟨by decide, by decide⟩ 111 dX4_count_1 (by decide) (by decide) (by decide +kernel) (by decide) ?_
              refine xr_aload_n C 0 dX4_count_111 rfl rfl ?_
              refine xr_get C hinX4 (N := 4) (ci := 3) (a := (ad 0)) 0 rfl rfl 0 (by decide) m0 rfl rfl dX4_count_112 ?_
              refine xr_callVi C (ci := 0) (q0 := 0) (As := []) (rest := []) (sp_wX_wB pv ad cI cJ cZ) (by decide) (fun h => h) (mX0_eventsEver σ _ hw) (cwV 0 C.2.2.2.2.1 gX4_count_X0_eventsEver rfl rfl rfl (by decide +kernel) ⟨by decide, by decide⟩) rfl rfl rfl rfl (Nat.le_of_ble_eq_true rfl) ⟨by decide, by decide⟩ dX4_count_115 (fun r22 σ23 hw => ?_)
              exact xr_iret C hr hw dX4_count_118
            · have hw := hw.2
              have hbc2 : (5 : Int) ≤ a1 := Int.lt_iff_le_and_ne.mpr ⟨hbc2, fun q => c21 q.symm⟩
              by_cases c24 : a1 = 5
              · have hw := hw.1 c24
                refine xr_tabIn C (off := 118) 5 c24 ⟨by decide, by decide⟩ 119 dX4_count_1 (by decide) (by decide) (by decide +kernel) (by decide) ?_
                refine xr_aload_n C 0 dX4_count_119 rfl rfl ?_
                refine xr_get C hinX4 (N := 4) (ci := 3) (a := (ad 0)) 0 rfl rfl 0 (by decide) m0 rfl rfl dX4_count_120 ?_
                refine xr_callVi C (ci := 0) (q0 := 0) (As := []) (rest := []) (sp_wX_wB pv ad cI cJ cZ) (by decide) (fun h => h) (mX0_eventsListed σ _ hw) (cwV 0 C.2.2.2.2.1 gX4_count_X0_eventsListed rfl rfl rfl (by decide +kernel) ⟨by decide, by decide⟩) rfl rfl rfl rfl (Nat.le_of_ble_eq_true rfl) ⟨by decide, by decide⟩ dX4_count_123 (fun r25 σ26 hw => ?_)
                exact xr_iret C hr hw dX4_count_126
              · have hw := hw.2
                have hbc2 : (6 : Int) ≤ a1 := Int.lt_iff_le_and_ne.mpr ⟨hbc2, fun q => c24 q.symm⟩
                by_cases c27 : a1 = 6
                · have hw := hw.1 c27
                  refine xr_tabIn C (off := 126) 6 c27 ⟨by decide, by decide⟩ 127 dX4_count_1 (by decide) (by decide) (by decide +kernel) (by decide) ?_
                  refine xr_aload_n C 0 dX4_count_127 rfl rfl ?_
                  refine xr_get C hinX4 (N := 4) (ci := 3) (a := (ad 0)) 0 rfl rfl 0 (by decide) m0 rfl rfl dX4_count_128 ?_
                  refine xr_callVi C (ci := 0) (q0 := 0) (As := []) (rest := []) (sp_wX_wB pv ad cI cJ cZ) (by decide) (fun h => h) (mX0_turns σ _ hw) (cwV 0 C.2.2.2.2.1 gX4_count_X0_turns rfl rfl rfl (by decide +kernel) ⟨by decide, by decide⟩) rfl rfl rfl rfl (Nat.le_of_ble_eq_true rfl) ⟨by decide, by decide⟩ dX4_count_131 (fun r28 σ29 hw => ?_)
                  exact xr_iret C hr hw dX4_count_134
                · have hw := hw.2
                  have hbc2 : (7 : Int) ≤ a1 := Int.lt_iff_le_and_ne.mpr ⟨hbc2, fun q => c27 q.symm⟩
                  by_cases c30 : a1 = 7
                  · have hw := hw.1 c30
                    refine xr_tabIn C (off := 134) 7 c30 ⟨by decide, by decide⟩ 135 dX4_count_1 (by decide) (by decide) (by decide +kernel) (by decide) ?_
                    refine xr_aload_n C 0 dX4_count_135 rfl rfl ?_
                    refine xr_get C hinX4 (N := 4) (ci := 3) (a := (ad 0)) 0 rfl rfl 0 (by decide) m0 rfl rfl dX4_count_136 ?_
                    refine xr_callVi C (ci := 0) (q0 := 0) (As := []) (rest := []) (sp_wX_wB pv ad cI cJ cZ) (by decide) (fun h => h) (mX0_taps σ _ hw) (cwV 0 C.2.2.2.2.1 gX4_count_X0_taps rfl rfl rfl (by decide +kernel) ⟨by decide, by decide⟩) rfl rfl rfl rfl (Nat.le_of_ble_eq_true rfl) ⟨by decide, by decide⟩ dX4_count_139 (fun r31 σ32 hw => ?_)
                    exact xr_iret C hr hw dX4_count_142
                  · have hw := hw.2
                    have hbc2 : (8 : Int) ≤ a1 := Int.lt_iff_le_and_ne.mpr ⟨hbc2, fun q => c30 q.symm⟩
                    by_cases c33 : a1 = 8
                    · have hw := hw.1 c33
                      refine xr_tabIn C (off := 142) 8 c33 ⟨by decide, by decide⟩ 143 dX4_count_1 (by decide) (by decide) (by decide +kernel) (by decide) ?_
                      refine xr_aload_n C 0 dX4_count_143 rfl rfl ?_
                      refine xr_get C hinX4 (N := 4) (ci := 3) (a := (ad 0)) 0 rfl rfl 1 (by decide) m1 rfl rfl dX4_count_144 ?_
                      refine xr_callVi C (ci := 1) (q0 := 0) (As := []) (rest := []) (sp_wX_wHB pv ad cI cJ cZ) (by decide) (fun h => h) (mX1_states σ _ hw) (cwV 0 C.2.2.2.2.1 gX4_count_X1_states rfl rfl rfl (by decide +kernel) ⟨by decide, by decide⟩) rfl rfl rfl rfl (Nat.le_of_ble_eq_true rfl) ⟨by decide, by decide⟩ dX4_count_147 (fun r34 σ35 hw => ?_)
                      exact xr_iret C hr hw dX4_count_150
                    · have hw := hw.2
                      have hbc2 : (9 : Int) ≤ a1 := Int.lt_iff_le_and_ne.mpr ⟨hbc2, fun q => c33 q.symm⟩
                      by_cases c36 : a1 = 9
                      · have hw := hw c36
                        refine xr_tabIn C (off := 150) 9 c36 ⟨by decide, by decide⟩ 151 dX4_count_1 (by decide) (by decide) (by decide +kernel) (by decide) ?_
                        refine xr_aload_n C 0 dX4_count_151 rfl rfl ?_
                        refine xr_get C hinX4 (N := 4) (ci := 3) (a := (ad 0)) 0 rfl rfl 2 (by decide) m2 rfl rfl dX4_count_152 ?_
                        refine xr_callVi C (ci := 2) (q0 := 0) (As := []) (rest := []) (sp_wX_wS pv ad cI cJ cZ) (by decide) (fun h => h) (mX3_length σ _ hw) (cwV 0 C.2.2.2.2.1 gX4_count_X3_length rfl rfl rfl (by decide +kernel) ⟨by decide, by decide⟩) rfl rfl rfl rfl (Nat.le_of_ble_eq_true rfl) ⟨by decide, by decide⟩ dX4_count_155 (fun r37 σ38 hw => ?_)
                        exact xr_iret C hr hw dX4_count_158
                      · exact absurd (Or.inr (Int.lt_iff_le_and_ne.mpr ⟨hbc2, fun q => c36 q.symm⟩)) c2
