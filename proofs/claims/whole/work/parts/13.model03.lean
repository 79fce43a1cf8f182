abbrev rmX5_turn : Room := { frames := 3, cells := 0, slots := 0, locals := 131 }
set_option maxHeartbeats 8000000 in
set_option maxRecDepth 100000 in
theorem mX5_turn {l : Launch} {D : va_G} {ad : Nat → Nat} {cI cJ cZ : ClassId} (σ : xS) (a1 : Int) (Q : Int → xS → Prop) (hw : vX5_turn a1 σ Q) : xMi False l yX5_turn wsX5_turn rmX5_turn D (xtys cI cJ cZ) (wM ad cI cJ cZ) [20, 21, 22, 23, 24, 25, 26, 27, 28, 29, 30, 31, 32, 33] σ [.ref (ad 20), .int (i32 a1)] Q := by
  refine xenter (F := [20, 21, 22, 23, 24, 25, 26, 27, 28, 29, 30, 31, 32, 33]) (Qc := fun sz => xQi D (wM ad cI cJ cZ) [20, 21, 22, 23, 24, 25, 26, 27, 28, 29, 30, 31, 32, 33] σ sz Q) (own := RX5) (cc := cX5_turn) (maxL := 2) (ret := some .int) (by decide) rfl rfl (Nat.le_of_ble_eq_true rfl) ?_
  intro p e s m args below meth c hargs C hr hnm
  show xX p l e rmX5_turn s m args below meth c D vwCl (va_A ((wM ad cI cJ cZ) σ) s.heap.size) (wM ad cI cJ cZ) [20, 21, 22, 23, 24, 25, 26, 27, 28, 29, 30, 31, 32, 33] σ 0 0 (MQ below (xQi D (wM ad cI cJ cZ) [20, 21, 22, 23, 24, 25, 26, 27, 28, 29, 30, 31, 32, 33] σ s.heap.size Q) args s 0 0 (va_A ((wM ad cI cJ cZ) σ) s.heap.size)) 2 σ 0 [(0, .ref (ad 20)), (1, .int (i32 a1))] []
  unfold vX5_turn at hw
  refine xr_aload_n C 0 dX5_turn_0 rfl rfl ?_
  refine xr_iload_n C 1 dX5_turn_1 rfl rfl ?_
  refine xr_callVi C (ci := 5) (q0 := 0) (As := [.int (i32 a1)]) (rest := []) (xSp_rf _ _) (by decide) (fun h => h) (mX5_isGlass σ a1 _ hw) (cwV 1 C.2.2.2.2.1 gX5_turn_X5_isGlass rfl rfl rfl (by decide +kernel) ⟨by decide, by decide⟩) rfl rfl rfl rfl (Nat.le_of_ble_eq_true rfl) ⟨by decide, by decide⟩ dX5_turn_2 (fun r1 σ2 hw => ?_)
  obtain ⟨g3, hw⟩ := hw
  refine xr_if_ne C g3 11 dX5_turn_5 (by decide) (fun c4 => ?_) (fun c4 => ?_)
  · have hw := hw.1 c4
    refine xr_aload_n C 0 dX5_turn_11 rfl rfl ?_
    refine xr_callVv C (ci := 5) (q0 := 0) (As := []) (rest := []) (xSp_rf _ _) (by decide) (fun h => h) (mX5_keeps σ2 _ hw) (cwV 0 C.2.2.2.2.1 gX5_turn_X5_keeps rfl rfl rfl (by decide +kernel) ⟨by decide, by decide⟩) rfl rfl rfl rfl (Nat.le_of_ble_eq_true rfl) ⟨by decide, by decide⟩ dX5_turn_12 (fun σ6 hw => ?_)
    refine xr_aload_n C 0 dX5_turn_15 rfl rfl ?_
    refine xr_iload_n C 1 dX5_turn_16 rfl rfl ?_
    refine xr_callVv C (ci := 5) (q0 := 0) (As := [.int (i32 a1)]) (rest := []) (xSp_rf _ _) (by decide) (fun h => h) (mX5_turns σ6 a1 _ hw) (cwV 1 C.2.2.2.2.1 gX5_turn_X5_turns rfl rfl rfl (by decide +kernel) ⟨by decide, by decide⟩) rfl rfl rfl rfl (Nat.le_of_ble_eq_true rfl) ⟨by decide, by decide⟩ dX5_turn_17 (fun σ8 hw => ?_)
    refine xr_aload_n C 0 dX5_turn_20 rfl rfl ?_
    refine xr_iload_n C 1 dX5_turn_21 rfl rfl ?_
    refine xr_iconst C dX5_turn_22 ?_
    refine xr_callVi C (ci := 5) (q0 := 0) (As := [.int (i32 a1), .int (i32 1)]) (rest := []) (xSp_rf _ _) (by decide) (fun h => h) (mX5_of σ8 a1 1 _ hw) (cwV 2 C.2.2.2.2.1 gX5_turn_X5_of rfl rfl rfl (by decide +kernel) ⟨by decide, by decide⟩) rfl rfl rfl rfl (Nat.le_of_ble_eq_true rfl) ⟨by decide, by decide⟩ dX5_turn_23 (fun r9 σ10 hw => ?_)
    exact xr_iret C hr hw dX5_turn_26
  · have hw := hw.2 c4
    refine xr_bipush C dX5_turn_8 (by decide +kernel) ?_
    exact xr_iret C hr hw dX5_turn_10
abbrev rmX5_taps : Room := { frames := 2, cells := 0, slots := 0, locals := 108 }
set_option maxHeartbeats 8000000 in
set_option maxRecDepth 100000 in
theorem mX5_taps {l : Launch} {D : va_G} {ad : Nat → Nat} {cI cJ cZ : ClassId} (σ : xS) (a1 : Int) (Q : Int → xS → Prop) (hw : vX5_taps a1 σ Q) : xMi False l yX5_taps wsX5_taps rmX5_taps D (xtys cI cJ cZ) (wM ad cI cJ cZ) [20, 21, 22, 23, 24, 25, 26, 27, 28, 29, 30, 31, 32, 33] σ [.ref (ad 20), .int (i32 a1)] Q := by
  refine xenter (F := [20, 21, 22, 23, 24, 25, 26, 27, 28, 29, 30, 31, 32, 33]) (Qc := fun sz => xQi D (wM ad cI cJ cZ) [20, 21, 22, 23, 24, 25, 26, 27, 28, 29, 30, 31, 32, 33] σ sz Q) (own := RX5) (cc := cX5_taps) (maxL := 3) (ret := some .int) (by decide) rfl rfl (Nat.le_of_ble_eq_true rfl) ?_
  intro p e s m args below meth c hargs C hr hnm
  have hinX5 : ∀ w ∈ u_ws RX5 TX5 22, w ∈ wsX5_taps := fun _ h => List.mem_cons_of_mem _ (List.mem_append_right _ h)
  have m0 : (Cond.fieldLink RX5 7 "SandBenchModel" "m" "[I") ∈ wsX5_taps := by decide +kernel
  show xX p l e rmX5_taps s m args below meth c D vwCl (va_A ((wM ad cI cJ cZ) σ) s.heap.size) (wM ad cI cJ cZ) [20, 21, 22, 23, 24, 25, 26, 27, 28, 29, 30, 31, 32, 33] σ 0 0 (MQ below (xQi D (wM ad cI cJ cZ) [20, 21, 22, 23, 24, 25, 26, 27, 28, 29, 30, 31, 32, 33] σ s.heap.size Q) args s 0 0 (va_A ((wM ad cI cJ cZ) σ) s.heap.size)) 3 σ 0 [(0, .ref (ad 20)), (1, .int (i32 a1))] []
  unfold vX5_taps at hw
  refine xr_aload_n C 0 dX5_taps_0 rfl rfl ?_
  refine xr_iload_n C 1 dX5_taps_1 rfl rfl ?_
  refine xr_iconst C dX5_taps_2 ?_
  refine xr_callVi C (ci := 5) (q0 := 0) (As := [.int (i32 a1), .int (i32 4)]) (rest := []) (xSp_rf _ _) (by decide) (fun h => h) (mX5_of σ a1 4 _ hw) (cwV 2 C.2.2.2.2.1 gX5_taps_X5_of rfl rfl rfl (by decide +kernel) ⟨by decide, by decide⟩) rfl rfl rfl rfl (Nat.le_of_ble_eq_true rfl) ⟨by decide, by decide⟩ dX5_taps_3 (fun r1 σ2 hw => ?_)
  refine xr_istore_n C [(0, .ref (ad 20)), (1, .int (i32 a1)), (2, .int (i32 r1))] dX5_taps_6 rfl (by decide) rfl ?_
  refine xr_aload_n C 0 dX5_taps_7 rfl rfl ?_
  refine xr_iload_n C 1 dX5_taps_8 rfl rfl ?_
  refine xr_callVv C (ci := 5) (q0 := 0) (As := [.int (i32 a1)]) (rest := []) (xSp_rf _ _) (by decide) (fun h => h) (mX5_resets σ2 a1 _ hw) (cwV 1 C.2.2.2.2.1 gX5_taps_X5_resets rfl rfl rfl (by decide +kernel) ⟨by decide, by decide⟩) rfl rfl rfl rfl (Nat.le_of_ble_eq_true rfl) ⟨by decide, by decide⟩ dX5_taps_9 (fun σ4 hw => ?_)
  refine xr_aload_n C 0 dX5_taps_12 rfl rfl ?_
  refine xr_get C hinX5 (N := 22) (ci := 5) (a := (ad 20)) 0 rfl rfl 0 (by decide) m0 rfl rfl dX5_taps_13 ?_
  refine xr_bipush C dX5_taps_16 (by decide +kernel) ?_
  refine xr_dup2 C dX5_taps_18 rfl rfl ?_
  refine xr_iald C (t0 := 0) 1 rfl rfl (by decide) (N := 64) rfl ⟨by decide, by decide⟩ dX5_taps_19 ?_
  refine xr_iconst C dX5_taps_20 ?_
  refine xr_iadd C dX5_taps_21 ?_
  refine xr_iast C (t0 := 0) (r := 21) 1 rfl rfl (by decide) (N := 64) rfl ⟨by decide, by decide⟩ wM_st21 (by decide) dX5_taps_22 ?_
  refine xr_sig (fun σ5 e6 => ?_)
  have hw := hw σ5 e6
  refine xr_iload_n C 2 dX5_taps_23 rfl rfl ?_
  exact xr_iret C hr hw dX5_taps_24
abbrev rmX5_tap : Room := { frames := 3, cells := 0, slots := 0, locals := 130 }
set_option maxHeartbeats 8000000 in
set_option maxRecDepth 100000 in
theorem mX5_tap {l : Launch} {D : va_G} {ad : Nat → Nat} {cI cJ cZ : ClassId} (σ : xS) (a1 : Int) (Q : Int → xS → Prop) (hw : vX5_tap a1 σ Q) : xMi False l yX5_tap wsX5_tap rmX5_tap D (xtys cI cJ cZ) (wM ad cI cJ cZ) [20, 21, 22, 23, 24, 25, 26, 27, 28, 29, 30, 31, 32, 33] σ [.ref (ad 20), .int (i32 a1)] Q := by
  refine xenter (F := [20, 21, 22, 23, 24, 25, 26, 27, 28, 29, 30, 31, 32, 33]) (Qc := fun sz => xQi D (wM ad cI cJ cZ) [20, 21, 22, 23, 24, 25, 26, 27, 28, 29, 30, 31, 32, 33] σ sz Q) (own := RX5) (cc := cX5_tap) (maxL := 2) (ret := some .int) (by decide) rfl rfl (Nat.le_of_ble_eq_true rfl) ?_
  intro p e s m args below meth c hargs C hr hnm
  show xX p l e rmX5_tap s m args below meth c D vwCl (va_A ((wM ad cI cJ cZ) σ) s.heap.size) (wM ad cI cJ cZ) [20, 21, 22, 23, 24, 25, 26, 27, 28, 29, 30, 31, 32, 33] σ 0 0 (MQ below (xQi D (wM ad cI cJ cZ) [20, 21, 22, 23, 24, 25, 26, 27, 28, 29, 30, 31, 32, 33] σ s.heap.size Q) args s 0 0 (va_A ((wM ad cI cJ cZ) σ) s.heap.size)) 2 σ 0 [(0, .ref (ad 20)), (1, .int (i32 a1))] []
  unfold vX5_tap at hw
  refine xr_aload_n C 0 dX5_tap_0 rfl rfl ?_
  refine xr_iload_n C 1 dX5_tap_1 rfl rfl ?_
  refine xr_callVi C (ci := 5) (q0 := 0) (As := [.int (i32 a1)]) (rest := []) (xSp_rf _ _) (by decide) (fun h => h) (mX5_isGlass σ a1 _ hw) (cwV 1 C.2.2.2.2.1 gX5_tap_X5_isGlass rfl rfl rfl (by decide +kernel) ⟨by decide, by decide⟩) rfl rfl rfl rfl (Nat.le_of_ble_eq_true rfl) ⟨by decide, by decide⟩ dX5_tap_2 (fun r1 σ2 hw => ?_)
  obtain ⟨g3, hw⟩ := hw
  refine xr_if_ne C g3 11 dX5_tap_5 (by decide) (fun c4 => ?_) (fun c4 => ?_)
  · have hw := hw.1 c4
    refine xr_aload_n C 0 dX5_tap_11 rfl rfl ?_
    refine xr_callVv C (ci := 5) (q0 := 0) (As := []) (rest := []) (xSp_rf _ _) (by decide) (fun h => h) (mX5_keeps σ2 _ hw) (cwV 0 C.2.2.2.2.1 gX5_tap_X5_keeps rfl rfl rfl (by decide +kernel) ⟨by decide, by decide⟩) rfl rfl rfl rfl (Nat.le_of_ble_eq_true rfl) ⟨by decide, by decide⟩ dX5_tap_12 (fun σ6 hw => ?_)
    refine xr_aload_n C 0 dX5_tap_15 rfl rfl ?_
    refine xr_iload_n C 1 dX5_tap_16 rfl rfl ?_
    refine xr_callVi C (ci := 5) (q0 := 0) (As := [.int (i32 a1)]) (rest := []) (xSp_rf _ _) (by decide) (fun h => h) (mX5_taps σ6 a1 _ hw) (cwV 1 C.2.2.2.2.1 gX5_tap_X5_taps rfl rfl rfl (by decide +kernel) ⟨by decide, by decide⟩) rfl rfl rfl rfl (Nat.le_of_ble_eq_true rfl) ⟨by decide, by decide⟩ dX5_tap_17 (fun r7 σ8 hw => ?_)
    exact xr_iret C hr hw dX5_tap_20
  · have hw := hw.2 c4
    refine xr_bipush C dX5_tap_8 (by decide +kernel) ?_
    exact xr_iret C hr hw dX5_tap_10
abbrev rmX5_pass : Room := { frames := 4, cells := 0, slots := 0, locals := 156 }
set_option maxHeartbeats 8000000 in
set_option maxRecDepth 100000 in
theorem mX5_pass {l : Launch} {D : va_G} {ad : Nat → Nat} {cI cJ cZ : ClassId} (σ : xS) (a1 : Int) (Q : Int → xS → Prop) (hw : vX5_pass a1 σ Q) : xMi False l yX5_pass wsX5_pass rmX5_pass D (xtys cI cJ cZ) (wM ad cI cJ cZ) [20, 21, 22, 23, 24, 25, 26, 27, 28, 29, 30, 31, 32, 33] σ [.ref (ad 20), .int (i32 a1)] Q := by
  refine xenter (F := [20, 21, 22, 23, 24, 25, 26, 27, 28, 29, 30, 31, 32, 33]) (Qc := fun sz => xQi D (wM ad cI cJ cZ) [20, 21, 22, 23, 24, 25, 26, 27, 28, 29, 30, 31, 32, 33] σ sz Q) (own := RX5) (cc := cX5_pass) (maxL := 2) (ret := some .int) (by decide) rfl rfl (Nat.le_of_ble_eq_true rfl) ?_
  intro p e s m args below meth c hargs C hr hnm
  have hinX5 : ∀ w ∈ u_ws RX5 TX5 22, w ∈ wsX5_pass := fun _ h => List.mem_cons_of_mem _ (List.mem_append_right _ h)
  have m0 : (Cond.fieldLink RX5 7 "SandBenchModel" "m" "[I") ∈ wsX5_pass := by decide +kernel
  show xX p l e rmX5_pass s m args below meth c D vwCl (va_A ((wM ad cI cJ cZ) σ) s.heap.size) (wM ad cI cJ cZ) [20, 21, 22, 23, 24, 25, 26, 27, 28, 29, 30, 31, 32, 33] σ 0 0 (MQ below (xQi D (wM ad cI cJ cZ) [20, 21, 22, 23, 24, 25, 26, 27, 28, 29, 30, 31, 32, 33] σ s.heap.size Q) args s 0 0 (va_A ((wM ad cI cJ cZ) σ) s.heap.size)) 2 σ 0 [(0, .ref (ad 20)), (1, .int (i32 a1))] []
  unfold vX5_pass at hw
  refine xr_iload_n C 1 dX5_pass_0 rfl rfl ?_
  refine xr_iconst C dX5_pass_1 ?_
  refine xr_sipush C dX5_pass_2 (by decide +kernel) ?_
  refine xr_callSi C (As := [.int (i32 a1), .int (i32 1), .int (i32 999)]) (rest := []) (xSp_nil _) (by decide) (fun h => h) (mX5_in σ a1 1 999 _ hw) (va_cwS 3 C.2.2.2.2.1 gX5_pass_X5_in rfl rfl rfl (by decide +kernel) ⟨by decide, by decide⟩) rfl rfl (Nat.le_of_ble_eq_true rfl) ⟨by decide, by decide⟩ dX5_pass_5 (fun r1 σ2 hw => ?_)
  obtain ⟨g3, hw⟩ := hw
  refine xr_if_ne C g3 14 dX5_pass_8 (by decide) (fun c4 => ?_) (fun c4 => ?_)
  · have hw := hw.1 c4
    refine xr_aload_n C 0 dX5_pass_14 rfl rfl ?_
    refine xr_get C hinX5 (N := 22) (ci := 5) (a := (ad 20)) 0 rfl rfl 0 (by decide) m0 rfl rfl dX5_pass_15 ?_
    refine xr_bipush C dX5_pass_18 (by decide +kernel) ?_
    refine xr_iald C (t0 := 0) 1 rfl rfl (by decide) (N := 64) rfl ⟨by decide, by decide⟩ dX5_pass_20 ?_
    refine xr_iload_n C 1 dX5_pass_21 rfl rfl ?_
    refine xr_iadd C dX5_pass_22 ?_
    refine xr_sipush C dX5_pass_23 (by decide +kernel) ?_
    obtain ⟨g5, hw⟩ := hw
    refine xr_icmp_le C g5 ⟨by decide, by decide⟩ 32 dX5_pass_26 (by decide) (fun c6 => ?_) (fun c6 => ?_)
    · have hw := hw.1 c6
      refine xr_aload_n C 0 dX5_pass_32 rfl rfl ?_
      refine xr_callVv C (ci := 5) (q0 := 0) (As := []) (rest := []) (xSp_rf _ _) (by decide) (fun h => h) (mX5_keeps σ2 _ hw) (cwV 0 C.2.2.2.2.1 gX5_pass_X5_keeps rfl rfl rfl (by decide +kernel) ⟨by decide, by decide⟩) rfl rfl rfl rfl (Nat.le_of_ble_eq_true rfl) ⟨by decide, by decide⟩ dX5_pass_33 (fun σ8 hw => ?_)
      refine xr_aload_n C 0 dX5_pass_36 rfl rfl ?_
      refine xr_iload_n C 1 dX5_pass_37 rfl rfl ?_
      refine xr_callVi C (ci := 5) (q0 := 0) (As := [.int (i32 a1)]) (rest := []) (xSp_rf _ _) (by decide) (fun h => h) (mX5_passes σ8 a1 _ hw) (cwV 1 C.2.2.2.2.1 gX5_pass_X5_passes rfl rfl rfl (by decide +kernel) ⟨by decide, by decide⟩) rfl rfl rfl rfl (Nat.le_of_ble_eq_true rfl) ⟨by decide, by decide⟩ dX5_pass_38 (fun r9 σ10 hw => ?_)
      exact xr_iret C hr hw dX5_pass_41
    · have hw := hw.2 c6
      refine xr_bipush C dX5_pass_29 (by decide +kernel) ?_
      exact xr_iret C hr hw dX5_pass_31
  · have hw := hw.2 c4
    refine xr_bipush C dX5_pass_11 (by decide +kernel) ?_
    exact xr_iret C hr hw dX5_pass_13
abbrev rmX5_await : Room := { frames := 4, cells := 0, slots := 0, locals := 156 }
set_option maxHeartbeats 8000000 in
set_option maxRecDepth 100000 in
theorem mX5_await {l : Launch} {D : va_G} {ad : Nat → Nat} {cI cJ cZ : ClassId} (σ : xS) (Q : Int → xS → Prop) (hw : vX5_await σ Q) : xMi False l yX5_await wsX5_await rmX5_await D (xtys cI cJ cZ) (wM ad cI cJ cZ) [20, 21, 22, 23, 24, 25, 26, 27, 28, 29, 30, 31, 32, 33] σ [.ref (ad 20)] Q := by
  refine xenter (F := [20, 21, 22, 23, 24, 25, 26, 27, 28, 29, 30, 31, 32, 33]) (Qc := fun sz => xQi D (wM ad cI cJ cZ) [20, 21, 22, 23, 24, 25, 26, 27, 28, 29, 30, 31, 32, 33] σ sz Q) (own := RX5) (cc := cX5_await) (maxL := 2) (ret := some .int) (by decide) rfl rfl (Nat.le_of_ble_eq_true rfl) ?_
  intro p e s m args below meth c hargs C hr hnm
  have hinX5 : ∀ w ∈ u_ws RX5 TX5 22, w ∈ wsX5_await := fun _ h => List.mem_cons_of_mem _ (List.mem_append_right _ h)
  have m0 : (Cond.fieldLink RX5 7 "SandBenchModel" "m" "[I") ∈ wsX5_await := by decide +kernel
  show xX p l e rmX5_await s m args below meth c D vwCl (va_A ((wM ad cI cJ cZ) σ) s.heap.size) (wM ad cI cJ cZ) [20, 21, 22, 23, 24, 25, 26, 27, 28, 29, 30, 31, 32, 33] σ 0 0 (MQ below (xQi D (wM ad cI cJ cZ) [20, 21, 22, 23, 24, 25, 26, 27, 28, 29, 30, 31, 32, 33] σ s.heap.size Q) args s 0 0 (va_A ((wM ad cI cJ cZ) σ) s.heap.size)) 2 σ 0 [(0, .ref (ad 20))] []
  unfold vX5_await at hw
  refine xr_aload_n C 0 dX5_await_0 rfl rfl ?_
  refine xr_callVi C (ci := 5) (q0 := 0) (As := []) (rest := []) (xSp_rf _ _) (by decide) (fun h => h) (mX5_runsAny σ _ hw) (cwV 0 C.2.2.2.2.1 gX5_await_X5_runsAny rfl rfl rfl (by decide +kernel) ⟨by decide, by decide⟩) rfl rfl rfl rfl (Nat.le_of_ble_eq_true rfl) ⟨by decide, by decide⟩ dX5_await_1 (fun r1 σ2 hw => ?_)
  obtain ⟨g3, hw⟩ := hw
  refine xr_if_ne C g3 10 dX5_await_4 (by decide) (fun c4 => ?_) (fun c4 => ?_)
  · have hw := hw.1 c4
    refine xr_aload_n C 0 dX5_await_10 rfl rfl ?_
    refine xr_callVi C (ci := 5) (q0 := 0) (As := []) (rest := []) (xSp_rf _ _) (by decide) (fun h => h) (mX5_untilEvent σ2 _ hw) (cwV 0 C.2.2.2.2.1 gX5_await_X5_untilEvent rfl rfl rfl (by decide +kernel) ⟨by decide, by decide⟩) rfl rfl rfl rfl (Nat.le_of_ble_eq_true rfl) ⟨by decide, by decide⟩ dX5_await_11 (fun r5 σ6 hw => ?_)
    refine xr_istore_n C [(0, .ref (ad 20)), (1, .int (i32 r5))] dX5_await_14 rfl (by decide) rfl ?_
    refine xr_aload_n C 0 dX5_await_15 rfl rfl ?_
    refine xr_get C hinX5 (N := 22) (ci := 5) (a := (ad 20)) 0 rfl rfl 0 (by decide) m0 rfl rfl dX5_await_16 ?_
    refine xr_bipush C dX5_await_19 (by decide +kernel) ?_
    refine xr_iald C (t0 := 0) 1 rfl rfl (by decide) (N := 64) rfl ⟨by decide, by decide⟩ dX5_await_21 ?_
    refine xr_iload_n C 1 dX5_await_22 rfl rfl ?_
    refine xr_iadd C dX5_await_23 ?_
    refine xr_sipush C dX5_await_24 (by decide +kernel) ?_
    obtain ⟨g7, hw⟩ := hw
    refine xr_icmp_le C g7 ⟨by decide, by decide⟩ 33 dX5_await_27 (by decide) (fun c8 => ?_) (fun c8 => ?_)
    · have hw := hw.1 c8
      refine xr_aload_n C 0 dX5_await_33 rfl rfl ?_
      refine xr_callVv C (ci := 5) (q0 := 0) (As := []) (rest := []) (xSp_rf _ _) (by decide) (fun h => h) (mX5_keeps σ6 _ hw) (cwV 0 C.2.2.2.2.1 gX5_await_X5_keeps rfl rfl rfl (by decide +kernel) ⟨by decide, by decide⟩) rfl rfl rfl rfl (Nat.le_of_ble_eq_true rfl) ⟨by decide, by decide⟩ dX5_await_34 (fun σ10 hw => ?_)
      refine xr_aload_n C 0 dX5_await_37 rfl rfl ?_
      refine xr_iload_n C 1 dX5_await_38 rfl rfl ?_
      refine xr_callVi C (ci := 5) (q0 := 0) (As := [.int (i32 r5)]) (rest := []) (xSp_rf _ _) (by decide) (fun h => h) (mX5_passes σ10 r5 _ hw) (cwV 1 C.2.2.2.2.1 gX5_await_X5_passes rfl rfl rfl (by decide +kernel) ⟨by decide, by decide⟩) rfl rfl rfl rfl (Nat.le_of_ble_eq_true rfl) ⟨by decide, by decide⟩ dX5_await_39 (fun r11 σ12 hw => ?_)
      obtain ⟨g13, hw⟩ := hw
      refine xr_if_le C g13 49 dX5_await_42 (by decide) (fun c14 => ?_) (fun c14 => ?_)
      · have hw := hw.1 c14
        refine xr_iconst C dX5_await_49 ?_
        exact xr_iret C hr hw dX5_await_50
      · have hw := hw.2 c14
        refine xr_iload_n C 1 dX5_await_45 rfl rfl ?_
        refine xr_goto C 50 dX5_await_46 (by decide) ?_
        exact xr_iret C hr hw dX5_await_50
    · have hw := hw.2 c8
      refine xr_bipush C dX5_await_30 (by decide +kernel) ?_
      exact xr_iret C hr hw dX5_await_32
  · have hw := hw.2 c4
    refine xr_bipush C dX5_await_7 (by decide +kernel) ?_
    exact xr_iret C hr hw dX5_await_9
abbrev rmX5_mark : Room := { frames := 1, cells := 0, slots := 0, locals := 85 }
set_option maxHeartbeats 8000000 in
set_option maxRecDepth 100000 in
theorem mX5_mark {l : Launch} {D : va_G} {ad : Nat → Nat} {cI cJ cZ : ClassId} (σ : xS) (Q : Int → xS → Prop) (hw : vX5_mark σ Q) : xMi False l yX5_mark wsX5_mark rmX5_mark D (xtys cI cJ cZ) (wM ad cI cJ cZ) [20, 21, 22, 23, 24, 25, 26, 27, 28, 29, 30, 31, 32, 33] σ [.ref (ad 20)] Q := by
  refine xenter (F := [20, 21, 22, 23, 24, 25, 26, 27, 28, 29, 30, 31, 32, 33]) (Qc := fun sz => xQi D (wM ad cI cJ cZ) [20, 21, 22, 23, 24, 25, 26, 27, 28, 29, 30, 31, 32, 33] σ sz Q) (own := RX5) (cc := cX5_mark) (maxL := 2) (ret := some .int) (by decide) rfl rfl (Nat.le_of_ble_eq_true rfl) ?_
  intro p e s m args below meth c hargs C hr hnm
  have hinX5 : ∀ w ∈ u_ws RX5 TX5 22, w ∈ wsX5_mark := fun _ h => List.mem_cons_of_mem _ (List.mem_append_right _ h)
  have m0 : (Cond.fieldLink RX5 7 "SandBenchModel" "m" "[I") ∈ wsX5_mark := by decide +kernel
  show xX p l e rmX5_mark s m args below meth c D vwCl (va_A ((wM ad cI cJ cZ) σ) s.heap.size) (wM ad cI cJ cZ) [20, 21, 22, 23, 24, 25, 26, 27, 28, 29, 30, 31, 32, 33] σ 0 0 (MQ below (xQi D (wM ad cI cJ cZ) [20, 21, 22, 23, 24, 25, 26, 27, 28, 29, 30, 31, 32, 33] σ s.heap.size Q) args s 0 0 (va_A ((wM ad cI cJ cZ) σ) s.heap.size)) 2 σ 0 [(0, .ref (ad 20))] []
  unfold vX5_mark at hw
  refine xr_aload_n C 0 dX5_mark_0 rfl rfl ?_
  refine xr_callVv C (ci := 5) (q0 := 0) (As := []) (rest := []) (xSp_rf _ _) (by decide) (fun h => h) (mX5_keeps σ _ hw) (cwV 0 C.2.2.2.2.1 gX5_mark_X5_keeps rfl rfl rfl (by decide +kernel) ⟨by decide, by decide⟩) rfl rfl rfl rfl (Nat.le_of_ble_eq_true rfl) ⟨by decide, by decide⟩ dX5_mark_1 (fun σ2 hw => ?_)
  refine xr_aload_n C 0 dX5_mark_4 rfl rfl ?_
  refine xr_get C hinX5 (N := 22) (ci := 5) (a := (ad 20)) 0 rfl rfl 0 (by decide) m0 rfl rfl dX5_mark_5 ?_
  refine xr_bipush C dX5_mark_8 (by decide +kernel) ?_
  refine xr_iald C (t0 := 0) 1 rfl rfl (by decide) (N := 64) rfl ⟨by decide, by decide⟩ dX5_mark_10 ?_
  refine xr_istore_n C [(0, .ref (ad 20)), (1, .int (i32 (σ2 21 23)))] dX5_mark_11 rfl (by decide) rfl ?_
  refine xr_aload_n C 0 dX5_mark_12 rfl rfl ?_
  refine xr_get C hinX5 (N := 22) (ci := 5) (a := (ad 20)) 0 rfl rfl 0 (by decide) m0 rfl rfl dX5_mark_13 ?_
  refine xr_bipush C dX5_mark_16 (by decide +kernel) ?_
  refine xr_aload_n C 0 dX5_mark_18 rfl rfl ?_
  refine xr_get C hinX5 (N := 22) (ci := 5) (a := (ad 20)) 0 rfl rfl 0 (by decide) m0 rfl rfl dX5_mark_19 ?_
  refine xr_bipush C dX5_mark_22 (by decide +kernel) ?_
  refine xr_iald C (t0 := 0) 1 rfl rfl (by decide) (N := 64) rfl ⟨by decide, by decide⟩ dX5_mark_24 ?_
  refine xr_iast C (t0 := 0) (r := 21) 1 rfl rfl (by decide) (N := 64) rfl ⟨by decide, by decide⟩ wM_st21 (by decide) dX5_mark_25 ?_
  refine xr_sig (fun σ3 e4 => ?_)
  have hw := hw σ3 e4
  refine xr_iload_n C 1 dX5_mark_26 rfl rfl ?_
  exact xr_iret C hr hw dX5_mark_27
abbrev rmX5_type : Room := { frames := 1, cells := 0, slots := 0, locals := 86 }
set_option maxHeartbeats 8000000 in
set_option maxRecDepth 100000 in
theorem mX5_type {l : Launch} {D : va_G} {ad : Nat → Nat} {cI cJ cZ : ClassId} (σ : xS) (a1 : Int) (Q : Int → xS → Prop) (hw : vX5_type a1 σ Q) : xMi False l yX5_type wsX5_type rmX5_type D (xtys cI cJ cZ) (wM ad cI cJ cZ) [20, 21, 22, 23, 24, 25, 26, 27, 28, 29, 30, 31, 32, 33] σ [.ref (ad 20), .int (i32 a1)] Q := by
  refine xenter (F := [20, 21, 22, 23, 24, 25, 26, 27, 28, 29, 30, 31, 32, 33]) (Qc := fun sz => xQi D (wM ad cI cJ cZ) [20, 21, 22, 23, 24, 25, 26, 27, 28, 29, 30, 31, 32, 33] σ sz Q) (own := RX5) (cc := cX5_type) (maxL := 2) (ret := some .int) (by decide) rfl rfl (Nat.le_of_ble_eq_true rfl) ?_
  intro p e s m args below meth c hargs C hr hnm
  have hinX5 : ∀ w ∈ u_ws RX5 TX5 22, w ∈ wsX5_type := fun _ h => List.mem_cons_of_mem _ (List.mem_append_right _ h)
  have m0 : (Cond.fieldLink RX5 109 "SandBenchModel" "textLength" "I") ∈ wsX5_type := by decide +kernel
  have m1 : (Cond.fieldLink RX5 19 "SandBenchModel" "text" "[I") ∈ wsX5_type := by decide +kernel
  show xX p l e rmX5_type s m args below meth c D vwCl (va_A ((wM ad cI cJ cZ) σ) s.heap.size) (wM ad cI cJ cZ) [20, 21, 22, 23, 24, 25, 26, 27, 28, 29, 30, 31, 32, 33] σ 0 0 (MQ below (xQi D (wM ad cI cJ cZ) [20, 21, 22, 23, 24, 25, 26, 27, 28, 29, 30, 31, 32, 33] σ s.heap.size Q) args s 0 0 (va_A ((wM ad cI cJ cZ) σ) s.heap.size)) 2 σ 0 [(0, .ref (ad 20)), (1, .int (i32 a1))] []
  unfold vX5_type at hw
  refine xr_iload_n C 1 dX5_type_0 rfl rfl ?_
  refine xr_iconst C dX5_type_1 ?_
  refine xr_bipush C dX5_type_2 (by decide +kernel) ?_
  refine xr_callSi C (As := [.int (i32 a1), .int (i32 0), .int (i32 127)]) (rest := []) (xSp_nil _) (by decide) (fun h => h) (mX5_in σ a1 0 127 _ hw) (va_cwS 3 C.2.2.2.2.1 gX5_type_X5_in rfl rfl rfl (by decide +kernel) ⟨by decide, by decide⟩) rfl rfl (Nat.le_of_ble_eq_true rfl) ⟨by decide, by decide⟩ dX5_type_4 (fun r1 σ2 hw => ?_)
  obtain ⟨g3, hw⟩ := hw
  refine xr_if_ne C g3 13 dX5_type_7 (by decide) (fun c4 => ?_) (fun c4 => ?_)
  · have hw := hw.1 c4
    refine xr_aload_n C 0 dX5_type_13 rfl rfl ?_
    refine xr_get C hinX5 (N := 22) (ci := 5) (a := (ad 20)) 0 rfl rfl 5 (by decide) m0 rfl rfl dX5_type_14 ?_
    refine xr_bipush C dX5_type_17 (by decide +kernel) ?_
    obtain ⟨g5, hw⟩ := hw
    refine xr_icmp_ne C g5 ⟨by decide, by decide⟩ 25 dX5_type_19 (by decide) (fun c6 => ?_) (fun c6 => ?_)
    · have hw := hw.1 c6
      refine xr_aload_n C 0 dX5_type_25 rfl rfl ?_
      refine xr_get C hinX5 (N := 22) (ci := 5) (a := (ad 20)) 0 rfl rfl 4 (by decide) m1 rfl rfl dX5_type_26 ?_
      refine xr_aload_n C 0 dX5_type_29 rfl rfl ?_
      refine xr_get C hinX5 (N := 22) (ci := 5) (a := (ad 20)) 0 rfl rfl 5 (by decide) m0 rfl rfl dX5_type_30 ?_
      refine xr_iload_n C 1 dX5_type_33 rfl rfl ?_
      obtain ⟨g7, hw⟩ := hw
      refine xr_iast C (t0 := 0) (r := 24) 4 rfl rfl (by decide) (N := 60) rfl g7 wM_st24 (by decide) dX5_type_34 ?_
      refine xr_sig (fun σ8 e9 => ?_)
      have hw := hw σ8 e9
      refine xr_aload_n C 0 dX5_type_35 rfl rfl ?_
      refine xr_dup C dX5_type_36 rfl ?_
      refine xr_get C hinX5 (N := 22) (ci := 5) (a := (ad 20)) 0 rfl rfl 5 (by decide) m0 rfl rfl dX5_type_37 ?_
      refine xr_iconst C dX5_type_40 ?_
      refine xr_iadd C dX5_type_41 ?_
      refine xr_put C (r := 20) (x := ((σ8 20 5) + 1)) (ty := .int) hinX5 (N := 22) (ci := 5) tyX5 tyX5_ok nmX5 0 rfl rfl 5 (by decide) m0 rfl rfl (by decide +kernel) rfl rfl (Nat.le_of_ble_eq_true rfl) rfl (by decide) dX5_type_42 ?_
      refine xr_sig (fun σ10 e11 => ?_)
      have hw := hw σ10 e11
      refine xr_aload_n C 0 dX5_type_45 rfl rfl ?_
      refine xr_get C hinX5 (N := 22) (ci := 5) (a := (ad 20)) 0 rfl rfl 5 (by decide) m0 rfl rfl dX5_type_46 ?_
      exact xr_iret C hr hw dX5_type_49
    · have hw := hw.2 c6
      refine xr_bipush C dX5_type_22 (by decide +kernel) ?_
      exact xr_iret C hr hw dX5_type_24
  · have hw := hw.2 c4
    refine xr_bipush C dX5_type_10 (by decide +kernel) ?_
    exact xr_iret C hr hw dX5_type_12
abbrev rmX5_clearText : Room := { frames := 0, cells := 0, slots := 0, locals := 64 }
set_option maxHeartbeats 8000000 in
set_option maxRecDepth 100000 in
theorem mX5_clearText {l : Launch} {D : va_G} {ad : Nat → Nat} {cI cJ cZ : ClassId} (σ : xS) (Q : Int → xS → Prop) (hw : vX5_clearText σ Q) : xMi False l yX5_clearText wsX5_clearText rmX5_clearText D (xtys cI cJ cZ) (wM ad cI cJ cZ) [20, 21, 22, 23, 24, 25, 26, 27, 28, 29, 30, 31, 32, 33] σ [.ref (ad 20)] Q := by
  refine xenter (F := [20, 21, 22, 23, 24, 25, 26, 27, 28, 29, 30, 31, 32, 33]) (Qc := fun sz => xQi D (wM ad cI cJ cZ) [20, 21, 22, 23, 24, 25, 26, 27, 28, 29, 30, 31, 32, 33] σ sz Q) (own := RX5) (cc := cX5_clearText) (maxL := 2) (ret := some .int) (by decide) rfl rfl (Nat.le_of_ble_eq_true rfl) ?_
  intro p e s m args below meth c hargs C hr hnm
  have hinX5 : ∀ w ∈ u_ws RX5 TX5 22, w ∈ wsX5_clearText := fun _ h => List.mem_cons_of_mem _ (List.mem_append_right _ h)
  have m0 : (Cond.fieldLink RX5 109 "SandBenchModel" "textLength" "I") ∈ wsX5_clearText := by decide +kernel
  show xX p l e rmX5_clearText s m args below meth c D vwCl (va_A ((wM ad cI cJ cZ) σ) s.heap.size) (wM ad cI cJ cZ) [20, 21, 22, 23, 24, 25, 26, 27, 28, 29, 30, 31, 32, 33] σ 0 0 (MQ below (xQi D (wM ad cI cJ cZ) [20, 21, 22, 23, 24, 25, 26, 27, 28, 29, 30, 31, 32, 33] σ s.heap.size Q) args s 0 0 (va_A ((wM ad cI cJ cZ) σ) s.heap.size)) 2 σ 0 [(0, .ref (ad 20))] []
  unfold vX5_clearText at hw
  refine xr_aload_n C 0 dX5_clearText_0 rfl rfl ?_
  refine xr_get C hinX5 (N := 22) (ci := 5) (a := (ad 20)) 0 rfl rfl 5 (by decide) m0 rfl rfl dX5_clearText_1 ?_
  refine xr_istore_n C [(0, .ref (ad 20)), (1, .int (i32 (σ 20 5)))] dX5_clearText_4 rfl (by decide) rfl ?_
  refine xr_aload_n C 0 dX5_clearText_5 rfl rfl ?_
  refine xr_iconst C dX5_clearText_6 ?_
  refine xr_put C (r := 20) (x := 0) (ty := .int) hinX5 (N := 22) (ci := 5) tyX5 tyX5_ok nmX5 0 rfl rfl 5 (by decide) m0 rfl rfl (by decide +kernel) rfl rfl (Nat.le_of_ble_eq_true rfl) rfl (by decide) dX5_clearText_7 ?_
  refine xr_sig (fun σ1 e2 => ?_)
  have hw := hw σ1 e2
  refine xr_iload_n C 1 dX5_clearText_10 rfl rfl ?_
  exact xr_iret C hr hw dX5_clearText_11
abbrev rmX5_next : Room := { frames := 0, cells := 0, slots := 0, locals := 64 }
set_option maxHeartbeats 8000000 in
set_option maxRecDepth 100000 in
theorem mX5_next {l : Launch} {D : va_G} {ad : Nat → Nat} {cI cJ cZ : ClassId} (σ : xS) (Q : Int → xS → Prop) (hw : vX5_next σ Q) : xMi False l yX5_next wsX5_next rmX5_next D (xtys cI cJ cZ) (wM ad cI cJ cZ) [20, 21, 22, 23, 24, 25, 26, 27, 28, 29, 30, 31, 32, 33] σ [.ref (ad 20)] Q := by
  refine xenter (F := [20, 21, 22, 23, 24, 25, 26, 27, 28, 29, 30, 31, 32, 33]) (Qc := fun sz => xQi D (wM ad cI cJ cZ) [20, 21, 22, 23, 24, 25, 26, 27, 28, 29, 30, 31, 32, 33] σ sz Q) (own := RX5) (cc := cX5_next) (maxL := 1) (ret := some .int) (by decide) rfl rfl (Nat.le_of_ble_eq_true rfl) ?_
  intro p e s m args below meth c hargs C hr hnm
  have hinX5 : ∀ w ∈ u_ws RX5 TX5 22, w ∈ wsX5_next := fun _ h => List.mem_cons_of_mem _ (List.mem_append_right _ h)
  have m0 : (Cond.fieldLink RX5 112 "SandBenchModel" "at" "I") ∈ wsX5_next := by decide +kernel
  have m1 : (Cond.fieldLink RX5 109 "SandBenchModel" "textLength" "I") ∈ wsX5_next := by decide +kernel
  have m2 : (Cond.fieldLink RX5 19 "SandBenchModel" "text" "[I") ∈ wsX5_next := by decide +kernel
  show xX p l e rmX5_next s m args below meth c D vwCl (va_A ((wM ad cI cJ cZ) σ) s.heap.size) (wM ad cI cJ cZ) [20, 21, 22, 23, 24, 25, 26, 27, 28, 29, 30, 31, 32, 33] σ 0 0 (MQ below (xQi D (wM ad cI cJ cZ) [20, 21, 22, 23, 24, 25, 26, 27, 28, 29, 30, 31, 32, 33] σ s.heap.size Q) args s 0 0 (va_A ((wM ad cI cJ cZ) σ) s.heap.size)) 1 σ 0 [(0, .ref (ad 20))] []
  unfold vX5_next at hw
  refine xr_aload_n C 0 dX5_next_0 rfl rfl ?_
  refine xr_get C hinX5 (N := 22) (ci := 5) (a := (ad 20)) 0 rfl rfl 9 (by decide) m0 rfl rfl dX5_next_1 ?_
  refine xr_aload_n C 0 dX5_next_4 rfl rfl ?_
  refine xr_get C hinX5 (N := 22) (ci := 5) (a := (ad 20)) 0 rfl rfl 5 (by decide) m1 rfl rfl dX5_next_5 ?_
  obtain ⟨g1, hw⟩ := hw
  obtain ⟨g2, hw⟩ := hw
  refine xr_icmp_ge C g1 g2 23 dX5_next_8 (by decide) (fun c3 => ?_) (fun c3 => ?_)
  · have hw := hw.1 c3
    refine xr_iconst C dX5_next_23 ?_
    exact xr_iret C hr hw dX5_next_24
  · have hw := hw.2 c3
    refine xr_aload_n C 0 dX5_next_11 rfl rfl ?_
    refine xr_get C hinX5 (N := 22) (ci := 5) (a := (ad 20)) 0 rfl rfl 4 (by decide) m2 rfl rfl dX5_next_12 ?_
    refine xr_aload_n C 0 dX5_next_15 rfl rfl ?_
    refine xr_get C hinX5 (N := 22) (ci := 5) (a := (ad 20)) 0 rfl rfl 9 (by decide) m0 rfl rfl dX5_next_16 ?_
    obtain ⟨g4, hw⟩ := hw
    refine xr_iald C (t0 := 0) 4 rfl rfl (by decide) (N := 60) rfl g4 dX5_next_19 ?_
    refine xr_goto C 24 dX5_next_20 (by decide) ?_
    exact xr_iret C hr hw dX5_next_24
abbrev rmX5_isDigit : Room := { frames := 1, cells := 0, slots := 0, locals := 86 }
set_option maxHeartbeats 8000000 in
set_option maxRecDepth 100000 in
theorem mX5_isDigit {l : Launch} {D : va_G} {ad : Nat → Nat} {cI cJ cZ : ClassId} (σ : xS) (Q : Int → xS → Prop) (hw : vX5_isDigit σ Q) : xMi False l yX5_isDigit wsX5_isDigit rmX5_isDigit D (xtys cI cJ cZ) (wM ad cI cJ cZ) [20, 21, 22, 23, 24, 25, 26, 27, 28, 29, 30, 31, 32, 33] σ [.ref (ad 20)] Q := by
  refine xenter (F := [20, 21, 22, 23, 24, 25, 26, 27, 28, 29, 30, 31, 32, 33]) (Qc := fun sz => xQi D (wM ad cI cJ cZ) [20, 21, 22, 23, 24, 25, 26, 27, 28, 29, 30, 31, 32, 33] σ sz Q) (own := RX5) (cc := cX5_isDigit) (maxL := 1) (ret := some .boolean) (by decide) rfl rfl (Nat.le_of_ble_eq_true rfl) ?_
  intro p e s m args below meth c hargs C hr hnm
  show xX p l e rmX5_isDigit s m args below meth c D vwCl (va_A ((wM ad cI cJ cZ) σ) s.heap.size) (wM ad cI cJ cZ) [20, 21, 22, 23, 24, 25, 26, 27, 28, 29, 30, 31, 32, 33] σ 0 0 (MQ below (xQi D (wM ad cI cJ cZ) [20, 21, 22, 23, 24, 25, 26, 27, 28, 29, 30, 31, 32, 33] σ s.heap.size Q) args s 0 0 (va_A ((wM ad cI cJ cZ) σ) s.heap.size)) 1 σ 0 [(0, .ref (ad 20))] []
  unfold vX5_isDigit at hw
  refine xr_aload_n C 0 dX5_isDigit_0 rfl rfl ?_
  refine xr_callVi C (ci := 5) (q0 := 0) (As := []) (rest := []) (xSp_rf _ _) (by decide) (fun h => h) (mX5_next σ _ hw) (cwV 0 C.2.2.2.2.1 gX5_isDigit_X5_next rfl rfl rfl (by decide +kernel) ⟨by decide, by decide⟩) rfl rfl rfl rfl (Nat.le_of_ble_eq_true rfl) ⟨by decide, by decide⟩ dX5_isDigit_1 (fun r1 σ2 hw => ?_)
  refine xr_bipush C dX5_isDigit_4 (by decide +kernel) ?_
  refine xr_bipush C dX5_isDigit_6 (by decide +kernel) ?_
  refine xr_callSi C (As := [.int (i32 r1), .int (i32 48), .int (i32 57)]) (rest := []) (xSp_nil _) (by decide) (fun h => h) (mX5_in σ2 r1 48 57 _ hw) (va_cwS 3 C.2.2.2.2.1 gX5_isDigit_X5_in rfl rfl rfl (by decide +kernel) ⟨by decide, by decide⟩) rfl rfl (Nat.le_of_ble_eq_true rfl) ⟨by decide, by decide⟩ dX5_isDigit_8 (fun r3 σ4 hw => ?_)
  exact xr_zret C hr hw.1 hw.2 dX5_isDigit_11
abbrev rmX5_blanks : Room := { frames := 1, cells := 0, slots := 0, locals := 84 }
set_option maxHeartbeats 8000000 in
set_option maxRecDepth 100000 in
theorem mX5_blanks {l : Launch} {D : va_G} {ad : Nat → Nat} {cI cJ cZ : ClassId} (σ : xS) (Q : xS → Prop) (hw : vX5_blanks σ Q) : xMv False l yX5_blanks wsX5_blanks rmX5_blanks D (xtys cI cJ cZ) (wM ad cI cJ cZ) [20, 21, 22, 23, 24, 25, 26, 27, 28, 29, 30, 31, 32, 33] σ [.ref (ad 20)] Q := by
  refine xenter (F := [20, 21, 22, 23, 24, 25, 26, 27, 28, 29, 30, 31, 32, 33]) (Qc := fun sz => xQv D (wM ad cI cJ cZ) [20, 21, 22, 23, 24, 25, 26, 27, 28, 29, 30, 31, 32, 33] σ sz Q) (own := RX5) (cc := cX5_blanks) (maxL := 1) (ret := none) (by decide) rfl rfl (Nat.le_of_ble_eq_true rfl) ?_
  intro p e s m args below meth c hargs C hr hnm
  have hinX5 : ∀ w ∈ u_ws RX5 TX5 22, w ∈ wsX5_blanks := fun _ h => List.mem_cons_of_mem _ (List.mem_append_right _ h)
  have m0 : (Cond.fieldLink RX5 112 "SandBenchModel" "at" "I") ∈ wsX5_blanks := by decide +kernel
  have L0 : ∀ a, mu (vX5_blanks_0  Q) a → xX p l e rmX5_blanks s m args below meth c D vwCl (va_A ((wM ad cI cJ cZ) σ) s.heap.size) (wM ad cI cJ cZ) [20, 21, 22, 23, 24, 25, 26, 27, 28, 29, 30, 31, 32, 33] σ 0 0 (MQ below (xQv D (wM ad cI cJ cZ) [20, 21, 22, 23, 24, 25, 26, 27, 28, 29, 30, 31, 32, 33] σ s.heap.size Q) args s 0 0 (va_A ((wM ad cI cJ cZ) σ) s.heap.size)) 1 a 0 [(0, .ref (ad 20))] [] := by
    refine mu_ind (fun K0 hK0 a hw => ?_)
    obtain ⟨σ0, hs0⟩ : ∃ x, x = a := ⟨_, rfl⟩
    subst hs0
    show xX p l e rmX5_blanks s m args below meth c D vwCl (va_A ((wM ad cI cJ cZ) σ) s.heap.size) (wM ad cI cJ cZ) [20, 21, 22, 23, 24, 25, 26, 27, 28, 29, 30, 31, 32, 33] σ 0 0 (MQ below (xQv D (wM ad cI cJ cZ) [20, 21, 22, 23, 24, 25, 26, 27, 28, 29, 30, 31, 32, 33] σ s.heap.size Q) args s 0 0 (va_A ((wM ad cI cJ cZ) σ) s.heap.size)) 1 σ0 0 [(0, .ref (ad 20))] []
    unfold vX5_blanks_0 at hw
    refine xr_aload_n C 0 dX5_blanks_0 rfl rfl ?_
    refine xr_callVi C (ci := 5) (q0 := 0) (As := []) (rest := []) (xSp_rf _ _) (by decide) (fun h => h) (mX5_next σ0 _ hw) (cwV 0 C.2.2.2.2.1 gX5_blanks_X5_next rfl rfl rfl (by decide +kernel) ⟨by decide, by decide⟩) rfl rfl rfl rfl (Nat.le_of_ble_eq_true rfl) ⟨by decide, by decide⟩ dX5_blanks_1 (fun r1 σ2 hw => ?_)
    refine xr_bipush C dX5_blanks_4 (by decide +kernel) ?_
    obtain ⟨g3, hw⟩ := hw
    refine xr_icmp_ne C g3 ⟨by decide, by decide⟩ 22 dX5_blanks_6 (by decide) (fun c4 => ?_) (fun c4 => ?_)
    · have hw := hw.1 c4
      exact xr_vret C hr hw dX5_blanks_22
    · have hw := hw.2 c4
      refine xr_aload_n C 0 dX5_blanks_9 rfl rfl ?_
      refine xr_dup C dX5_blanks_10 rfl ?_
      refine xr_get C hinX5 (N := 22) (ci := 5) (a := (ad 20)) 0 rfl rfl 9 (by decide) m0 rfl rfl dX5_blanks_11 ?_
      refine xr_iconst C dX5_blanks_14 ?_
      refine xr_iadd C dX5_blanks_15 ?_
      refine xr_put C (r := 20) (x := ((σ2 20 9) + 1)) (ty := .int) hinX5 (N := 22) (ci := 5) tyX5 tyX5_ok nmX5 0 rfl rfl 9 (by decide) m0 rfl rfl (by decide +kernel) rfl rfl (Nat.le_of_ble_eq_true rfl) rfl (by decide) dX5_blanks_16 ?_
      refine xr_sig (fun σ5 e6 => ?_)
      have hw := hw σ5 e6
      refine xr_goto C 0 dX5_blanks_19 (by decide) ?_
      exact hK0 σ5 hw
  show xX p l e rmX5_blanks s m args below meth c D vwCl (va_A ((wM ad cI cJ cZ) σ) s.heap.size) (wM ad cI cJ cZ) [20, 21, 22, 23, 24, 25, 26, 27, 28, 29, 30, 31, 32, 33] σ 0 0 (MQ below (xQv D (wM ad cI cJ cZ) [20, 21, 22, 23, 24, 25, 26, 27, 28, 29, 30, 31, 32, 33] σ s.heap.size Q) args s 0 0 (va_A ((wM ad cI cJ cZ) σ) s.heap.size)) 1 σ 0 [(0, .ref (ad 20))] []
  unfold vX5_blanks at hw
  exact L0 σ hw
abbrev rmX5_fails : Room := { frames := 0, cells := 0, slots := 0, locals := 64 }
set_option maxHeartbeats 8000000 in
set_option maxRecDepth 100000 in
theorem mX5_fails {l : Launch} {D : va_G} {ad : Nat → Nat} {cI cJ cZ : ClassId} (σ : xS) (a1 : Int) (Q : xS → Prop) (hw : vX5_fails a1 σ Q) : xMv False l yX5_fails wsX5_fails rmX5_fails D (xtys cI cJ cZ) (wM ad cI cJ cZ) [20, 21, 22, 23, 24, 25, 26, 27, 28, 29, 30, 31, 32, 33] σ [.ref (ad 20), .int (i32 a1)] Q := by
  refine xenter (F := [20, 21, 22, 23, 24, 25, 26, 27, 28, 29, 30, 31, 32, 33]) (Qc := fun sz => xQv D (wM ad cI cJ cZ) [20, 21, 22, 23, 24, 25, 26, 27, 28, 29, 30, 31, 32, 33] σ sz Q) (own := RX5) (cc := cX5_fails) (maxL := 2) (ret := none) (by decide) rfl rfl (Nat.le_of_ble_eq_true rfl) ?_
  intro p e s m args below meth c hargs C hr hnm
  have hinX5 : ∀ w ∈ u_ws RX5 TX5 22, w ∈ wsX5_fails := fun _ h => List.mem_cons_of_mem _ (List.mem_append_right _ h)
  have m0 : (Cond.fieldLink RX5 118 "SandBenchModel" "fault" "I") ∈ wsX5_fails := by decide +kernel
  have B17 : ∀ (y1 : Int) (σ0 : xS), vX5_fails_17  Q y1 σ0 → xX p l e rmX5_fails s m args below meth c D vwCl (va_A ((wM ad cI cJ cZ) σ) s.heap.size) (wM ad cI cJ cZ) [20, 21, 22, 23, 24, 25, 26, 27, 28, 29, 30, 31, 32, 33] σ 0 0 (MQ below (xQv D (wM ad cI cJ cZ) [20, 21, 22, 23, 24, 25, 26, 27, 28, 29, 30, 31, 32, 33] σ s.heap.size Q) args s 0 0 (va_A ((wM ad cI cJ cZ) σ) s.heap.size)) 2 σ0 17 [(0, .ref (ad 20))] [.int (i32 y1), .ref (ad 20)] := by
    intro y1 σ0 hw
    unfold vX5_fails_17 at hw
    refine xr_put C (r := 20) (x := y1) (ty := .int) hinX5 (N := 22) (ci := 5) tyX5 tyX5_ok nmX5 0 rfl rfl 10 (by decide) m0 rfl rfl (by decide +kernel) rfl rfl (Nat.le_of_ble_eq_true rfl) rfl (by decide) dX5_fails_17 ?_
    refine xr_sig (fun σ1 e2 => ?_)
    have hw := hw σ1 e2
    exact xr_vret C hr hw dX5_fails_20
  show xX p l e rmX5_fails s m args below meth c D vwCl (va_A ((wM ad cI cJ cZ) σ) s.heap.size) (wM ad cI cJ cZ) [20, 21, 22, 23, 24, 25, 26, 27, 28, 29, 30, 31, 32, 33] σ 0 0 (MQ below (xQv D (wM ad cI cJ cZ) [20, 21, 22, 23, 24, 25, 26, 27, 28, 29, 30, 31, 32, 33] σ s.heap.size Q) args s 0 0 (va_A ((wM ad cI cJ cZ) σ) s.heap.size)) 2 σ 0 [(0, .ref (ad 20)), (1, .int (i32 a1))] []
  unfold vX5_fails at hw
  refine xr_aload_n C 0 dX5_fails_0 rfl rfl ?_
  refine xr_aload_n C 0 dX5_fails_1 rfl rfl ?_
  refine xr_get C hinX5 (N := 22) (ci := 5) (a := (ad 20)) 0 rfl rfl 10 (by decide) m0 rfl rfl dX5_fails_2 ?_
  refine xr_iconst C dX5_fails_5 ?_
  obtain ⟨g3, hw⟩ := hw
  refine xr_icmp_ne C g3 ⟨by decide, by decide⟩ 13 dX5_fails_6 (by decide) (fun c4 => ?_) (fun c4 => ?_)
  · have hw := hw.1 c4
    refine xr_aload_n C 0 dX5_fails_13 rfl rfl ?_
    refine xr_get C hinX5 (N := 22) (ci := 5) (a := (ad 20)) 0 rfl rfl 10 (by decide) m0 rfl rfl dX5_fails_14 ?_
    refine xr_sub C [0] [(0, .ref (ad 20))] rfl ?_
    exact B17 (σ 20 10) σ hw
  · have hw := hw.2 c4
    refine xr_iload_n C 1 dX5_fails_9 rfl rfl ?_
    refine xr_goto C 17 dX5_fails_10 (by decide) ?_
    refine xr_sub C [0] [(0, .ref (ad 20))] rfl ?_
    exact B17 a1 σ hw
abbrev rmX5_needs : Room := { frames := 2, cells := 0, slots := 0, locals := 104 }
set_option maxHeartbeats 8000000 in
set_option maxRecDepth 100000 in
theorem mX5_needs {l : Launch} {D : va_G} {ad : Nat → Nat} {cI cJ cZ : ClassId} (σ : xS) (a1 : Int) (Q : xS → Prop) (hw : vX5_needs a1 σ Q) : xMv False l yX5_needs wsX5_needs rmX5_needs D (xtys cI cJ cZ) (wM ad cI cJ cZ) [20, 21, 22, 23, 24, 25, 26, 27, 28, 29, 30, 31, 32, 33] σ [.ref (ad 20), .int (i32 a1)] Q := by
  refine xenter (F := [20, 21, 22, 23, 24, 25, 26, 27, 28, 29, 30, 31, 32, 33]) (Qc := fun sz => xQv D (wM ad cI cJ cZ) [20, 21, 22, 23, 24, 25, 26, 27, 28, 29, 30, 31, 32, 33] σ sz Q) (own := RX5) (cc := cX5_needs) (maxL := 2) (ret := none) (by decide) rfl rfl (Nat.le_of_ble_eq_true rfl) ?_
  intro p e s m args below meth c hargs C hr hnm
  have hinX5 : ∀ w ∈ u_ws RX5 TX5 22, w ∈ wsX5_needs := fun _ h => List.mem_cons_of_mem _ (List.mem_append_right _ h)
  have m0 : (Cond.fieldLink RX5 112 "SandBenchModel" "at" "I") ∈ wsX5_needs := by decide +kernel
  have m1 : (Cond.fieldLink RX5 118 "SandBenchModel" "fault" "I") ∈ wsX5_needs := by decide +kernel
  have B29 : ∀ (σ0 : xS), vX5_needs_29  Q σ0 → xX p l e rmX5_needs s m args below meth c D vwCl (va_A ((wM ad cI cJ cZ) σ) s.heap.size) (wM ad cI cJ cZ) [20, 21, 22, 23, 24, 25, 26, 27, 28, 29, 30, 31, 32, 33] σ 0 0 (MQ below (xQv D (wM ad cI cJ cZ) [20, 21, 22, 23, 24, 25, 26, 27, 28, 29, 30, 31, 32, 33] σ s.heap.size Q) args s 0 0 (va_A ((wM ad cI cJ cZ) σ) s.heap.size)) 2 σ0 29 [(0, .ref (ad 20))] [] := by
    intro σ0 hw
    unfold vX5_needs_29 at hw
    refine xr_aload_n C 0 dX5_needs_29 rfl rfl ?_
    refine xr_aload_n C 0 dX5_needs_30 rfl rfl ?_
    refine xr_get C hinX5 (N := 22) (ci := 5) (a := (ad 20)) 0 rfl rfl 9 (by decide) m0 rfl rfl dX5_needs_31 ?_
    refine xr_callVv C (ci := 5) (q0 := 0) (As := [.int (i32 (σ0 20 9))]) (rest := []) (xSp_rf _ _) (by decide) (fun h => h) (mX5_fails σ0 (σ0 20 9) _ hw) (cwV 1 C.2.2.2.2.1 gX5_needs_X5_fails rfl rfl rfl (by decide +kernel) ⟨by decide, by decide⟩) rfl rfl rfl rfl (Nat.le_of_ble_eq_true rfl) ⟨by decide, by decide⟩ dX5_needs_34 (fun σ2 hw => ?_)
    exact xr_vret C hr hw dX5_needs_37
  show xX p l e rmX5_needs s m args below meth c D vwCl (va_A ((wM ad cI cJ cZ) σ) s.heap.size) (wM ad cI cJ cZ) [20, 21, 22, 23, 24, 25, 26, 27, 28, 29, 30, 31, 32, 33] σ 0 0 (MQ below (xQv D (wM ad cI cJ cZ) [20, 21, 22, 23, 24, 25, 26, 27, 28, 29, 30, 31, 32, 33] σ s.heap.size Q) args s 0 0 (va_A ((wM ad cI cJ cZ) σ) s.heap.size)) 2 σ 0 [(0, .ref (ad 20)), (1, .int (i32 a1))] []
  unfold vX5_needs at hw
  refine xr_aload_n C 0 dX5_needs_0 rfl rfl ?_
  refine xr_get C hinX5 (N := 22) (ci := 5) (a := (ad 20)) 0 rfl rfl 10 (by decide) m1 rfl rfl dX5_needs_1 ?_
  refine xr_iconst C dX5_needs_4 ?_
  obtain ⟨g3, hw⟩ := hw
  refine xr_icmp_ne C g3 ⟨by decide, by decide⟩ 29 dX5_needs_5 (by decide) (fun c4 => ?_) (fun c4 => ?_)
  · have hw := hw.1 c4
    refine xr_sub C [0] [(0, .ref (ad 20))] rfl ?_
    exact B29 σ hw
  · have hw := hw.2 c4
    refine xr_iload_n C 1 dX5_needs_8 rfl rfl ?_
    obtain ⟨g5, hw⟩ := hw
    refine xr_if_eq C g5 29 dX5_needs_9 (by decide) (fun c6 => ?_) (fun c6 => ?_)
    · have hw := hw.1 c6
      refine xr_sub C [0] [(0, .ref (ad 20))] rfl ?_
      exact B29 σ hw
    · have hw := hw.2 c6
      refine xr_aload_n C 0 dX5_needs_12 rfl rfl ?_
      refine xr_dup C dX5_needs_13 rfl ?_
      refine xr_get C hinX5 (N := 22) (ci := 5) (a := (ad 20)) 0 rfl rfl 9 (by decide) m0 rfl rfl dX5_needs_14 ?_
      refine xr_iconst C dX5_needs_17 ?_
      refine xr_iadd C dX5_needs_18 ?_
      refine xr_put C (r := 20) (x := ((σ 20 9) + 1)) (ty := .int) hinX5 (N := 22) (ci := 5) tyX5 tyX5_ok nmX5 0 rfl rfl 9 (by decide) m0 rfl rfl (by decide +kernel) rfl rfl (Nat.le_of_ble_eq_true rfl) rfl (by decide) dX5_needs_19 ?_
      refine xr_sig (fun σ7 e8 => ?_)
      have hw := hw σ7 e8
      refine xr_aload_n C 0 dX5_needs_22 rfl rfl ?_
      refine xr_callVv C (ci := 5) (q0 := 0) (As := []) (rest := []) (xSp_rf _ _) (by decide) (fun h => h) (mX5_blanks σ7 _ hw) (cwV 0 C.2.2.2.2.1 gX5_needs_X5_blanks rfl rfl rfl (by decide +kernel) ⟨by decide, by decide⟩) rfl rfl rfl rfl (Nat.le_of_ble_eq_true rfl) ⟨by decide, by decide⟩ dX5_needs_23 (fun σ10 hw => ?_)
      refine xr_goto C 37 dX5_needs_26 (by decide) ?_
      exact xr_vret C hr hw dX5_needs_37
abbrev rmX5_number : Room := { frames := 2, cells := 0, slots := 0, locals := 106 }
set_option maxHeartbeats 8000000 in
set_option maxRecDepth 100000 in
theorem mX5_number {l : Launch} {D : va_G} {ad : Nat → Nat} {cI cJ cZ : ClassId} (σ : xS) (a1 : Int) (Q : Int → xS → Prop) (hw : vX5_number a1 σ Q) : xMi False l yX5_number wsX5_number rmX5_number D (xtys cI cJ cZ) (wM ad cI cJ cZ) [20, 21, 22, 23, 24, 25, 26, 27, 28, 29, 30, 31, 32, 33] σ [.ref (ad 20), .int (i32 a1)] Q := by
  refine xenter (F := [20, 21, 22, 23, 24, 25, 26, 27, 28, 29, 30, 31, 32, 33]) (Qc := fun sz => xQi D (wM ad cI cJ cZ) [20, 21, 22, 23, 24, 25, 26, 27, 28, 29, 30, 31, 32, 33] σ sz Q) (own := RX5) (cc := cX5_number) (maxL := 4) (ret := some .int) (by decide) rfl rfl (Nat.le_of_ble_eq_true rfl) ?_
  intro p e s m args below meth c hargs C hr hnm
  have hinX5 : ∀ w ∈ u_ws RX5 TX5 22, w ∈ wsX5_number := fun _ h => List.mem_cons_of_mem _ (List.mem_append_right _ h)
  have m0 : (Cond.fieldLink RX5 112 "SandBenchModel" "at" "I") ∈ wsX5_number := by decide +kernel
  have B87 : ∀ (x3 : Int) (σ0 : xS), vX5_number_87  Q x3 σ0 → xX p l e rmX5_number s m args below meth c D vwCl (va_A ((wM ad cI cJ cZ) σ) s.heap.size) (wM ad cI cJ cZ) [20, 21, 22, 23, 24, 25, 26, 27, 28, 29, 30, 31, 32, 33] σ 0 0 (MQ below (xQi D (wM ad cI cJ cZ) [20, 21, 22, 23, 24, 25, 26, 27, 28, 29, 30, 31, 32, 33] σ s.heap.size Q) args s 0 0 (va_A ((wM ad cI cJ cZ) σ) s.heap.size)) 4 σ0 87 [(0, .ref (ad 20)), (3, .int (i32 x3))] [] := by
    intro x3 σ0 hw
    unfold vX5_number_87 at hw
    refine xr_aload_n C 0 dX5_number_87 rfl rfl ?_
    refine xr_callVv C (ci := 5) (q0 := 0) (As := []) (rest := []) (xSp_rf _ _) (by decide) (fun h => h) (mX5_blanks σ0 _ hw) (cwV 0 C.2.2.2.2.1 gX5_number_X5_blanks rfl rfl rfl (by decide +kernel) ⟨by decide, by decide⟩) rfl rfl rfl rfl (Nat.le_of_ble_eq_true rfl) ⟨by decide, by decide⟩ dX5_number_88 (fun σ2 hw => ?_)
    refine xr_iload_n C 1 dX5_number_91 rfl rfl ?_
    exact xr_iret C hr hw dX5_number_92
  have B72 : ∀ (x3 : Int) (σ0 : xS), vX5_number_72  Q x3 σ0 → xX p l e rmX5_number s m args below meth c D vwCl (va_A ((wM ad cI cJ cZ) σ) s.heap.size) (wM ad cI cJ cZ) [20, 21, 22, 23, 24, 25, 26, 27, 28, 29, 30, 31, 32, 33] σ 0 0 (MQ below (xQi D (wM ad cI cJ cZ) [20, 21, 22, 23, 24, 25, 26, 27, 28, 29, 30, 31, 32, 33] σ s.heap.size Q) args s 0 0 (va_A ((wM ad cI cJ cZ) σ) s.heap.size)) 4 σ0 72 [(0, .ref (ad 20)), (3, .int (i32 x3))] [] := by
    intro x3 σ0 hw
    unfold vX5_number_72 at hw
    refine xr_aload_n C 0 dX5_number_72 rfl rfl ?_
    refine xr_callVi C (ci := 5) (q0 := 0) (As := []) (rest := []) (xSp_rf _ _) (by decide) (fun h => h) (mX5_isDigit σ0 _ hw) (cwV 0 C.2.2.2.2.1 gX5_number_X5_isDigit rfl rfl rfl (by decide +kernel) ⟨by decide, by decide⟩) rfl rfl rfl rfl (Nat.le_of_ble_eq_true rfl) ⟨by decide, by decide⟩ dX5_number_73 (fun r3 σ4 hw => ?_)
    obtain ⟨g5, hw⟩ := hw
    refine xr_if_eq C g5 87 dX5_number_76 (by decide) (fun c6 => ?_) (fun c6 => ?_)
    · have hw := hw.1 c6
      exact B87 x3 σ4 hw
    · have hw := hw.2 c6
      refine xr_aload_n C 0 dX5_number_79 rfl rfl ?_
      refine xr_aload_n C 0 dX5_number_80 rfl rfl ?_
      refine xr_get C hinX5 (N := 22) (ci := 5) (a := (ad 20)) 0 rfl rfl 9 (by decide) m0 rfl rfl dX5_number_81 ?_
      refine xr_callVv C (ci := 5) (q0 := 0) (As := [.int (i32 (σ4 20 9))]) (rest := []) (xSp_rf _ _) (by decide) (fun h => h) (mX5_fails σ4 (σ4 20 9) _ hw) (cwV 1 C.2.2.2.2.1 gX5_number_X5_fails rfl rfl rfl (by decide +kernel) ⟨by decide, by decide⟩) rfl rfl rfl rfl (Nat.le_of_ble_eq_true rfl) ⟨by decide, by decide⟩ dX5_number_84 (fun σ8 hw => ?_)
      exact B87 x3 σ8 hw
  have B67 : ∀ (x2 x3 : Int) (σ0 : xS), vX5_number_67  Q x2 x3 σ0 → xX p l e rmX5_number s m args below meth c D vwCl (va_A ((wM ad cI cJ cZ) σ) s.heap.size) (wM ad cI cJ cZ) [20, 21, 22, 23, 24, 25, 26, 27, 28, 29, 30, 31, 32, 33] σ 0 0 (MQ below (xQi D (wM ad cI cJ cZ) [20, 21, 22, 23, 24, 25, 26, 27, 28, 29, 30, 31, 32, 33] σ s.heap.size Q) args s 0 0 (va_A ((wM ad cI cJ cZ) σ) s.heap.size)) 4 σ0 67 [(0, .ref (ad 20)), (2, .int (i32 x2)), (3, .int (i32 x3))] [] := by
    intro x2 x3 σ0 hw
    unfold vX5_number_67 at hw
    refine xr_aload_n C 0 dX5_number_67 rfl rfl ?_
    refine xr_iload_n C 1 dX5_number_68 rfl rfl ?_
    refine xr_callVv C (ci := 5) (q0 := 0) (As := [.int (i32 x2)]) (rest := []) (xSp_rf _ _) (by decide) (fun h => h) (mX5_fails σ0 x2 _ hw) (cwV 1 C.2.2.2.2.1 gX5_number_X5_fails rfl rfl rfl (by decide +kernel) ⟨by decide, by decide⟩) rfl rfl rfl rfl (Nat.le_of_ble_eq_true rfl) ⟨by decide, by decide⟩ dX5_number_69 (fun σ10 hw => ?_)
    refine xr_sub C [0, 2] [(0, .ref (ad 20)), (3, .int (i32 x3))] rfl ?_
    exact B72 x3 σ10 hw
  have B50 : ∀ (x1 x2 x3 : Int) (σ0 : xS), vX5_number_50  Q x1 x2 x3 σ0 → xX p l e rmX5_number s m args below meth c D vwCl (va_A ((wM ad cI cJ cZ) σ) s.heap.size) (wM ad cI cJ cZ) [20, 21, 22, 23, 24, 25, 26, 27, 28, 29, 30, 31, 32, 33] σ 0 0 (MQ below (xQi D (wM ad cI cJ cZ) [20, 21, 22, 23, 24, 25, 26, 27, 28, 29, 30, 31, 32, 33] σ s.heap.size Q) args s 0 0 (va_A ((wM ad cI cJ cZ) σ) s.heap.size)) 4 σ0 50 [(0, .ref (ad 20)), (1, .int (i32 x1)), (2, .int (i32 x2)), (3, .int (i32 x3))] [] := by
    intro x1 x2 x3 σ0 hw
    unfold vX5_number_50 at hw
    refine xr_aload_n C 0 dX5_number_50 rfl rfl ?_
    refine xr_get C hinX5 (N := 22) (ci := 5) (a := (ad 20)) 0 rfl rfl 9 (by decide) m0 rfl rfl dX5_number_51 ?_
    refine xr_iload_n C 2 dX5_number_54 rfl rfl ?_
    obtain ⟨g11, hw⟩ := hw
    obtain ⟨g12, hw⟩ := hw
    refine xr_icmp_eq C g11 g12 67 dX5_number_55 (by decide) (fun c13 => ?_) (fun c13 => ?_)
    · have hw := hw.1 c13
      refine xr_sub C [0, 2, 3] [(0, .ref (ad 20)), (2, .int (i32 x2)), (3, .int (i32 x3))] rfl ?_
      exact B67 x2 x3 σ0 hw
    · have hw := hw.2 c13
      refine xr_iload_n C 3 dX5_number_58 rfl rfl ?_
      refine xr_iconst C dX5_number_59 ?_
      refine xr_iload_n C 1 dX5_number_60 rfl rfl ?_
      refine xr_callSi C (As := [.int (i32 x3), .int (i32 1), .int (i32 x1)]) (rest := []) (xSp_nil _) (by decide) (fun h => h) (mX5_in σ0 x3 1 x1 _ hw) (va_cwS 3 C.2.2.2.2.1 gX5_number_X5_in rfl rfl rfl (by decide +kernel) ⟨by decide, by decide⟩) rfl rfl (Nat.le_of_ble_eq_true rfl) ⟨by decide, by decide⟩ dX5_number_61 (fun r14 σ15 hw => ?_)
      obtain ⟨g16, hw⟩ := hw
      refine xr_if_ne C g16 72 dX5_number_64 (by decide) (fun c17 => ?_) (fun c17 => ?_)
      · have hw := hw.1 c17
        refine xr_sub C [0, 3] [(0, .ref (ad 20)), (3, .int (i32 x3))] rfl ?_
        exact B72 x3 σ15 hw
      · have hw := hw.2 c17
        refine xr_sub C [0, 2, 3] [(0, .ref (ad 20)), (2, .int (i32 x2)), (3, .int (i32 x3))] rfl ?_
        exact B67 x2 x3 σ15 hw
  have L7 : ∀ a, mu (vX5_number_7  Q) a → xX p l e rmX5_number s m args below meth c D vwCl (va_A ((wM ad cI cJ cZ) σ) s.heap.size) (wM ad cI cJ cZ) [20, 21, 22, 23, 24, 25, 26, 27, 28, 29, 30, 31, 32, 33] σ 0 0 (MQ below (xQi D (wM ad cI cJ cZ) [20, 21, 22, 23, 24, 25, 26, 27, 28, 29, 30, 31, 32, 33] σ s.heap.size Q) args s 0 0 (va_A ((wM ad cI cJ cZ) σ) s.heap.size)) 4 (a.2.2.2) 7 [(0, .ref (ad 20)), (1, .int (i32 (a.1))), (2, .int (i32 (a.2.1))), (3, .int (i32 (a.2.2.1)))] [] := by
    refine mu_ind (fun K7 hK7 a hw => ?_)
    obtain ⟨x1, x2, x3, σ0⟩ := a
    show xX p l e rmX5_number s m args below meth c D vwCl (va_A ((wM ad cI cJ cZ) σ) s.heap.size) (wM ad cI cJ cZ) [20, 21, 22, 23, 24, 25, 26, 27, 28, 29, 30, 31, 32, 33] σ 0 0 (MQ below (xQi D (wM ad cI cJ cZ) [20, 21, 22, 23, 24, 25, 26, 27, 28, 29, 30, 31, 32, 33] σ s.heap.size Q) args s 0 0 (va_A ((wM ad cI cJ cZ) σ) s.heap.size)) 4 σ0 7 [(0, .ref (ad 20)), (1, .int (i32 x1)), (2, .int (i32 x2)), (3, .int (i32 x3))] []
    unfold vX5_number_7 at hw
    refine xr_aload_n C 0 dX5_number_7 rfl rfl ?_
    refine xr_get C hinX5 (N := 22) (ci := 5) (a := (ad 20)) 0 rfl rfl 9 (by decide) m0 rfl rfl dX5_number_8 ?_
    refine xr_iload_n C 2 dX5_number_11 rfl rfl ?_
    refine xr_iconst C dX5_number_12 ?_
    refine xr_iadd C dX5_number_13 ?_
    obtain ⟨g18, hw⟩ := hw
    obtain ⟨g19, hw⟩ := hw
    refine xr_icmp_ge C g18 g19 50 dX5_number_14 (by decide) (fun c20 => ?_) (fun c20 => ?_)
    · have hw := hw.1 c20
      exact B50 x1 x2 x3 σ0 hw
    · have hw := hw.2 c20
      refine xr_aload_n C 0 dX5_number_17 rfl rfl ?_
      refine xr_callVi C (ci := 5) (q0 := 0) (As := []) (rest := []) (xSp_rf _ _) (by decide) (fun h => h) (mX5_isDigit σ0 _ hw) (cwV 0 C.2.2.2.2.1 gX5_number_X5_isDigit rfl rfl rfl (by decide +kernel) ⟨by decide, by decide⟩) rfl rfl rfl rfl (Nat.le_of_ble_eq_true rfl) ⟨by decide, by decide⟩ dX5_number_18 (fun r21 σ22 hw => ?_)
      obtain ⟨g23, hw⟩ := hw
      refine xr_if_eq C g23 50 dX5_number_21 (by decide) (fun c24 => ?_) (fun c24 => ?_)
      · have hw := hw.1 c24
        exact B50 x1 x2 x3 σ22 hw
      · have hw := hw.2 c24
        refine xr_bipush C dX5_number_24 (by decide +kernel) ?_
        refine xr_iload_n C 3 dX5_number_26 rfl rfl ?_
        refine xr_imul C dX5_number_27 ?_
        refine xr_aload_n C 0 dX5_number_28 rfl rfl ?_
        refine xr_callVi C (ci := 5) (q0 := 0) (As := []) (rest := [.int (i32 (10 * x3))]) (xSp_rf _ _) (by decide) (fun h => h) (mX5_next σ22 _ hw) (cwV 0 C.2.2.2.2.1 gX5_number_X5_next rfl rfl rfl (by decide +kernel) ⟨by decide, by decide⟩) rfl rfl rfl rfl (Nat.le_of_ble_eq_true rfl) ⟨by decide, by decide⟩ dX5_number_29 (fun r25 σ26 hw => ?_)
        refine xr_iadd C dX5_number_32 ?_
        refine xr_bipush C dX5_number_33 (by decide +kernel) ?_
        refine xr_isub C dX5_number_35 ?_
        refine xr_istore_n C [(0, .ref (ad 20)), (1, .int (i32 x1)), (2, .int (i32 x2)), (3, .int (i32 (((10 * x3) + r25) - 48)))] dX5_number_36 rfl (by decide) rfl ?_
        refine xr_aload_n C 0 dX5_number_37 rfl rfl ?_
        refine xr_dup C dX5_number_38 rfl ?_
        refine xr_get C hinX5 (N := 22) (ci := 5) (a := (ad 20)) 0 rfl rfl 9 (by decide) m0 rfl rfl dX5_number_39 ?_
        refine xr_iconst C dX5_number_42 ?_
        refine xr_iadd C dX5_number_43 ?_
        refine xr_put C (r := 20) (x := ((σ26 20 9) + 1)) (ty := .int) hinX5 (N := 22) (ci := 5) tyX5 tyX5_ok nmX5 0 rfl rfl 9 (by decide) m0 rfl rfl (by decide +kernel) rfl rfl (Nat.le_of_ble_eq_true rfl) rfl (by decide) dX5_number_44 ?_
        refine xr_sig (fun σ27 e28 => ?_)
        have hw := hw σ27 e28
        refine xr_goto C 7 dX5_number_47 (by decide) ?_
        exact hK7 (x1, x2, (((10 * x3) + r25) - 48), σ27) hw
  show xX p l e rmX5_number s m args below meth c D vwCl (va_A ((wM ad cI cJ cZ) σ) s.heap.size) (wM ad cI cJ cZ) [20, 21, 22, 23, 24, 25, 26, 27, 28, 29, 30, 31, 32, 33] σ 0 0 (MQ below (xQi D (wM ad cI cJ cZ) [20, 21, 22, 23, 24, 25, 26, 27, 28, 29, 30, 31, 32, 33] σ s.heap.size Q) args s 0 0 (va_A ((wM ad cI cJ cZ) σ) s.heap.size)) 4 σ 0 [(0, .ref (ad 20)), (1, .int (i32 a1))] []
  unfold vX5_number at hw
  refine xr_aload_n C 0 dX5_number_0 rfl rfl ?_
  refine xr_get C hinX5 (N := 22) (ci := 5) (a := (ad 20)) 0 rfl rfl 9 (by decide) m0 rfl rfl dX5_number_1 ?_
  refine xr_istore_n C [(0, .ref (ad 20)), (1, .int (i32 a1)), (2, .int (i32 (σ 20 9)))] dX5_number_4 rfl (by decide) rfl ?_
  refine xr_iconst C dX5_number_5 ?_
  refine xr_istore_n C [(0, .ref (ad 20)), (1, .int (i32 a1)), (2, .int (i32 (σ 20 9))), (3, .int (i32 0))] dX5_number_6 rfl (by decide) rfl ?_
  exact L7 (a1, (σ 20 9), 0, σ) hw
abbrev rmX5_adds : Room := { frames := 0, cells := 0, slots := 0, locals := 64 }
set_option maxHeartbeats 8000000 in
set_option maxRecDepth 100000 in
theorem mX5_adds {l : Launch} {D : va_G} {ad : Nat → Nat} {cI cJ cZ : ClassId} (σ : xS) (a1 a2 : Int) (Q : xS → Prop) (hw : vX5_adds a1 a2 σ Q) : xMv False l yX5_adds wsX5_adds rmX5_adds D (xtys cI cJ cZ) (wM ad cI cJ cZ) [20, 21, 22, 23, 24, 25, 26, 27, 28, 29, 30, 31, 32, 33] σ [.ref (ad 20), .int (i32 a1), .int (i32 a2)] Q := by
  refine xenter (F := [20, 21, 22, 23, 24, 25, 26, 27, 28, 29, 30, 31, 32, 33]) (Qc := fun sz => xQv D (wM ad cI cJ cZ) [20, 21, 22, 23, 24, 25, 26, 27, 28, 29, 30, 31, 32, 33] σ sz Q) (own := RX5) (cc := cX5_adds) (maxL := 3) (ret := none) (by decide) rfl rfl (Nat.le_of_ble_eq_true rfl) ?_
  intro p e s m args below meth c hargs C hr hnm
  have hinX5 : ∀ w ∈ u_ws RX5 TX5 22, w ∈ wsX5_adds := fun _ h => List.mem_cons_of_mem _ (List.mem_append_right _ h)
  have m0 : (Cond.fieldLink RX5 22 "SandBenchModel" "step" "[I") ∈ wsX5_adds := by decide +kernel
  have m1 : (Cond.fieldLink RX5 130 "SandBenchModel" "steps" "I") ∈ wsX5_adds := by decide +kernel
  have m2 : (Cond.fieldLink RX5 25 "SandBenchModel" "its" "[I") ∈ wsX5_adds := by decide +kernel
  show xX p l e rmX5_adds s m args below meth c D vwCl (va_A ((wM ad cI cJ cZ) σ) s.heap.size) (wM ad cI cJ cZ) [20, 21, 22, 23, 24, 25, 26, 27, 28, 29, 30, 31, 32, 33] σ 0 0 (MQ below (xQv D (wM ad cI cJ cZ) [20, 21, 22, 23, 24, 25, 26, 27, 28, 29, 30, 31, 32, 33] σ s.heap.size Q) args s 0 0 (va_A ((wM ad cI cJ cZ) σ) s.heap.size)) 3 σ 0 [(0, .ref (ad 20)), (1, .int (i32 a1)), (2, .int (i32 a2))] []
  unfold vX5_adds at hw
  refine xr_aload_n C 0 dX5_adds_0 rfl rfl ?_
  refine xr_get C hinX5 (N := 22) (ci := 5) (a := (ad 20)) 0 rfl rfl 6 (by decide) m0 rfl rfl dX5_adds_1 ?_
  refine xr_aload_n C 0 dX5_adds_4 rfl rfl ?_
  refine xr_get C hinX5 (N := 22) (ci := 5) (a := (ad 20)) 0 rfl rfl 8 (by decide) m1 rfl rfl dX5_adds_5 ?_
  refine xr_iload_n C 1 dX5_adds_8 rfl rfl ?_
  obtain ⟨g1, hw⟩ := hw
  refine xr_iast C (t0 := 0) (r := 25) 5 rfl rfl (by decide) (N := 60) rfl g1 wM_st25 (by decide) dX5_adds_9 ?_
  refine xr_sig (fun σ2 e3 => ?_)
  have hw := hw σ2 e3
  refine xr_aload_n C 0 dX5_adds_10 rfl rfl ?_
  refine xr_get C hinX5 (N := 22) (ci := 5) (a := (ad 20)) 0 rfl rfl 7 (by decide) m2 rfl rfl dX5_adds_11 ?_
  refine xr_aload_n C 0 dX5_adds_14 rfl rfl ?_
  refine xr_get C hinX5 (N := 22) (ci := 5) (a := (ad 20)) 0 rfl rfl 8 (by decide) m1 rfl rfl dX5_adds_15 ?_
  refine xr_iload_n C 2 dX5_adds_18 rfl rfl ?_
  obtain ⟨g4, hw⟩ := hw
  refine xr_iast C (t0 := 0) (r := 26) 6 rfl rfl (by decide) (N := 60) rfl g4 wM_st26 (by decide) dX5_adds_19 ?_
  refine xr_sig (fun σ5 e6 => ?_)
  have hw := hw σ5 e6
  refine xr_aload_n C 0 dX5_adds_20 rfl rfl ?_
  refine xr_dup C dX5_adds_21 rfl ?_
  refine xr_get C hinX5 (N := 22) (ci := 5) (a := (ad 20)) 0 rfl rfl 8 (by decide) m1 rfl rfl dX5_adds_22 ?_
  refine xr_iconst C dX5_adds_25 ?_
  refine xr_iadd C dX5_adds_26 ?_
  refine xr_put C (r := 20) (x := ((σ5 20 8) + 1)) (ty := .int) hinX5 (N := 22) (ci := 5) tyX5 tyX5_ok nmX5 0 rfl rfl 8 (by decide) m1 rfl rfl (by decide +kernel) rfl rfl (Nat.le_of_ble_eq_true rfl) rfl (by decide) dX5_adds_27 ?_
  refine xr_sig (fun σ7 e8 => ?_)
  have hw := hw σ7 e8
  exact xr_vret C hr hw dX5_adds_30
abbrev rmX5_readsStep : Room := { frames := 3, cells := 0, slots := 0, locals := 129 }
set_option maxHeartbeats 8000000 in
set_option maxRecDepth 100000 in
theorem mX5_readsStep {l : Launch} {D : va_G} {ad : Nat → Nat} {cI cJ cZ : ClassId} (σ : xS) (Q : xS → Prop) (hw : vX5_readsStep σ Q) : xMv False l yX5_readsStep wsX5_readsStep rmX5_readsStep D (xtys cI cJ cZ) (wM ad cI cJ cZ) [20, 21, 22, 23, 24, 25, 26, 27, 28, 29, 30, 31, 32, 33] σ [.ref (ad 20)] Q := by
  refine xenter (F := [20, 21, 22, 23, 24, 25, 26, 27, 28, 29, 30, 31, 32, 33]) (Qc := fun sz => xQv D (wM ad cI cJ cZ) [20, 21, 22, 23, 24, 25, 26, 27, 28, 29, 30, 31, 32, 33] σ sz Q) (own := RX5) (cc := cX5_readsStep) (maxL := 3) (ret := none) (by decide) rfl rfl (Nat.le_of_ble_eq_true rfl) ?_
  intro p e s m args below meth c hargs C hr hnm
  have hinX5 : ∀ w ∈ u_ws RX5 TX5 22, w ∈ wsX5_readsStep := fun _ h => List.mem_cons_of_mem _ (List.mem_append_right _ h)
  have m0 : (Cond.fieldLink RX5 143 "SandBenchModel" "depth" "I") ∈ wsX5_readsStep := by decide +kernel
  have m1 : (Cond.fieldLink RX5 112 "SandBenchModel" "at" "I") ∈ wsX5_readsStep := by decide +kernel
  have B198 : ∀ (y1 : Int) (σ0 : xS), vX5_readsStep_198  Q y1 σ0 → xX p l e rmX5_readsStep s m args below meth c D vwCl (va_A ((wM ad cI cJ cZ) σ) s.heap.size) (wM ad cI cJ cZ) [20, 21, 22, 23, 24, 25, 26, 27, 28, 29, 30, 31, 32, 33] σ 0 0 (MQ below (xQv D (wM ad cI cJ cZ) [20, 21, 22, 23, 24, 25, 26, 27, 28, 29, 30, 31, 32, 33] σ s.heap.size Q) args s 0 0 (va_A ((wM ad cI cJ cZ) σ) s.heap.size)) 3 σ0 198 [(0, .ref (ad 20))] [.int (i32 y1), .ref (ad 20)] := by
    intro y1 σ0 hw
    unfold vX5_readsStep_198 at hw
    refine xr_callVv C (ci := 5) (q0 := 0) (As := [.int (i32 y1)]) (rest := []) (xSp_rf _ _) (by decide) (fun h => h) (mX5_needs σ0 y1 _ hw) (cwV 1 C.2.2.2.2.1 gX5_readsStep_X5_needs rfl rfl rfl (by decide +kernel) ⟨by decide, by decide⟩) rfl rfl rfl rfl (Nat.le_of_ble_eq_true rfl) ⟨by decide, by decide⟩ dX5_readsStep_198 (fun σ2 hw => ?_)
    refine xr_aload_n C 0 dX5_readsStep_201 rfl rfl ?_
    refine xr_dup C dX5_readsStep_202 rfl ?_
    refine xr_get C hinX5 (N := 22) (ci := 5) (a := (ad 20)) 0 rfl rfl 11 (by decide) m0 rfl rfl dX5_readsStep_203 ?_
    refine xr_iconst C dX5_readsStep_206 ?_
    refine xr_iadd C dX5_readsStep_207 ?_
    refine xr_put C (r := 20) (x := ((σ2 20 11) + 1)) (ty := .int) hinX5 (N := 22) (ci := 5) tyX5 tyX5_ok nmX5 0 rfl rfl 11 (by decide) m0 rfl rfl (by decide +kernel) rfl rfl (Nat.le_of_ble_eq_true rfl) rfl (by decide) dX5_readsStep_208 ?_
    refine xr_sig (fun σ3 e4 => ?_)
    have hw := hw σ3 e4
    refine xr_goto C 222 dX5_readsStep_211 (by decide) ?_
    exact xr_vret C hr hw dX5_readsStep_222
  have B197 : ∀ (σ0 : xS), vX5_readsStep_197  Q σ0 → xX p l e rmX5_readsStep s m args below meth c D vwCl (va_A ((wM ad cI cJ cZ) σ) s.heap.size) (wM ad cI cJ cZ) [20, 21, 22, 23, 24, 25, 26, 27, 28, 29, 30, 31, 32, 33] σ 0 0 (MQ below (xQv D (wM ad cI cJ cZ) [20, 21, 22, 23, 24, 25, 26, 27, 28, 29, 30, 31, 32, 33] σ s.heap.size Q) args s 0 0 (va_A ((wM ad cI cJ cZ) σ) s.heap.size)) 3 σ0 197 [(0, .ref (ad 20))] [.ref (ad 20)] := by
    intro σ0 hw
    unfold vX5_readsStep_197 at hw
    refine xr_iconst C dX5_readsStep_197 ?_
    exact B198 0 σ0 hw
  have B151 : ∀ (y1 : Int) (σ0 : xS), vX5_readsStep_151  Q y1 σ0 → xX p l e rmX5_readsStep s m args below meth c D vwCl (va_A ((wM ad cI cJ cZ) σ) s.heap.size) (wM ad cI cJ cZ) [20, 21, 22, 23, 24, 25, 26, 27, 28, 29, 30, 31, 32, 33] σ 0 0 (MQ below (xQv D (wM ad cI cJ cZ) [20, 21, 22, 23, 24, 25, 26, 27, 28, 29, 30, 31, 32, 33] σ s.heap.size Q) args s 0 0 (va_A ((wM ad cI cJ cZ) σ) s.heap.size)) 3 σ0 151 [(0, .ref (ad 20))] [.int (i32 y1), .ref (ad 20)] := by
    intro y1 σ0 hw
    unfold vX5_readsStep_151 at hw
    refine xr_callVv C (ci := 5) (q0 := 0) (As := [.int (i32 y1)]) (rest := []) (xSp_rf _ _) (by decide) (fun h => h) (mX5_needs σ0 y1 _ hw) (cwV 1 C.2.2.2.2.1 gX5_readsStep_X5_needs rfl rfl rfl (by decide +kernel) ⟨by decide, by decide⟩) rfl rfl rfl rfl (Nat.le_of_ble_eq_true rfl) ⟨by decide, by decide⟩ dX5_readsStep_151 (fun σ6 hw => ?_)
    refine xr_goto C 222 dX5_readsStep_154 (by decide) ?_
    exact xr_vret C hr hw dX5_readsStep_222
  have B113 : ∀ (y1 : Int) (σ0 : xS), vX5_readsStep_113  Q y1 σ0 → xX p l e rmX5_readsStep s m args below meth c D vwCl (va_A ((wM ad cI cJ cZ) σ) s.heap.size) (wM ad cI cJ cZ) [20, 21, 22, 23, 24, 25, 26, 27, 28, 29, 30, 31, 32, 33] σ 0 0 (MQ below (xQv D (wM ad cI cJ cZ) [20, 21, 22, 23, 24, 25, 26, 27, 28, 29, 30, 31, 32, 33] σ s.heap.size Q) args s 0 0 (va_A ((wM ad cI cJ cZ) σ) s.heap.size)) 3 σ0 113 [(0, .ref (ad 20))] [.int (i32 y1), .ref (ad 20)] := by
    intro y1 σ0 hw
    unfold vX5_readsStep_113 at hw
    refine xr_callVv C (ci := 5) (q0 := 0) (As := [.int (i32 y1)]) (rest := []) (xSp_rf _ _) (by decide) (fun h => h) (mX5_needs σ0 y1 _ hw) (cwV 1 C.2.2.2.2.1 gX5_readsStep_X5_needs rfl rfl rfl (by decide +kernel) ⟨by decide, by decide⟩) rfl rfl rfl rfl (Nat.le_of_ble_eq_true rfl) ⟨by decide, by decide⟩ dX5_readsStep_113 (fun σ8 hw => ?_)
    refine xr_goto C 222 dX5_readsStep_116 (by decide) ?_
    exact xr_vret C hr hw dX5_readsStep_222
  have B70 : ∀ (y1 : Int) (σ0 : xS), vX5_readsStep_70  Q y1 σ0 → xX p l e rmX5_readsStep s m args below meth c D vwCl (va_A ((wM ad cI cJ cZ) σ) s.heap.size) (wM ad cI cJ cZ) [20, 21, 22, 23, 24, 25, 26, 27, 28, 29, 30, 31, 32, 33] σ 0 0 (MQ below (xQv D (wM ad cI cJ cZ) [20, 21, 22, 23, 24, 25, 26, 27, 28, 29, 30, 31, 32, 33] σ s.heap.size Q) args s 0 0 (va_A ((wM ad cI cJ cZ) σ) s.heap.size)) 3 σ0 70 [(0, .ref (ad 20))] [.int (i32 y1), .ref (ad 20)] := by
    intro y1 σ0 hw
    unfold vX5_readsStep_70 at hw
    refine xr_callVv C (ci := 5) (q0 := 0) (As := [.int (i32 y1)]) (rest := []) (xSp_rf _ _) (by decide) (fun h => h) (mX5_needs σ0 y1 _ hw) (cwV 1 C.2.2.2.2.1 gX5_readsStep_X5_needs rfl rfl rfl (by decide +kernel) ⟨by decide, by decide⟩) rfl rfl rfl rfl (Nat.le_of_ble_eq_true rfl) ⟨by decide, by decide⟩ dX5_readsStep_70 (fun σ10 hw => ?_)
    refine xr_goto C 222 dX5_readsStep_73 (by decide) ?_
    exact xr_vret C hr hw dX5_readsStep_222
  have B51 : ∀ (x2 y1 : Int) (σ0 : xS), vX5_readsStep_51  Q x2 y1 σ0 → xX p l e rmX5_readsStep s m args below meth c D vwCl (va_A ((wM ad cI cJ cZ) σ) s.heap.size) (wM ad cI cJ cZ) [20, 21, 22, 23, 24, 25, 26, 27, 28, 29, 30, 31, 32, 33] σ 0 0 (MQ below (xQv D (wM ad cI cJ cZ) [20, 21, 22, 23, 24, 25, 26, 27, 28, 29, 30, 31, 32, 33] σ s.heap.size Q) args s 0 0 (va_A ((wM ad cI cJ cZ) σ) s.heap.size)) 3 σ0 51 [(0, .ref (ad 20)), (2, .int (i32 x2))] [.int (i32 y1), .ref (ad 20)] := by
    intro x2 y1 σ0 hw
    unfold vX5_readsStep_51 at hw
    refine xr_iload_n C 1 dX5_readsStep_51 rfl rfl ?_
    refine xr_callVv C (ci := 5) (q0 := 0) (As := [.int (i32 y1), .int (i32 x2)]) (rest := []) (xSp_rf _ _) (by decide) (fun h => h) (mX5_adds σ0 y1 x2 _ hw) (cwV 2 C.2.2.2.2.1 gX5_readsStep_X5_adds rfl rfl rfl (by decide +kernel) ⟨by decide, by decide⟩) rfl rfl rfl rfl (Nat.le_of_ble_eq_true rfl) ⟨by decide, by decide⟩ dX5_readsStep_52 (fun σ12 hw => ?_)
    refine xr_aload_n C 0 dX5_readsStep_55 rfl rfl ?_
    refine xr_aload_n C 0 dX5_readsStep_56 rfl rfl ?_
    refine xr_callVi C (ci := 5) (q0 := 0) (As := []) (rest := [.ref (ad 20)]) (xSp_rf _ _) (by decide) (fun h => h) (mX5_next σ12 _ hw) (cwV 0 C.2.2.2.2.1 gX5_readsStep_X5_next rfl rfl rfl (by decide +kernel) ⟨by decide, by decide⟩) rfl rfl rfl rfl (Nat.le_of_ble_eq_true rfl) ⟨by decide, by decide⟩ dX5_readsStep_57 (fun r13 σ14 hw => ?_)
    refine xr_bipush C dX5_readsStep_60 (by decide +kernel) ?_
    obtain ⟨g15, hw⟩ := hw
    refine xr_icmp_ne C g15 ⟨by decide, by decide⟩ 69 dX5_readsStep_62 (by decide) (fun c16 => ?_) (fun c16 => ?_)
    · have hw := hw.1 c16
      refine xr_iconst C dX5_readsStep_69 ?_
      refine xr_sub C [0] [(0, .ref (ad 20))] rfl ?_
      exact B70 0 σ14 hw
    · have hw := hw.2 c16
      refine xr_iconst C dX5_readsStep_65 ?_
      refine xr_goto C 70 dX5_readsStep_66 (by decide) ?_
      refine xr_sub C [0] [(0, .ref (ad 20))] rfl ?_
      exact B70 1 σ14 hw
  have B17 : ∀ (x1 : Int) (σ0 : xS), vX5_readsStep_17  Q x1 σ0 → xX p l e rmX5_readsStep s m args below meth c D vwCl (va_A ((wM ad cI cJ cZ) σ) s.heap.size) (wM ad cI cJ cZ) [20, 21, 22, 23, 24, 25, 26, 27, 28, 29, 30, 31, 32, 33] σ 0 0 (MQ below (xQv D (wM ad cI cJ cZ) [20, 21, 22, 23, 24, 25, 26, 27, 28, 29, 30, 31, 32, 33] σ s.heap.size Q) args s 0 0 (va_A ((wM ad cI cJ cZ) σ) s.heap.size)) 3 σ0 17 [(0, .ref (ad 20)), (1, .int (i32 x1))] [] := by
    intro x1 σ0 hw
    unfold vX5_readsStep_17 at hw
    refine xr_aload_n C 0 dX5_readsStep_17 rfl rfl ?_
    refine xr_iconst C dX5_readsStep_18 ?_
    refine xr_callVv C (ci := 5) (q0 := 0) (As := [.int (i32 1)]) (rest := []) (xSp_rf _ _) (by decide) (fun h => h) (mX5_needs σ0 1 _ hw) (cwV 1 C.2.2.2.2.1 gX5_readsStep_X5_needs rfl rfl rfl (by decide +kernel) ⟨by decide, by decide⟩) rfl rfl rfl rfl (Nat.le_of_ble_eq_true rfl) ⟨by decide, by decide⟩ dX5_readsStep_19 (fun σ18 hw => ?_)
    refine xr_aload_n C 0 dX5_readsStep_22 rfl rfl ?_
    refine xr_callVi C (ci := 5) (q0 := 0) (As := []) (rest := []) (xSp_rf _ _) (by decide) (fun h => h) (mX5_next σ18 _ hw) (cwV 0 C.2.2.2.2.1 gX5_readsStep_X5_next rfl rfl rfl (by decide +kernel) ⟨by decide, by decide⟩) rfl rfl rfl rfl (Nat.le_of_ble_eq_true rfl) ⟨by decide, by decide⟩ dX5_readsStep_23 (fun r19 σ20 hw => ?_)
    refine xr_bipush C dX5_readsStep_26 (by decide +kernel) ?_
    refine xr_isub C dX5_readsStep_28 ?_
    refine xr_istore_n C [(0, .ref (ad 20)), (1, .int (i32 x1)), (2, .int (i32 (r19 - 48)))] dX5_readsStep_29 rfl (by decide) rfl ?_
    refine xr_aload_n C 0 dX5_readsStep_30 rfl rfl ?_
    refine xr_aload_n C 0 dX5_readsStep_31 rfl rfl ?_
    refine xr_iload_n C 2 dX5_readsStep_32 rfl rfl ?_
    refine xr_callVi C (ci := 5) (q0 := 0) (As := [.int (i32 (r19 - 48))]) (rest := [.ref (ad 20)]) (xSp_rf _ _) (by decide) (fun h => h) (mX5_isGlass σ20 (r19 - 48) _ hw) (cwV 1 C.2.2.2.2.1 gX5_readsStep_X5_isGlass rfl rfl rfl (by decide +kernel) ⟨by decide, by decide⟩) rfl rfl rfl rfl (Nat.le_of_ble_eq_true rfl) ⟨by decide, by decide⟩ dX5_readsStep_33 (fun r21 σ22 hw => ?_)
    refine xr_callVv C (ci := 5) (q0 := 0) (As := [.int (i32 r21)]) (rest := []) (xSp_rf _ _) (by decide) (fun h => h) (mX5_needs σ22 r21 _ hw) (cwV 1 C.2.2.2.2.1 gX5_readsStep_X5_needs rfl rfl rfl (by decide +kernel) ⟨by decide, by decide⟩) rfl rfl rfl rfl (Nat.le_of_ble_eq_true rfl) ⟨by decide, by decide⟩ dX5_readsStep_36 (fun σ24 hw => ?_)
    refine xr_aload_n C 0 dX5_readsStep_39 rfl rfl ?_
    refine xr_iload_n C 1 dX5_readsStep_40 rfl rfl ?_
    refine xr_bipush C dX5_readsStep_41 (by decide +kernel) ?_
    obtain ⟨g25, hw⟩ := hw
    refine xr_icmp_ne C g25 ⟨by decide, by decide⟩ 50 dX5_readsStep_43 (by decide) (fun c26 => ?_) (fun c26 => ?_)
    · have hw := hw.1 c26
      refine xr_iconst C dX5_readsStep_50 ?_
      refine xr_sub C [0, 2] [(0, .ref (ad 20)), (2, .int (i32 (r19 - 48)))] rfl ?_
      exact B51 (r19 - 48) 1 σ24 hw
    · have hw := hw.2 c26
      refine xr_iconst C dX5_readsStep_46 ?_
      refine xr_goto C 51 dX5_readsStep_47 (by decide) ?_
      refine xr_sub C [0, 2] [(0, .ref (ad 20)), (2, .int (i32 (r19 - 48)))] rfl ?_
      exact B51 (r19 - 48) 0 σ24 hw
  show xX p l e rmX5_readsStep s m args below meth c D vwCl (va_A ((wM ad cI cJ cZ) σ) s.heap.size) (wM ad cI cJ cZ) [20, 21, 22, 23, 24, 25, 26, 27, 28, 29, 30, 31, 32, 33] σ 0 0 (MQ below (xQv D (wM ad cI cJ cZ) [20, 21, 22, 23, 24, 25, 26, 27, 28, 29, 30, 31, 32, 33] σ s.heap.size Q) args s 0 0 (va_A ((wM ad cI cJ cZ) σ) s.heap.size)) 3 σ 0 [(0, .ref (ad 20))] []
  unfold vX5_readsStep at hw
  refine xr_aload_n C 0 dX5_readsStep_0 rfl rfl ?_
  refine xr_callVi C (ci := 5) (q0 := 0) (As := []) (rest := []) (xSp_rf _ _) (by decide) (fun h => h) (mX5_next σ _ hw) (cwV 0 C.2.2.2.2.1 gX5_readsStep_X5_next rfl rfl rfl (by decide +kernel) ⟨by decide, by decide⟩) rfl rfl rfl rfl (Nat.le_of_ble_eq_true rfl) ⟨by decide, by decide⟩ dX5_readsStep_1 (fun r27 σ28 hw => ?_)
  refine xr_istore_n C [(0, .ref (ad 20)), (1, .int (i32 r27))] dX5_readsStep_4 rfl (by decide) rfl ?_
  refine xr_iload_n C 1 dX5_readsStep_5 rfl rfl ?_
  refine xr_bipush C dX5_readsStep_6 (by decide +kernel) ?_
  obtain ⟨g29, hw⟩ := hw
  refine xr_icmp_eq C g29 ⟨by decide, by decide⟩ 17 dX5_readsStep_8 (by decide) (fun c30 => ?_) (fun c30 => ?_)
  · have hw := hw.1 c30
    exact B17 r27 σ28 hw
  · have hw := hw.2 c30
    refine xr_iload_n C 1 dX5_readsStep_11 rfl rfl ?_
    refine xr_bipush C dX5_readsStep_12 (by decide +kernel) ?_
    refine xr_icmp_ne C g29 ⟨by decide, by decide⟩ 76 dX5_readsStep_14 (by decide) (fun c31 => ?_) (fun c31 => ?_)
    · have hw := hw.1 c31
      refine xr_iload_n C 1 dX5_readsStep_76 rfl rfl ?_
      refine xr_bipush C dX5_readsStep_77 (by decide +kernel) ?_
      refine xr_icmp_ne C g29 ⟨by decide, by decide⟩ 119 dX5_readsStep_79 (by decide) (fun c32 => ?_) (fun c32 => ?_)
      · have hw := hw.1 c32
        refine xr_iload_n C 1 dX5_readsStep_119 rfl rfl ?_
        refine xr_bipush C dX5_readsStep_120 (by decide +kernel) ?_
        refine xr_icmp_ne C g29 ⟨by decide, by decide⟩ 157 dX5_readsStep_122 (by decide) (fun c33 => ?_) (fun c33 => ?_)
        · have hw := hw.1 c33
          refine xr_aload_n C 0 dX5_readsStep_157 rfl rfl ?_
          refine xr_callVi C (ci := 5) (q0 := 0) (As := []) (rest := []) (xSp_rf _ _) (by decide) (fun h => h) (mX5_isDigit σ28 _ hw) (cwV 0 C.2.2.2.2.1 gX5_readsStep_X5_isDigit rfl rfl rfl (by decide +kernel) ⟨by decide, by decide⟩) rfl rfl rfl rfl (Nat.le_of_ble_eq_true rfl) ⟨by decide, by decide⟩ dX5_readsStep_158 (fun r34 σ35 hw => ?_)
          obtain ⟨g36, hw⟩ := hw
          refine xr_if_eq C g36 214 dX5_readsStep_161 (by decide) (fun c37 => ?_) (fun c37 => ?_)
          · have hw := hw.1 c37
            refine xr_aload_n C 0 dX5_readsStep_214 rfl rfl ?_
            refine xr_aload_n C 0 dX5_readsStep_215 rfl rfl ?_
            refine xr_get C hinX5 (N := 22) (ci := 5) (a := (ad 20)) 0 rfl rfl 9 (by decide) m1 rfl rfl dX5_readsStep_216 ?_
            refine xr_callVv C (ci := 5) (q0 := 0) (As := [.int (i32 (σ35 20 9))]) (rest := []) (xSp_rf _ _) (by decide) (fun h => h) (mX5_fails σ35 (σ35 20 9) _ hw) (cwV 1 C.2.2.2.2.1 gX5_readsStep_X5_fails rfl rfl rfl (by decide +kernel) ⟨by decide, by decide⟩) rfl rfl rfl rfl (Nat.le_of_ble_eq_true rfl) ⟨by decide, by decide⟩ dX5_readsStep_219 (fun σ39 hw => ?_)
            exact xr_vret C hr hw dX5_readsStep_222
          · have hw := hw.2 c37
            refine xr_aload_n C 0 dX5_readsStep_164 rfl rfl ?_
            refine xr_iconst C dX5_readsStep_165 ?_
            refine xr_aload_n C 0 dX5_readsStep_166 rfl rfl ?_
            refine xr_bipush C dX5_readsStep_167 (by decide +kernel) ?_
            refine xr_callVi C (ci := 5) (q0 := 0) (As := [.int (i32 20)]) (rest := [.int (i32 4), .ref (ad 20)]) (xSp_rf _ _) (by decide) (fun h => h) (mX5_number σ35 20 _ hw) (cwV 1 C.2.2.2.2.1 gX5_readsStep_X5_number rfl rfl rfl (by decide +kernel) ⟨by decide, by decide⟩) rfl rfl rfl rfl (Nat.le_of_ble_eq_true rfl) ⟨by decide, by decide⟩ dX5_readsStep_169 (fun r40 σ41 hw => ?_)
            refine xr_callVv C (ci := 5) (q0 := 0) (As := [.int (i32 4), .int (i32 r40)]) (rest := []) (xSp_rf _ _) (by decide) (fun h => h) (mX5_adds σ41 4 r40 _ hw) (cwV 2 C.2.2.2.2.1 gX5_readsStep_X5_adds rfl rfl rfl (by decide +kernel) ⟨by decide, by decide⟩) rfl rfl rfl rfl (Nat.le_of_ble_eq_true rfl) ⟨by decide, by decide⟩ dX5_readsStep_172 (fun σ43 hw => ?_)
            refine xr_aload_n C 0 dX5_readsStep_175 rfl rfl ?_
            refine xr_aload_n C 0 dX5_readsStep_176 rfl rfl ?_
            refine xr_callVi C (ci := 5) (q0 := 0) (As := []) (rest := [.ref (ad 20)]) (xSp_rf _ _) (by decide) (fun h => h) (mX5_next σ43 _ hw) (cwV 0 C.2.2.2.2.1 gX5_readsStep_X5_next rfl rfl rfl (by decide +kernel) ⟨by decide, by decide⟩) rfl rfl rfl rfl (Nat.le_of_ble_eq_true rfl) ⟨by decide, by decide⟩ dX5_readsStep_177 (fun r44 σ45 hw => ?_)
            refine xr_bipush C dX5_readsStep_180 (by decide +kernel) ?_
            obtain ⟨g46, hw⟩ := hw
            refine xr_icmp_ne C g46 ⟨by decide, by decide⟩ 197 dX5_readsStep_182 (by decide) (fun c47 => ?_) (fun c47 => ?_)
            · have hw := hw.1 c47
              refine xr_sub C [0] [(0, .ref (ad 20))] rfl ?_
              exact B197 σ45 hw
            · have hw := hw.2 c47
              refine xr_aload_n C 0 dX5_readsStep_185 rfl rfl ?_
              refine xr_get C hinX5 (N := 22) (ci := 5) (a := (ad 20)) 0 rfl rfl 11 (by decide) m0 rfl rfl dX5_readsStep_186 ?_
              refine xr_iconst C dX5_readsStep_189 ?_
              obtain ⟨g48, hw⟩ := hw
              refine xr_icmp_ge C g48 ⟨by decide, by decide⟩ 197 dX5_readsStep_190 (by decide) (fun c49 => ?_) (fun c49 => ?_)
              · have hw := hw.1 c49
                refine xr_sub C [0] [(0, .ref (ad 20))] rfl ?_
                exact B197 σ45 hw
              · have hw := hw.2 c49
                refine xr_iconst C dX5_readsStep_193 ?_
                refine xr_goto C 198 dX5_readsStep_194 (by decide) ?_
                refine xr_sub C [0] [(0, .ref (ad 20))] rfl ?_
                exact B198 1 σ45 hw
        · have hw := hw.2 c33
          refine xr_aload_n C 0 dX5_readsStep_125 rfl rfl ?_
          refine xr_iconst C dX5_readsStep_126 ?_
          refine xr_callVv C (ci := 5) (q0 := 0) (As := [.int (i32 1)]) (rest := []) (xSp_rf _ _) (by decide) (fun h => h) (mX5_needs σ28 1 _ hw) (cwV 1 C.2.2.2.2.1 gX5_readsStep_X5_needs rfl rfl rfl (by decide +kernel) ⟨by decide, by decide⟩) rfl rfl rfl rfl (Nat.le_of_ble_eq_true rfl) ⟨by decide, by decide⟩ dX5_readsStep_127 (fun σ51 hw => ?_)
          refine xr_aload_n C 0 dX5_readsStep_130 rfl rfl ?_
          refine xr_iconst C dX5_readsStep_131 ?_
          refine xr_iconst C dX5_readsStep_132 ?_
          refine xr_callVv C (ci := 5) (q0 := 0) (As := [.int (i32 3), .int (i32 0)]) (rest := []) (xSp_rf _ _) (by decide) (fun h => h) (mX5_adds σ51 3 0 _ hw) (cwV 2 C.2.2.2.2.1 gX5_readsStep_X5_adds rfl rfl rfl (by decide +kernel) ⟨by decide, by decide⟩) rfl rfl rfl rfl (Nat.le_of_ble_eq_true rfl) ⟨by decide, by decide⟩ dX5_readsStep_133 (fun σ53 hw => ?_)
          refine xr_aload_n C 0 dX5_readsStep_136 rfl rfl ?_
          refine xr_aload_n C 0 dX5_readsStep_137 rfl rfl ?_
          refine xr_callVi C (ci := 5) (q0 := 0) (As := []) (rest := [.ref (ad 20)]) (xSp_rf _ _) (by decide) (fun h => h) (mX5_next σ53 _ hw) (cwV 0 C.2.2.2.2.1 gX5_readsStep_X5_next rfl rfl rfl (by decide +kernel) ⟨by decide, by decide⟩) rfl rfl rfl rfl (Nat.le_of_ble_eq_true rfl) ⟨by decide, by decide⟩ dX5_readsStep_138 (fun r54 σ55 hw => ?_)
          refine xr_bipush C dX5_readsStep_141 (by decide +kernel) ?_
          obtain ⟨g56, hw⟩ := hw
          refine xr_icmp_ne C g56 ⟨by decide, by decide⟩ 150 dX5_readsStep_143 (by decide) (fun c57 => ?_) (fun c57 => ?_)
          · have hw := hw.1 c57
            refine xr_iconst C dX5_readsStep_150 ?_
            refine xr_sub C [0] [(0, .ref (ad 20))] rfl ?_
            exact B151 0 σ55 hw
          · have hw := hw.2 c57
            refine xr_iconst C dX5_readsStep_146 ?_
            refine xr_goto C 151 dX5_readsStep_147 (by decide) ?_
            refine xr_sub C [0] [(0, .ref (ad 20))] rfl ?_
            exact B151 1 σ55 hw
      · have hw := hw.2 c32
        refine xr_aload_n C 0 dX5_readsStep_82 rfl rfl ?_
        refine xr_iconst C dX5_readsStep_83 ?_
        refine xr_callVv C (ci := 5) (q0 := 0) (As := [.int (i32 1)]) (rest := []) (xSp_rf _ _) (by decide) (fun h => h) (mX5_needs σ28 1 _ hw) (cwV 1 C.2.2.2.2.1 gX5_readsStep_X5_needs rfl rfl rfl (by decide +kernel) ⟨by decide, by decide⟩) rfl rfl rfl rfl (Nat.le_of_ble_eq_true rfl) ⟨by decide, by decide⟩ dX5_readsStep_84 (fun σ59 hw => ?_)
        refine xr_aload_n C 0 dX5_readsStep_87 rfl rfl ?_
        refine xr_iconst C dX5_readsStep_88 ?_
        refine xr_aload_n C 0 dX5_readsStep_89 rfl rfl ?_
        refine xr_bipush C dX5_readsStep_90 (by decide +kernel) ?_
        refine xr_callVi C (ci := 5) (q0 := 0) (As := [.int (i32 99)]) (rest := [.int (i32 2), .ref (ad 20)]) (xSp_rf _ _) (by decide) (fun h => h) (mX5_number σ59 99 _ hw) (cwV 1 C.2.2.2.2.1 gX5_readsStep_X5_number rfl rfl rfl (by decide +kernel) ⟨by decide, by decide⟩) rfl rfl rfl rfl (Nat.le_of_ble_eq_true rfl) ⟨by decide, by decide⟩ dX5_readsStep_92 (fun r60 σ61 hw => ?_)
        refine xr_callVv C (ci := 5) (q0 := 0) (As := [.int (i32 2), .int (i32 r60)]) (rest := []) (xSp_rf _ _) (by decide) (fun h => h) (mX5_adds σ61 2 r60 _ hw) (cwV 2 C.2.2.2.2.1 gX5_readsStep_X5_adds rfl rfl rfl (by decide +kernel) ⟨by decide, by decide⟩) rfl rfl rfl rfl (Nat.le_of_ble_eq_true rfl) ⟨by decide, by decide⟩ dX5_readsStep_95 (fun σ63 hw => ?_)
        refine xr_aload_n C 0 dX5_readsStep_98 rfl rfl ?_
        refine xr_aload_n C 0 dX5_readsStep_99 rfl rfl ?_
        refine xr_callVi C (ci := 5) (q0 := 0) (As := []) (rest := [.ref (ad 20)]) (xSp_rf _ _) (by decide) (fun h => h) (mX5_next σ63 _ hw) (cwV 0 C.2.2.2.2.1 gX5_readsStep_X5_next rfl rfl rfl (by decide +kernel) ⟨by decide, by decide⟩) rfl rfl rfl rfl (Nat.le_of_ble_eq_true rfl) ⟨by decide, by decide⟩ dX5_readsStep_100 (fun r64 σ65 hw => ?_)
        refine xr_bipush C dX5_readsStep_103 (by decide +kernel) ?_
        obtain ⟨g66, hw⟩ := hw
        refine xr_icmp_ne C g66 ⟨by decide, by decide⟩ 112 dX5_readsStep_105 (by decide) (fun c67 => ?_) (fun c67 => ?_)
        · have hw := hw.1 c67
          refine xr_iconst C dX5_readsStep_112 ?_
          refine xr_sub C [0] [(0, .ref (ad 20))] rfl ?_
          exact B113 0 σ65 hw
        · have hw := hw.2 c67
          refine xr_iconst C dX5_readsStep_108 ?_
          refine xr_goto C 113 dX5_readsStep_109 (by decide) ?_
          refine xr_sub C [0] [(0, .ref (ad 20))] rfl ?_
          exact B113 1 σ65 hw
    · have hw := hw.2 c31
      exact B17 r27 σ28 hw
