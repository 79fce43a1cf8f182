abbrev rmX1_keep : Room := { frames := 2, cells := 0, slots := 0, locals := 86 }
set_option maxHeartbeats 8000000 in
set_option maxRecDepth 100000 in
theorem mX1_keep {l : Launch} {D : va_G} {ad : Nat → Nat} {cI cJ cZ : ClassId} (σ : xS) (Q : xS → Prop) (hw : vX1_keep σ Q) : xMv False l yX1_keep wsX1_keep rmX1_keep D (xtys cI cJ cZ) (wHB ad cI cJ cZ) [5, 6, 7, 8] σ [.ref (ad 5), .ref (ad 7)] Q := by
  refine xenter (F := [5, 6, 7, 8]) (Qc := fun sz => xQv D (wHB ad cI cJ cZ) [5, 6, 7, 8] σ sz Q) (own := RX1) (cc := cX1_keep) (maxL := 2) (ret := none) (by decide) rfl rfl (Nat.le_of_ble_eq_true rfl) ?_
  intro p e s m args below meth c hargs C hr hnm
  have hinX1 : ∀ w ∈ u_ws RX1 TX1 3, w ∈ wsX1_keep := fun _ h => List.mem_cons_of_mem _ (List.mem_append_left _ (List.mem_append_right _ h))
  have m0 : (Cond.fieldLink RX1 11 "SandBench$History" "rows" "[I") ∈ wsX1_keep := by decide +kernel
  have m1 : (Cond.fieldLink RX1 19 "SandBench$History" "next" "I") ∈ wsX1_keep := by decide +kernel
  have m2 : (Cond.fieldLink RX1 15 "SandBench$History" "states" "I") ∈ wsX1_keep := by decide +kernel
  have m3 : (Cond.methodLink RX1 26 Lib.Math.min.name) ∈ wsX1_keep := by decide +kernel
  have m4 : (Cond.static Lib.Math.min.name) ∈ wsX1_keep := by decide +kernel
  have m5 : (Cond.initialized "java/lang/Math") ∈ wsX1_keep := by decide +kernel
  have m6 : (Cond.code Lib.Math.min.name Lib.Math.min.code 2 (some .int)) ∈ wsX1_keep := by decide +kernel
  show xX p l e rmX1_keep s m args below meth c D vwCl (va_A ((wHB ad cI cJ cZ) σ) s.heap.size) (wHB ad cI cJ cZ) [5, 6, 7, 8] σ 0 0 (MQ below (xQv D (wHB ad cI cJ cZ) [5, 6, 7, 8] σ s.heap.size Q) args s 0 0 (va_A ((wHB ad cI cJ cZ) σ) s.heap.size)) 2 σ 0 [(0, .ref (ad 5)), (1, .ref (ad 7))] []
  unfold vX1_keep at hw
  refine xr_aload_n C 1 dX1_keep_0 rfl rfl ?_
  refine xr_aload_n C 0 dX1_keep_1 rfl rfl ?_
  refine xr_get C hinX1 (N := 3) (ci := 1) (a := (ad 5)) 0 rfl rfl 0 (by decide) m0 rfl rfl dX1_keep_2 ?_
  refine xr_aload_n C 0 dX1_keep_5 rfl rfl ?_
  refine xr_get C hinX1 (N := 3) (ci := 1) (a := (ad 5)) 0 rfl rfl 2 (by decide) m1 rfl rfl dX1_keep_6 ?_
  refine xr_bipush C dX1_keep_9 (by decide +kernel) ?_
  refine xr_imul C dX1_keep_11 ?_
  refine xr_callVv C (ci := 0) (q0 := 1) (As := [.ref (ad 6), .int (i32 ((σ 5 2) * 63))]) (rest := []) (sp_wHB_wRB ad cI cJ cZ) (by decide) (fun h => h) (mX0_copyTo σ ((σ 5 2) * 63) _ hw) (cwV 2 C.2.2.2.2.1 gX1_keep_X0_copyTo rfl rfl rfl (by decide +kernel) ⟨by decide, by decide⟩) rfl rfl rfl rfl (Nat.le_of_ble_eq_true rfl) ⟨by decide, by decide⟩ dX1_keep_12 (fun σ2 hw => ?_)
  refine xr_aload_n C 0 dX1_keep_15 rfl rfl ?_
  refine xr_aload_n C 0 dX1_keep_16 rfl rfl ?_
  refine xr_get C hinX1 (N := 3) (ci := 1) (a := (ad 5)) 0 rfl rfl 2 (by decide) m1 rfl rfl dX1_keep_17 ?_
  refine xr_iconst C dX1_keep_20 ?_
  refine xr_iadd C dX1_keep_21 ?_
  refine xr_bipush C dX1_keep_22 (by decide +kernel) ?_
  refine xr_irem C ⟨⟨by decide, by decide⟩, by decide⟩ dX1_keep_24 ?_
  refine xr_put C (r := 5) (x := (jrem ((σ2 5 2) + 1) 8)) (ty := .int) hinX1 (N := 3) (ci := 1) tyX1 tyX1_ok nmX1 0 rfl rfl 2 (by decide) m1 rfl rfl (by decide +kernel) rfl rfl (Nat.le_of_ble_eq_true rfl) rfl (by decide) dX1_keep_25 ?_
  refine xr_sig (fun σ3 e4 => ?_)
  have hw := hw σ3 e4
  refine xr_aload_n C 0 dX1_keep_28 rfl rfl ?_
  refine xr_aload_n C 0 dX1_keep_29 rfl rfl ?_
  refine xr_get C hinX1 (N := 3) (ci := 1) (a := (ad 5)) 0 rfl rfl 1 (by decide) m2 rfl rfl dX1_keep_30 ?_
  refine xr_iconst C dX1_keep_33 ?_
  refine xr_iadd C dX1_keep_34 ?_
  refine xr_bipush C dX1_keep_35 (by decide +kernel) ?_
  obtain ⟨g5, hw⟩ := hw
  refine xr_min C g5 ⟨by decide, by decide⟩ m3 m4 m5 m6 (by decide) (Nat.le_of_ble_eq_true rfl) (by decide) (by decide) dX1_keep_37 ?_
  refine xr_put C (r := 5) (x := (jmin ((σ3 5 1) + 1) 8)) (ty := .int) hinX1 (N := 3) (ci := 1) tyX1 tyX1_ok nmX1 0 rfl rfl 1 (by decide) m2 rfl rfl (by decide +kernel) rfl rfl (Nat.le_of_ble_eq_true rfl) rfl (by decide) dX1_keep_40 ?_
  refine xr_sig (fun σ6 e7 => ?_)
  have hw := hw σ6 e7
  exact xr_vret C hr hw dX1_keep_43
abbrev rmX1_restore : Room := { frames := 2, cells := 0, slots := 0, locals := 86 }
set_option maxHeartbeats 8000000 in
set_option maxRecDepth 100000 in
theorem mX1_restore {l : Launch} {D : va_G} {ad : Nat → Nat} {cI cJ cZ : ClassId} (σ : xS) (Q : Int → xS → Prop) (hw : vX1_restore σ Q) : xMi False l yX1_restore wsX1_restore rmX1_restore D (xtys cI cJ cZ) (wHB ad cI cJ cZ) [5, 6, 7, 8] σ [.ref (ad 5), .ref (ad 7)] Q := by
  refine xenter (F := [5, 6, 7, 8]) (Qc := fun sz => xQi D (wHB ad cI cJ cZ) [5, 6, 7, 8] σ sz Q) (own := RX1) (cc := cX1_restore) (maxL := 2) (ret := some .boolean) (by decide) rfl rfl (Nat.le_of_ble_eq_true rfl) ?_
  intro p e s m args below meth c hargs C hr hnm
  have hinX1 : ∀ w ∈ u_ws RX1 TX1 3, w ∈ wsX1_restore := fun _ h => List.mem_cons_of_mem _ (List.mem_append_left _ (List.mem_append_right _ h))
  have m0 : (Cond.fieldLink RX1 15 "SandBench$History" "states" "I") ∈ wsX1_restore := by decide +kernel
  have m1 : (Cond.fieldLink RX1 19 "SandBench$History" "next" "I") ∈ wsX1_restore := by decide +kernel
  have m2 : (Cond.fieldLink RX1 11 "SandBench$History" "rows" "[I") ∈ wsX1_restore := by decide +kernel
  show xX p l e rmX1_restore s m args below meth c D vwCl (va_A ((wHB ad cI cJ cZ) σ) s.heap.size) (wHB ad cI cJ cZ) [5, 6, 7, 8] σ 0 0 (MQ below (xQi D (wHB ad cI cJ cZ) [5, 6, 7, 8] σ s.heap.size Q) args s 0 0 (va_A ((wHB ad cI cJ cZ) σ) s.heap.size)) 2 σ 0 [(0, .ref (ad 5)), (1, .ref (ad 7))] []
  unfold vX1_restore at hw
  refine xr_aload_n C 0 dX1_restore_0 rfl rfl ?_
  refine xr_get C hinX1 (N := 3) (ci := 1) (a := (ad 5)) 0 rfl rfl 1 (by decide) m0 rfl rfl dX1_restore_1 ?_
  obtain ⟨g1, hw⟩ := hw
  refine xr_if_ne C g1 9 dX1_restore_4 (by decide) (fun c2 => ?_) (fun c2 => ?_)
  · have hw := hw.1 c2
    refine xr_aload_n C 0 dX1_restore_9 rfl rfl ?_
    refine xr_dup C dX1_restore_10 rfl ?_
    refine xr_get C hinX1 (N := 3) (ci := 1) (a := (ad 5)) 0 rfl rfl 1 (by decide) m0 rfl rfl dX1_restore_11 ?_
    refine xr_iconst C dX1_restore_14 ?_
    refine xr_isub C dX1_restore_15 ?_
    refine xr_put C (r := 5) (x := ((σ 5 1) - 1)) (ty := .int) hinX1 (N := 3) (ci := 1) tyX1 tyX1_ok nmX1 0 rfl rfl 1 (by decide) m0 rfl rfl (by decide +kernel) rfl rfl (Nat.le_of_ble_eq_true rfl) rfl (by decide) dX1_restore_16 ?_
    refine xr_sig (fun σ3 e4 => ?_)
    have hw := hw σ3 e4
    refine xr_aload_n C 0 dX1_restore_19 rfl rfl ?_
    refine xr_aload_n C 0 dX1_restore_20 rfl rfl ?_
    refine xr_get C hinX1 (N := 3) (ci := 1) (a := (ad 5)) 0 rfl rfl 2 (by decide) m1 rfl rfl dX1_restore_21 ?_
    refine xr_bipush C dX1_restore_24 (by decide +kernel) ?_
    refine xr_iadd C dX1_restore_26 ?_
    refine xr_iconst C dX1_restore_27 ?_
    refine xr_isub C dX1_restore_28 ?_
    refine xr_bipush C dX1_restore_29 (by decide +kernel) ?_
    refine xr_irem C ⟨⟨by decide, by decide⟩, by decide⟩ dX1_restore_31 ?_
    refine xr_topi (fun t5 e6 => ?_)
    have hw := hw t5 e6
    refine xr_put C (r := 5) (x := t5) (ty := .int) hinX1 (N := 3) (ci := 1) tyX1 tyX1_ok nmX1 0 rfl rfl 2 (by decide) m1 rfl rfl (by decide +kernel) rfl rfl (Nat.le_of_ble_eq_true rfl) rfl (by decide) dX1_restore_32 ?_
    refine xr_sig (fun σ7 e8 => ?_)
    have hw := hw σ7 e8
    refine xr_aload_n C 1 dX1_restore_35 rfl rfl ?_
    refine xr_aload_n C 0 dX1_restore_36 rfl rfl ?_
    refine xr_get C hinX1 (N := 3) (ci := 1) (a := (ad 5)) 0 rfl rfl 0 (by decide) m2 rfl rfl dX1_restore_37 ?_
    refine xr_aload_n C 0 dX1_restore_40 rfl rfl ?_
    refine xr_get C hinX1 (N := 3) (ci := 1) (a := (ad 5)) 0 rfl rfl 2 (by decide) m1 rfl rfl dX1_restore_41 ?_
    refine xr_bipush C dX1_restore_44 (by decide +kernel) ?_
    refine xr_imul C dX1_restore_46 ?_
    refine xr_callVv C (ci := 0) (q0 := 1) (As := [.ref (ad 6), .int (i32 ((σ7 5 2) * 63))]) (rest := []) (sp_wHB_wRB ad cI cJ cZ) (by decide) (fun h => h) (mX0_copyFrom σ7 ((σ7 5 2) * 63) _ hw) (cwV 2 C.2.2.2.2.1 gX1_restore_X0_copyFrom rfl rfl rfl (by decide +kernel) ⟨by decide, by decide⟩) rfl rfl rfl rfl (Nat.le_of_ble_eq_true rfl) ⟨by decide, by decide⟩ dX1_restore_47 (fun σ10 hw => ?_)
    refine xr_iconst C dX1_restore_50 ?_
    exact xr_zret C hr (Or.inr rfl) hw dX1_restore_51
  · have hw := hw.2 c2
    refine xr_iconst C dX1_restore_7 ?_
    exact xr_zret C hr (Or.inl rfl) hw dX1_restore_8
abbrev rmX1_states : Room := { frames := 0, cells := 0, slots := 0, locals := 64 }
set_option maxHeartbeats 8000000 in
set_option maxRecDepth 100000 in
theorem mX1_states {l : Launch} {D : va_G} {ad : Nat → Nat} {cI cJ cZ : ClassId} (σ : xS) (Q : Int → xS → Prop) (hw : vX1_states σ Q) : xMi False l yX1_states wsX1_states rmX1_states D (xtys cI cJ cZ) (wHB ad cI cJ cZ) [5, 6, 7, 8] σ [.ref (ad 5)] Q := by
  refine xenter (F := [5, 6, 7, 8]) (Qc := fun sz => xQi D (wHB ad cI cJ cZ) [5, 6, 7, 8] σ sz Q) (own := RX1) (cc := cX1_states) (maxL := 1) (ret := some .int) (by decide) rfl rfl (Nat.le_of_ble_eq_true rfl) ?_
  intro p e s m args below meth c hargs C hr hnm
  have hinX1 : ∀ w ∈ u_ws RX1 TX1 3, w ∈ wsX1_states := fun _ h => List.mem_cons_of_mem _ (List.mem_append_right _ h)
  have m0 : (Cond.fieldLink RX1 15 "SandBench$History" "states" "I") ∈ wsX1_states := by decide +kernel
  show xX p l e rmX1_states s m args below meth c D vwCl (va_A ((wHB ad cI cJ cZ) σ) s.heap.size) (wHB ad cI cJ cZ) [5, 6, 7, 8] σ 0 0 (MQ below (xQi D (wHB ad cI cJ cZ) [5, 6, 7, 8] σ s.heap.size Q) args s 0 0 (va_A ((wHB ad cI cJ cZ) σ) s.heap.size)) 1 σ 0 [(0, .ref (ad 5))] []
  unfold vX1_states at hw
  refine xr_aload_n C 0 dX1_states_0 rfl rfl ?_
  refine xr_get C hinX1 (N := 3) (ci := 1) (a := (ad 5)) 0 rfl rfl 1 (by decide) m0 rfl rfl dX1_states_1 ?_
  exact xr_iret C hr hw dX1_states_4
