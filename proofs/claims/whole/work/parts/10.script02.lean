abbrev rmX3_readStep_0 : Room := { frames := 3, cells := 0, slots := 0, locals := 134 }
set_option maxHeartbeats 8000000 in
set_option maxRecDepth 100000 in
theorem mX3_readStep_0 {l : Launch} {D : va_G} {ad : Nat → Nat} {cI cJ cZ : ClassId} (σ : xS) (a1 : Int) (Q : xS → Prop) (hw : vX3_readStep RS0 a1 σ Q) : xMv False l yX3_readStep wsX3_readStep rmX3_readStep_0 D (xtys cI cJ cZ) (wS ad cI cJ cZ) [1, 2, 3, 4] σ [.ref (ad 1), .int (i32 a1)] Q := by
  refine xenter (F := [1, 2, 3, 4]) (Qc := fun sz => xQv D (wS ad cI cJ cZ) [1, 2, 3, 4] σ sz Q) (own := RX3) (cc := cX3_readStep) (maxL := 4) (ret := none) (by decide) rfl rfl (Nat.le_of_ble_eq_true rfl) ?_
  intro p e s m args below meth c hargs C hr hnm
  have hinX3 : ∀ w ∈ u_ws RX3 TX3 8, w ∈ wsX3_readStep := fun _ h => List.mem_cons_of_mem _ (List.mem_append_right _ h)
  have m0 : (Cond.fieldLink RX3 31 "SandBench$Script" "at" "I") ∈ wsX3_readStep := by decide +kernel
  have B57 : ∀ (x2 x3 : Int) (σ0 : xS), vX3_readStep_57 RS0  Q x2 x3 σ0 → xX p l e rmX3_readStep_0 s m args below meth c D vwCl (va_A ((wS ad cI cJ cZ) σ) s.heap.size) (wS ad cI cJ cZ) [1, 2, 3, 4] σ 0 0 (MQ below (xQv D (wS ad cI cJ cZ) [1, 2, 3, 4] σ s.heap.size Q) args s 0 0 (va_A ((wS ad cI cJ cZ) σ) s.heap.size)) 4 σ0 57 [(0, .ref (ad 1)), (2, .int (i32 x2)), (3, .int (i32 x3))] [] := by
    intro x2 x3 σ0 hw
    unfold vX3_readStep_57 at hw
    refine xr_aload_n C 0 dX3_readStep_57 rfl rfl ?_
    refine xr_iload_n C 1 dX3_readStep_58 rfl rfl ?_
    refine xr_iload_n C 2 dX3_readStep_59 rfl rfl ?_
    refine xr_callVv C (ci := 3) (q0 := 0) (As := [.int (i32 x2), .int (i32 x3)]) (rest := []) (xSp_rf _ _) (by decide) (fun h => h) (mX3_add σ0 x2 x3 _ hw) (cwV 2 C.2.2.2.2.1 gX3_readStep_X3_add rfl rfl rfl (by decide +kernel) ⟨by decide, by decide⟩) rfl rfl rfl rfl (Nat.le_of_ble_eq_true rfl) ⟨by decide, by decide⟩ dX3_readStep_60 (fun σ2 hw => ?_)
    exact xr_vret C hr hw dX3_readStep_63
  show xX p l e rmX3_readStep_0 s m args below meth c D vwCl (va_A ((wS ad cI cJ cZ) σ) s.heap.size) (wS ad cI cJ cZ) [1, 2, 3, 4] σ 0 0 (MQ below (xQv D (wS ad cI cJ cZ) [1, 2, 3, 4] σ s.heap.size Q) args s 0 0 (va_A ((wS ad cI cJ cZ) σ) s.heap.size)) 4 σ 0 [(0, .ref (ad 1)), (1, .int (i32 a1))] []
  unfold vX3_readStep at hw
  refine xr_aload_n C 0 dX3_readStep_0 rfl rfl ?_
  refine xr_callVi C (ci := 3) (q0 := 0) (As := []) (rest := []) (xSp_rf _ _) (by decide) (fun h => h) (mX3_peek σ _ hw) (cwV 0 C.2.2.2.2.1 gX3_readStep_X3_peek rfl rfl rfl (by decide +kernel) ⟨by decide, by decide⟩) rfl rfl rfl rfl (Nat.le_of_ble_eq_true rfl) ⟨by decide, by decide⟩ dX3_readStep_1 (fun r3 σ4 hw => ?_)
  refine xr_istore_n C [(0, .ref (ad 1)), (1, .int (i32 a1)), (2, .int (i32 r3))] dX3_readStep_4 rfl (by decide) rfl ?_
  refine xr_iload_n C 2 dX3_readStep_5 rfl rfl ?_
  refine xr_callSi C (As := [.int (i32 r3)]) (rest := []) (xSp_nil _) (by decide) (fun h => h) (mX3_isDigit σ4 r3 _ hw) (va_cwS 1 C.2.2.2.2.1 gX3_readStep_X3_isDigit rfl rfl rfl (by decide +kernel) ⟨by decide, by decide⟩) rfl rfl (Nat.le_of_ble_eq_true rfl) ⟨by decide, by decide⟩ dX3_readStep_6 (fun r5 σ6 hw => ?_)
  obtain ⟨g7, hw⟩ := hw
  refine xr_if_eq C g7 18 dX3_readStep_9 (by decide) (fun c8 => ?_) (fun c8 => ?_)
  · have hw := hw.1 c8
    refine xr_aload_n C 0 dX3_readStep_18 rfl rfl ?_
    refine xr_dup C dX3_readStep_19 rfl ?_
    refine xr_get C hinX3 (N := 8) (ci := 3) (a := (ad 1)) 0 rfl rfl 5 (by decide) m0 rfl rfl dX3_readStep_20 ?_
    refine xr_iconst C dX3_readStep_23 ?_
    refine xr_iadd C dX3_readStep_24 ?_
    refine xr_put C (r := 1) (x := ((σ6 1 5) + 1)) (ty := .int) hinX3 (N := 8) (ci := 3) tyX3 tyX3_ok nmX3 0 rfl rfl 5 (by decide) m0 rfl rfl (by decide +kernel) rfl rfl (Nat.le_of_ble_eq_true rfl) rfl (by decide) dX3_readStep_25 ?_
    refine xr_sig (fun σ9 e10 => ?_)
    have hw := hw σ9 e10
    refine xr_iconst C dX3_readStep_28 ?_
    refine xr_istore_n C [(0, .ref (ad 1)), (1, .int (i32 a1)), (2, .int (i32 r3)), (3, .int (i32 0))] dX3_readStep_29 rfl (by decide) rfl ?_
    refine xr_iload_n C 2 dX3_readStep_30 rfl rfl ?_
    refine xr_bipush C dX3_readStep_31 (by decide +kernel) ?_
    obtain ⟨g11, hw⟩ := hw
    refine xr_icmp_ne C g11 ⟨by decide, by decide⟩ 46 dX3_readStep_33 (by decide) (fun c12 => ?_) (fun c12 => ?_)
    · have hw := hw.1 c12
      refine xr_iload_n C 2 dX3_readStep_46 rfl rfl ?_
      refine xr_bipush C dX3_readStep_47 (by decide +kernel) ?_
      refine xr_icmp_eq C g11 ⟨by decide, by decide⟩ 57 dX3_readStep_49 (by decide) (fun c13 => ?_) (fun c13 => ?_)
      · have hw := hw.1 c13
        refine xr_sub C [0, 2, 3] [(0, .ref (ad 1)), (2, .int (i32 r3)), (3, .int (i32 0))] rfl ?_
        exact B57 r3 0 σ9 hw
      · have hw := hw.2 c13
        refine xr_aload_n C 0 dX3_readStep_52 rfl rfl ?_
        refine xr_callVi C (ci := 3) (q0 := 0) (As := []) (rest := []) (xSp_rf _ _) (by decide) (fun h => h) (mX3_readGlass σ9 _ hw) (cwV 0 C.2.2.2.2.1 gX3_readStep_X3_readGlass rfl rfl rfl (by decide +kernel) ⟨by decide, by decide⟩) rfl rfl rfl rfl (Nat.le_of_ble_eq_true rfl) ⟨by decide, by decide⟩ dX3_readStep_53 (fun r14 σ15 hw => ?_)
        refine xr_istore_n C [(0, .ref (ad 1)), (1, .int (i32 a1)), (2, .int (i32 r3)), (3, .int (i32 r14))] dX3_readStep_56 rfl (by decide) rfl ?_
        refine xr_sub C [0, 2, 3] [(0, .ref (ad 1)), (2, .int (i32 r3)), (3, .int (i32 r14))] rfl ?_
        exact B57 r3 r14 σ15 hw
    · have hw := hw.2 c12
      refine xr_aload_n C 0 dX3_readStep_36 rfl rfl ?_
      refine xr_bipush C dX3_readStep_37 (by decide +kernel) ?_
      refine xr_callVi C (ci := 3) (q0 := 0) (As := [.int (i32 99)]) (rest := []) (xSp_rf _ _) (by decide) (fun h => h) (mX3_readNumber σ9 99 _ hw) (cwV 1 C.2.2.2.2.1 gX3_readStep_X3_readNumber rfl rfl rfl (by decide +kernel) ⟨by decide, by decide⟩) rfl rfl rfl rfl (Nat.le_of_ble_eq_true rfl) ⟨by decide, by decide⟩ dX3_readStep_39 (fun r16 σ17 hw => ?_)
      refine xr_istore_n C [(0, .ref (ad 1)), (1, .int (i32 a1)), (2, .int (i32 r3)), (3, .int (i32 r16))] dX3_readStep_42 rfl (by decide) rfl ?_
      refine xr_goto C 57 dX3_readStep_43 (by decide) ?_
      refine xr_sub C [0, 2, 3] [(0, .ref (ad 1)), (2, .int (i32 r3)), (3, .int (i32 r16))] rfl ?_
      exact B57 r3 r16 σ17 hw
  · have hw := hw.2 c8
    refine xr_aload_n C 0 dX3_readStep_12 rfl rfl ?_
    refine xr_iload_n C 1 dX3_readStep_13 rfl rfl ?_
    refine xr_callVv C (ci := 3) (q0 := 0) (As := [.int (i32 a1)]) (rest := []) (xSp_rf _ _) (by decide) (fun h => h) (mX3_readRepeat_0 σ6 a1 _ hw) (cwV 1 C.2.2.2.2.1 gX3_readStep_X3_readRepeat rfl rfl rfl (by decide +kernel) ⟨by decide, by decide⟩) rfl rfl rfl rfl (Nat.le_of_ble_eq_true rfl) ⟨by decide, by decide⟩ dX3_readStep_14 (fun σ19 hw => ?_)
    exact xr_vret C hr hw dX3_readStep_17
abbrev rmX3_readSteps_0 : Room := { frames := 4, cells := 0, slots := 0, locals := 157 }
set_option maxHeartbeats 8000000 in
set_option maxRecDepth 100000 in
theorem mX3_readSteps_0 {l : Launch} {D : va_G} {ad : Nat → Nat} {cI cJ cZ : ClassId} (σ : xS) (a1 : Int) (Q : xS → Prop) (hw : vX3_readSteps RS0 a1 σ Q) : xMv False l yX3_readSteps wsX3_readSteps rmX3_readSteps_0 D (xtys cI cJ cZ) (wS ad cI cJ cZ) [1, 2, 3, 4] σ [.ref (ad 1), .int (i32 a1)] Q := by
  refine xenter (F := [1, 2, 3, 4]) (Qc := fun sz => xQv D (wS ad cI cJ cZ) [1, 2, 3, 4] σ sz Q) (own := RX3) (cc := cX3_readSteps) (maxL := 3) (ret := none) (by decide) rfl rfl (Nat.le_of_ble_eq_true rfl) ?_
  intro p e s m args below meth c hargs C hr hnm
  have hinX3 : ∀ w ∈ u_ws RX3 TX3 8, w ∈ wsX3_readSteps := fun _ h => List.mem_cons_of_mem _ (List.mem_append_right _ h)
  have m0 : (Cond.fieldLink RX3 34 "SandBench$Script" "fault" "I") ∈ wsX3_readSteps := by decide +kernel
  have L2 : ∀ a, mu (vX3_readSteps_2 RS0  Q) a → xX p l e rmX3_readSteps_0 s m args below meth c D vwCl (va_A ((wS ad cI cJ cZ) σ) s.heap.size) (wS ad cI cJ cZ) [1, 2, 3, 4] σ 0 0 (MQ below (xQv D (wS ad cI cJ cZ) [1, 2, 3, 4] σ s.heap.size Q) args s 0 0 (va_A ((wS ad cI cJ cZ) σ) s.heap.size)) 3 (a.2.2) 2 [(0, .ref (ad 1)), (1, .int (i32 (a.1))), (2, .int (i32 (a.2.1)))] [] := by
    refine mu_ind (fun K2 hK2 a hw => ?_)
    obtain ⟨x1, x2, σ0⟩ := a
    show xX p l e rmX3_readSteps_0 s m args below meth c D vwCl (va_A ((wS ad cI cJ cZ) σ) s.heap.size) (wS ad cI cJ cZ) [1, 2, 3, 4] σ 0 0 (MQ below (xQv D (wS ad cI cJ cZ) [1, 2, 3, 4] σ s.heap.size Q) args s 0 0 (va_A ((wS ad cI cJ cZ) σ) s.heap.size)) 3 σ0 2 [(0, .ref (ad 1)), (1, .int (i32 x1)), (2, .int (i32 x2))] []
    unfold vX3_readSteps_2 at hw
    refine xr_iload_n C 2 dX3_readSteps_2 rfl rfl ?_
    refine xr_bipush C dX3_readSteps_3 (by decide +kernel) ?_
    obtain ⟨g1, hw⟩ := hw
    refine xr_icmp_ge C g1 ⟨by decide, by decide⟩ 40 dX3_readSteps_5 (by decide) (fun c2 => ?_) (fun c2 => ?_)
    · have hw := hw.1 c2
      exact xr_vret C hr hw dX3_readSteps_40
    · have hw := hw.2 c2
      refine xr_aload_n C 0 dX3_readSteps_8 rfl rfl ?_
      refine xr_get C hinX3 (N := 8) (ci := 3) (a := (ad 1)) 0 rfl rfl 6 (by decide) m0 rfl rfl dX3_readSteps_9 ?_
      refine xr_iconst C dX3_readSteps_12 ?_
      obtain ⟨g3, hw⟩ := hw
      refine xr_icmp_ne C g3 ⟨by decide, by decide⟩ 40 dX3_readSteps_13 (by decide) (fun c4 => ?_) (fun c4 => ?_)
      · have hw := hw.1 c4
        exact xr_vret C hr hw dX3_readSteps_40
      · have hw := hw.2 c4
        refine xr_aload_n C 0 dX3_readSteps_16 rfl rfl ?_
        refine xr_callVi C (ci := 3) (q0 := 0) (As := []) (rest := []) (xSp_rf _ _) (by decide) (fun h => h) (mX3_isStepAhead σ0 _ hw) (cwV 0 C.2.2.2.2.1 gX3_readSteps_X3_isStepAhead rfl rfl rfl (by decide +kernel) ⟨by decide, by decide⟩) rfl rfl rfl rfl (Nat.le_of_ble_eq_true rfl) ⟨by decide, by decide⟩ dX3_readSteps_17 (fun r5 σ6 hw => ?_)
        obtain ⟨g7, hw⟩ := hw
        refine xr_if_eq C g7 40 dX3_readSteps_20 (by decide) (fun c8 => ?_) (fun c8 => ?_)
        · have hw := hw.1 c8
          exact xr_vret C hr hw dX3_readSteps_40
        · have hw := hw.2 c8
          refine xr_aload_n C 0 dX3_readSteps_23 rfl rfl ?_
          refine xr_iload_n C 1 dX3_readSteps_24 rfl rfl ?_
          refine xr_callVv C (ci := 3) (q0 := 0) (As := [.int (i32 x1)]) (rest := []) (xSp_rf _ _) (by decide) (fun h => h) (mX3_readStep_0 σ6 x1 _ hw) (cwV 1 C.2.2.2.2.1 gX3_readSteps_X3_readStep rfl rfl rfl (by decide +kernel) ⟨by decide, by decide⟩) rfl rfl rfl rfl (Nat.le_of_ble_eq_true rfl) ⟨by decide, by decide⟩ dX3_readSteps_25 (fun σ10 hw => ?_)
          refine xr_aload_n C 0 dX3_readSteps_28 rfl rfl ?_
          refine xr_bipush C dX3_readSteps_29 (by decide +kernel) ?_
          refine xr_callVv C (ci := 3) (q0 := 0) (As := [.int (i32 59)]) (rest := []) (xSp_rf _ _) (by decide) (fun h => h) (mX3_expect σ10 59 _ hw) (cwV 1 C.2.2.2.2.1 gX3_readSteps_X3_expect rfl rfl rfl (by decide +kernel) ⟨by decide, by decide⟩) rfl rfl rfl rfl (Nat.le_of_ble_eq_true rfl) ⟨by decide, by decide⟩ dX3_readSteps_31 (fun σ12 hw => ?_)
          refine xr_iinc C 2 [(0, .ref (ad 1)), (1, .int (i32 x1)), (2, .int (i32 (x2 + 1)))] dX3_readSteps_34 rfl (by decide) rfl ?_
          refine xr_goto C 2 dX3_readSteps_37 (by decide) ?_
          exact hK2 (x1, (x2 + 1), σ12) hw
  show xX p l e rmX3_readSteps_0 s m args below meth c D vwCl (va_A ((wS ad cI cJ cZ) σ) s.heap.size) (wS ad cI cJ cZ) [1, 2, 3, 4] σ 0 0 (MQ below (xQv D (wS ad cI cJ cZ) [1, 2, 3, 4] σ s.heap.size Q) args s 0 0 (va_A ((wS ad cI cJ cZ) σ) s.heap.size)) 3 σ 0 [(0, .ref (ad 1)), (1, .int (i32 a1))] []
  unfold vX3_readSteps at hw
  refine xr_iconst C dX3_readSteps_0 ?_
  refine xr_istore_n C [(0, .ref (ad 1)), (1, .int (i32 a1)), (2, .int (i32 0))] dX3_readSteps_1 rfl (by decide) rfl ?_
  exact L2 (a1, 0, σ) hw
abbrev rmX3_readRepeat_1 : Room := { frames := 5, cells := 0, slots := 0, locals := 179 }
set_option maxHeartbeats 8000000 in
set_option maxRecDepth 100000 in
theorem mX3_readRepeat_1 {l : Launch} {D : va_G} {ad : Nat → Nat} {cI cJ cZ : ClassId} (σ : xS) (a1 : Int) (Q : xS → Prop) (hw : vX3_readRepeat RS1 a1 σ Q) : xMv False l yX3_readRepeat wsX3_readRepeat rmX3_readRepeat_1 D (xtys cI cJ cZ) (wS ad cI cJ cZ) [1, 2, 3, 4] σ [.ref (ad 1), .int (i32 a1)] Q := by
  refine xenter (F := [1, 2, 3, 4]) (Qc := fun sz => xQv D (wS ad cI cJ cZ) [1, 2, 3, 4] σ sz Q) (own := RX3) (cc := cX3_readRepeat) (maxL := 4) (ret := none) (by decide) rfl rfl (Nat.le_of_ble_eq_true rfl) ?_
  intro p e s m args below meth c hargs C hr hnm
  have hinX3 : ∀ w ∈ u_ws RX3 TX3 8, w ∈ wsX3_readRepeat := fun _ h => List.mem_cons_of_mem _ (List.mem_append_right _ h)
  have m0 : (Cond.fieldLink RX3 25 "SandBench$Script" "steps" "I") ∈ wsX3_readRepeat := by decide +kernel
  have m1 : (Cond.fieldLink RX3 34 "SandBench$Script" "fault" "I") ∈ wsX3_readRepeat := by decide +kernel
  have m2 : (Cond.fieldLink RX3 31 "SandBench$Script" "at" "I") ∈ wsX3_readRepeat := by decide +kernel
  have B59 : ∀ (x2 x3 : Int) (σ0 : xS), vX3_readRepeat_59 RS1  Q x2 x3 σ0 → xX p l e rmX3_readRepeat_1 s m args below meth c D vwCl (va_A ((wS ad cI cJ cZ) σ) s.heap.size) (wS ad cI cJ cZ) [1, 2, 3, 4] σ 0 0 (MQ below (xQv D (wS ad cI cJ cZ) [1, 2, 3, 4] σ s.heap.size Q) args s 0 0 (va_A ((wS ad cI cJ cZ) σ) s.heap.size)) 4 σ0 59 [(0, .ref (ad 1)), (2, .int (i32 x2)), (3, .int (i32 x3))] [] := by
    intro x2 x3 σ0 hw
    unfold vX3_readRepeat_59 at hw
    refine xr_aload_n C 0 dX3_readRepeat_59 rfl rfl ?_
    refine xr_bipush C dX3_readRepeat_60 (by decide +kernel) ?_
    refine xr_callVv C (ci := 3) (q0 := 0) (As := [.int (i32 41)]) (rest := []) (xSp_rf _ _) (by decide) (fun h => h) (mX3_expect σ0 41 _ hw) (cwV 1 C.2.2.2.2.1 gX3_readRepeat_X3_expect rfl rfl rfl (by decide +kernel) ⟨by decide, by decide⟩) rfl rfl rfl rfl (Nat.le_of_ble_eq_true rfl) ⟨by decide, by decide⟩ dX3_readRepeat_62 (fun σ2 hw => ?_)
    refine xr_aload_n C 0 dX3_readRepeat_65 rfl rfl ?_
    refine xr_iload_n C 2 dX3_readRepeat_66 rfl rfl ?_
    refine xr_iload_n C 1 dX3_readRepeat_67 rfl rfl ?_
    refine xr_callVv C (ci := 3) (q0 := 0) (As := [.int (i32 x3), .int (i32 x2)]) (rest := []) (xSp_rf _ _) (by decide) (fun h => h) (mX3_repeat σ2 x3 x2 _ hw) (cwV 2 C.2.2.2.2.1 gX3_readRepeat_X3_repeat rfl rfl rfl (by decide +kernel) ⟨by decide, by decide⟩) rfl rfl rfl rfl (Nat.le_of_ble_eq_true rfl) ⟨by decide, by decide⟩ dX3_readRepeat_68 (fun σ4 hw => ?_)
    exact xr_vret C hr hw dX3_readRepeat_71
  have B33 : ∀ (x1 x2 : Int) (σ0 : xS), vX3_readRepeat_33 RS1  Q x1 x2 σ0 → xX p l e rmX3_readRepeat_1 s m args below meth c D vwCl (va_A ((wS ad cI cJ cZ) σ) s.heap.size) (wS ad cI cJ cZ) [1, 2, 3, 4] σ 0 0 (MQ below (xQv D (wS ad cI cJ cZ) [1, 2, 3, 4] σ s.heap.size Q) args s 0 0 (va_A ((wS ad cI cJ cZ) σ) s.heap.size)) 4 σ0 33 [(0, .ref (ad 1)), (1, .int (i32 x1)), (2, .int (i32 x2))] [] := by
    intro x1 x2 σ0 hw
    unfold vX3_readRepeat_33 at hw
    refine xr_aload_n C 0 dX3_readRepeat_33 rfl rfl ?_
    refine xr_bipush C dX3_readRepeat_34 (by decide +kernel) ?_
    refine xr_callVv C (ci := 3) (q0 := 0) (As := [.int (i32 40)]) (rest := []) (xSp_rf _ _) (by decide) (fun h => h) (mX3_expect σ0 40 _ hw) (cwV 1 C.2.2.2.2.1 gX3_readRepeat_X3_expect rfl rfl rfl (by decide +kernel) ⟨by decide, by decide⟩) rfl rfl rfl rfl (Nat.le_of_ble_eq_true rfl) ⟨by decide, by decide⟩ dX3_readRepeat_36 (fun σ6 hw => ?_)
    refine xr_aload_n C 0 dX3_readRepeat_39 rfl rfl ?_
    refine xr_get C hinX3 (N := 8) (ci := 3) (a := (ad 1)) 0 rfl rfl 4 (by decide) m0 rfl rfl dX3_readRepeat_40 ?_
    refine xr_istore_n C [(0, .ref (ad 1)), (1, .int (i32 x1)), (2, .int (i32 x2)), (3, .int (i32 (σ6 1 4)))] dX3_readRepeat_43 rfl (by decide) rfl ?_
    refine xr_aload_n C 0 dX3_readRepeat_44 rfl rfl ?_
    refine xr_get C hinX3 (N := 8) (ci := 3) (a := (ad 1)) 0 rfl rfl 6 (by decide) m1 rfl rfl dX3_readRepeat_45 ?_
    refine xr_iconst C dX3_readRepeat_48 ?_
    obtain ⟨g7, hw⟩ := hw
    refine xr_icmp_ne C g7 ⟨by decide, by decide⟩ 59 dX3_readRepeat_49 (by decide) (fun c8 => ?_) (fun c8 => ?_)
    · have hw := hw.1 c8
      refine xr_sub C [0, 2, 3] [(0, .ref (ad 1)), (2, .int (i32 x2)), (3, .int (i32 (σ6 1 4)))] rfl ?_
      exact B59 x2 (σ6 1 4) σ6 hw
    · have hw := hw.2 c8
      refine xr_aload_n C 0 dX3_readRepeat_52 rfl rfl ?_
      refine xr_iload_n C 1 dX3_readRepeat_53 rfl rfl ?_
      refine xr_iconst C dX3_readRepeat_54 ?_
      refine xr_iadd C dX3_readRepeat_55 ?_
      refine xr_callVv C (ci := 3) (q0 := 0) (As := [.int (i32 (x1 + 1))]) (rest := []) (xSp_rf _ _) (by decide) (fun h => h) (mX3_readSteps_0 σ6 (x1 + 1) _ hw) (cwV 1 C.2.2.2.2.1 gX3_readRepeat_X3_readSteps rfl rfl rfl (by decide +kernel) ⟨by decide, by decide⟩) rfl rfl rfl rfl (Nat.le_of_ble_eq_true rfl) ⟨by decide, by decide⟩ dX3_readRepeat_56 (fun σ10 hw => ?_)
      refine xr_sub C [0, 2, 3] [(0, .ref (ad 1)), (2, .int (i32 x2)), (3, .int (i32 (σ6 1 4)))] rfl ?_
      exact B59 x2 (σ6 1 4) σ10 hw
  show xX p l e rmX3_readRepeat_1 s m args below meth c D vwCl (va_A ((wS ad cI cJ cZ) σ) s.heap.size) (wS ad cI cJ cZ) [1, 2, 3, 4] σ 0 0 (MQ below (xQv D (wS ad cI cJ cZ) [1, 2, 3, 4] σ s.heap.size Q) args s 0 0 (va_A ((wS ad cI cJ cZ) σ) s.heap.size)) 4 σ 0 [(0, .ref (ad 1)), (1, .int (i32 a1))] []
  unfold vX3_readRepeat at hw
  refine xr_aload_n C 0 dX3_readRepeat_0 rfl rfl ?_
  refine xr_bipush C dX3_readRepeat_1 (by decide +kernel) ?_
  refine xr_callVi C (ci := 3) (q0 := 0) (As := [.int (i32 20)]) (rest := []) (xSp_rf _ _) (by decide) (fun h => h) (mX3_readNumber σ 20 _ hw) (cwV 1 C.2.2.2.2.1 gX3_readRepeat_X3_readNumber rfl rfl rfl (by decide +kernel) ⟨by decide, by decide⟩) rfl rfl rfl rfl (Nat.le_of_ble_eq_true rfl) ⟨by decide, by decide⟩ dX3_readRepeat_3 (fun r11 σ12 hw => ?_)
  refine xr_istore_n C [(0, .ref (ad 1)), (1, .int (i32 a1)), (2, .int (i32 r11))] dX3_readRepeat_6 rfl (by decide) rfl ?_
  refine xr_aload_n C 0 dX3_readRepeat_7 rfl rfl ?_
  refine xr_get C hinX3 (N := 8) (ci := 3) (a := (ad 1)) 0 rfl rfl 6 (by decide) m1 rfl rfl dX3_readRepeat_8 ?_
  refine xr_iconst C dX3_readRepeat_11 ?_
  obtain ⟨g13, hw⟩ := hw
  refine xr_icmp_ne C g13 ⟨by decide, by decide⟩ 33 dX3_readRepeat_12 (by decide) (fun c14 => ?_) (fun c14 => ?_)
  · have hw := hw.1 c14
    exact B33 a1 r11 σ12 hw
  · have hw := hw.2 c14
    refine xr_iload_n C 1 dX3_readRepeat_15 rfl rfl ?_
    refine xr_iconst C dX3_readRepeat_16 ?_
    obtain ⟨g15, hw⟩ := hw
    refine xr_icmp_ne C g15 ⟨by decide, by decide⟩ 33 dX3_readRepeat_17 (by decide) (fun c16 => ?_) (fun c16 => ?_)
    · have hw := hw.1 c16
      exact B33 a1 r11 σ12 hw
    · have hw := hw.2 c16
      refine xr_aload_n C 0 dX3_readRepeat_20 rfl rfl ?_
      refine xr_callVi C (ci := 3) (q0 := 0) (As := []) (rest := []) (xSp_rf _ _) (by decide) (fun h => h) (mX3_peek σ12 _ hw) (cwV 0 C.2.2.2.2.1 gX3_readRepeat_X3_peek rfl rfl rfl (by decide +kernel) ⟨by decide, by decide⟩) rfl rfl rfl rfl (Nat.le_of_ble_eq_true rfl) ⟨by decide, by decide⟩ dX3_readRepeat_21 (fun r17 σ18 hw => ?_)
      refine xr_pop C dX3_readRepeat_24 rfl ?_
      refine xr_aload_n C 0 dX3_readRepeat_25 rfl rfl ?_
      refine xr_aload_n C 0 dX3_readRepeat_26 rfl rfl ?_
      refine xr_get C hinX3 (N := 8) (ci := 3) (a := (ad 1)) 0 rfl rfl 5 (by decide) m2 rfl rfl dX3_readRepeat_27 ?_
      refine xr_put C (r := 1) (x := (σ18 1 5)) (ty := .int) hinX3 (N := 8) (ci := 3) tyX3 tyX3_ok nmX3 0 rfl rfl 6 (by decide) m1 rfl rfl (by decide +kernel) rfl rfl (Nat.le_of_ble_eq_true rfl) rfl (by decide) dX3_readRepeat_30 ?_
      refine xr_sig (fun σ19 e20 => ?_)
      have hw := hw σ19 e20
      exact B33 a1 r11 σ19 hw
abbrev rmX3_readStep_1 : Room := { frames := 6, cells := 0, slots := 0, locals := 202 }
set_option maxHeartbeats 8000000 in
set_option maxRecDepth 100000 in
theorem mX3_readStep_1 {l : Launch} {D : va_G} {ad : Nat → Nat} {cI cJ cZ : ClassId} (σ : xS) (a1 : Int) (Q : xS → Prop) (hw : vX3_readStep RS1 a1 σ Q) : xMv False l yX3_readStep wsX3_readStep rmX3_readStep_1 D (xtys cI cJ cZ) (wS ad cI cJ cZ) [1, 2, 3, 4] σ [.ref (ad 1), .int (i32 a1)] Q := by
  refine xenter (F := [1, 2, 3, 4]) (Qc := fun sz => xQv D (wS ad cI cJ cZ) [1, 2, 3, 4] σ sz Q) (own := RX3) (cc := cX3_readStep) (maxL := 4) (ret := none) (by decide) rfl rfl (Nat.le_of_ble_eq_true rfl) ?_
  intro p e s m args below meth c hargs C hr hnm
  have hinX3 : ∀ w ∈ u_ws RX3 TX3 8, w ∈ wsX3_readStep := fun _ h => List.mem_cons_of_mem _ (List.mem_append_right _ h)
  have m0 : (Cond.fieldLink RX3 31 "SandBench$Script" "at" "I") ∈ wsX3_readStep := by decide +kernel
  have B57 : ∀ (x2 x3 : Int) (σ0 : xS), vX3_readStep_57 RS1  Q x2 x3 σ0 → xX p l e rmX3_readStep_1 s m args below meth c D vwCl (va_A ((wS ad cI cJ cZ) σ) s.heap.size) (wS ad cI cJ cZ) [1, 2, 3, 4] σ 0 0 (MQ below (xQv D (wS ad cI cJ cZ) [1, 2, 3, 4] σ s.heap.size Q) args s 0 0 (va_A ((wS ad cI cJ cZ) σ) s.heap.size)) 4 σ0 57 [(0, .ref (ad 1)), (2, .int (i32 x2)), (3, .int (i32 x3))] [] := by
    intro x2 x3 σ0 hw
    unfold vX3_readStep_57 at hw
    refine xr_aload_n C 0 dX3_readStep_57 rfl rfl ?_
    refine xr_iload_n C 1 dX3_readStep_58 rfl rfl ?_
    refine xr_iload_n C 2 dX3_readStep_59 rfl rfl ?_
    refine xr_callVv C (ci := 3) (q0 := 0) (As := [.int (i32 x2), .int (i32 x3)]) (rest := []) (xSp_rf _ _) (by decide) (fun h => h) (mX3_add σ0 x2 x3 _ hw) (cwV 2 C.2.2.2.2.1 gX3_readStep_X3_add rfl rfl rfl (by decide +kernel) ⟨by decide, by decide⟩) rfl rfl rfl rfl (Nat.le_of_ble_eq_true rfl) ⟨by decide, by decide⟩ dX3_readStep_60 (fun σ2 hw => ?_)
    exact xr_vret C hr hw dX3_readStep_63
  show xX p l e rmX3_readStep_1 s m args below meth c D vwCl (va_A ((wS ad cI cJ cZ) σ) s.heap.size) (wS ad cI cJ cZ) [1, 2, 3, 4] σ 0 0 (MQ below (xQv D (wS ad cI cJ cZ) [1, 2, 3, 4] σ s.heap.size Q) args s 0 0 (va_A ((wS ad cI cJ cZ) σ) s.heap.size)) 4 σ 0 [(0, .ref (ad 1)), (1, .int (i32 a1))] []
  unfold vX3_readStep at hw
  refine xr_aload_n C 0 dX3_readStep_0 rfl rfl ?_
  refine xr_callVi C (ci := 3) (q0 := 0) (As := []) (rest := []) (xSp_rf _ _) (by decide) (fun h => h) (mX3_peek σ _ hw) (cwV 0 C.2.2.2.2.1 gX3_readStep_X3_peek rfl rfl rfl (by decide +kernel) ⟨by decide, by decide⟩) rfl rfl rfl rfl (Nat.le_of_ble_eq_true rfl) ⟨by decide, by decide⟩ dX3_readStep_1 (fun r3 σ4 hw => ?_)
  refine xr_istore_n C [(0, .ref (ad 1)), (1, .int (i32 a1)), (2, .int (i32 r3))] dX3_readStep_4 rfl (by decide) rfl ?_
  refine xr_iload_n C 2 dX3_readStep_5 rfl rfl ?_
  refine xr_callSi C (As := [.int (i32 r3)]) (rest := []) (xSp_nil _) (by decide) (fun h => h) (mX3_isDigit σ4 r3 _ hw) (va_cwS 1 C.2.2.2.2.1 gX3_readStep_X3_isDigit rfl rfl rfl (by decide +kernel) ⟨by decide, by decide⟩) rfl rfl (Nat.le_of_ble_eq_true rfl) ⟨by decide, by decide⟩ dX3_readStep_6 (fun r5 σ6 hw => ?_)
  obtain ⟨g7, hw⟩ := hw
  refine xr_if_eq C g7 18 dX3_readStep_9 (by decide) (fun c8 => ?_) (fun c8 => ?_)
  · have hw := hw.1 c8
    refine xr_aload_n C 0 dX3_readStep_18 rfl rfl ?_
    refine xr_dup C dX3_readStep_19 rfl ?_
    refine xr_get C hinX3 (N := 8) (ci := 3) (a := (ad 1)) 0 rfl rfl 5 (by decide) m0 rfl rfl dX3_readStep_20 ?_
    refine xr_iconst C dX3_readStep_23 ?_
    refine xr_iadd C dX3_readStep_24 ?_
    refine xr_put C (r := 1) (x := ((σ6 1 5) + 1)) (ty := .int) hinX3 (N := 8) (ci := 3) tyX3 tyX3_ok nmX3 0 rfl rfl 5 (by decide) m0 rfl rfl (by decide +kernel) rfl rfl (Nat.le_of_ble_eq_true rfl) rfl (by decide) dX3_readStep_25 ?_
    refine xr_sig (fun σ9 e10 => ?_)
    have hw := hw σ9 e10
    refine xr_iconst C dX3_readStep_28 ?_
    refine xr_istore_n C [(0, .ref (ad 1)), (1, .int (i32 a1)), (2, .int (i32 r3)), (3, .int (i32 0))] dX3_readStep_29 rfl (by decide) rfl ?_
    refine xr_iload_n C 2 dX3_readStep_30 rfl rfl ?_
    refine xr_bipush C dX3_readStep_31 (by decide +kernel) ?_
    obtain ⟨g11, hw⟩ := hw
    refine xr_icmp_ne C g11 ⟨by decide, by decide⟩ 46 dX3_readStep_33 (by decide) (fun c12 => ?_) (fun c12 => ?_)
    · have hw := hw.1 c12
      refine xr_iload_n C 2 dX3_readStep_46 rfl rfl ?_
      refine xr_bipush C dX3_readStep_47 (by decide +kernel) ?_
      refine xr_icmp_eq C g11 ⟨by decide, by decide⟩ 57 dX3_readStep_49 (by decide) (fun c13 => ?_) (fun c13 => ?_)
      · have hw := hw.1 c13
        refine xr_sub C [0, 2, 3] [(0, .ref (ad 1)), (2, .int (i32 r3)), (3, .int (i32 0))] rfl ?_
        exact B57 r3 0 σ9 hw
      · have hw := hw.2 c13
        refine xr_aload_n C 0 dX3_readStep_52 rfl rfl ?_
        refine xr_callVi C (ci := 3) (q0 := 0) (As := []) (rest := []) (xSp_rf _ _) (by decide) (fun h => h) (mX3_readGlass σ9 _ hw) (cwV 0 C.2.2.2.2.1 gX3_readStep_X3_readGlass rfl rfl rfl (by decide +kernel) ⟨by decide, by decide⟩) rfl rfl rfl rfl (Nat.le_of_ble_eq_true rfl) ⟨by decide, by decide⟩ dX3_readStep_53 (fun r14 σ15 hw => ?_)
        refine xr_istore_n C [(0, .ref (ad 1)), (1, .int (i32 a1)), (2, .int (i32 r3)), (3, .int (i32 r14))] dX3_readStep_56 rfl (by decide) rfl ?_
        refine xr_sub C [0, 2, 3] [(0, .ref (ad 1)), (2, .int (i32 r3)), (3, .int (i32 r14))] rfl ?_
        exact B57 r3 r14 σ15 hw
    · have hw := hw.2 c12
      refine xr_aload_n C 0 dX3_readStep_36 rfl rfl ?_
      refine xr_bipush C dX3_readStep_37 (by decide +kernel) ?_
      refine xr_callVi C (ci := 3) (q0 := 0) (As := [.int (i32 99)]) (rest := []) (xSp_rf _ _) (by decide) (fun h => h) (mX3_readNumber σ9 99 _ hw) (cwV 1 C.2.2.2.2.1 gX3_readStep_X3_readNumber rfl rfl rfl (by decide +kernel) ⟨by decide, by decide⟩) rfl rfl rfl rfl (Nat.le_of_ble_eq_true rfl) ⟨by decide, by decide⟩ dX3_readStep_39 (fun r16 σ17 hw => ?_)
      refine xr_istore_n C [(0, .ref (ad 1)), (1, .int (i32 a1)), (2, .int (i32 r3)), (3, .int (i32 r16))] dX3_readStep_42 rfl (by decide) rfl ?_
      refine xr_goto C 57 dX3_readStep_43 (by decide) ?_
      refine xr_sub C [0, 2, 3] [(0, .ref (ad 1)), (2, .int (i32 r3)), (3, .int (i32 r16))] rfl ?_
      exact B57 r3 r16 σ17 hw
  · have hw := hw.2 c8
    refine xr_aload_n C 0 dX3_readStep_12 rfl rfl ?_
    refine xr_iload_n C 1 dX3_readStep_13 rfl rfl ?_
    refine xr_callVv C (ci := 3) (q0 := 0) (As := [.int (i32 a1)]) (rest := []) (xSp_rf _ _) (by decide) (fun h => h) (mX3_readRepeat_1 σ6 a1 _ hw) (cwV 1 C.2.2.2.2.1 gX3_readStep_X3_readRepeat rfl rfl rfl (by decide +kernel) ⟨by decide, by decide⟩) rfl rfl rfl rfl (Nat.le_of_ble_eq_true rfl) ⟨by decide, by decide⟩ dX3_readStep_14 (fun σ19 hw => ?_)
    exact xr_vret C hr hw dX3_readStep_17
abbrev rmX3_readSteps_1 : Room := { frames := 7, cells := 0, slots := 0, locals := 225 }
set_option maxHeartbeats 8000000 in
set_option maxRecDepth 100000 in
theorem mX3_readSteps_1 {l : Launch} {D : va_G} {ad : Nat → Nat} {cI cJ cZ : ClassId} (σ : xS) (a1 : Int) (Q : xS → Prop) (hw : vX3_readSteps RS1 a1 σ Q) : xMv False l yX3_readSteps wsX3_readSteps rmX3_readSteps_1 D (xtys cI cJ cZ) (wS ad cI cJ cZ) [1, 2, 3, 4] σ [.ref (ad 1), .int (i32 a1)] Q := by
  refine xenter (F := [1, 2, 3, 4]) (Qc := fun sz => xQv D (wS ad cI cJ cZ) [1, 2, 3, 4] σ sz Q) (own := RX3) (cc := cX3_readSteps) (maxL := 3) (ret := none) (by decide) rfl rfl (Nat.le_of_ble_eq_true rfl) ?_
  intro p e s m args below meth c hargs C hr hnm
  have hinX3 : ∀ w ∈ u_ws RX3 TX3 8, w ∈ wsX3_readSteps := fun _ h => List.mem_cons_of_mem _ (List.mem_append_right _ h)
  have m0 : (Cond.fieldLink RX3 34 "SandBench$Script" "fault" "I") ∈ wsX3_readSteps := by decide +kernel
  have L2 : ∀ a, mu (vX3_readSteps_2 RS1  Q) a → xX p l e rmX3_readSteps_1 s m args below meth c D vwCl (va_A ((wS ad cI cJ cZ) σ) s.heap.size) (wS ad cI cJ cZ) [1, 2, 3, 4] σ 0 0 (MQ below (xQv D (wS ad cI cJ cZ) [1, 2, 3, 4] σ s.heap.size Q) args s 0 0 (va_A ((wS ad cI cJ cZ) σ) s.heap.size)) 3 (a.2.2) 2 [(0, .ref (ad 1)), (1, .int (i32 (a.1))), (2, .int (i32 (a.2.1)))] [] := by
    refine mu_ind (fun K2 hK2 a hw => ?_)
    obtain ⟨x1, x2, σ0⟩ := a
    show xX p l e rmX3_readSteps_1 s m args below meth c D vwCl (va_A ((wS ad cI cJ cZ) σ) s.heap.size) (wS ad cI cJ cZ) [1, 2, 3, 4] σ 0 0 (MQ below (xQv D (wS ad cI cJ cZ) [1, 2, 3, 4] σ s.heap.size Q) args s 0 0 (va_A ((wS ad cI cJ cZ) σ) s.heap.size)) 3 σ0 2 [(0, .ref (ad 1)), (1, .int (i32 x1)), (2, .int (i32 x2))] []
    unfold vX3_readSteps_2 at hw
    refine xr_iload_n C 2 dX3_readSteps_2 rfl rfl ?_
    refine xr_bipush C dX3_readSteps_3 (by decide +kernel) ?_
    obtain ⟨g1, hw⟩ := hw
    refine xr_icmp_ge C g1 ⟨by decide, by decide⟩ 40 dX3_readSteps_5 (by decide) (fun c2 => ?_) (fun c2 => ?_)
    · have hw := hw.1 c2
      exact xr_vret C hr hw dX3_readSteps_40
    · have hw := hw.2 c2
      refine xr_aload_n C 0 dX3_readSteps_8 rfl rfl ?_
      refine xr_get C hinX3 (N := 8) (ci := 3) (a := (ad 1)) 0 rfl rfl 6 (by decide) m0 rfl rfl dX3_readSteps_9 ?_
      refine xr_iconst C dX3_readSteps_12 ?_
      obtain ⟨g3, hw⟩ := hw
      refine xr_icmp_ne C g3 ⟨by decide, by decide⟩ 40 dX3_readSteps_13 (by decide) (fun c4 => ?_) (fun c4 => ?_)
      · have hw := hw.1 c4
        exact xr_vret C hr hw dX3_readSteps_40
      · have hw := hw.2 c4
        refine xr_aload_n C 0 dX3_readSteps_16 rfl rfl ?_
        refine xr_callVi C (ci := 3) (q0 := 0) (As := []) (rest := []) (xSp_rf _ _) (by decide) (fun h => h) (mX3_isStepAhead σ0 _ hw) (cwV 0 C.2.2.2.2.1 gX3_readSteps_X3_isStepAhead rfl rfl rfl (by decide +kernel) ⟨by decide, by decide⟩) rfl rfl rfl rfl (Nat.le_of_ble_eq_true rfl) ⟨by decide, by decide⟩ dX3_readSteps_17 (fun r5 σ6 hw => ?_)
        obtain ⟨g7, hw⟩ := hw
        refine xr_if_eq C g7 40 dX3_readSteps_20 (by decide) (fun c8 => ?_) (fun c8 => ?_)
        · have hw := hw.1 c8
          exact xr_vret C hr hw dX3_readSteps_40
        · have hw := hw.2 c8
          refine xr_aload_n C 0 dX3_readSteps_23 rfl rfl ?_
          refine xr_iload_n C 1 dX3_readSteps_24 rfl rfl ?_
          refine xr_callVv C (ci := 3) (q0 := 0) (As := [.int (i32 x1)]) (rest := []) (xSp_rf _ _) (by decide) (fun h => h) (mX3_readStep_1 σ6 x1 _ hw) (cwV 1 C.2.2.2.2.1 gX3_readSteps_X3_readStep rfl rfl rfl (by decide +kernel) ⟨by decide, by decide⟩) rfl rfl rfl rfl (Nat.le_of_ble_eq_true rfl) ⟨by decide, by decide⟩ dX3_readSteps_25 (fun σ10 hw => ?_)
          refine xr_aload_n C 0 dX3_readSteps_28 rfl rfl ?_
          refine xr_bipush C dX3_readSteps_29 (by decide +kernel) ?_
          refine xr_callVv C (ci := 3) (q0 := 0) (As := [.int (i32 59)]) (rest := []) (xSp_rf _ _) (by decide) (fun h => h) (mX3_expect σ10 59 _ hw) (cwV 1 C.2.2.2.2.1 gX3_readSteps_X3_expect rfl rfl rfl (by decide +kernel) ⟨by decide, by decide⟩) rfl rfl rfl rfl (Nat.le_of_ble_eq_true rfl) ⟨by decide, by decide⟩ dX3_readSteps_31 (fun σ12 hw => ?_)
          refine xr_iinc C 2 [(0, .ref (ad 1)), (1, .int (i32 x1)), (2, .int (i32 (x2 + 1)))] dX3_readSteps_34 rfl (by decide) rfl ?_
          refine xr_goto C 2 dX3_readSteps_37 (by decide) ?_
          exact hK2 (x1, (x2 + 1), σ12) hw
  show xX p l e rmX3_readSteps_1 s m args below meth c D vwCl (va_A ((wS ad cI cJ cZ) σ) s.heap.size) (wS ad cI cJ cZ) [1, 2, 3, 4] σ 0 0 (MQ below (xQv D (wS ad cI cJ cZ) [1, 2, 3, 4] σ s.heap.size Q) args s 0 0 (va_A ((wS ad cI cJ cZ) σ) s.heap.size)) 3 σ 0 [(0, .ref (ad 1)), (1, .int (i32 a1))] []
  unfold vX3_readSteps at hw
  refine xr_iconst C dX3_readSteps_0 ?_
  refine xr_istore_n C [(0, .ref (ad 1)), (1, .int (i32 a1)), (2, .int (i32 0))] dX3_readSteps_1 rfl (by decide) rfl ?_
  exact L2 (a1, 0, σ) hw
abbrev rmX3_readRepeat_2 : Room := { frames := 8, cells := 0, slots := 0, locals := 247 }
set_option maxHeartbeats 8000000 in
set_option maxRecDepth 100000 in
theorem mX3_readRepeat_2 {l : Launch} {D : va_G} {ad : Nat → Nat} {cI cJ cZ : ClassId} (σ : xS) (a1 : Int) (Q : xS → Prop) (hw : vX3_readRepeat RS2 a1 σ Q) : xMv False l yX3_readRepeat wsX3_readRepeat rmX3_readRepeat_2 D (xtys cI cJ cZ) (wS ad cI cJ cZ) [1, 2, 3, 4] σ [.ref (ad 1), .int (i32 a1)] Q := by
  refine xenter (F := [1, 2, 3, 4]) (Qc := fun sz => xQv D (wS ad cI cJ cZ) [1, 2, 3, 4] σ sz Q) (own := RX3) (cc := cX3_readRepeat) (maxL := 4) (ret := none) (by decide) rfl rfl (Nat.le_of_ble_eq_true rfl) ?_
  intro p e s m args below meth c hargs C hr hnm
  have hinX3 : ∀ w ∈ u_ws RX3 TX3 8, w ∈ wsX3_readRepeat := fun _ h => List.mem_cons_of_mem _ (List.mem_append_right _ h)
  have m0 : (Cond.fieldLink RX3 25 "SandBench$Script" "steps" "I") ∈ wsX3_readRepeat := by decide +kernel
  have m1 : (Cond.fieldLink RX3 34 "SandBench$Script" "fault" "I") ∈ wsX3_readRepeat := by decide +kernel
  have m2 : (Cond.fieldLink RX3 31 "SandBench$Script" "at" "I") ∈ wsX3_readRepeat := by decide +kernel
  have B59 : ∀ (x2 x3 : Int) (σ0 : xS), vX3_readRepeat_59 RS2  Q x2 x3 σ0 → xX p l e rmX3_readRepeat_2 s m args below meth c D vwCl (va_A ((wS ad cI cJ cZ) σ) s.heap.size) (wS ad cI cJ cZ) [1, 2, 3, 4] σ 0 0 (MQ below (xQv D (wS ad cI cJ cZ) [1, 2, 3, 4] σ s.heap.size Q) args s 0 0 (va_A ((wS ad cI cJ cZ) σ) s.heap.size)) 4 σ0 59 [(0, .ref (ad 1)), (2, .int (i32 x2)), (3, .int (i32 x3))] [] := by
    intro x2 x3 σ0 hw
    unfold vX3_readRepeat_59 at hw
    refine xr_aload_n C 0 dX3_readRepeat_59 rfl rfl ?_
    refine xr_bipush C dX3_readRepeat_60 (by decide +kernel) ?_
    refine xr_callVv C (ci := 3) (q0 := 0) (As := [.int (i32 41)]) (rest := []) (xSp_rf _ _) (by decide) (fun h => h) (mX3_expect σ0 41 _ hw) (cwV 1 C.2.2.2.2.1 gX3_readRepeat_X3_expect rfl rfl rfl (by decide +kernel) ⟨by decide, by decide⟩) rfl rfl rfl rfl (Nat.le_of_ble_eq_true rfl) ⟨by decide, by decide⟩ dX3_readRepeat_62 (fun σ2 hw => ?_)
    refine xr_aload_n C 0 dX3_readRepeat_65 rfl rfl ?_
    refine xr_iload_n C 2 dX3_readRepeat_66 rfl rfl ?_
    refine xr_iload_n C 1 dX3_readRepeat_67 rfl rfl ?_
    refine xr_callVv C (ci := 3) (q0 := 0) (As := [.int (i32 x3), .int (i32 x2)]) (rest := []) (xSp_rf _ _) (by decide) (fun h => h) (mX3_repeat σ2 x3 x2 _ hw) (cwV 2 C.2.2.2.2.1 gX3_readRepeat_X3_repeat rfl rfl rfl (by decide +kernel) ⟨by decide, by decide⟩) rfl rfl rfl rfl (Nat.le_of_ble_eq_true rfl) ⟨by decide, by decide⟩ dX3_readRepeat_68 (fun σ4 hw => ?_)
    exact xr_vret C hr hw dX3_readRepeat_71
  have B33 : ∀ (x1 x2 : Int) (σ0 : xS), vX3_readRepeat_33 RS2  Q x1 x2 σ0 → xX p l e rmX3_readRepeat_2 s m args below meth c D vwCl (va_A ((wS ad cI cJ cZ) σ) s.heap.size) (wS ad cI cJ cZ) [1, 2, 3, 4] σ 0 0 (MQ below (xQv D (wS ad cI cJ cZ) [1, 2, 3, 4] σ s.heap.size Q) args s 0 0 (va_A ((wS ad cI cJ cZ) σ) s.heap.size)) 4 σ0 33 [(0, .ref (ad 1)), (1, .int (i32 x1)), (2, .int (i32 x2))] [] := by
    intro x1 x2 σ0 hw
    unfold vX3_readRepeat_33 at hw
    refine xr_aload_n C 0 dX3_readRepeat_33 rfl rfl ?_
    refine xr_bipush C dX3_readRepeat_34 (by decide +kernel) ?_
    refine xr_callVv C (ci := 3) (q0 := 0) (As := [.int (i32 40)]) (rest := []) (xSp_rf _ _) (by decide) (fun h => h) (mX3_expect σ0 40 _ hw) (cwV 1 C.2.2.2.2.1 gX3_readRepeat_X3_expect rfl rfl rfl (by decide +kernel) ⟨by decide, by decide⟩) rfl rfl rfl rfl (Nat.le_of_ble_eq_true rfl) ⟨by decide, by decide⟩ dX3_readRepeat_36 (fun σ6 hw => ?_)
    refine xr_aload_n C 0 dX3_readRepeat_39 rfl rfl ?_
    refine xr_get C hinX3 (N := 8) (ci := 3) (a := (ad 1)) 0 rfl rfl 4 (by decide) m0 rfl rfl dX3_readRepeat_40 ?_
    refine xr_istore_n C [(0, .ref (ad 1)), (1, .int (i32 x1)), (2, .int (i32 x2)), (3, .int (i32 (σ6 1 4)))] dX3_readRepeat_43 rfl (by decide) rfl ?_
    refine xr_aload_n C 0 dX3_readRepeat_44 rfl rfl ?_
    refine xr_get C hinX3 (N := 8) (ci := 3) (a := (ad 1)) 0 rfl rfl 6 (by decide) m1 rfl rfl dX3_readRepeat_45 ?_
    refine xr_iconst C dX3_readRepeat_48 ?_
    obtain ⟨g7, hw⟩ := hw
    refine xr_icmp_ne C g7 ⟨by decide, by decide⟩ 59 dX3_readRepeat_49 (by decide) (fun c8 => ?_) (fun c8 => ?_)
    · have hw := hw.1 c8
      refine xr_sub C [0, 2, 3] [(0, .ref (ad 1)), (2, .int (i32 x2)), (3, .int (i32 (σ6 1 4)))] rfl ?_
      exact B59 x2 (σ6 1 4) σ6 hw
    · have hw := hw.2 c8
      refine xr_aload_n C 0 dX3_readRepeat_52 rfl rfl ?_
      refine xr_iload_n C 1 dX3_readRepeat_53 rfl rfl ?_
      refine xr_iconst C dX3_readRepeat_54 ?_
      refine xr_iadd C dX3_readRepeat_55 ?_
      refine xr_callVv C (ci := 3) (q0 := 0) (As := [.int (i32 (x1 + 1))]) (rest := []) (xSp_rf _ _) (by decide) (fun h => h) (mX3_readSteps_1 σ6 (x1 + 1) _ hw) (cwV 1 C.2.2.2.2.1 gX3_readRepeat_X3_readSteps rfl rfl rfl (by decide +kernel) ⟨by decide, by decide⟩) rfl rfl rfl rfl (Nat.le_of_ble_eq_true rfl) ⟨by decide, by decide⟩ dX3_readRepeat_56 (fun σ10 hw => ?_)
      refine xr_sub C [0, 2, 3] [(0, .ref (ad 1)), (2, .int (i32 x2)), (3, .int (i32 (σ6 1 4)))] rfl ?_
      exact B59 x2 (σ6 1 4) σ10 hw
  show xX p l e rmX3_readRepeat_2 s m args below meth c D vwCl (va_A ((wS ad cI cJ cZ) σ) s.heap.size) (wS ad cI cJ cZ) [1, 2, 3, 4] σ 0 0 (MQ below (xQv D (wS ad cI cJ cZ) [1, 2, 3, 4] σ s.heap.size Q) args s 0 0 (va_A ((wS ad cI cJ cZ) σ) s.heap.size)) 4 σ 0 [(0, .ref (ad 1)), (1, .int (i32 a1))] []
  unfold vX3_readRepeat at hw
  refine xr_aload_n C 0 dX3_readRepeat_0 rfl rfl ?_
  refine xr_bipush C dX3_readRepeat_1 (by decide +kernel) ?_
  refine xr_callVi C (ci := 3) (q0 := 0) (As := [.int (i32 20)]) (rest := []) (xSp_rf _ _) (by decide) (fun h => h) (mX3_readNumber σ 20 _ hw) (cwV 1 C.2.2.2.2.1 gX3_readRepeat_X3_readNumber rfl rfl rfl (by decide +kernel) ⟨by decide, by decide⟩) rfl rfl rfl rfl (Nat.le_of_ble_eq_true rfl) ⟨by decide, by decide⟩ dX3_readRepeat_3 (fun r11 σ12 hw => ?_)
  refine xr_istore_n C [(0, .ref (ad 1)), (1, .int (i32 a1)), (2, .int (i32 r11))] dX3_readRepeat_6 rfl (by decide) rfl ?_
  refine xr_aload_n C 0 dX3_readRepeat_7 rfl rfl ?_
  refine xr_get C hinX3 (N := 8) (ci := 3) (a := (ad 1)) 0 rfl rfl 6 (by decide) m1 rfl rfl dX3_readRepeat_8 ?_
  refine xr_iconst C dX3_readRepeat_11 ?_
  obtain ⟨g13, hw⟩ := hw
  refine xr_icmp_ne C g13 ⟨by decide, by decide⟩ 33 dX3_readRepeat_12 (by decide) (fun c14 => ?_) (fun c14 => ?_)
  · have hw := hw.1 c14
    exact B33 a1 r11 σ12 hw
  · have hw := hw.2 c14
    refine xr_iload_n C 1 dX3_readRepeat_15 rfl rfl ?_
    refine xr_iconst C dX3_readRepeat_16 ?_
    obtain ⟨g15, hw⟩ := hw
    refine xr_icmp_ne C g15 ⟨by decide, by decide⟩ 33 dX3_readRepeat_17 (by decide) (fun c16 => ?_) (fun c16 => ?_)
    · have hw := hw.1 c16
      exact B33 a1 r11 σ12 hw
    · have hw := hw.2 c16
      refine xr_aload_n C 0 dX3_readRepeat_20 rfl rfl ?_
      refine xr_callVi C (ci := 3) (q0 := 0) (As := []) (rest := []) (xSp_rf _ _) (by decide) (fun h => h) (mX3_peek σ12 _ hw) (cwV 0 C.2.2.2.2.1 gX3_readRepeat_X3_peek rfl rfl rfl (by decide +kernel) ⟨by decide, by decide⟩) rfl rfl rfl rfl (Nat.le_of_ble_eq_true rfl) ⟨by decide, by decide⟩ dX3_readRepeat_21 (fun r17 σ18 hw => ?_)
      refine xr_pop C dX3_readRepeat_24 rfl ?_
      refine xr_aload_n C 0 dX3_readRepeat_25 rfl rfl ?_
      refine xr_aload_n C 0 dX3_readRepeat_26 rfl rfl ?_
      refine xr_get C hinX3 (N := 8) (ci := 3) (a := (ad 1)) 0 rfl rfl 5 (by decide) m2 rfl rfl dX3_readRepeat_27 ?_
      refine xr_put C (r := 1) (x := (σ18 1 5)) (ty := .int) hinX3 (N := 8) (ci := 3) tyX3 tyX3_ok nmX3 0 rfl rfl 6 (by decide) m1 rfl rfl (by decide +kernel) rfl rfl (Nat.le_of_ble_eq_true rfl) rfl (by decide) dX3_readRepeat_30 ?_
      refine xr_sig (fun σ19 e20 => ?_)
      have hw := hw σ19 e20
      exact B33 a1 r11 σ19 hw
abbrev rmX3_readStep_2 : Room := { frames := 9, cells := 0, slots := 0, locals := 270 }
set_option maxHeartbeats 8000000 in
set_option maxRecDepth 100000 in
theorem mX3_readStep_2 {l : Launch} {D : va_G} {ad : Nat → Nat} {cI cJ cZ : ClassId} (σ : xS) (a1 : Int) (Q : xS → Prop) (hw : vX3_readStep RS2 a1 σ Q) : xMv False l yX3_readStep wsX3_readStep rmX3_readStep_2 D (xtys cI cJ cZ) (wS ad cI cJ cZ) [1, 2, 3, 4] σ [.ref (ad 1), .int (i32 a1)] Q := by
  refine xenter (F := [1, 2, 3, 4]) (Qc := fun sz => xQv D (wS ad cI cJ cZ) [1, 2, 3, 4] σ sz Q) (own := RX3) (cc := cX3_readStep) (maxL := 4) (ret := none) (by decide) rfl rfl (Nat.le_of_ble_eq_true rfl) ?_
  intro p e s m args below meth c hargs C hr hnm
  have hinX3 : ∀ w ∈ u_ws RX3 TX3 8, w ∈ wsX3_readStep := fun _ h => List.mem_cons_of_mem _ (List.mem_append_right _ h)
  have m0 : (Cond.fieldLink RX3 31 "SandBench$Script" "at" "I") ∈ wsX3_readStep := by decide +kernel
  have B57 : ∀ (x2 x3 : Int) (σ0 : xS), vX3_readStep_57 RS2  Q x2 x3 σ0 → xX p l e rmX3_readStep_2 s m args below meth c D vwCl (va_A ((wS ad cI cJ cZ) σ) s.heap.size) (wS ad cI cJ cZ) [1, 2, 3, 4] σ 0 0 (MQ below (xQv D (wS ad cI cJ cZ) [1, 2, 3, 4] σ s.heap.size Q) args s 0 0 (va_A ((wS ad cI cJ cZ) σ) s.heap.size)) 4 σ0 57 [(0, .ref (ad 1)), (2, .int (i32 x2)), (3, .int (i32 x3))] [] := by
    intro x2 x3 σ0 hw
    unfold vX3_readStep_57 at hw
    refine xr_aload_n C 0 dX3_readStep_57 rfl rfl ?_
    refine xr_iload_n C 1 dX3_readStep_58 rfl rfl ?_
    refine xr_iload_n C 2 dX3_readStep_59 rfl rfl ?_
    refine xr_callVv C (ci := 3) (q0 := 0) (As := [.int (i32 x2), .int (i32 x3)]) (rest := []) (xSp_rf _ _) (by decide) (fun h => h) (mX3_add σ0 x2 x3 _ hw) (cwV 2 C.2.2.2.2.1 gX3_readStep_X3_add rfl rfl rfl (by decide +kernel) ⟨by decide, by decide⟩) rfl rfl rfl rfl (Nat.le_of_ble_eq_true rfl) ⟨by decide, by decide⟩ dX3_readStep_60 (fun σ2 hw => ?_)
    exact xr_vret C hr hw dX3_readStep_63
  show xX p l e rmX3_readStep_2 s m args below meth c D vwCl (va_A ((wS ad cI cJ cZ) σ) s.heap.size) (wS ad cI cJ cZ) [1, 2, 3, 4] σ 0 0 (MQ below (xQv D (wS ad cI cJ cZ) [1, 2, 3, 4] σ s.heap.size Q) args s 0 0 (va_A ((wS ad cI cJ cZ) σ) s.heap.size)) 4 σ 0 [(0, .ref (ad 1)), (1, .int (i32 a1))] []
  unfold vX3_readStep at hw
  refine xr_aload_n C 0 dX3_readStep_0 rfl rfl ?_
  refine xr_callVi C (ci := 3) (q0 := 0) (As := []) (rest := []) (xSp_rf _ _) (by decide) (fun h => h) (mX3_peek σ _ hw) (cwV 0 C.2.2.2.2.1 gX3_readStep_X3_peek rfl rfl rfl (by decide +kernel) ⟨by decide, by decide⟩) rfl rfl rfl rfl (Nat.le_of_ble_eq_true rfl) ⟨by decide, by decide⟩ dX3_readStep_1 (fun r3 σ4 hw => ?_)
  refine xr_istore_n C [(0, .ref (ad 1)), (1, .int (i32 a1)), (2, .int (i32 r3))] dX3_readStep_4 rfl (by decide) rfl ?_
  refine xr_iload_n C 2 dX3_readStep_5 rfl rfl ?_
  refine xr_callSi C (As := [.int (i32 r3)]) (rest := []) (xSp_nil _) (by decide) (fun h => h) (mX3_isDigit σ4 r3 _ hw) (va_cwS 1 C.2.2.2.2.1 gX3_readStep_X3_isDigit rfl rfl rfl (by decide +kernel) ⟨by decide, by decide⟩) rfl rfl (Nat.le_of_ble_eq_true rfl) ⟨by decide, by decide⟩ dX3_readStep_6 (fun r5 σ6 hw => ?_)
  obtain ⟨g7, hw⟩ := hw
  refine xr_if_eq C g7 18 dX3_readStep_9 (by decide) (fun c8 => ?_) (fun c8 => ?_)
  · have hw := hw.1 c8
    refine xr_aload_n C 0 dX3_readStep_18 rfl rfl ?_
    refine xr_dup C dX3_readStep_19 rfl ?_
    refine xr_get C hinX3 (N := 8) (ci := 3) (a := (ad 1)) 0 rfl rfl 5 (by decide) m0 rfl rfl dX3_readStep_20 ?_
    refine xr_iconst C dX3_readStep_23 ?_
    refine xr_iadd C dX3_readStep_24 ?_
    refine xr_put C (r := 1) (x := ((σ6 1 5) + 1)) (ty := .int) hinX3 (N := 8) (ci := 3) tyX3 tyX3_ok nmX3 0 rfl rfl 5 (by decide) m0 rfl rfl (by decide +kernel) rfl rfl (Nat.le_of_ble_eq_true rfl) rfl (by decide) dX3_readStep_25 ?_
    refine xr_sig (fun σ9 e10 => ?_)
    have hw := hw σ9 e10
    refine xr_iconst C dX3_readStep_28 ?_
    refine xr_istore_n C [(0, .ref (ad 1)), (1, .int (i32 a1)), (2, .int (i32 r3)), (3, .int (i32 0))] dX3_readStep_29 rfl (by decide) rfl ?_
    refine xr_iload_n C 2 dX3_readStep_30 rfl rfl ?_
    refine xr_bipush C dX3_readStep_31 (by decide +kernel) ?_
    obtain ⟨g11, hw⟩ := hw
    refine xr_icmp_ne C g11 ⟨by decide, by decide⟩ 46 dX3_readStep_33 (by decide) (fun c12 => ?_) (fun c12 => ?_)
    · have hw := hw.1 c12
      refine xr_iload_n C 2 dX3_readStep_46 rfl rfl ?_
      refine xr_bipush C dX3_readStep_47 (by decide +kernel) ?_
      refine xr_icmp_eq C g11 ⟨by decide, by decide⟩ 57 dX3_readStep_49 (by decide) (fun c13 => ?_) (fun c13 => ?_)
      · have hw := hw.1 c13
        refine xr_sub C [0, 2, 3] [(0, .ref (ad 1)), (2, .int (i32 r3)), (3, .int (i32 0))] rfl ?_
        exact B57 r3 0 σ9 hw
      · have hw := hw.2 c13
        refine xr_aload_n C 0 dX3_readStep_52 rfl rfl ?_
        refine xr_callVi C (ci := 3) (q0 := 0) (As := []) (rest := []) (xSp_rf _ _) (by decide) (fun h => h) (mX3_readGlass σ9 _ hw) (cwV 0 C.2.2.2.2.1 gX3_readStep_X3_readGlass rfl rfl rfl (by decide +kernel) ⟨by decide, by decide⟩) rfl rfl rfl rfl (Nat.le_of_ble_eq_true rfl) ⟨by decide, by decide⟩ dX3_readStep_53 (fun r14 σ15 hw => ?_)
        refine xr_istore_n C [(0, .ref (ad 1)), (1, .int (i32 a1)), (2, .int (i32 r3)), (3, .int (i32 r14))] dX3_readStep_56 rfl (by decide) rfl ?_
        refine xr_sub C [0, 2, 3] [(0, .ref (ad 1)), (2, .int (i32 r3)), (3, .int (i32 r14))] rfl ?_
        exact B57 r3 r14 σ15 hw
    · have hw := hw.2 c12
      refine xr_aload_n C 0 dX3_readStep_36 rfl rfl ?_
      refine xr_bipush C dX3_readStep_37 (by decide +kernel) ?_
      refine xr_callVi C (ci := 3) (q0 := 0) (As := [.int (i32 99)]) (rest := []) (xSp_rf _ _) (by decide) (fun h => h) (mX3_readNumber σ9 99 _ hw) (cwV 1 C.2.2.2.2.1 gX3_readStep_X3_readNumber rfl rfl rfl (by decide +kernel) ⟨by decide, by decide⟩) rfl rfl rfl rfl (Nat.le_of_ble_eq_true rfl) ⟨by decide, by decide⟩ dX3_readStep_39 (fun r16 σ17 hw => ?_)
      refine xr_istore_n C [(0, .ref (ad 1)), (1, .int (i32 a1)), (2, .int (i32 r3)), (3, .int (i32 r16))] dX3_readStep_42 rfl (by decide) rfl ?_
      refine xr_goto C 57 dX3_readStep_43 (by decide) ?_
      refine xr_sub C [0, 2, 3] [(0, .ref (ad 1)), (2, .int (i32 r3)), (3, .int (i32 r16))] rfl ?_
      exact B57 r3 r16 σ17 hw
  · have hw := hw.2 c8
    refine xr_aload_n C 0 dX3_readStep_12 rfl rfl ?_
    refine xr_iload_n C 1 dX3_readStep_13 rfl rfl ?_
    refine xr_callVv C (ci := 3) (q0 := 0) (As := [.int (i32 a1)]) (rest := []) (xSp_rf _ _) (by decide) (fun h => h) (mX3_readRepeat_2 σ6 a1 _ hw) (cwV 1 C.2.2.2.2.1 gX3_readStep_X3_readRepeat rfl rfl rfl (by decide +kernel) ⟨by decide, by decide⟩) rfl rfl rfl rfl (Nat.le_of_ble_eq_true rfl) ⟨by decide, by decide⟩ dX3_readStep_14 (fun σ19 hw => ?_)
    exact xr_vret C hr hw dX3_readStep_17
abbrev rmX3_readSteps_2 : Room := { frames := 10, cells := 0, slots := 0, locals := 293 }
set_option maxHeartbeats 8000000 in
set_option maxRecDepth 100000 in
theorem mX3_readSteps_2 {l : Launch} {D : va_G} {ad : Nat → Nat} {cI cJ cZ : ClassId} (σ : xS) (a1 : Int) (Q : xS → Prop) (hw : vX3_readSteps RS2 a1 σ Q) : xMv False l yX3_readSteps wsX3_readSteps rmX3_readSteps_2 D (xtys cI cJ cZ) (wS ad cI cJ cZ) [1, 2, 3, 4] σ [.ref (ad 1), .int (i32 a1)] Q := by
  refine xenter (F := [1, 2, 3, 4]) (Qc := fun sz => xQv D (wS ad cI cJ cZ) [1, 2, 3, 4] σ sz Q) (own := RX3) (cc := cX3_readSteps) (maxL := 3) (ret := none) (by decide) rfl rfl (Nat.le_of_ble_eq_true rfl) ?_
  intro p e s m args below meth c hargs C hr hnm
  have hinX3 : ∀ w ∈ u_ws RX3 TX3 8, w ∈ wsX3_readSteps := fun _ h => List.mem_cons_of_mem _ (List.mem_append_right _ h)
  have m0 : (Cond.fieldLink RX3 34 "SandBench$Script" "fault" "I") ∈ wsX3_readSteps := by decide +kernel
  have L2 : ∀ a, mu (vX3_readSteps_2 RS2  Q) a → xX p l e rmX3_readSteps_2 s m args below meth c D vwCl (va_A ((wS ad cI cJ cZ) σ) s.heap.size) (wS ad cI cJ cZ) [1, 2, 3, 4] σ 0 0 (MQ below (xQv D (wS ad cI cJ cZ) [1, 2, 3, 4] σ s.heap.size Q) args s 0 0 (va_A ((wS ad cI cJ cZ) σ) s.heap.size)) 3 (a.2.2) 2 [(0, .ref (ad 1)), (1, .int (i32 (a.1))), (2, .int (i32 (a.2.1)))] [] := by
    refine mu_ind (fun K2 hK2 a hw => ?_)
    obtain ⟨x1, x2, σ0⟩ := a
    show xX p l e rmX3_readSteps_2 s m args below meth c D vwCl (va_A ((wS ad cI cJ cZ) σ) s.heap.size) (wS ad cI cJ cZ) [1, 2, 3, 4] σ 0 0 (MQ below (xQv D (wS ad cI cJ cZ) [1, 2, 3, 4] σ s.heap.size Q) args s 0 0 (va_A ((wS ad cI cJ cZ) σ) s.heap.size)) 3 σ0 2 [(0, .ref (ad 1)), (1, .int (i32 x1)), (2, .int (i32 x2))] []
    unfold vX3_readSteps_2 at hw
    refine xr_iload_n C 2 dX3_readSteps_2 rfl rfl ?_
    refine xr_bipush C dX3_readSteps_3 (by decide +kernel) ?_
    obtain ⟨g1, hw⟩ := hw
    refine xr_icmp_ge C g1 ⟨by decide, by decide⟩ 40 dX3_readSteps_5 (by decide) (fun c2 => ?_) (fun c2 => ?_)
    · have hw := hw.1 c2
      exact xr_vret C hr hw dX3_readSteps_40
    · have hw := hw.2 c2
      refine xr_aload_n C 0 dX3_readSteps_8 rfl rfl ?_
      refine xr_get C hinX3 (N := 8) (ci := 3) (a := (ad 1)) 0 rfl rfl 6 (by decide) m0 rfl rfl dX3_readSteps_9 ?_
      refine xr_iconst C dX3_readSteps_12 ?_
      obtain ⟨g3, hw⟩ := hw
      refine xr_icmp_ne C g3 ⟨by decide, by decide⟩ 40 dX3_readSteps_13 (by decide) (fun c4 => ?_) (fun c4 => ?_)
      · have hw := hw.1 c4
        exact xr_vret C hr hw dX3_readSteps_40
      · have hw := hw.2 c4
        refine xr_aload_n C 0 dX3_readSteps_16 rfl rfl ?_
        refine xr_callVi C (ci := 3) (q0 := 0) (As := []) (rest := []) (xSp_rf _ _) (by decide) (fun h => h) (mX3_isStepAhead σ0 _ hw) (cwV 0 C.2.2.2.2.1 gX3_readSteps_X3_isStepAhead rfl rfl rfl (by decide +kernel) ⟨by decide, by decide⟩) rfl rfl rfl rfl (Nat.le_of_ble_eq_true rfl) ⟨by decide, by decide⟩ dX3_readSteps_17 (fun r5 σ6 hw => ?_)
        obtain ⟨g7, hw⟩ := hw
        refine xr_if_eq C g7 40 dX3_readSteps_20 (by decide) (fun c8 => ?_) (fun c8 => ?_)
        · have hw := hw.1 c8
          exact xr_vret C hr hw dX3_readSteps_40
        · have hw := hw.2 c8
          refine xr_aload_n C 0 dX3_readSteps_23 rfl rfl ?_
          refine xr_iload_n C 1 dX3_readSteps_24 rfl rfl ?_
          refine xr_callVv C (ci := 3) (q0 := 0) (As := [.int (i32 x1)]) (rest := []) (xSp_rf _ _) (by decide) (fun h => h) (mX3_readStep_2 σ6 x1 _ hw) (cwV 1 C.2.2.2.2.1 gX3_readSteps_X3_readStep rfl rfl rfl (by decide +kernel) ⟨by decide, by decide⟩) rfl rfl rfl rfl (Nat.le_of_ble_eq_true rfl) ⟨by decide, by decide⟩ dX3_readSteps_25 (fun σ10 hw => ?_)
          refine xr_aload_n C 0 dX3_readSteps_28 rfl rfl ?_
          refine xr_bipush C dX3_readSteps_29 (by decide +kernel) ?_
          refine xr_callVv C (ci := 3) (q0 := 0) (As := [.int (i32 59)]) (rest := []) (xSp_rf _ _) (by decide) (fun h => h) (mX3_expect σ10 59 _ hw) (cwV 1 C.2.2.2.2.1 gX3_readSteps_X3_expect rfl rfl rfl (by decide +kernel) ⟨by decide, by decide⟩) rfl rfl rfl rfl (Nat.le_of_ble_eq_true rfl) ⟨by decide, by decide⟩ dX3_readSteps_31 (fun σ12 hw => ?_)
          refine xr_iinc C 2 [(0, .ref (ad 1)), (1, .int (i32 x1)), (2, .int (i32 (x2 + 1)))] dX3_readSteps_34 rfl (by decide) rfl ?_
          refine xr_goto C 2 dX3_readSteps_37 (by decide) ?_
          exact hK2 (x1, (x2 + 1), σ12) hw
  show xX p l e rmX3_readSteps_2 s m args below meth c D vwCl (va_A ((wS ad cI cJ cZ) σ) s.heap.size) (wS ad cI cJ cZ) [1, 2, 3, 4] σ 0 0 (MQ below (xQv D (wS ad cI cJ cZ) [1, 2, 3, 4] σ s.heap.size Q) args s 0 0 (va_A ((wS ad cI cJ cZ) σ) s.heap.size)) 3 σ 0 [(0, .ref (ad 1)), (1, .int (i32 a1))] []
  unfold vX3_readSteps at hw
  refine xr_iconst C dX3_readSteps_0 ?_
  refine xr_istore_n C [(0, .ref (ad 1)), (1, .int (i32 a1)), (2, .int (i32 0))] dX3_readSteps_1 rfl (by decide) rfl ?_
  exact L2 (a1, 0, σ) hw
abbrev rmX3_read : Room := { frames := 11, cells := 0, slots := 0, locals := 315 }
set_option maxHeartbeats 8000000 in
set_option maxRecDepth 100000 in
theorem mX3_read {l : Launch} {D : va_G} {ad : Nat → Nat} {cI cJ cZ : ClassId} (σ : xS) (a1 : Int) (Q : Int → xS → Prop) (hw : vX3_read a1 σ Q) : xMi False l yX3_read wsX3_read rmX3_read D (xtys cI cJ cZ) (wS ad cI cJ cZ) [1, 2, 3, 4] σ [.ref (ad 1), .int (i32 a1)] Q := by
  refine xenter (F := [1, 2, 3, 4]) (Qc := fun sz => xQi D (wS ad cI cJ cZ) [1, 2, 3, 4] σ sz Q) (own := RX3) (cc := cX3_read) (maxL := 2) (ret := some .int) (by decide) rfl rfl (Nat.le_of_ble_eq_true rfl) ?_
  intro p e s m args below meth c hargs C hr hnm
  have hinX3 : ∀ w ∈ u_ws RX3 TX3 8, w ∈ wsX3_read := fun _ h => List.mem_cons_of_mem _ (List.mem_append_right _ h)
  have m0 : (Cond.fieldLink RX3 28 "SandBench$Script" "glasses" "I") ∈ wsX3_read := by decide +kernel
  have m1 : (Cond.fieldLink RX3 31 "SandBench$Script" "at" "I") ∈ wsX3_read := by decide +kernel
  have m2 : (Cond.fieldLink RX3 34 "SandBench$Script" "fault" "I") ∈ wsX3_read := by decide +kernel
  have m3 : (Cond.fieldLink RX3 25 "SandBench$Script" "steps" "I") ∈ wsX3_read := by decide +kernel
  show xX p l e rmX3_read s m args below meth c D vwCl (va_A ((wS ad cI cJ cZ) σ) s.heap.size) (wS ad cI cJ cZ) [1, 2, 3, 4] σ 0 0 (MQ below (xQi D (wS ad cI cJ cZ) [1, 2, 3, 4] σ s.heap.size Q) args s 0 0 (va_A ((wS ad cI cJ cZ) σ) s.heap.size)) 2 σ 0 [(0, .ref (ad 1)), (1, .int (i32 a1))] []
  unfold vX3_read at hw
  refine xr_aload_n C 0 dX3_read_0 rfl rfl ?_
  refine xr_iload_n C 1 dX3_read_1 rfl rfl ?_
  refine xr_put C (r := 1) (x := a1) (ty := .int) hinX3 (N := 8) (ci := 3) tyX3 tyX3_ok nmX3 0 rfl rfl 7 (by decide) m0 rfl rfl (by decide +kernel) rfl rfl (Nat.le_of_ble_eq_true rfl) rfl (by decide) dX3_read_2 ?_
  refine xr_sig (fun σ1 e2 => ?_)
  have hw := hw σ1 e2
  refine xr_aload_n C 0 dX3_read_5 rfl rfl ?_
  refine xr_iconst C dX3_read_6 ?_
  refine xr_put C (r := 1) (x := 0) (ty := .int) hinX3 (N := 8) (ci := 3) tyX3 tyX3_ok nmX3 0 rfl rfl 5 (by decide) m1 rfl rfl (by decide +kernel) rfl rfl (Nat.le_of_ble_eq_true rfl) rfl (by decide) dX3_read_7 ?_
  refine xr_sig (fun σ3 e4 => ?_)
  have hw := hw σ3 e4
  refine xr_aload_n C 0 dX3_read_10 rfl rfl ?_
  refine xr_iconst C dX3_read_11 ?_
  refine xr_put C (r := 1) (x := (-1)) (ty := .int) hinX3 (N := 8) (ci := 3) tyX3 tyX3_ok nmX3 0 rfl rfl 6 (by decide) m2 rfl rfl (by decide +kernel) rfl rfl (Nat.le_of_ble_eq_true rfl) rfl (by decide) dX3_read_12 ?_
  refine xr_sig (fun σ5 e6 => ?_)
  have hw := hw σ5 e6
  refine xr_aload_n C 0 dX3_read_15 rfl rfl ?_
  refine xr_iconst C dX3_read_16 ?_
  refine xr_put C (r := 1) (x := 0) (ty := .int) hinX3 (N := 8) (ci := 3) tyX3 tyX3_ok nmX3 0 rfl rfl 4 (by decide) m3 rfl rfl (by decide +kernel) rfl rfl (Nat.le_of_ble_eq_true rfl) rfl (by decide) dX3_read_17 ?_
  refine xr_sig (fun σ7 e8 => ?_)
  have hw := hw σ7 e8
  refine xr_aload_n C 0 dX3_read_20 rfl rfl ?_
  refine xr_iconst C dX3_read_21 ?_
  refine xr_callVv C (ci := 3) (q0 := 0) (As := [.int (i32 0)]) (rest := []) (xSp_rf _ _) (by decide) (fun h => h) (mX3_readSteps_2 σ7 0 _ hw) (cwV 1 C.2.2.2.2.1 gX3_read_X3_readSteps rfl rfl rfl (by decide +kernel) ⟨by decide, by decide⟩) rfl rfl rfl rfl (Nat.le_of_ble_eq_true rfl) ⟨by decide, by decide⟩ dX3_read_22 (fun σ10 hw => ?_)
  refine xr_aload_n C 0 dX3_read_25 rfl rfl ?_
  refine xr_get C hinX3 (N := 8) (ci := 3) (a := (ad 1)) 0 rfl rfl 6 (by decide) m2 rfl rfl dX3_read_26 ?_
  refine xr_iconst C dX3_read_29 ?_
  obtain ⟨g11, hw⟩ := hw
  refine xr_icmp_ne C g11 ⟨by decide, by decide⟩ 49 dX3_read_30 (by decide) (fun c12 => ?_) (fun c12 => ?_)
  · have hw := hw.1 c12
    refine xr_aload_n C 0 dX3_read_49 rfl rfl ?_
    refine xr_get C hinX3 (N := 8) (ci := 3) (a := (ad 1)) 0 rfl rfl 6 (by decide) m2 rfl rfl dX3_read_50 ?_
    exact xr_iret C hr hw dX3_read_53
  · have hw := hw.2 c12
    refine xr_aload_n C 0 dX3_read_33 rfl rfl ?_
    refine xr_callVi C (ci := 3) (q0 := 0) (As := []) (rest := []) (xSp_rf _ _) (by decide) (fun h => h) (mX3_peek σ10 _ hw) (cwV 0 C.2.2.2.2.1 gX3_read_X3_peek rfl rfl rfl (by decide +kernel) ⟨by decide, by decide⟩) rfl rfl rfl rfl (Nat.le_of_ble_eq_true rfl) ⟨by decide, by decide⟩ dX3_read_34 (fun r13 σ14 hw => ?_)
    refine xr_iconst C dX3_read_37 ?_
    obtain ⟨g15, hw⟩ := hw
    refine xr_icmp_eq C g15 ⟨by decide, by decide⟩ 49 dX3_read_38 (by decide) (fun c16 => ?_) (fun c16 => ?_)
    · have hw := hw.1 c16
      refine xr_aload_n C 0 dX3_read_49 rfl rfl ?_
      refine xr_get C hinX3 (N := 8) (ci := 3) (a := (ad 1)) 0 rfl rfl 6 (by decide) m2 rfl rfl dX3_read_50 ?_
      exact xr_iret C hr hw dX3_read_53
    · have hw := hw.2 c16
      refine xr_aload_n C 0 dX3_read_41 rfl rfl ?_
      refine xr_aload_n C 0 dX3_read_42 rfl rfl ?_
      refine xr_get C hinX3 (N := 8) (ci := 3) (a := (ad 1)) 0 rfl rfl 5 (by decide) m1 rfl rfl dX3_read_43 ?_
      refine xr_put C (r := 1) (x := (σ14 1 5)) (ty := .int) hinX3 (N := 8) (ci := 3) tyX3 tyX3_ok nmX3 0 rfl rfl 6 (by decide) m2 rfl rfl (by decide +kernel) rfl rfl (Nat.le_of_ble_eq_true rfl) rfl (by decide) dX3_read_46 ?_
      refine xr_sig (fun σ17 e18 => ?_)
      have hw := hw σ17 e18
      refine xr_aload_n C 0 dX3_read_49 rfl rfl ?_
      refine xr_get C hinX3 (N := 8) (ci := 3) (a := (ad 1)) 0 rfl rfl 6 (by decide) m2 rfl rfl dX3_read_50 ?_
      exact xr_iret C hr hw dX3_read_53
