abbrev rmX3_append : Room := { frames := 0, cells := 0, slots := 0, locals := 64 }
set_option maxHeartbeats 8000000 in
set_option maxRecDepth 100000 in
theorem mX3_append {l : Launch} {D : va_G} {ad : Nat → Nat} {cI cJ cZ : ClassId} (σ : xS) (a1 : Int) (Q : Int → xS → Prop) (hw : vX3_append a1 σ Q) : xMi False l yX3_append wsX3_append rmX3_append D (xtys cI cJ cZ) (wS ad cI cJ cZ) [1, 2, 3, 4] σ [.ref (ad 1), .int (i32 a1)] Q := by
  refine xenter (F := [1, 2, 3, 4]) (Qc := fun sz => xQi D (wS ad cI cJ cZ) [1, 2, 3, 4] σ sz Q) (own := RX3) (cc := cX3_append) (maxL := 2) (ret := some .boolean) (by decide) rfl rfl (Nat.le_of_ble_eq_true rfl) ?_
  intro p e s m args below meth c hargs C hr hnm
  have hinX3 : ∀ w ∈ u_ws RX3 TX3 8, w ∈ wsX3_append := fun _ h => List.mem_cons_of_mem _ (List.mem_append_right _ h)
  have m0 : (Cond.fieldLink RX3 21 "SandBench$Script" "length" "I") ∈ wsX3_append := by decide +kernel
  have m1 : (Cond.fieldLink RX3 11 "SandBench$Script" "bytes" "[I") ∈ wsX3_append := by decide +kernel
  show xX p l e rmX3_append s m args below meth c D vwCl (va_A ((wS ad cI cJ cZ) σ) s.heap.size) (wS ad cI cJ cZ) [1, 2, 3, 4] σ 0 0 (MQ below (xQi D (wS ad cI cJ cZ) [1, 2, 3, 4] σ s.heap.size Q) args s 0 0 (va_A ((wS ad cI cJ cZ) σ) s.heap.size)) 2 σ 0 [(0, .ref (ad 1)), (1, .int (i32 a1))] []
  unfold vX3_append at hw
  refine xr_aload_n C 0 dX3_append_0 rfl rfl ?_
  refine xr_get C hinX3 (N := 8) (ci := 3) (a := (ad 1)) 0 rfl rfl 1 (by decide) m0 rfl rfl dX3_append_1 ?_
  refine xr_bipush C dX3_append_4 (by decide +kernel) ?_
  obtain ⟨g1, hw⟩ := hw
  refine xr_icmp_lt C g1 ⟨by decide, by decide⟩ 11 dX3_append_6 (by decide) (fun c2 => ?_) (fun c2 => ?_)
  · have hw := hw.1 c2
    refine xr_aload_n C 0 dX3_append_11 rfl rfl ?_
    refine xr_get C hinX3 (N := 8) (ci := 3) (a := (ad 1)) 0 rfl rfl 0 (by decide) m1 rfl rfl dX3_append_12 ?_
    refine xr_aload_n C 0 dX3_append_15 rfl rfl ?_
    refine xr_get C hinX3 (N := 8) (ci := 3) (a := (ad 1)) 0 rfl rfl 1 (by decide) m0 rfl rfl dX3_append_16 ?_
    refine xr_iload_n C 1 dX3_append_19 rfl rfl ?_
    obtain ⟨g3, hw⟩ := hw
    refine xr_iast C (t0 := 0) (r := 2) 1 rfl rfl (by decide) (N := 60) rfl g3 wS_st2 (by decide) dX3_append_20 ?_
    refine xr_sig (fun σ4 e5 => ?_)
    have hw := hw σ4 e5
    refine xr_aload_n C 0 dX3_append_21 rfl rfl ?_
    refine xr_dup C dX3_append_22 rfl ?_
    refine xr_get C hinX3 (N := 8) (ci := 3) (a := (ad 1)) 0 rfl rfl 1 (by decide) m0 rfl rfl dX3_append_23 ?_
    refine xr_iconst C dX3_append_26 ?_
    refine xr_iadd C dX3_append_27 ?_
    refine xr_put C (r := 1) (x := ((σ4 1 1) + 1)) (ty := .int) hinX3 (N := 8) (ci := 3) tyX3 tyX3_ok nmX3 0 rfl rfl 1 (by decide) m0 rfl rfl (by decide +kernel) rfl rfl (Nat.le_of_ble_eq_true rfl) rfl (by decide) dX3_append_28 ?_
    refine xr_sig (fun σ6 e7 => ?_)
    have hw := hw σ6 e7
    refine xr_iconst C dX3_append_31 ?_
    exact xr_zret C hr (Or.inr rfl) hw dX3_append_32
  · have hw := hw.2 c2
    refine xr_iconst C dX3_append_9 ?_
    exact xr_zret C hr (Or.inl rfl) hw dX3_append_10
abbrev rmX3_length : Room := { frames := 0, cells := 0, slots := 0, locals := 64 }
set_option maxHeartbeats 8000000 in
set_option maxRecDepth 100000 in
theorem mX3_length {l : Launch} {D : va_G} {ad : Nat → Nat} {cI cJ cZ : ClassId} (σ : xS) (Q : Int → xS → Prop) (hw : vX3_length σ Q) : xMi False l yX3_length wsX3_length rmX3_length D (xtys cI cJ cZ) (wS ad cI cJ cZ) [1, 2, 3, 4] σ [.ref (ad 1)] Q := by
  refine xenter (F := [1, 2, 3, 4]) (Qc := fun sz => xQi D (wS ad cI cJ cZ) [1, 2, 3, 4] σ sz Q) (own := RX3) (cc := cX3_length) (maxL := 1) (ret := some .int) (by decide) rfl rfl (Nat.le_of_ble_eq_true rfl) ?_
  intro p e s m args below meth c hargs C hr hnm
  have hinX3 : ∀ w ∈ u_ws RX3 TX3 8, w ∈ wsX3_length := fun _ h => List.mem_cons_of_mem _ (List.mem_append_right _ h)
  have m0 : (Cond.fieldLink RX3 21 "SandBench$Script" "length" "I") ∈ wsX3_length := by decide +kernel
  show xX p l e rmX3_length s m args below meth c D vwCl (va_A ((wS ad cI cJ cZ) σ) s.heap.size) (wS ad cI cJ cZ) [1, 2, 3, 4] σ 0 0 (MQ below (xQi D (wS ad cI cJ cZ) [1, 2, 3, 4] σ s.heap.size Q) args s 0 0 (va_A ((wS ad cI cJ cZ) σ) s.heap.size)) 1 σ 0 [(0, .ref (ad 1))] []
  unfold vX3_length at hw
  refine xr_aload_n C 0 dX3_length_0 rfl rfl ?_
  refine xr_get C hinX3 (N := 8) (ci := 3) (a := (ad 1)) 0 rfl rfl 1 (by decide) m0 rfl rfl dX3_length_1 ?_
  exact xr_iret C hr hw dX3_length_4
abbrev rmX3_clear : Room := { frames := 0, cells := 0, slots := 0, locals := 64 }
set_option maxHeartbeats 8000000 in
set_option maxRecDepth 100000 in
theorem mX3_clear {l : Launch} {D : va_G} {ad : Nat → Nat} {cI cJ cZ : ClassId} (σ : xS) (Q : Int → xS → Prop) (hw : vX3_clear σ Q) : xMi False l yX3_clear wsX3_clear rmX3_clear D (xtys cI cJ cZ) (wS ad cI cJ cZ) [1, 2, 3, 4] σ [.ref (ad 1)] Q := by
  refine xenter (F := [1, 2, 3, 4]) (Qc := fun sz => xQi D (wS ad cI cJ cZ) [1, 2, 3, 4] σ sz Q) (own := RX3) (cc := cX3_clear) (maxL := 2) (ret := some .int) (by decide) rfl rfl (Nat.le_of_ble_eq_true rfl) ?_
  intro p e s m args below meth c hargs C hr hnm
  have hinX3 : ∀ w ∈ u_ws RX3 TX3 8, w ∈ wsX3_clear := fun _ h => List.mem_cons_of_mem _ (List.mem_append_right _ h)
  have m0 : (Cond.fieldLink RX3 21 "SandBench$Script" "length" "I") ∈ wsX3_clear := by decide +kernel
  show xX p l e rmX3_clear s m args below meth c D vwCl (va_A ((wS ad cI cJ cZ) σ) s.heap.size) (wS ad cI cJ cZ) [1, 2, 3, 4] σ 0 0 (MQ below (xQi D (wS ad cI cJ cZ) [1, 2, 3, 4] σ s.heap.size Q) args s 0 0 (va_A ((wS ad cI cJ cZ) σ) s.heap.size)) 2 σ 0 [(0, .ref (ad 1))] []
  unfold vX3_clear at hw
  refine xr_aload_n C 0 dX3_clear_0 rfl rfl ?_
  refine xr_get C hinX3 (N := 8) (ci := 3) (a := (ad 1)) 0 rfl rfl 1 (by decide) m0 rfl rfl dX3_clear_1 ?_
  refine xr_istore_n C [(0, .ref (ad 1)), (1, .int (i32 (σ 1 1)))] dX3_clear_4 rfl (by decide) rfl ?_
  refine xr_aload_n C 0 dX3_clear_5 rfl rfl ?_
  refine xr_iconst C dX3_clear_6 ?_
  refine xr_put C (r := 1) (x := 0) (ty := .int) hinX3 (N := 8) (ci := 3) tyX3 tyX3_ok nmX3 0 rfl rfl 1 (by decide) m0 rfl rfl (by decide +kernel) rfl rfl (Nat.le_of_ble_eq_true rfl) rfl (by decide) dX3_clear_7 ?_
  refine xr_sig (fun σ1 e2 => ?_)
  have hw := hw σ1 e2
  refine xr_iload_n C 1 dX3_clear_10 rfl rfl ?_
  exact xr_iret C hr hw dX3_clear_11
abbrev rmX3_peek : Room := { frames := 0, cells := 0, slots := 0, locals := 64 }
set_option maxHeartbeats 8000000 in
set_option maxRecDepth 100000 in
theorem mX3_peek {l : Launch} {D : va_G} {ad : Nat → Nat} {cI cJ cZ : ClassId} (σ : xS) (Q : Int → xS → Prop) (hw : vX3_peek σ Q) : xMi False l yX3_peek wsX3_peek rmX3_peek D (xtys cI cJ cZ) (wS ad cI cJ cZ) [1, 2, 3, 4] σ [.ref (ad 1)] Q := by
  refine xenter (F := [1, 2, 3, 4]) (Qc := fun sz => xQi D (wS ad cI cJ cZ) [1, 2, 3, 4] σ sz Q) (own := RX3) (cc := cX3_peek) (maxL := 1) (ret := some .int) (by decide) rfl rfl (Nat.le_of_ble_eq_true rfl) ?_
  intro p e s m args below meth c hargs C hr hnm
  have hinX3 : ∀ w ∈ u_ws RX3 TX3 8, w ∈ wsX3_peek := fun _ h => List.mem_cons_of_mem _ (List.mem_append_right _ h)
  have m0 : (Cond.fieldLink RX3 31 "SandBench$Script" "at" "I") ∈ wsX3_peek := by decide +kernel
  have m1 : (Cond.fieldLink RX3 21 "SandBench$Script" "length" "I") ∈ wsX3_peek := by decide +kernel
  have m2 : (Cond.fieldLink RX3 11 "SandBench$Script" "bytes" "[I") ∈ wsX3_peek := by decide +kernel
  have B38 : ∀ (σ0 : xS), vX3_peek_38  Q σ0 → xX p l e rmX3_peek s m args below meth c D vwCl (va_A ((wS ad cI cJ cZ) σ) s.heap.size) (wS ad cI cJ cZ) [1, 2, 3, 4] σ 0 0 (MQ below (xQi D (wS ad cI cJ cZ) [1, 2, 3, 4] σ s.heap.size Q) args s 0 0 (va_A ((wS ad cI cJ cZ) σ) s.heap.size)) 1 σ0 38 [(0, .ref (ad 1))] [] := by
    intro σ0 hw
    unfold vX3_peek_38 at hw
    refine xr_aload_n C 0 dX3_peek_38 rfl rfl ?_
    refine xr_get C hinX3 (N := 8) (ci := 3) (a := (ad 1)) 0 rfl rfl 5 (by decide) m0 rfl rfl dX3_peek_39 ?_
    refine xr_aload_n C 0 dX3_peek_42 rfl rfl ?_
    refine xr_get C hinX3 (N := 8) (ci := 3) (a := (ad 1)) 0 rfl rfl 1 (by decide) m1 rfl rfl dX3_peek_43 ?_
    obtain ⟨g1, hw⟩ := hw
    obtain ⟨g2, hw⟩ := hw
    refine xr_icmp_ge C g1 g2 61 dX3_peek_46 (by decide) (fun c3 => ?_) (fun c3 => ?_)
    · have hw := hw.1 c3
      refine xr_iconst C dX3_peek_61 ?_
      exact xr_iret C hr hw dX3_peek_62
    · have hw := hw.2 c3
      refine xr_aload_n C 0 dX3_peek_49 rfl rfl ?_
      refine xr_get C hinX3 (N := 8) (ci := 3) (a := (ad 1)) 0 rfl rfl 0 (by decide) m2 rfl rfl dX3_peek_50 ?_
      refine xr_aload_n C 0 dX3_peek_53 rfl rfl ?_
      refine xr_get C hinX3 (N := 8) (ci := 3) (a := (ad 1)) 0 rfl rfl 5 (by decide) m0 rfl rfl dX3_peek_54 ?_
      obtain ⟨g4, hw⟩ := hw
      refine xr_iald C (t0 := 0) 1 rfl rfl (by decide) (N := 60) rfl g4 dX3_peek_57 ?_
      refine xr_goto C 62 dX3_peek_58 (by decide) ?_
      exact xr_iret C hr hw dX3_peek_62
  have L0 : ∀ a, mu (vX3_peek_0  Q) a → xX p l e rmX3_peek s m args below meth c D vwCl (va_A ((wS ad cI cJ cZ) σ) s.heap.size) (wS ad cI cJ cZ) [1, 2, 3, 4] σ 0 0 (MQ below (xQi D (wS ad cI cJ cZ) [1, 2, 3, 4] σ s.heap.size Q) args s 0 0 (va_A ((wS ad cI cJ cZ) σ) s.heap.size)) 1 a 0 [(0, .ref (ad 1))] [] := by
    refine mu_ind (fun K0 hK0 a hw => ?_)
    obtain ⟨σ0, hs0⟩ : ∃ x, x = a := ⟨_, rfl⟩
    subst hs0
    show xX p l e rmX3_peek s m args below meth c D vwCl (va_A ((wS ad cI cJ cZ) σ) s.heap.size) (wS ad cI cJ cZ) [1, 2, 3, 4] σ 0 0 (MQ below (xQi D (wS ad cI cJ cZ) [1, 2, 3, 4] σ s.heap.size Q) args s 0 0 (va_A ((wS ad cI cJ cZ) σ) s.heap.size)) 1 σ0 0 [(0, .ref (ad 1))] []
    unfold vX3_peek_0 at hw
    refine xr_aload_n C 0 dX3_peek_0 rfl rfl ?_
    refine xr_get C hinX3 (N := 8) (ci := 3) (a := (ad 1)) 0 rfl rfl 5 (by decide) m0 rfl rfl dX3_peek_1 ?_
    refine xr_aload_n C 0 dX3_peek_4 rfl rfl ?_
    refine xr_get C hinX3 (N := 8) (ci := 3) (a := (ad 1)) 0 rfl rfl 1 (by decide) m1 rfl rfl dX3_peek_5 ?_
    obtain ⟨g5, hw⟩ := hw
    obtain ⟨g6, hw⟩ := hw
    refine xr_icmp_ge C g5 g6 38 dX3_peek_8 (by decide) (fun c7 => ?_) (fun c7 => ?_)
    · have hw := hw.1 c7
      exact B38 σ0 hw
    · have hw := hw.2 c7
      refine xr_aload_n C 0 dX3_peek_11 rfl rfl ?_
      refine xr_get C hinX3 (N := 8) (ci := 3) (a := (ad 1)) 0 rfl rfl 0 (by decide) m2 rfl rfl dX3_peek_12 ?_
      refine xr_aload_n C 0 dX3_peek_15 rfl rfl ?_
      refine xr_get C hinX3 (N := 8) (ci := 3) (a := (ad 1)) 0 rfl rfl 5 (by decide) m0 rfl rfl dX3_peek_16 ?_
      obtain ⟨g8, hw⟩ := hw
      refine xr_iald C (t0 := 0) 1 rfl rfl (by decide) (N := 60) rfl g8 dX3_peek_19 ?_
      refine xr_bipush C dX3_peek_20 (by decide +kernel) ?_
      obtain ⟨g9, hw⟩ := hw
      refine xr_icmp_ne C g9 ⟨by decide, by decide⟩ 38 dX3_peek_22 (by decide) (fun c10 => ?_) (fun c10 => ?_)
      · have hw := hw.1 c10
        exact B38 σ0 hw
      · have hw := hw.2 c10
        refine xr_aload_n C 0 dX3_peek_25 rfl rfl ?_
        refine xr_dup C dX3_peek_26 rfl ?_
        refine xr_get C hinX3 (N := 8) (ci := 3) (a := (ad 1)) 0 rfl rfl 5 (by decide) m0 rfl rfl dX3_peek_27 ?_
        refine xr_iconst C dX3_peek_30 ?_
        refine xr_iadd C dX3_peek_31 ?_
        refine xr_put C (r := 1) (x := ((σ0 1 5) + 1)) (ty := .int) hinX3 (N := 8) (ci := 3) tyX3 tyX3_ok nmX3 0 rfl rfl 5 (by decide) m0 rfl rfl (by decide +kernel) rfl rfl (Nat.le_of_ble_eq_true rfl) rfl (by decide) dX3_peek_32 ?_
        refine xr_sig (fun σ11 e12 => ?_)
        have hw := hw σ11 e12
        refine xr_goto C 0 dX3_peek_35 (by decide) ?_
        exact hK0 σ11 hw
  show xX p l e rmX3_peek s m args below meth c D vwCl (va_A ((wS ad cI cJ cZ) σ) s.heap.size) (wS ad cI cJ cZ) [1, 2, 3, 4] σ 0 0 (MQ below (xQi D (wS ad cI cJ cZ) [1, 2, 3, 4] σ s.heap.size Q) args s 0 0 (va_A ((wS ad cI cJ cZ) σ) s.heap.size)) 1 σ 0 [(0, .ref (ad 1))] []
  unfold vX3_peek at hw
  exact L0 σ hw
abbrev rmX3_isDigit : Room := { frames := 0, cells := 0, slots := 0, locals := 64 }
set_option maxHeartbeats 8000000 in
set_option maxRecDepth 100000 in
theorem mX3_isDigit {l : Launch} {D : va_G} {cI cJ cZ : ClassId} (σ : xS) (a0 : Int) (Q : Int → xS → Prop) (hw : vX3_isDigit a0 σ Q) : xMi False l yX3_isDigit wsX3_isDigit rmX3_isDigit D (xtys cI cJ cZ) wN [] σ [.int (i32 a0)] Q := by
  refine xenter (F := []) (Qc := fun sz => xQi D wN [] σ sz Q) (own := RX3) (cc := cX3_isDigit) (maxL := 1) (ret := some .boolean) (by decide) rfl rfl (Nat.le_of_ble_eq_true rfl) ?_
  intro p e s m args below meth c hargs C hr hnm
  show xX p l e rmX3_isDigit s m args below meth c D vwCl (va_A (wN σ) s.heap.size) wN [] σ 0 0 (MQ below (xQi D wN [] σ s.heap.size Q) args s 0 0 (va_A (wN σ) s.heap.size)) 1 σ 0 [(0, .int (i32 a0))] []
  unfold vX3_isDigit at hw
  refine xr_iload_n C 0 dX3_isDigit_0 rfl rfl ?_
  refine xr_bipush C dX3_isDigit_1 (by decide +kernel) ?_
  obtain ⟨g1, hw⟩ := hw
  refine xr_icmp_lt C g1 ⟨by decide, by decide⟩ 16 dX3_isDigit_3 (by decide) (fun c2 => ?_) (fun c2 => ?_)
  · have hw := hw.1 c2
    refine xr_iconst C dX3_isDigit_16 ?_
    exact xr_zret C hr (Or.inl rfl) hw dX3_isDigit_17
  · have hw := hw.2 c2
    refine xr_iload_n C 0 dX3_isDigit_6 rfl rfl ?_
    refine xr_bipush C dX3_isDigit_7 (by decide +kernel) ?_
    refine xr_icmp_gt C g1 ⟨by decide, by decide⟩ 16 dX3_isDigit_9 (by decide) (fun c3 => ?_) (fun c3 => ?_)
    · have hw := hw.1 c3
      refine xr_iconst C dX3_isDigit_16 ?_
      exact xr_zret C hr (Or.inl rfl) hw dX3_isDigit_17
    · have hw := hw.2 c3
      refine xr_iconst C dX3_isDigit_12 ?_
      refine xr_goto C 17 dX3_isDigit_13 (by decide) ?_
      exact xr_zret C hr (Or.inr rfl) hw dX3_isDigit_17
abbrev rmX3_isStepAhead : Room := { frames := 1, cells := 0, slots := 0, locals := 84 }
set_option maxHeartbeats 8000000 in
set_option maxRecDepth 100000 in
theorem mX3_isStepAhead {l : Launch} {D : va_G} {ad : Nat → Nat} {cI cJ cZ : ClassId} (σ : xS) (Q : Int → xS → Prop) (hw : vX3_isStepAhead σ Q) : xMi False l yX3_isStepAhead wsX3_isStepAhead rmX3_isStepAhead D (xtys cI cJ cZ) (wS ad cI cJ cZ) [1, 2, 3, 4] σ [.ref (ad 1)] Q := by
  refine xenter (F := [1, 2, 3, 4]) (Qc := fun sz => xQi D (wS ad cI cJ cZ) [1, 2, 3, 4] σ sz Q) (own := RX3) (cc := cX3_isStepAhead) (maxL := 2) (ret := some .boolean) (by decide) rfl rfl (Nat.le_of_ble_eq_true rfl) ?_
  intro p e s m args below meth c hargs C hr hnm
  show xX p l e rmX3_isStepAhead s m args below meth c D vwCl (va_A ((wS ad cI cJ cZ) σ) s.heap.size) (wS ad cI cJ cZ) [1, 2, 3, 4] σ 0 0 (MQ below (xQi D (wS ad cI cJ cZ) [1, 2, 3, 4] σ s.heap.size Q) args s 0 0 (va_A ((wS ad cI cJ cZ) σ) s.heap.size)) 2 σ 0 [(0, .ref (ad 1))] []
  unfold vX3_isStepAhead at hw
  refine xr_aload_n C 0 dX3_isStepAhead_0 rfl rfl ?_
  refine xr_callVi C (ci := 3) (q0 := 0) (As := []) (rest := []) (xSp_rf _ _) (by decide) (fun h => h) (mX3_peek σ _ hw) (cwV 0 C.2.2.2.2.1 gX3_isStepAhead_X3_peek rfl rfl rfl (by decide +kernel) ⟨by decide, by decide⟩) rfl rfl rfl rfl (Nat.le_of_ble_eq_true rfl) ⟨by decide, by decide⟩ dX3_isStepAhead_1 (fun r1 σ2 hw => ?_)
  refine xr_istore_n C [(0, .ref (ad 1)), (1, .int (i32 r1))] dX3_isStepAhead_4 rfl (by decide) rfl ?_
  refine xr_iload_n C 1 dX3_isStepAhead_5 rfl rfl ?_
  refine xr_bipush C dX3_isStepAhead_6 (by decide +kernel) ?_
  obtain ⟨g3, hw⟩ := hw
  refine xr_icmp_eq C g3 ⟨by decide, by decide⟩ 36 dX3_isStepAhead_8 (by decide) (fun c4 => ?_) (fun c4 => ?_)
  · have hw := hw.1 c4
    refine xr_iconst C dX3_isStepAhead_36 ?_
    refine xr_goto C 41 dX3_isStepAhead_37 (by decide) ?_
    exact xr_zret C hr (Or.inr rfl) hw dX3_isStepAhead_41
  · have hw := hw.2 c4
    refine xr_iload_n C 1 dX3_isStepAhead_11 rfl rfl ?_
    refine xr_bipush C dX3_isStepAhead_12 (by decide +kernel) ?_
    refine xr_icmp_eq C g3 ⟨by decide, by decide⟩ 36 dX3_isStepAhead_14 (by decide) (fun c5 => ?_) (fun c5 => ?_)
    · have hw := hw.1 c5
      refine xr_iconst C dX3_isStepAhead_36 ?_
      refine xr_goto C 41 dX3_isStepAhead_37 (by decide) ?_
      exact xr_zret C hr (Or.inr rfl) hw dX3_isStepAhead_41
    · have hw := hw.2 c5
      refine xr_iload_n C 1 dX3_isStepAhead_17 rfl rfl ?_
      refine xr_bipush C dX3_isStepAhead_18 (by decide +kernel) ?_
      refine xr_icmp_eq C g3 ⟨by decide, by decide⟩ 36 dX3_isStepAhead_20 (by decide) (fun c6 => ?_) (fun c6 => ?_)
      · have hw := hw.1 c6
        refine xr_iconst C dX3_isStepAhead_36 ?_
        refine xr_goto C 41 dX3_isStepAhead_37 (by decide) ?_
        exact xr_zret C hr (Or.inr rfl) hw dX3_isStepAhead_41
      · have hw := hw.2 c6
        refine xr_iload_n C 1 dX3_isStepAhead_23 rfl rfl ?_
        refine xr_bipush C dX3_isStepAhead_24 (by decide +kernel) ?_
        refine xr_icmp_eq C g3 ⟨by decide, by decide⟩ 36 dX3_isStepAhead_26 (by decide) (fun c7 => ?_) (fun c7 => ?_)
        · have hw := hw.1 c7
          refine xr_iconst C dX3_isStepAhead_36 ?_
          refine xr_goto C 41 dX3_isStepAhead_37 (by decide) ?_
          exact xr_zret C hr (Or.inr rfl) hw dX3_isStepAhead_41
        · have hw := hw.2 c7
          refine xr_iload_n C 1 dX3_isStepAhead_29 rfl rfl ?_
          refine xr_callSi C (As := [.int (i32 r1)]) (rest := []) (xSp_nil _) (by decide) (fun h => h) (mX3_isDigit σ2 r1 _ hw) (va_cwS 1 C.2.2.2.2.1 gX3_isStepAhead_X3_isDigit rfl rfl rfl (by decide +kernel) ⟨by decide, by decide⟩) rfl rfl (Nat.le_of_ble_eq_true rfl) ⟨by decide, by decide⟩ dX3_isStepAhead_30 (fun r8 σ9 hw => ?_)
          obtain ⟨g10, hw⟩ := hw
          refine xr_if_eq C g10 40 dX3_isStepAhead_33 (by decide) (fun c11 => ?_) (fun c11 => ?_)
          · have hw := hw.1 c11
            refine xr_iconst C dX3_isStepAhead_40 ?_
            exact xr_zret C hr (Or.inl rfl) hw dX3_isStepAhead_41
          · have hw := hw.2 c11
            refine xr_iconst C dX3_isStepAhead_36 ?_
            refine xr_goto C 41 dX3_isStepAhead_37 (by decide) ?_
            exact xr_zret C hr (Or.inr rfl) hw dX3_isStepAhead_41
abbrev rmX3_byteAt : Room := { frames := 0, cells := 0, slots := 0, locals := 64 }
set_option maxHeartbeats 8000000 in
set_option maxRecDepth 100000 in
theorem mX3_byteAt {l : Launch} {D : va_G} {ad : Nat → Nat} {cI cJ cZ : ClassId} (σ : xS) (a1 : Int) (Q : Int → xS → Prop) (hw : vX3_byteAt a1 σ Q) : xMi False l yX3_byteAt wsX3_byteAt rmX3_byteAt D (xtys cI cJ cZ) (wS ad cI cJ cZ) [1, 2, 3, 4] σ [.ref (ad 1), .int (i32 a1)] Q := by
  refine xenter (F := [1, 2, 3, 4]) (Qc := fun sz => xQi D (wS ad cI cJ cZ) [1, 2, 3, 4] σ sz Q) (own := RX3) (cc := cX3_byteAt) (maxL := 2) (ret := some .int) (by decide) rfl rfl (Nat.le_of_ble_eq_true rfl) ?_
  intro p e s m args below meth c hargs C hr hnm
  have hinX3 : ∀ w ∈ u_ws RX3 TX3 8, w ∈ wsX3_byteAt := fun _ h => List.mem_cons_of_mem _ (List.mem_append_right _ h)
  have m0 : (Cond.fieldLink RX3 21 "SandBench$Script" "length" "I") ∈ wsX3_byteAt := by decide +kernel
  have m1 : (Cond.fieldLink RX3 11 "SandBench$Script" "bytes" "[I") ∈ wsX3_byteAt := by decide +kernel
  show xX p l e rmX3_byteAt s m args below meth c D vwCl (va_A ((wS ad cI cJ cZ) σ) s.heap.size) (wS ad cI cJ cZ) [1, 2, 3, 4] σ 0 0 (MQ below (xQi D (wS ad cI cJ cZ) [1, 2, 3, 4] σ s.heap.size Q) args s 0 0 (va_A ((wS ad cI cJ cZ) σ) s.heap.size)) 2 σ 0 [(0, .ref (ad 1)), (1, .int (i32 a1))] []
  unfold vX3_byteAt at hw
  refine xr_iload_n C 1 dX3_byteAt_0 rfl rfl ?_
  obtain ⟨g1, hw⟩ := hw
  refine xr_if_lt C g1 21 dX3_byteAt_1 (by decide) (fun c2 => ?_) (fun c2 => ?_)
  · have hw := hw.1 c2
    refine xr_iconst C dX3_byteAt_21 ?_
    exact xr_iret C hr hw dX3_byteAt_22
  · have hw := hw.2 c2
    refine xr_iload_n C 1 dX3_byteAt_4 rfl rfl ?_
    refine xr_aload_n C 0 dX3_byteAt_5 rfl rfl ?_
    refine xr_get C hinX3 (N := 8) (ci := 3) (a := (ad 1)) 0 rfl rfl 1 (by decide) m0 rfl rfl dX3_byteAt_6 ?_
    obtain ⟨g3, hw⟩ := hw
    refine xr_icmp_ge C g1 g3 21 dX3_byteAt_9 (by decide) (fun c4 => ?_) (fun c4 => ?_)
    · have hw := hw.1 c4
      refine xr_iconst C dX3_byteAt_21 ?_
      exact xr_iret C hr hw dX3_byteAt_22
    · have hw := hw.2 c4
      refine xr_aload_n C 0 dX3_byteAt_12 rfl rfl ?_
      refine xr_get C hinX3 (N := 8) (ci := 3) (a := (ad 1)) 0 rfl rfl 0 (by decide) m1 rfl rfl dX3_byteAt_13 ?_
      refine xr_iload_n C 1 dX3_byteAt_16 rfl rfl ?_
      obtain ⟨g5, hw⟩ := hw
      refine xr_iald C (t0 := 0) 1 rfl rfl (by decide) (N := 60) rfl g5 dX3_byteAt_17 ?_
      refine xr_goto C 22 dX3_byteAt_18 (by decide) ?_
      exact xr_iret C hr hw dX3_byteAt_22
abbrev rmX3_readNumber : Room := { frames := 1, cells := 0, slots := 0, locals := 85 }
set_option maxHeartbeats 8000000 in
set_option maxRecDepth 100000 in
theorem mX3_readNumber {l : Launch} {D : va_G} {ad : Nat → Nat} {cI cJ cZ : ClassId} (σ : xS) (a1 : Int) (Q : Int → xS → Prop) (hw : vX3_readNumber a1 σ Q) : xMi False l yX3_readNumber wsX3_readNumber rmX3_readNumber D (xtys cI cJ cZ) (wS ad cI cJ cZ) [1, 2, 3, 4] σ [.ref (ad 1), .int (i32 a1)] Q := by
  refine xenter (F := [1, 2, 3, 4]) (Qc := fun sz => xQi D (wS ad cI cJ cZ) [1, 2, 3, 4] σ sz Q) (own := RX3) (cc := cX3_readNumber) (maxL := 4) (ret := some .int) (by decide) rfl rfl (Nat.le_of_ble_eq_true rfl) ?_
  intro p e s m args below meth c hargs C hr hnm
  have hinX3 : ∀ w ∈ u_ws RX3 TX3 8, w ∈ wsX3_readNumber := fun _ h => List.mem_cons_of_mem _ (List.mem_append_right _ h)
  have m0 : (Cond.fieldLink RX3 34 "SandBench$Script" "fault" "I") ∈ wsX3_readNumber := by decide +kernel
  have m1 : (Cond.fieldLink RX3 31 "SandBench$Script" "at" "I") ∈ wsX3_readNumber := by decide +kernel
  have B98 : ∀ (x2 x3 : Int) (σ0 : xS), vX3_readNumber_98  Q x2 x3 σ0 → xX p l e rmX3_readNumber s m args below meth c D vwCl (va_A ((wS ad cI cJ cZ) σ) s.heap.size) (wS ad cI cJ cZ) [1, 2, 3, 4] σ 0 0 (MQ below (xQi D (wS ad cI cJ cZ) [1, 2, 3, 4] σ s.heap.size Q) args s 0 0 (va_A ((wS ad cI cJ cZ) σ) s.heap.size)) 4 σ0 98 [(0, .ref (ad 1)), (2, .int (i32 x2)), (3, .int (i32 x3))] [] := by
    intro x2 x3 σ0 hw
    unfold vX3_readNumber_98 at hw
    refine xr_aload_n C 0 dX3_readNumber_98 rfl rfl ?_
    refine xr_iload_n C 1 dX3_readNumber_99 rfl rfl ?_
    refine xr_put C (r := 1) (x := x2) (ty := .int) hinX3 (N := 8) (ci := 3) tyX3 tyX3_ok nmX3 0 rfl rfl 6 (by decide) m0 rfl rfl (by decide +kernel) rfl rfl (Nat.le_of_ble_eq_true rfl) rfl (by decide) dX3_readNumber_100 ?_
    refine xr_sig (fun σ1 e2 => ?_)
    have hw := hw σ1 e2
    refine xr_iload_n C 2 dX3_readNumber_103 rfl rfl ?_
    exact xr_iret C hr hw dX3_readNumber_104
  have B88 : ∀ (x1 x2 x3 : Int) (σ0 : xS), vX3_readNumber_88  Q x1 x2 x3 σ0 → xX p l e rmX3_readNumber s m args below meth c D vwCl (va_A ((wS ad cI cJ cZ) σ) s.heap.size) (wS ad cI cJ cZ) [1, 2, 3, 4] σ 0 0 (MQ below (xQi D (wS ad cI cJ cZ) [1, 2, 3, 4] σ s.heap.size Q) args s 0 0 (va_A ((wS ad cI cJ cZ) σ) s.heap.size)) 4 σ0 88 [(0, .ref (ad 1)), (1, .int (i32 x1)), (2, .int (i32 x2)), (3, .int (i32 x3))] [] := by
    intro x1 x2 x3 σ0 hw
    unfold vX3_readNumber_88 at hw
    refine xr_iload_n C 3 dX3_readNumber_88 rfl rfl ?_
    refine xr_iconst C dX3_readNumber_89 ?_
    obtain ⟨g3, hw⟩ := hw
    refine xr_icmp_lt C g3 ⟨by decide, by decide⟩ 98 dX3_readNumber_90 (by decide) (fun c4 => ?_) (fun c4 => ?_)
    · have hw := hw.1 c4
      refine xr_sub C [0, 2, 3] [(0, .ref (ad 1)), (2, .int (i32 x2)), (3, .int (i32 x3))] rfl ?_
      exact B98 x2 x3 σ0 hw
    · have hw := hw.2 c4
      refine xr_iload_n C 3 dX3_readNumber_93 rfl rfl ?_
      refine xr_iload_n C 1 dX3_readNumber_94 rfl rfl ?_
      obtain ⟨g5, hw⟩ := hw
      refine xr_icmp_le C g3 g5 103 dX3_readNumber_95 (by decide) (fun c6 => ?_) (fun c6 => ?_)
      · have hw := hw.1 c6
        refine xr_iload_n C 3 dX3_readNumber_103 rfl rfl ?_
        exact xr_iret C hr hw dX3_readNumber_104
      · have hw := hw.2 c6
        refine xr_sub C [0, 2, 3] [(0, .ref (ad 1)), (2, .int (i32 x2)), (3, .int (i32 x3))] rfl ?_
        exact B98 x2 x3 σ0 hw
  show xX p l e rmX3_readNumber s m args below meth c D vwCl (va_A ((wS ad cI cJ cZ) σ) s.heap.size) (wS ad cI cJ cZ) [1, 2, 3, 4] σ 0 0 (MQ below (xQi D (wS ad cI cJ cZ) [1, 2, 3, 4] σ s.heap.size Q) args s 0 0 (va_A ((wS ad cI cJ cZ) σ) s.heap.size)) 4 σ 0 [(0, .ref (ad 1)), (1, .int (i32 a1))] []
  unfold vX3_readNumber at hw
  refine xr_aload_n C 0 dX3_readNumber_0 rfl rfl ?_
  refine xr_callVi C (ci := 3) (q0 := 0) (As := []) (rest := []) (xSp_rf _ _) (by decide) (fun h => h) (mX3_peek σ _ hw) (cwV 0 C.2.2.2.2.1 gX3_readNumber_X3_peek rfl rfl rfl (by decide +kernel) ⟨by decide, by decide⟩) rfl rfl rfl rfl (Nat.le_of_ble_eq_true rfl) ⟨by decide, by decide⟩ dX3_readNumber_1 (fun r7 σ8 hw => ?_)
  refine xr_callSi C (As := [.int (i32 r7)]) (rest := []) (xSp_nil _) (by decide) (fun h => h) (mX3_isDigit σ8 r7 _ hw) (va_cwS 1 C.2.2.2.2.1 gX3_readNumber_X3_isDigit rfl rfl rfl (by decide +kernel) ⟨by decide, by decide⟩) rfl rfl (Nat.le_of_ble_eq_true rfl) ⟨by decide, by decide⟩ dX3_readNumber_4 (fun r9 σ10 hw => ?_)
  obtain ⟨g11, hw⟩ := hw
  refine xr_if_ne C g11 20 dX3_readNumber_7 (by decide) (fun c12 => ?_) (fun c12 => ?_)
  · have hw := hw.1 c12
    refine xr_aload_n C 0 dX3_readNumber_20 rfl rfl ?_
    refine xr_get C hinX3 (N := 8) (ci := 3) (a := (ad 1)) 0 rfl rfl 5 (by decide) m1 rfl rfl dX3_readNumber_21 ?_
    refine xr_istore_n C [(0, .ref (ad 1)), (1, .int (i32 a1)), (2, .int (i32 (σ10 1 5)))] dX3_readNumber_24 rfl (by decide) rfl ?_
    refine xr_aload_n C 0 dX3_readNumber_25 rfl rfl ?_
    refine xr_aload_n C 0 dX3_readNumber_26 rfl rfl ?_
    refine xr_get C hinX3 (N := 8) (ci := 3) (a := (ad 1)) 0 rfl rfl 5 (by decide) m1 rfl rfl dX3_readNumber_27 ?_
    refine xr_callVi C (ci := 3) (q0 := 0) (As := [.int (i32 (σ10 1 5))]) (rest := []) (xSp_rf _ _) (by decide) (fun h => h) (mX3_byteAt σ10 (σ10 1 5) _ hw) (cwV 1 C.2.2.2.2.1 gX3_readNumber_X3_byteAt rfl rfl rfl (by decide +kernel) ⟨by decide, by decide⟩) rfl rfl rfl rfl (Nat.le_of_ble_eq_true rfl) ⟨by decide, by decide⟩ dX3_readNumber_30 (fun r13 σ14 hw => ?_)
    refine xr_bipush C dX3_readNumber_33 (by decide +kernel) ?_
    refine xr_isub C dX3_readNumber_35 ?_
    refine xr_istore_n C [(0, .ref (ad 1)), (1, .int (i32 a1)), (2, .int (i32 (σ10 1 5))), (3, .int (i32 (r13 - 48)))] dX3_readNumber_36 rfl (by decide) rfl ?_
    refine xr_aload_n C 0 dX3_readNumber_37 rfl rfl ?_
    refine xr_dup C dX3_readNumber_38 rfl ?_
    refine xr_get C hinX3 (N := 8) (ci := 3) (a := (ad 1)) 0 rfl rfl 5 (by decide) m1 rfl rfl dX3_readNumber_39 ?_
    refine xr_iconst C dX3_readNumber_42 ?_
    refine xr_iadd C dX3_readNumber_43 ?_
    refine xr_put C (r := 1) (x := ((σ14 1 5) + 1)) (ty := .int) hinX3 (N := 8) (ci := 3) tyX3 tyX3_ok nmX3 0 rfl rfl 5 (by decide) m1 rfl rfl (by decide +kernel) rfl rfl (Nat.le_of_ble_eq_true rfl) rfl (by decide) dX3_readNumber_44 ?_
    refine xr_sig (fun σ15 e16 => ?_)
    have hw := hw σ15 e16
    refine xr_aload_n C 0 dX3_readNumber_47 rfl rfl ?_
    refine xr_aload_n C 0 dX3_readNumber_48 rfl rfl ?_
    refine xr_get C hinX3 (N := 8) (ci := 3) (a := (ad 1)) 0 rfl rfl 5 (by decide) m1 rfl rfl dX3_readNumber_49 ?_
    refine xr_callVi C (ci := 3) (q0 := 0) (As := [.int (i32 (σ15 1 5))]) (rest := []) (xSp_rf _ _) (by decide) (fun h => h) (mX3_byteAt σ15 (σ15 1 5) _ hw) (cwV 1 C.2.2.2.2.1 gX3_readNumber_X3_byteAt rfl rfl rfl (by decide +kernel) ⟨by decide, by decide⟩) rfl rfl rfl rfl (Nat.le_of_ble_eq_true rfl) ⟨by decide, by decide⟩ dX3_readNumber_52 (fun r17 σ18 hw => ?_)
    refine xr_callSi C (As := [.int (i32 r17)]) (rest := []) (xSp_nil _) (by decide) (fun h => h) (mX3_isDigit σ18 r17 _ hw) (va_cwS 1 C.2.2.2.2.1 gX3_readNumber_X3_isDigit rfl rfl rfl (by decide +kernel) ⟨by decide, by decide⟩) rfl rfl (Nat.le_of_ble_eq_true rfl) ⟨by decide, by decide⟩ dX3_readNumber_55 (fun r19 σ20 hw => ?_)
    obtain ⟨g21, hw⟩ := hw
    refine xr_if_eq C g21 88 dX3_readNumber_58 (by decide) (fun c22 => ?_) (fun c22 => ?_)
    · have hw := hw.1 c22
      exact B88 a1 (σ10 1 5) (r13 - 48) σ20 hw
    · have hw := hw.2 c22
      refine xr_bipush C dX3_readNumber_61 (by decide +kernel) ?_
      refine xr_iload_n C 3 dX3_readNumber_63 rfl rfl ?_
      refine xr_imul C dX3_readNumber_64 ?_
      refine xr_aload_n C 0 dX3_readNumber_65 rfl rfl ?_
      refine xr_aload_n C 0 dX3_readNumber_66 rfl rfl ?_
      refine xr_get C hinX3 (N := 8) (ci := 3) (a := (ad 1)) 0 rfl rfl 5 (by decide) m1 rfl rfl dX3_readNumber_67 ?_
      refine xr_callVi C (ci := 3) (q0 := 0) (As := [.int (i32 (σ20 1 5))]) (rest := [.int (i32 (10 * (r13 - 48)))]) (xSp_rf _ _) (by decide) (fun h => h) (mX3_byteAt σ20 (σ20 1 5) _ hw) (cwV 1 C.2.2.2.2.1 gX3_readNumber_X3_byteAt rfl rfl rfl (by decide +kernel) ⟨by decide, by decide⟩) rfl rfl rfl rfl (Nat.le_of_ble_eq_true rfl) ⟨by decide, by decide⟩ dX3_readNumber_70 (fun r23 σ24 hw => ?_)
      refine xr_iadd C dX3_readNumber_73 ?_
      refine xr_bipush C dX3_readNumber_74 (by decide +kernel) ?_
      refine xr_isub C dX3_readNumber_76 ?_
      refine xr_topi (fun t25 e26 => ?_)
      have hw := hw t25 e26
      refine xr_istore_n C [(0, .ref (ad 1)), (1, .int (i32 a1)), (2, .int (i32 (σ10 1 5))), (3, .int (i32 t25))] dX3_readNumber_77 rfl (by decide) rfl ?_
      refine xr_aload_n C 0 dX3_readNumber_78 rfl rfl ?_
      refine xr_dup C dX3_readNumber_79 rfl ?_
      refine xr_get C hinX3 (N := 8) (ci := 3) (a := (ad 1)) 0 rfl rfl 5 (by decide) m1 rfl rfl dX3_readNumber_80 ?_
      refine xr_iconst C dX3_readNumber_83 ?_
      refine xr_iadd C dX3_readNumber_84 ?_
      refine xr_put C (r := 1) (x := ((σ24 1 5) + 1)) (ty := .int) hinX3 (N := 8) (ci := 3) tyX3 tyX3_ok nmX3 0 rfl rfl 5 (by decide) m1 rfl rfl (by decide +kernel) rfl rfl (Nat.le_of_ble_eq_true rfl) rfl (by decide) dX3_readNumber_85 ?_
      refine xr_sig (fun σ27 e28 => ?_)
      have hw := hw σ27 e28
      exact B88 a1 (σ10 1 5) t25 σ27 hw
  · have hw := hw.2 c12
    refine xr_aload_n C 0 dX3_readNumber_10 rfl rfl ?_
    refine xr_aload_n C 0 dX3_readNumber_11 rfl rfl ?_
    refine xr_get C hinX3 (N := 8) (ci := 3) (a := (ad 1)) 0 rfl rfl 5 (by decide) m1 rfl rfl dX3_readNumber_12 ?_
    refine xr_put C (r := 1) (x := (σ10 1 5)) (ty := .int) hinX3 (N := 8) (ci := 3) tyX3 tyX3_ok nmX3 0 rfl rfl 6 (by decide) m0 rfl rfl (by decide +kernel) rfl rfl (Nat.le_of_ble_eq_true rfl) rfl (by decide) dX3_readNumber_15 ?_
    refine xr_sig (fun σ29 e30 => ?_)
    have hw := hw σ29 e30
    refine xr_iconst C dX3_readNumber_18 ?_
    exact xr_iret C hr hw dX3_readNumber_19
abbrev rmX3_expect : Room := { frames := 1, cells := 0, slots := 0, locals := 84 }
set_option maxHeartbeats 8000000 in
set_option maxRecDepth 100000 in
theorem mX3_expect {l : Launch} {D : va_G} {ad : Nat → Nat} {cI cJ cZ : ClassId} (σ : xS) (a1 : Int) (Q : xS → Prop) (hw : vX3_expect a1 σ Q) : xMv False l yX3_expect wsX3_expect rmX3_expect D (xtys cI cJ cZ) (wS ad cI cJ cZ) [1, 2, 3, 4] σ [.ref (ad 1), .int (i32 a1)] Q := by
  refine xenter (F := [1, 2, 3, 4]) (Qc := fun sz => xQv D (wS ad cI cJ cZ) [1, 2, 3, 4] σ sz Q) (own := RX3) (cc := cX3_expect) (maxL := 2) (ret := none) (by decide) rfl rfl (Nat.le_of_ble_eq_true rfl) ?_
  intro p e s m args below meth c hargs C hr hnm
  have hinX3 : ∀ w ∈ u_ws RX3 TX3 8, w ∈ wsX3_expect := fun _ h => List.mem_cons_of_mem _ (List.mem_append_right _ h)
  have m0 : (Cond.fieldLink RX3 34 "SandBench$Script" "fault" "I") ∈ wsX3_expect := by decide +kernel
  have m1 : (Cond.fieldLink RX3 31 "SandBench$Script" "at" "I") ∈ wsX3_expect := by decide +kernel
  show xX p l e rmX3_expect s m args below meth c D vwCl (va_A ((wS ad cI cJ cZ) σ) s.heap.size) (wS ad cI cJ cZ) [1, 2, 3, 4] σ 0 0 (MQ below (xQv D (wS ad cI cJ cZ) [1, 2, 3, 4] σ s.heap.size Q) args s 0 0 (va_A ((wS ad cI cJ cZ) σ) s.heap.size)) 2 σ 0 [(0, .ref (ad 1)), (1, .int (i32 a1))] []
  unfold vX3_expect at hw
  refine xr_aload_n C 0 dX3_expect_0 rfl rfl ?_
  refine xr_get C hinX3 (N := 8) (ci := 3) (a := (ad 1)) 0 rfl rfl 6 (by decide) m0 rfl rfl dX3_expect_1 ?_
  refine xr_iconst C dX3_expect_4 ?_
  obtain ⟨g1, hw⟩ := hw
  refine xr_icmp_eq C g1 ⟨by decide, by decide⟩ 9 dX3_expect_5 (by decide) (fun c2 => ?_) (fun c2 => ?_)
  · have hw := hw.1 c2
    refine xr_aload_n C 0 dX3_expect_9 rfl rfl ?_
    refine xr_callVi C (ci := 3) (q0 := 0) (As := []) (rest := []) (xSp_rf _ _) (by decide) (fun h => h) (mX3_peek σ _ hw) (cwV 0 C.2.2.2.2.1 gX3_expect_X3_peek rfl rfl rfl (by decide +kernel) ⟨by decide, by decide⟩) rfl rfl rfl rfl (Nat.le_of_ble_eq_true rfl) ⟨by decide, by decide⟩ dX3_expect_10 (fun r3 σ4 hw => ?_)
    refine xr_iload_n C 1 dX3_expect_13 rfl rfl ?_
    obtain ⟨g5, hw⟩ := hw
    obtain ⟨g6, hw⟩ := hw
    refine xr_icmp_ne C g5 g6 30 dX3_expect_14 (by decide) (fun c7 => ?_) (fun c7 => ?_)
    · have hw := hw.1 c7
      refine xr_aload_n C 0 dX3_expect_30 rfl rfl ?_
      refine xr_aload_n C 0 dX3_expect_31 rfl rfl ?_
      refine xr_get C hinX3 (N := 8) (ci := 3) (a := (ad 1)) 0 rfl rfl 5 (by decide) m1 rfl rfl dX3_expect_32 ?_
      refine xr_put C (r := 1) (x := (σ4 1 5)) (ty := .int) hinX3 (N := 8) (ci := 3) tyX3 tyX3_ok nmX3 0 rfl rfl 6 (by decide) m0 rfl rfl (by decide +kernel) rfl rfl (Nat.le_of_ble_eq_true rfl) rfl (by decide) dX3_expect_35 ?_
      refine xr_sig (fun σ8 e9 => ?_)
      have hw := hw σ8 e9
      exact xr_vret C hr hw dX3_expect_38
    · have hw := hw.2 c7
      refine xr_aload_n C 0 dX3_expect_17 rfl rfl ?_
      refine xr_dup C dX3_expect_18 rfl ?_
      refine xr_get C hinX3 (N := 8) (ci := 3) (a := (ad 1)) 0 rfl rfl 5 (by decide) m1 rfl rfl dX3_expect_19 ?_
      refine xr_iconst C dX3_expect_22 ?_
      refine xr_iadd C dX3_expect_23 ?_
      refine xr_put C (r := 1) (x := ((σ4 1 5) + 1)) (ty := .int) hinX3 (N := 8) (ci := 3) tyX3 tyX3_ok nmX3 0 rfl rfl 5 (by decide) m1 rfl rfl (by decide +kernel) rfl rfl (Nat.le_of_ble_eq_true rfl) rfl (by decide) dX3_expect_24 ?_
      refine xr_sig (fun σ10 e11 => ?_)
      have hw := hw σ10 e11
      refine xr_goto C 38 dX3_expect_27 (by decide) ?_
      exact xr_vret C hr hw dX3_expect_38
  · have hw := hw.2 c2
    exact xr_vret C hr hw dX3_expect_8
abbrev rmX3_add : Room := { frames := 0, cells := 0, slots := 0, locals := 64 }
set_option maxHeartbeats 8000000 in
set_option maxRecDepth 100000 in
theorem mX3_add {l : Launch} {D : va_G} {ad : Nat → Nat} {cI cJ cZ : ClassId} (σ : xS) (a1 a2 : Int) (Q : xS → Prop) (hw : vX3_add a1 a2 σ Q) : xMv False l yX3_add wsX3_add rmX3_add D (xtys cI cJ cZ) (wS ad cI cJ cZ) [1, 2, 3, 4] σ [.ref (ad 1), .int (i32 a1), .int (i32 a2)] Q := by
  refine xenter (F := [1, 2, 3, 4]) (Qc := fun sz => xQv D (wS ad cI cJ cZ) [1, 2, 3, 4] σ sz Q) (own := RX3) (cc := cX3_add) (maxL := 3) (ret := none) (by decide) rfl rfl (Nat.le_of_ble_eq_true rfl) ?_
  intro p e s m args below meth c hargs C hr hnm
  have hinX3 : ∀ w ∈ u_ws RX3 TX3 8, w ∈ wsX3_add := fun _ h => List.mem_cons_of_mem _ (List.mem_append_right _ h)
  have m0 : (Cond.fieldLink RX3 25 "SandBench$Script" "steps" "I") ∈ wsX3_add := by decide +kernel
  have m1 : (Cond.fieldLink RX3 15 "SandBench$Script" "letters" "[I") ∈ wsX3_add := by decide +kernel
  have m2 : (Cond.fieldLink RX3 18 "SandBench$Script" "numbers" "[I") ∈ wsX3_add := by decide +kernel
  show xX p l e rmX3_add s m args below meth c D vwCl (va_A ((wS ad cI cJ cZ) σ) s.heap.size) (wS ad cI cJ cZ) [1, 2, 3, 4] σ 0 0 (MQ below (xQv D (wS ad cI cJ cZ) [1, 2, 3, 4] σ s.heap.size Q) args s 0 0 (va_A ((wS ad cI cJ cZ) σ) s.heap.size)) 3 σ 0 [(0, .ref (ad 1)), (1, .int (i32 a1)), (2, .int (i32 a2))] []
  unfold vX3_add at hw
  refine xr_aload_n C 0 dX3_add_0 rfl rfl ?_
  refine xr_get C hinX3 (N := 8) (ci := 3) (a := (ad 1)) 0 rfl rfl 4 (by decide) m0 rfl rfl dX3_add_1 ?_
  refine xr_bipush C dX3_add_4 (by decide +kernel) ?_
  obtain ⟨g1, hw⟩ := hw
  refine xr_icmp_ge C g1 ⟨by decide, by decide⟩ 39 dX3_add_6 (by decide) (fun c2 => ?_) (fun c2 => ?_)
  · have hw := hw.1 c2
    exact xr_vret C hr hw dX3_add_39
  · have hw := hw.2 c2
    refine xr_aload_n C 0 dX3_add_9 rfl rfl ?_
    refine xr_get C hinX3 (N := 8) (ci := 3) (a := (ad 1)) 0 rfl rfl 2 (by decide) m1 rfl rfl dX3_add_10 ?_
    refine xr_aload_n C 0 dX3_add_13 rfl rfl ?_
    refine xr_get C hinX3 (N := 8) (ci := 3) (a := (ad 1)) 0 rfl rfl 4 (by decide) m0 rfl rfl dX3_add_14 ?_
    refine xr_iload_n C 1 dX3_add_17 rfl rfl ?_
    obtain ⟨g3, hw⟩ := hw
    refine xr_iast C (t0 := 0) (r := 3) 2 rfl rfl (by decide) (N := 100) rfl g3 wS_st3 (by decide) dX3_add_18 ?_
    refine xr_sig (fun σ4 e5 => ?_)
    have hw := hw σ4 e5
    refine xr_aload_n C 0 dX3_add_19 rfl rfl ?_
    refine xr_get C hinX3 (N := 8) (ci := 3) (a := (ad 1)) 0 rfl rfl 3 (by decide) m2 rfl rfl dX3_add_20 ?_
    refine xr_aload_n C 0 dX3_add_23 rfl rfl ?_
    refine xr_get C hinX3 (N := 8) (ci := 3) (a := (ad 1)) 0 rfl rfl 4 (by decide) m0 rfl rfl dX3_add_24 ?_
    refine xr_iload_n C 2 dX3_add_27 rfl rfl ?_
    obtain ⟨g6, hw⟩ := hw
    refine xr_iast C (t0 := 0) (r := 4) 3 rfl rfl (by decide) (N := 100) rfl g6 wS_st4 (by decide) dX3_add_28 ?_
    refine xr_sig (fun σ7 e8 => ?_)
    have hw := hw σ7 e8
    refine xr_aload_n C 0 dX3_add_29 rfl rfl ?_
    refine xr_dup C dX3_add_30 rfl ?_
    refine xr_get C hinX3 (N := 8) (ci := 3) (a := (ad 1)) 0 rfl rfl 4 (by decide) m0 rfl rfl dX3_add_31 ?_
    refine xr_iconst C dX3_add_34 ?_
    refine xr_iadd C dX3_add_35 ?_
    refine xr_put C (r := 1) (x := ((σ7 1 4) + 1)) (ty := .int) hinX3 (N := 8) (ci := 3) tyX3 tyX3_ok nmX3 0 rfl rfl 4 (by decide) m0 rfl rfl (by decide +kernel) rfl rfl (Nat.le_of_ble_eq_true rfl) rfl (by decide) dX3_add_36 ?_
    refine xr_sig (fun σ9 e10 => ?_)
    have hw := hw σ9 e10
    exact xr_vret C hr hw dX3_add_39
abbrev rmX3_repeat : Room := { frames := 1, cells := 0, slots := 0, locals := 86 }
set_option maxHeartbeats 8000000 in
set_option maxRecDepth 100000 in
theorem mX3_repeat {l : Launch} {D : va_G} {ad : Nat → Nat} {cI cJ cZ : ClassId} (σ : xS) (a1 a2 : Int) (Q : xS → Prop) (hw : vX3_repeat a1 a2 σ Q) : xMv False l yX3_repeat wsX3_repeat rmX3_repeat D (xtys cI cJ cZ) (wS ad cI cJ cZ) [1, 2, 3, 4] σ [.ref (ad 1), .int (i32 a1), .int (i32 a2)] Q := by
  refine xenter (F := [1, 2, 3, 4]) (Qc := fun sz => xQv D (wS ad cI cJ cZ) [1, 2, 3, 4] σ sz Q) (own := RX3) (cc := cX3_repeat) (maxL := 6) (ret := none) (by decide) rfl rfl (Nat.le_of_ble_eq_true rfl) ?_
  intro p e s m args below meth c hargs C hr hnm
  have hinX3 : ∀ w ∈ u_ws RX3 TX3 8, w ∈ wsX3_repeat := fun _ h => List.mem_cons_of_mem _ (List.mem_append_right _ h)
  have m0 : (Cond.fieldLink RX3 15 "SandBench$Script" "letters" "[I") ∈ wsX3_repeat := by decide +kernel
  have m1 : (Cond.fieldLink RX3 18 "SandBench$Script" "numbers" "[I") ∈ wsX3_repeat := by decide +kernel
  have m2 : (Cond.fieldLink RX3 25 "SandBench$Script" "steps" "I") ∈ wsX3_repeat := by decide +kernel
  have L17 : ∀ (K8 : Int × Int × Int × Int × xS → Prop) (hK8 : ∀ a, K8 a → xX p l e rmX3_repeat s m args below meth c D vwCl (va_A ((wS ad cI cJ cZ) σ) s.heap.size) (wS ad cI cJ cZ) [1, 2, 3, 4] σ 0 0 (MQ below (xQv D (wS ad cI cJ cZ) [1, 2, 3, 4] σ s.heap.size Q) args s 0 0 (va_A ((wS ad cI cJ cZ) σ) s.heap.size)) 6 (a.2.2.2.2) 8 [(0, .ref (ad 1)), (1, .int (i32 (a.1))), (2, .int (i32 (a.2.1))), (3, .int (i32 (a.2.2.1))), (4, .int (i32 (a.2.2.2.1)))] []), ∀ a, mu (vX3_repeat_17 K8 Q) a → xX p l e rmX3_repeat s m args below meth c D vwCl (va_A ((wS ad cI cJ cZ) σ) s.heap.size) (wS ad cI cJ cZ) [1, 2, 3, 4] σ 0 0 (MQ below (xQv D (wS ad cI cJ cZ) [1, 2, 3, 4] σ s.heap.size Q) args s 0 0 (va_A ((wS ad cI cJ cZ) σ) s.heap.size)) 6 (a.2.2.2.2.2) 17 [(0, .ref (ad 1)), (1, .int (i32 (a.1))), (2, .int (i32 (a.2.1))), (3, .int (i32 (a.2.2.1))), (4, .int (i32 (a.2.2.2.1))), (5, .int (i32 (a.2.2.2.2.1)))] [] := by
    intro K8 hK8
    refine mu_ind (fun K17 hK17 a hw => ?_)
    obtain ⟨x1, x2, x3, x4, x5, σ0⟩ := a
    show xX p l e rmX3_repeat s m args below meth c D vwCl (va_A ((wS ad cI cJ cZ) σ) s.heap.size) (wS ad cI cJ cZ) [1, 2, 3, 4] σ 0 0 (MQ below (xQv D (wS ad cI cJ cZ) [1, 2, 3, 4] σ s.heap.size Q) args s 0 0 (va_A ((wS ad cI cJ cZ) σ) s.heap.size)) 6 σ0 17 [(0, .ref (ad 1)), (1, .int (i32 x1)), (2, .int (i32 x2)), (3, .int (i32 x3)), (4, .int (i32 x4)), (5, .int (i32 x5))] []
    unfold vX3_repeat_17 at hw
    refine xr_iload C 5 dX3_repeat_17 rfl ?_
    refine xr_iload_n C 3 dX3_repeat_19 rfl rfl ?_
    obtain ⟨g1, hw⟩ := hw
    obtain ⟨g2, hw⟩ := hw
    refine xr_icmp_ge C g1 g2 47 dX3_repeat_20 (by decide) (fun c3 => ?_) (fun c3 => ?_)
    · have hw := hw.1 c3
      refine xr_iinc C 4 [(0, .ref (ad 1)), (1, .int (i32 x1)), (2, .int (i32 x2)), (3, .int (i32 x3)), (4, .int (i32 (x4 + 1))), (5, .int (i32 x5))] dX3_repeat_47 rfl (by decide) rfl ?_
      refine xr_goto C 8 dX3_repeat_50 (by decide) ?_
      refine xr_sub C [0, 1, 2, 3, 4] [(0, .ref (ad 1)), (1, .int (i32 x1)), (2, .int (i32 x2)), (3, .int (i32 x3)), (4, .int (i32 (x4 + 1)))] rfl ?_
      exact hK8 (x1, x2, x3, (x4 + 1), σ0) hw
    · have hw := hw.2 c3
      refine xr_aload_n C 0 dX3_repeat_23 rfl rfl ?_
      refine xr_aload_n C 0 dX3_repeat_24 rfl rfl ?_
      refine xr_get C hinX3 (N := 8) (ci := 3) (a := (ad 1)) 0 rfl rfl 2 (by decide) m0 rfl rfl dX3_repeat_25 ?_
      refine xr_iload C 5 dX3_repeat_28 rfl ?_
      obtain ⟨g4, hw⟩ := hw
      refine xr_iald C (t0 := 0) 2 rfl rfl (by decide) (N := 100) rfl g4 dX3_repeat_30 ?_
      refine xr_aload_n C 0 dX3_repeat_31 rfl rfl ?_
      refine xr_get C hinX3 (N := 8) (ci := 3) (a := (ad 1)) 0 rfl rfl 3 (by decide) m1 rfl rfl dX3_repeat_32 ?_
      refine xr_iload C 5 dX3_repeat_35 rfl ?_
      refine xr_iald C (t0 := 0) 3 rfl rfl (by decide) (N := 100) rfl g4 dX3_repeat_37 ?_
      refine xr_callVv C (ci := 3) (q0 := 0) (As := [.int (i32 (σ0 3 (x5.toNat))), .int (i32 (σ0 4 (x5.toNat)))]) (rest := []) (xSp_rf _ _) (by decide) (fun h => h) (mX3_add σ0 (σ0 3 (x5.toNat)) (σ0 4 (x5.toNat)) _ hw) (cwV 2 C.2.2.2.2.1 gX3_repeat_X3_add rfl rfl rfl (by decide +kernel) ⟨by decide, by decide⟩) rfl rfl rfl rfl (Nat.le_of_ble_eq_true rfl) ⟨by decide, by decide⟩ dX3_repeat_38 (fun σ6 hw => ?_)
      refine xr_iinc C 5 [(0, .ref (ad 1)), (1, .int (i32 x1)), (2, .int (i32 x2)), (3, .int (i32 x3)), (4, .int (i32 x4)), (5, .int (i32 (x5 + 1)))] dX3_repeat_41 rfl (by decide) rfl ?_
      refine xr_goto C 17 dX3_repeat_44 (by decide) ?_
      exact hK17 (x1, x2, x3, x4, (x5 + 1), σ6) hw
  have L8 : ∀ a, mu (vX3_repeat_8  Q) a → xX p l e rmX3_repeat s m args below meth c D vwCl (va_A ((wS ad cI cJ cZ) σ) s.heap.size) (wS ad cI cJ cZ) [1, 2, 3, 4] σ 0 0 (MQ below (xQv D (wS ad cI cJ cZ) [1, 2, 3, 4] σ s.heap.size Q) args s 0 0 (va_A ((wS ad cI cJ cZ) σ) s.heap.size)) 6 (a.2.2.2.2) 8 [(0, .ref (ad 1)), (1, .int (i32 (a.1))), (2, .int (i32 (a.2.1))), (3, .int (i32 (a.2.2.1))), (4, .int (i32 (a.2.2.2.1)))] [] := by
    refine mu_ind (fun K8 hK8 a hw => ?_)
    obtain ⟨x1, x2, x3, x4, σ0⟩ := a
    show xX p l e rmX3_repeat s m args below meth c D vwCl (va_A ((wS ad cI cJ cZ) σ) s.heap.size) (wS ad cI cJ cZ) [1, 2, 3, 4] σ 0 0 (MQ below (xQv D (wS ad cI cJ cZ) [1, 2, 3, 4] σ s.heap.size Q) args s 0 0 (va_A ((wS ad cI cJ cZ) σ) s.heap.size)) 6 σ0 8 [(0, .ref (ad 1)), (1, .int (i32 x1)), (2, .int (i32 x2)), (3, .int (i32 x3)), (4, .int (i32 x4))] []
    unfold vX3_repeat_8 at hw
    refine xr_iload C 4 dX3_repeat_8 rfl ?_
    refine xr_iload_n C 2 dX3_repeat_10 rfl rfl ?_
    obtain ⟨g7, hw⟩ := hw
    obtain ⟨g8, hw⟩ := hw
    refine xr_icmp_ge C g7 g8 53 dX3_repeat_11 (by decide) (fun c9 => ?_) (fun c9 => ?_)
    · have hw := hw.1 c9
      exact xr_vret C hr hw dX3_repeat_53
    · have hw := hw.2 c9
      refine xr_iload_n C 1 dX3_repeat_14 rfl rfl ?_
      refine xr_istore C [(0, .ref (ad 1)), (1, .int (i32 x1)), (2, .int (i32 x2)), (3, .int (i32 x3)), (4, .int (i32 x4)), (5, .int (i32 x1))] dX3_repeat_15 (by decide) rfl ?_
      exact L17 K8 hK8 (x1, x2, x3, x4, x1, σ0) hw
  show xX p l e rmX3_repeat s m args below meth c D vwCl (va_A ((wS ad cI cJ cZ) σ) s.heap.size) (wS ad cI cJ cZ) [1, 2, 3, 4] σ 0 0 (MQ below (xQv D (wS ad cI cJ cZ) [1, 2, 3, 4] σ s.heap.size Q) args s 0 0 (va_A ((wS ad cI cJ cZ) σ) s.heap.size)) 6 σ 0 [(0, .ref (ad 1)), (1, .int (i32 a1)), (2, .int (i32 a2))] []
  unfold vX3_repeat at hw
  refine xr_aload_n C 0 dX3_repeat_0 rfl rfl ?_
  refine xr_get C hinX3 (N := 8) (ci := 3) (a := (ad 1)) 0 rfl rfl 4 (by decide) m2 rfl rfl dX3_repeat_1 ?_
  refine xr_istore_n C [(0, .ref (ad 1)), (1, .int (i32 a1)), (2, .int (i32 a2)), (3, .int (i32 (σ 1 4)))] dX3_repeat_4 rfl (by decide) rfl ?_
  refine xr_iconst C dX3_repeat_5 ?_
  refine xr_istore C [(0, .ref (ad 1)), (1, .int (i32 a1)), (2, .int (i32 a2)), (3, .int (i32 (σ 1 4))), (4, .int (i32 1))] dX3_repeat_6 (by decide) rfl ?_
  exact L8 (a1, a2, (σ 1 4), 1, σ) hw
abbrev rmX3_readGlass : Room := { frames := 1, cells := 0, slots := 0, locals := 84 }
set_option maxHeartbeats 8000000 in
set_option maxRecDepth 100000 in
theorem mX3_readGlass {l : Launch} {D : va_G} {ad : Nat → Nat} {cI cJ cZ : ClassId} (σ : xS) (Q : Int → xS → Prop) (hw : vX3_readGlass σ Q) : xMi False l yX3_readGlass wsX3_readGlass rmX3_readGlass D (xtys cI cJ cZ) (wS ad cI cJ cZ) [1, 2, 3, 4] σ [.ref (ad 1)] Q := by
  refine xenter (F := [1, 2, 3, 4]) (Qc := fun sz => xQi D (wS ad cI cJ cZ) [1, 2, 3, 4] σ sz Q) (own := RX3) (cc := cX3_readGlass) (maxL := 2) (ret := some .int) (by decide) rfl rfl (Nat.le_of_ble_eq_true rfl) ?_
  intro p e s m args below meth c hargs C hr hnm
  have hinX3 : ∀ w ∈ u_ws RX3 TX3 8, w ∈ wsX3_readGlass := fun _ h => List.mem_cons_of_mem _ (List.mem_append_right _ h)
  have m0 : (Cond.fieldLink RX3 31 "SandBench$Script" "at" "I") ∈ wsX3_readGlass := by decide +kernel
  have m1 : (Cond.fieldLink RX3 34 "SandBench$Script" "fault" "I") ∈ wsX3_readGlass := by decide +kernel
  have m2 : (Cond.fieldLink RX3 28 "SandBench$Script" "glasses" "I") ∈ wsX3_readGlass := by decide +kernel
  have B23 : ∀ (σ0 : xS), vX3_readGlass_23  Q σ0 → xX p l e rmX3_readGlass s m args below meth c D vwCl (va_A ((wS ad cI cJ cZ) σ) s.heap.size) (wS ad cI cJ cZ) [1, 2, 3, 4] σ 0 0 (MQ below (xQi D (wS ad cI cJ cZ) [1, 2, 3, 4] σ s.heap.size Q) args s 0 0 (va_A ((wS ad cI cJ cZ) σ) s.heap.size)) 2 σ0 23 [(0, .ref (ad 1))] [] := by
    intro σ0 hw
    unfold vX3_readGlass_23 at hw
    refine xr_aload_n C 0 dX3_readGlass_23 rfl rfl ?_
    refine xr_aload_n C 0 dX3_readGlass_24 rfl rfl ?_
    refine xr_get C hinX3 (N := 8) (ci := 3) (a := (ad 1)) 0 rfl rfl 5 (by decide) m0 rfl rfl dX3_readGlass_25 ?_
    refine xr_put C (r := 1) (x := (σ0 1 5)) (ty := .int) hinX3 (N := 8) (ci := 3) tyX3 tyX3_ok nmX3 0 rfl rfl 6 (by decide) m1 rfl rfl (by decide +kernel) rfl rfl (Nat.le_of_ble_eq_true rfl) rfl (by decide) dX3_readGlass_28 ?_
    refine xr_sig (fun σ1 e2 => ?_)
    have hw := hw σ1 e2
    refine xr_iconst C dX3_readGlass_31 ?_
    exact xr_iret C hr hw dX3_readGlass_32
  show xX p l e rmX3_readGlass s m args below meth c D vwCl (va_A ((wS ad cI cJ cZ) σ) s.heap.size) (wS ad cI cJ cZ) [1, 2, 3, 4] σ 0 0 (MQ below (xQi D (wS ad cI cJ cZ) [1, 2, 3, 4] σ s.heap.size Q) args s 0 0 (va_A ((wS ad cI cJ cZ) σ) s.heap.size)) 2 σ 0 [(0, .ref (ad 1))] []
  unfold vX3_readGlass at hw
  refine xr_aload_n C 0 dX3_readGlass_0 rfl rfl ?_
  refine xr_callVi C (ci := 3) (q0 := 0) (As := []) (rest := []) (xSp_rf _ _) (by decide) (fun h => h) (mX3_peek σ _ hw) (cwV 0 C.2.2.2.2.1 gX3_readGlass_X3_peek rfl rfl rfl (by decide +kernel) ⟨by decide, by decide⟩) rfl rfl rfl rfl (Nat.le_of_ble_eq_true rfl) ⟨by decide, by decide⟩ dX3_readGlass_1 (fun r3 σ4 hw => ?_)
  refine xr_istore_n C [(0, .ref (ad 1)), (1, .int (i32 r3))] dX3_readGlass_4 rfl (by decide) rfl ?_
  refine xr_iload_n C 1 dX3_readGlass_5 rfl rfl ?_
  refine xr_callSi C (As := [.int (i32 r3)]) (rest := []) (xSp_nil _) (by decide) (fun h => h) (mX3_isDigit σ4 r3 _ hw) (va_cwS 1 C.2.2.2.2.1 gX3_readGlass_X3_isDigit rfl rfl rfl (by decide +kernel) ⟨by decide, by decide⟩) rfl rfl (Nat.le_of_ble_eq_true rfl) ⟨by decide, by decide⟩ dX3_readGlass_6 (fun r5 σ6 hw => ?_)
  obtain ⟨g7, hw⟩ := hw
  refine xr_if_eq C g7 23 dX3_readGlass_9 (by decide) (fun c8 => ?_) (fun c8 => ?_)
  · have hw := hw.1 c8
    refine xr_sub C [0] [(0, .ref (ad 1))] rfl ?_
    exact B23 σ6 hw
  · have hw := hw.2 c8
    refine xr_iload_n C 1 dX3_readGlass_12 rfl rfl ?_
    refine xr_bipush C dX3_readGlass_13 (by decide +kernel) ?_
    refine xr_isub C dX3_readGlass_15 ?_
    refine xr_aload_n C 0 dX3_readGlass_16 rfl rfl ?_
    refine xr_get C hinX3 (N := 8) (ci := 3) (a := (ad 1)) 0 rfl rfl 7 (by decide) m2 rfl rfl dX3_readGlass_17 ?_
    obtain ⟨g9, hw⟩ := hw
    obtain ⟨g10, hw⟩ := hw
    refine xr_icmp_lt C g9 g10 33 dX3_readGlass_20 (by decide) (fun c11 => ?_) (fun c11 => ?_)
    · have hw := hw.1 c11
      refine xr_aload_n C 0 dX3_readGlass_33 rfl rfl ?_
      refine xr_dup C dX3_readGlass_34 rfl ?_
      refine xr_get C hinX3 (N := 8) (ci := 3) (a := (ad 1)) 0 rfl rfl 5 (by decide) m0 rfl rfl dX3_readGlass_35 ?_
      refine xr_iconst C dX3_readGlass_38 ?_
      refine xr_iadd C dX3_readGlass_39 ?_
      refine xr_put C (r := 1) (x := ((σ6 1 5) + 1)) (ty := .int) hinX3 (N := 8) (ci := 3) tyX3 tyX3_ok nmX3 0 rfl rfl 5 (by decide) m0 rfl rfl (by decide +kernel) rfl rfl (Nat.le_of_ble_eq_true rfl) rfl (by decide) dX3_readGlass_40 ?_
      refine xr_sig (fun σ12 e13 => ?_)
      have hw := hw σ12 e13
      refine xr_iload_n C 1 dX3_readGlass_43 rfl rfl ?_
      refine xr_bipush C dX3_readGlass_44 (by decide +kernel) ?_
      refine xr_isub C dX3_readGlass_46 ?_
      exact xr_iret C hr hw dX3_readGlass_47
    · have hw := hw.2 c11
      refine xr_sub C [0] [(0, .ref (ad 1))] rfl ?_
      exact B23 σ6 hw
abbrev rmX3_steps : Room := { frames := 0, cells := 0, slots := 0, locals := 64 }
set_option maxHeartbeats 8000000 in
set_option maxRecDepth 100000 in
theorem mX3_steps {l : Launch} {D : va_G} {ad : Nat → Nat} {cI cJ cZ : ClassId} (σ : xS) (Q : Int → xS → Prop) (hw : vX3_steps σ Q) : xMi False l yX3_steps wsX3_steps rmX3_steps D (xtys cI cJ cZ) (wS ad cI cJ cZ) [1, 2, 3, 4] σ [.ref (ad 1)] Q := by
  refine xenter (F := [1, 2, 3, 4]) (Qc := fun sz => xQi D (wS ad cI cJ cZ) [1, 2, 3, 4] σ sz Q) (own := RX3) (cc := cX3_steps) (maxL := 1) (ret := some .int) (by decide) rfl rfl (Nat.le_of_ble_eq_true rfl) ?_
  intro p e s m args below meth c hargs C hr hnm
  have hinX3 : ∀ w ∈ u_ws RX3 TX3 8, w ∈ wsX3_steps := fun _ h => List.mem_cons_of_mem _ (List.mem_append_right _ h)
  have m0 : (Cond.fieldLink RX3 25 "SandBench$Script" "steps" "I") ∈ wsX3_steps := by decide +kernel
  show xX p l e rmX3_steps s m args below meth c D vwCl (va_A ((wS ad cI cJ cZ) σ) s.heap.size) (wS ad cI cJ cZ) [1, 2, 3, 4] σ 0 0 (MQ below (xQi D (wS ad cI cJ cZ) [1, 2, 3, 4] σ s.heap.size Q) args s 0 0 (va_A ((wS ad cI cJ cZ) σ) s.heap.size)) 1 σ 0 [(0, .ref (ad 1))] []
  unfold vX3_steps at hw
  refine xr_aload_n C 0 dX3_steps_0 rfl rfl ?_
  refine xr_get C hinX3 (N := 8) (ci := 3) (a := (ad 1)) 0 rfl rfl 4 (by decide) m0 rfl rfl dX3_steps_1 ?_
  exact xr_iret C hr hw dX3_steps_4
abbrev rmX3_letter : Room := { frames := 0, cells := 0, slots := 0, locals := 64 }
set_option maxHeartbeats 8000000 in
set_option maxRecDepth 100000 in
theorem mX3_letter {l : Launch} {D : va_G} {ad : Nat → Nat} {cI cJ cZ : ClassId} (σ : xS) (a1 : Int) (Q : Int → xS → Prop) (hw : vX3_letter a1 σ Q) : xMi False l yX3_letter wsX3_letter rmX3_letter D (xtys cI cJ cZ) (wS ad cI cJ cZ) [1, 2, 3, 4] σ [.ref (ad 1), .int (i32 a1)] Q := by
  refine xenter (F := [1, 2, 3, 4]) (Qc := fun sz => xQi D (wS ad cI cJ cZ) [1, 2, 3, 4] σ sz Q) (own := RX3) (cc := cX3_letter) (maxL := 2) (ret := some .int) (by decide) rfl rfl (Nat.le_of_ble_eq_true rfl) ?_
  intro p e s m args below meth c hargs C hr hnm
  have hinX3 : ∀ w ∈ u_ws RX3 TX3 8, w ∈ wsX3_letter := fun _ h => List.mem_cons_of_mem _ (List.mem_append_right _ h)
  have m0 : (Cond.fieldLink RX3 25 "SandBench$Script" "steps" "I") ∈ wsX3_letter := by decide +kernel
  have m1 : (Cond.fieldLink RX3 15 "SandBench$Script" "letters" "[I") ∈ wsX3_letter := by decide +kernel
  show xX p l e rmX3_letter s m args below meth c D vwCl (va_A ((wS ad cI cJ cZ) σ) s.heap.size) (wS ad cI cJ cZ) [1, 2, 3, 4] σ 0 0 (MQ below (xQi D (wS ad cI cJ cZ) [1, 2, 3, 4] σ s.heap.size Q) args s 0 0 (va_A ((wS ad cI cJ cZ) σ) s.heap.size)) 2 σ 0 [(0, .ref (ad 1)), (1, .int (i32 a1))] []
  unfold vX3_letter at hw
  refine xr_iload_n C 1 dX3_letter_0 rfl rfl ?_
  obtain ⟨g1, hw⟩ := hw
  refine xr_if_lt C g1 21 dX3_letter_1 (by decide) (fun c2 => ?_) (fun c2 => ?_)
  · have hw := hw.1 c2
    refine xr_iconst C dX3_letter_21 ?_
    exact xr_iret C hr hw dX3_letter_22
  · have hw := hw.2 c2
    refine xr_iload_n C 1 dX3_letter_4 rfl rfl ?_
    refine xr_aload_n C 0 dX3_letter_5 rfl rfl ?_
    refine xr_get C hinX3 (N := 8) (ci := 3) (a := (ad 1)) 0 rfl rfl 4 (by decide) m0 rfl rfl dX3_letter_6 ?_
    obtain ⟨g3, hw⟩ := hw
    refine xr_icmp_ge C g1 g3 21 dX3_letter_9 (by decide) (fun c4 => ?_) (fun c4 => ?_)
    · have hw := hw.1 c4
      refine xr_iconst C dX3_letter_21 ?_
      exact xr_iret C hr hw dX3_letter_22
    · have hw := hw.2 c4
      refine xr_aload_n C 0 dX3_letter_12 rfl rfl ?_
      refine xr_get C hinX3 (N := 8) (ci := 3) (a := (ad 1)) 0 rfl rfl 2 (by decide) m1 rfl rfl dX3_letter_13 ?_
      refine xr_iload_n C 1 dX3_letter_16 rfl rfl ?_
      obtain ⟨g5, hw⟩ := hw
      refine xr_iald C (t0 := 0) 2 rfl rfl (by decide) (N := 100) rfl g5 dX3_letter_17 ?_
      refine xr_goto C 22 dX3_letter_18 (by decide) ?_
      exact xr_iret C hr hw dX3_letter_22
abbrev rmX3_number : Room := { frames := 0, cells := 0, slots := 0, locals := 64 }
set_option maxHeartbeats 8000000 in
set_option maxRecDepth 100000 in
theorem mX3_number {l : Launch} {D : va_G} {ad : Nat → Nat} {cI cJ cZ : ClassId} (σ : xS) (a1 : Int) (Q : Int → xS → Prop) (hw : vX3_number a1 σ Q) : xMi False l yX3_number wsX3_number rmX3_number D (xtys cI cJ cZ) (wS ad cI cJ cZ) [1, 2, 3, 4] σ [.ref (ad 1), .int (i32 a1)] Q := by
  refine xenter (F := [1, 2, 3, 4]) (Qc := fun sz => xQi D (wS ad cI cJ cZ) [1, 2, 3, 4] σ sz Q) (own := RX3) (cc := cX3_number) (maxL := 2) (ret := some .int) (by decide) rfl rfl (Nat.le_of_ble_eq_true rfl) ?_
  intro p e s m args below meth c hargs C hr hnm
  have hinX3 : ∀ w ∈ u_ws RX3 TX3 8, w ∈ wsX3_number := fun _ h => List.mem_cons_of_mem _ (List.mem_append_right _ h)
  have m0 : (Cond.fieldLink RX3 25 "SandBench$Script" "steps" "I") ∈ wsX3_number := by decide +kernel
  have m1 : (Cond.fieldLink RX3 18 "SandBench$Script" "numbers" "[I") ∈ wsX3_number := by decide +kernel
  show xX p l e rmX3_number s m args below meth c D vwCl (va_A ((wS ad cI cJ cZ) σ) s.heap.size) (wS ad cI cJ cZ) [1, 2, 3, 4] σ 0 0 (MQ below (xQi D (wS ad cI cJ cZ) [1, 2, 3, 4] σ s.heap.size Q) args s 0 0 (va_A ((wS ad cI cJ cZ) σ) s.heap.size)) 2 σ 0 [(0, .ref (ad 1)), (1, .int (i32 a1))] []
  unfold vX3_number at hw
  refine xr_iload_n C 1 dX3_number_0 rfl rfl ?_
  obtain ⟨g1, hw⟩ := hw
  refine xr_if_lt C g1 21 dX3_number_1 (by decide) (fun c2 => ?_) (fun c2 => ?_)
  · have hw := hw.1 c2
    refine xr_iconst C dX3_number_21 ?_
    exact xr_iret C hr hw dX3_number_22
  · have hw := hw.2 c2
    refine xr_iload_n C 1 dX3_number_4 rfl rfl ?_
    refine xr_aload_n C 0 dX3_number_5 rfl rfl ?_
    refine xr_get C hinX3 (N := 8) (ci := 3) (a := (ad 1)) 0 rfl rfl 4 (by decide) m0 rfl rfl dX3_number_6 ?_
    obtain ⟨g3, hw⟩ := hw
    refine xr_icmp_ge C g1 g3 21 dX3_number_9 (by decide) (fun c4 => ?_) (fun c4 => ?_)
    · have hw := hw.1 c4
      refine xr_iconst C dX3_number_21 ?_
      exact xr_iret C hr hw dX3_number_22
    · have hw := hw.2 c4
      refine xr_aload_n C 0 dX3_number_12 rfl rfl ?_
      refine xr_get C hinX3 (N := 8) (ci := 3) (a := (ad 1)) 0 rfl rfl 3 (by decide) m1 rfl rfl dX3_number_13 ?_
      refine xr_iload_n C 1 dX3_number_16 rfl rfl ?_
      obtain ⟨g5, hw⟩ := hw
      refine xr_iald C (t0 := 0) 3 rfl rfl (by decide) (N := 100) rfl g5 dX3_number_17 ?_
      refine xr_goto C 22 dX3_number_18 (by decide) ?_
      exact xr_iret C hr hw dX3_number_22
abbrev rmX3_readRepeat_0 : Room := { frames := 2, cells := 0, slots := 0, locals := 111 }
set_option maxHeartbeats 8000000 in
set_option maxRecDepth 100000 in
theorem mX3_readRepeat_0 {l : Launch} {D : va_G} {ad : Nat → Nat} {cI cJ cZ : ClassId} (σ : xS) (a1 : Int) (Q : xS → Prop) (hw : vX3_readRepeat RS0 a1 σ Q) : xMv False l yX3_readRepeat wsX3_readRepeat rmX3_readRepeat_0 D (xtys cI cJ cZ) (wS ad cI cJ cZ) [1, 2, 3, 4] σ [.ref (ad 1), .int (i32 a1)] Q := by
  refine xenter (F := [1, 2, 3, 4]) (Qc := fun sz => xQv D (wS ad cI cJ cZ) [1, 2, 3, 4] σ sz Q) (own := RX3) (cc := cX3_readRepeat) (maxL := 4) (ret := none) (by decide) rfl rfl (Nat.le_of_ble_eq_true rfl) ?_
  intro p e s m args below meth c hargs C hr hnm
  have hinX3 : ∀ w ∈ u_ws RX3 TX3 8, w ∈ wsX3_readRepeat := fun _ h => List.mem_cons_of_mem _ (List.mem_append_right _ h)
  have m0 : (Cond.fieldLink RX3 25 "SandBench$Script" "steps" "I") ∈ wsX3_readRepeat := by decide +kernel
  have m1 : (Cond.fieldLink RX3 34 "SandBench$Script" "fault" "I") ∈ wsX3_readRepeat := by decide +kernel
  have m2 : (Cond.fieldLink RX3 31 "SandBench$Script" "at" "I") ∈ wsX3_readRepeat := by decide +kernel
  have B59 : ∀ (x2 x3 : Int) (σ0 : xS), vX3_readRepeat_59 RS0  Q x2 x3 σ0 → xX p l e rmX3_readRepeat_0 s m args below meth c D vwCl (va_A ((wS ad cI cJ cZ) σ) s.heap.size) (wS ad cI cJ cZ) [1, 2, 3, 4] σ 0 0 (MQ below (xQv D (wS ad cI cJ cZ) [1, 2, 3, 4] σ s.heap.size Q) args s 0 0 (va_A ((wS ad cI cJ cZ) σ) s.heap.size)) 4 σ0 59 [(0, .ref (ad 1)), (2, .int (i32 x2)), (3, .int (i32 x3))] [] := by
    intro x2 x3 σ0 hw
    unfold vX3_readRepeat_59 at hw
    refine xr_aload_n C 0 dX3_readRepeat_59 rfl rfl ?_
    refine xr_bipush C dX3_readRepeat_60 (by decide +kernel) ?_
    refine xr_callVv C (ci := 3) (q0 := 0) (As := [.int (i32 41)]) (rest := []) (xSp_rf _ _) (by decide) (fun h => h) (mX3_expect σ0 41 _ hw) (cwV 1 C.2.2.2.2.1 gX3_readRepeat_X3_expect rfl rfl rfl (by decide +kernel) ⟨by decide, by decide⟩) rfl rfl rfl rfl (Nat.le_of_ble_eq_true rfl) ⟨by decide, by decide⟩ dX3_readRepeat_62 (fun σ2 hw => ?_)
    refine xr_aload_n C 0 dX3_readRepeat_65 rfl rfl ?_
    refine xr_iload_n C 2 dX3_readRepeat_66 rfl rfl ?_
    refine xr_iload_n C 1 dX3_readRepeat_67 rfl rfl ?_
    refine xr_callVv C (ci := 3) (q0 := 0) (As := [.int (i32 x3), .int (i32 x2)]) (rest := []) (xSp_rf _ _) (by decide) (fun h => h) (mX3_repeat σ2 x3 x2 _ hw) (cwV 2 C.2.2.2.2.1 gX3_readRepeat_X3_repeat rfl rfl rfl (by decide +kernel) ⟨by decide, by decide⟩) rfl rfl rfl rfl (Nat.le_of_ble_eq_true rfl) ⟨by decide, by decide⟩ dX3_readRepeat_68 (fun σ4 hw => ?_)
    exact xr_vret C hr hw dX3_readRepeat_71
  have B33 : ∀ (x1 x2 : Int) (σ0 : xS), vX3_readRepeat_33 RS0  Q x1 x2 σ0 → xX p l e rmX3_readRepeat_0 s m args below meth c D vwCl (va_A ((wS ad cI cJ cZ) σ) s.heap.size) (wS ad cI cJ cZ) [1, 2, 3, 4] σ 0 0 (MQ below (xQv D (wS ad cI cJ cZ) [1, 2, 3, 4] σ s.heap.size Q) args s 0 0 (va_A ((wS ad cI cJ cZ) σ) s.heap.size)) 4 σ0 33 [(0, .ref (ad 1)), (1, .int (i32 x1)), (2, .int (i32 x2))] [] := by
    intro x1 x2 σ0 hw
    unfold vX3_readRepeat_33 at hw
    refine xr_aload_n C 0 dX3_readRepeat_33 rfl rfl ?_
    refine xr_bipush C dX3_readRepeat_34 (by decide +kernel) ?_
    refine xr_callVv C (ci := 3) (q0 := 0) (As := [.int (i32 40)]) (rest := []) (xSp_rf _ _) (by decide) (fun h => h) (mX3_expect σ0 40 _ hw) (cwV 1 C.2.2.2.2.1 gX3_readRepeat_X3_expect rfl rfl rfl (by decide +kernel) ⟨by decide, by decide⟩) rfl rfl rfl rfl (Nat.le_of_ble_eq_true rfl) ⟨by decide, by decide⟩ dX3_readRepeat_36 (fun σ6 hw => ?_)
    refine xr_aload_n C 0 dX3_readRepeat_39 rfl rfl ?_
    refine xr_get C hinX3 (N := 8) (ci := 3) (a := (ad 1)) 0 rfl rfl 4 (by decide) m0 rfl rfl dX3_readRepeat_40 ?_
    refine xr_istore_n C [(0, .ref (ad 1)), (1, .int (i32 x1)), (2, .int (i32 x2)), (3, .int (i32 (σ6 1 4)))] dX3_readRepeat_43 rfl (by decide) rfl ?_
    refine xr_aload_n C 0 dX3_readRepeat_44 rfl rfl ?_
    refine xr_get C hinX3 (N := 8) (ci := 3) (a := (ad 1)) 0 rfl rfl 6 (by decide) m1 rfl rfl dX3_readRepeat_45 ?_
    refine xr_iconst C dX3_readRepeat_48 ?_
    obtain ⟨g7, hw⟩ := hw
    refine xr_icmp_ne C g7 ⟨by decide, by decide⟩ 59 dX3_readRepeat_49 (by decide) (fun c8 => ?_) (fun c8 => ?_)
    · have hw := hw.1 c8
      refine xr_sub C [0, 2, 3] [(0, .ref (ad 1)), (2, .int (i32 x2)), (3, .int (i32 (σ6 1 4)))] rfl ?_
      exact B59 x2 (σ6 1 4) σ6 hw
    · have hw := hw.2 c8
      refine xr_aload_n C 0 dX3_readRepeat_52 rfl rfl ?_
      refine xr_iload_n C 1 dX3_readRepeat_53 rfl rfl ?_
      refine xr_iconst C dX3_readRepeat_54 ?_
      refine xr_iadd C dX3_readRepeat_55 ?_
      exact False.elim hw
  show xX p l e rmX3_readRepeat_0 s m args below meth c D vwCl (va_A ((wS ad cI cJ cZ) σ) s.heap.size) (wS ad cI cJ cZ) [1, 2, 3, 4] σ 0 0 (MQ below (xQv D (wS ad cI cJ cZ) [1, 2, 3, 4] σ s.heap.size Q) args s 0 0 (va_A ((wS ad cI cJ cZ) σ) s.heap.size)) 4 σ 0 [(0, .ref (ad 1)), (1, .int (i32 a1))] []
  unfold vX3_readRepeat at hw
  refine xr_aload_n C 0 dX3_readRepeat_0 rfl rfl ?_
  refine xr_bipush C dX3_readRepeat_1 (by decide +kernel) ?_
  refine xr_callVi C (ci := 3) (q0 := 0) (As := [.int (i32 20)]) (rest := []) (xSp_rf _ _) (by decide) (fun h => h) (mX3_readNumber σ 20 _ hw) (cwV 1 C.2.2.2.2.1 gX3_readRepeat_X3_readNumber rfl rfl rfl (by decide +kernel) ⟨by decide, by decide⟩) rfl rfl rfl rfl (Nat.le_of_ble_eq_true rfl) ⟨by decide, by decide⟩ dX3_readRepeat_3 (fun r10 σ11 hw => ?_)
  refine xr_istore_n C [(0, .ref (ad 1)), (1, .int (i32 a1)), (2, .int (i32 r10))] dX3_readRepeat_6 rfl (by decide) rfl ?_
  refine xr_aload_n C 0 dX3_readRepeat_7 rfl rfl ?_
  refine xr_get C hinX3 (N := 8) (ci := 3) (a := (ad 1)) 0 rfl rfl 6 (by decide) m1 rfl rfl dX3_readRepeat_8 ?_
  refine xr_iconst C dX3_readRepeat_11 ?_
  obtain ⟨g12, hw⟩ := hw
  refine xr_icmp_ne C g12 ⟨by decide, by decide⟩ 33 dX3_readRepeat_12 (by decide) (fun c13 => ?_) (fun c13 => ?_)
  · have hw := hw.1 c13
    exact B33 a1 r10 σ11 hw
  · have hw := hw.2 c13
    refine xr_iload_n C 1 dX3_readRepeat_15 rfl rfl ?_
    refine xr_iconst C dX3_readRepeat_16 ?_
    obtain ⟨g14, hw⟩ := hw
    refine xr_icmp_ne C g14 ⟨by decide, by decide⟩ 33 dX3_readRepeat_17 (by decide) (fun c15 => ?_) (fun c15 => ?_)
    · have hw := hw.1 c15
      exact B33 a1 r10 σ11 hw
    · have hw := hw.2 c15
      refine xr_aload_n C 0 dX3_readRepeat_20 rfl rfl ?_
      refine xr_callVi C (ci := 3) (q0 := 0) (As := []) (rest := []) (xSp_rf _ _) (by decide) (fun h => h) (mX3_peek σ11 _ hw) (cwV 0 C.2.2.2.2.1 gX3_readRepeat_X3_peek rfl rfl rfl (by decide +kernel) ⟨by decide, by decide⟩) rfl rfl rfl rfl (Nat.le_of_ble_eq_true rfl) ⟨by decide, by decide⟩ dX3_readRepeat_21 (fun r16 σ17 hw => ?_)
      refine xr_pop C dX3_readRepeat_24 rfl ?_
      refine xr_aload_n C 0 dX3_readRepeat_25 rfl rfl ?_
      refine xr_aload_n C 0 dX3_readRepeat_26 rfl rfl ?_
      refine xr_get C hinX3 (N := 8) (ci := 3) (a := (ad 1)) 0 rfl rfl 5 (by decide) m2 rfl rfl dX3_readRepeat_27 ?_
      refine xr_put C (r := 1) (x := (σ17 1 5)) (ty := .int) hinX3 (N := 8) (ci := 3) tyX3 tyX3_ok nmX3 0 rfl rfl 6 (by decide) m1 rfl rfl (by decide +kernel) rfl rfl (Nat.le_of_ble_eq_true rfl) rfl (by decide) dX3_readRepeat_30 ?_
      refine xr_sig (fun σ18 e19 => ?_)
      have hw := hw σ18 e19
      exact B33 a1 r10 σ18 hw
