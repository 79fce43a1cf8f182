abbrev rmX5_planned : Room := { frames := 6, cells := 0, slots := 0, locals := 209 }
set_option maxHeartbeats 8000000 in
set_option maxRecDepth 100000 in
theorem mX5_planned {l : Launch} {D : va_G} {ad : Nat → Nat} {cI cJ cZ : ClassId} (σ : xS) (a1 a2 a3 : Int) (Q : Int → xS → Prop) (hw : vX5_planned a1 a2 a3 σ Q) : xMi False l yX5_planned wsX5_planned rmX5_planned D (xtys cI cJ cZ) (wM ad cI cJ cZ) [20, 21, 22, 23, 24, 25, 26, 27, 28, 29, 30, 31, 32, 33] σ [.ref (ad 20), .int (i32 a1), .int (i32 a2), .int (i32 a3)] Q := by
  refine xenter (F := [20, 21, 22, 23, 24, 25, 26, 27, 28, 29, 30, 31, 32, 33]) (Qc := fun sz => xQi D (wM ad cI cJ cZ) [20, 21, 22, 23, 24, 25, 26, 27, 28, 29, 30, 31, 32, 33] σ sz Q) (own := RX5) (cc := cX5_planned) (maxL := 5) (ret := some .int) (by decide) rfl rfl (Nat.le_of_ble_eq_true rfl) ?_
  intro p e s m args below meth c hargs C hr hnm
  show xX p l e rmX5_planned s m args below meth c D vwCl (va_A ((wM ad cI cJ cZ) σ) s.heap.size) (wM ad cI cJ cZ) [20, 21, 22, 23, 24, 25, 26, 27, 28, 29, 30, 31, 32, 33] σ 0 0 (MQ below (xQi D (wM ad cI cJ cZ) [20, 21, 22, 23, 24, 25, 26, 27, 28, 29, 30, 31, 32, 33] σ s.heap.size Q) args s 0 0 (va_A ((wM ad cI cJ cZ) σ) s.heap.size)) 5 σ 0 [(0, .ref (ad 20)), (1, .int (i32 a1)), (2, .int (i32 a2)), (3, .int (i32 a3))] []
  unfold vX5_planned at hw
  refine xr_iload_n C 1 dX5_planned_0 rfl rfl ?_
  refine xr_iconst C dX5_planned_1 ?_
  refine xr_bipush C dX5_planned_2 (by decide +kernel) ?_
  refine xr_callSi C (As := [.int (i32 a1), .int (i32 1), .int (i32 40)]) (rest := []) (xSp_nil _) (by decide) (fun h => h) (mX5_in σ a1 1 40 _ hw) (va_cwS 3 C.2.2.2.2.1 gX5_planned_X5_in rfl rfl rfl (by decide +kernel) ⟨by decide, by decide⟩) rfl rfl (Nat.le_of_ble_eq_true rfl) ⟨by decide, by decide⟩ dX5_planned_4 (fun r1 σ2 hw => ?_)
  obtain ⟨g3, hw⟩ := hw
  refine xr_if_eq C g3 14 dX5_planned_7 (by decide) (fun c4 => ?_) (fun c4 => ?_)
  · have hw := hw.1 c4
    refine xr_bipush C dX5_planned_14 (by decide +kernel) ?_
    exact xr_iret C hr hw dX5_planned_16
  · have hw := hw.2 c4
    refine xr_iload_n C 2 dX5_planned_10 rfl rfl ?_
    obtain ⟨g5, hw⟩ := hw
    refine xr_if_ge C g5 17 dX5_planned_11 (by decide) (fun c6 => ?_) (fun c6 => ?_)
    · have hw := hw.1 c6
      refine xr_aload_n C 0 dX5_planned_17 rfl rfl ?_
      refine xr_iload_n C 1 dX5_planned_18 rfl rfl ?_
      refine xr_callVi C (ci := 5) (q0 := 0) (As := [.int (i32 a1)]) (rest := []) (xSp_rf _ _) (by decide) (fun h => h) (mX5_costOf σ2 a1 _ hw) (cwV 1 C.2.2.2.2.1 gX5_planned_X5_costOf rfl rfl rfl (by decide +kernel) ⟨by decide, by decide⟩) rfl rfl rfl rfl (Nat.le_of_ble_eq_true rfl) ⟨by decide, by decide⟩ dX5_planned_19 (fun r7 σ8 hw => ?_)
      refine xr_istore C [(0, .ref (ad 20)), (1, .int (i32 a1)), (2, .int (i32 a2)), (3, .int (i32 a3)), (4, .int (i32 r7))] dX5_planned_22 (by decide) rfl ?_
      refine xr_iload C 4 dX5_planned_24 rfl ?_
      refine xr_iconst C dX5_planned_26 ?_
      obtain ⟨g9, hw⟩ := hw
      refine xr_icmp_ne C g9 ⟨by decide, by decide⟩ 34 dX5_planned_27 (by decide) (fun c10 => ?_) (fun c10 => ?_)
      · have hw := hw.1 c10
        refine xr_aload_n C 0 dX5_planned_34 rfl rfl ?_
        refine xr_iload_n C 1 dX5_planned_35 rfl rfl ?_
        refine xr_iload_n C 2 dX5_planned_36 rfl rfl ?_
        refine xr_iload_n C 3 dX5_planned_37 rfl rfl ?_
        refine xr_iload C 4 dX5_planned_38 rfl ?_
        refine xr_callVi C (ci := 5) (q0 := 0) (As := [.int (i32 a1), .int (i32 a2), .int (i32 a3), .int (i32 r7)]) (rest := []) (xSp_rf _ _) (by decide) (fun h => h) (mX5_plannedStep σ8 a1 a2 a3 r7 _ hw) (cwV 4 C.2.2.2.2.1 gX5_planned_X5_plannedStep rfl rfl rfl (by decide +kernel) ⟨by decide, by decide⟩) rfl rfl rfl rfl (Nat.le_of_ble_eq_true rfl) ⟨by decide, by decide⟩ dX5_planned_40 (fun r11 σ12 hw => ?_)
        exact xr_iret C hr hw dX5_planned_43
      · have hw := hw.2 c10
        refine xr_iconst C dX5_planned_30 ?_
        refine xr_goto C 43 dX5_planned_31 (by decide) ?_
        exact xr_iret C hr hw dX5_planned_43
    · have hw := hw.2 c6
      refine xr_bipush C dX5_planned_14 (by decide +kernel) ?_
      exact xr_iret C hr hw dX5_planned_16
abbrev rmX5_measurableOf : Room := { frames := 6, cells := 0, slots := 0, locals := 209 }
set_option maxHeartbeats 8000000 in
set_option maxRecDepth 100000 in
theorem mX5_measurableOf {l : Launch} {D : va_G} {ad : Nat → Nat} {cI cJ cZ : ClassId} (σ : xS) (a1 a2 : Int) (Q : Int → xS → Prop) (hw : vX5_measurableOf a1 a2 σ Q) : xMi False l yX5_measurableOf wsX5_measurableOf rmX5_measurableOf D (xtys cI cJ cZ) (wM ad cI cJ cZ) [20, 21, 22, 23, 24, 25, 26, 27, 28, 29, 30, 31, 32, 33] σ [.ref (ad 20), .int (i32 a1), .int (i32 a2)] Q := by
  refine xenter (F := [20, 21, 22, 23, 24, 25, 26, 27, 28, 29, 30, 31, 32, 33]) (Qc := fun sz => xQi D (wM ad cI cJ cZ) [20, 21, 22, 23, 24, 25, 26, 27, 28, 29, 30, 31, 32, 33] σ sz Q) (own := RX5) (cc := cX5_measurableOf) (maxL := 6) (ret := some .int) (by decide) rfl rfl (Nat.le_of_ble_eq_true rfl) ?_
  intro p e s m args below meth c hargs C hr hnm
  have L5 : ∀ a, mu (vX5_measurableOf_5  Q) a → xX p l e rmX5_measurableOf s m args below meth c D vwCl (va_A ((wM ad cI cJ cZ) σ) s.heap.size) (wM ad cI cJ cZ) [20, 21, 22, 23, 24, 25, 26, 27, 28, 29, 30, 31, 32, 33] σ 0 0 (MQ below (xQi D (wM ad cI cJ cZ) [20, 21, 22, 23, 24, 25, 26, 27, 28, 29, 30, 31, 32, 33] σ s.heap.size Q) args s 0 0 (va_A ((wM ad cI cJ cZ) σ) s.heap.size)) 6 (a.2.2.2.2) 5 [(0, .ref (ad 20)), (1, .int (i32 (a.1))), (2, .int (i32 (a.2.1))), (3, .int (i32 (a.2.2.1))), (4, .int (i32 (a.2.2.2.1)))] [] := by
    refine mu_ind (fun K5 hK5 a hw => ?_)
    obtain ⟨x1, x2, x3, x4, σ0⟩ := a
    show xX p l e rmX5_measurableOf s m args below meth c D vwCl (va_A ((wM ad cI cJ cZ) σ) s.heap.size) (wM ad cI cJ cZ) [20, 21, 22, 23, 24, 25, 26, 27, 28, 29, 30, 31, 32, 33] σ 0 0 (MQ below (xQi D (wM ad cI cJ cZ) [20, 21, 22, 23, 24, 25, 26, 27, 28, 29, 30, 31, 32, 33] σ s.heap.size Q) args s 0 0 (va_A ((wM ad cI cJ cZ) σ) s.heap.size)) 6 σ0 5 [(0, .ref (ad 20)), (1, .int (i32 x1)), (2, .int (i32 x2)), (3, .int (i32 x3)), (4, .int (i32 x4))] []
    unfold vX5_measurableOf_5 at hw
    refine xr_iload C 4 dX5_measurableOf_5 rfl ?_
    refine xr_bipush C dX5_measurableOf_7 (by decide +kernel) ?_
    obtain ⟨g1, hw⟩ := hw
    refine xr_icmp_gt C g1 ⟨by decide, by decide⟩ 49 dX5_measurableOf_9 (by decide) (fun c2 => ?_) (fun c2 => ?_)
    · have hw := hw.1 c2
      refine xr_iload_n C 1 dX5_measurableOf_49 rfl rfl ?_
      refine xr_iconst C dX5_measurableOf_50 ?_
      obtain ⟨g3, hw⟩ := hw
      refine xr_icmp_ne C g3 ⟨by decide, by decide⟩ 58 dX5_measurableOf_51 (by decide) (fun c4 => ?_) (fun c4 => ?_)
      · have hw := hw.1 c4
        refine xr_iconst C dX5_measurableOf_58 ?_
        exact xr_iret C hr hw dX5_measurableOf_59
      · have hw := hw.2 c4
        refine xr_iload_n C 3 dX5_measurableOf_54 rfl rfl ?_
        refine xr_goto C 59 dX5_measurableOf_55 (by decide) ?_
        exact xr_iret C hr hw dX5_measurableOf_59
    · have hw := hw.2 c2
      refine xr_aload_n C 0 dX5_measurableOf_12 rfl rfl ?_
      refine xr_iload C 4 dX5_measurableOf_13 rfl ?_
      refine xr_callVi C (ci := 5) (q0 := 0) (As := [.int (i32 x4)]) (rest := []) (xSp_rf _ _) (by decide) (fun h => h) (mX5_costOf σ0 x4 _ hw) (cwV 1 C.2.2.2.2.1 gX5_measurableOf_X5_costOf rfl rfl rfl (by decide +kernel) ⟨by decide, by decide⟩) rfl rfl rfl rfl (Nat.le_of_ble_eq_true rfl) ⟨by decide, by decide⟩ dX5_measurableOf_15 (fun r5 σ6 hw => ?_)
      refine xr_istore C [(0, .ref (ad 20)), (1, .int (i32 x1)), (2, .int (i32 x2)), (3, .int (i32 x3)), (4, .int (i32 x4)), (5, .int (i32 r5))] dX5_measurableOf_18 (by decide) rfl ?_
      refine xr_iload C 5 dX5_measurableOf_20 rfl ?_
      refine xr_iconst C dX5_measurableOf_22 ?_
      obtain ⟨g7, hw⟩ := hw
      refine xr_icmp_eq C g7 ⟨by decide, by decide⟩ 43 dX5_measurableOf_23 (by decide) (fun c8 => ?_) (fun c8 => ?_)
      · have hw := hw.1 c8
        refine xr_iinc C 4 [(0, .ref (ad 20)), (1, .int (i32 x1)), (2, .int (i32 x2)), (3, .int (i32 x3)), (4, .int (i32 (x4 + 1))), (5, .int (i32 r5))] dX5_measurableOf_43 rfl (by decide) rfl ?_
        refine xr_goto C 5 dX5_measurableOf_46 (by decide) ?_
        refine xr_sub C [0, 1, 2, 3, 4] [(0, .ref (ad 20)), (1, .int (i32 x1)), (2, .int (i32 x2)), (3, .int (i32 x3)), (4, .int (i32 (x4 + 1)))] rfl ?_
        exact hK5 (x1, x2, x3, (x4 + 1), σ6) hw
      · have hw := hw.2 c8
        refine xr_iload C 5 dX5_measurableOf_26 rfl ?_
        refine xr_iload_n C 2 dX5_measurableOf_28 rfl rfl ?_
        obtain ⟨g9, hw⟩ := hw
        refine xr_icmp_gt C g7 g9 43 dX5_measurableOf_29 (by decide) (fun c10 => ?_) (fun c10 => ?_)
        · have hw := hw.1 c10
          refine xr_iinc C 4 [(0, .ref (ad 20)), (1, .int (i32 x1)), (2, .int (i32 x2)), (3, .int (i32 x3)), (4, .int (i32 (x4 + 1))), (5, .int (i32 r5))] dX5_measurableOf_43 rfl (by decide) rfl ?_
          refine xr_goto C 5 dX5_measurableOf_46 (by decide) ?_
          refine xr_sub C [0, 1, 2, 3, 4] [(0, .ref (ad 20)), (1, .int (i32 x1)), (2, .int (i32 x2)), (3, .int (i32 x3)), (4, .int (i32 (x4 + 1)))] rfl ?_
          exact hK5 (x1, x2, x3, (x4 + 1), σ6) hw
        · have hw := hw.2 c10
          refine xr_iload_n C 3 dX5_measurableOf_32 rfl rfl ?_
          refine xr_iload_n C 1 dX5_measurableOf_33 rfl rfl ?_
          obtain ⟨g11, hw⟩ := hw
          obtain ⟨g12, hw⟩ := hw
          refine xr_icmp_ne C g11 g12 40 dX5_measurableOf_34 (by decide) (fun c13 => ?_) (fun c13 => ?_)
          · have hw := hw.1 c13
            refine xr_iinc C 3 [(0, .ref (ad 20)), (1, .int (i32 x1)), (2, .int (i32 x2)), (3, .int (i32 (x3 + 1))), (4, .int (i32 x4)), (5, .int (i32 r5))] dX5_measurableOf_40 rfl (by decide) rfl ?_
            refine xr_iinc C 4 [(0, .ref (ad 20)), (1, .int (i32 x1)), (2, .int (i32 x2)), (3, .int (i32 (x3 + 1))), (4, .int (i32 (x4 + 1))), (5, .int (i32 r5))] dX5_measurableOf_43 rfl (by decide) rfl ?_
            refine xr_goto C 5 dX5_measurableOf_46 (by decide) ?_
            refine xr_sub C [0, 1, 2, 3, 4] [(0, .ref (ad 20)), (1, .int (i32 x1)), (2, .int (i32 x2)), (3, .int (i32 (x3 + 1))), (4, .int (i32 (x4 + 1)))] rfl ?_
            exact hK5 (x1, x2, (x3 + 1), (x4 + 1), σ6) hw
          · have hw := hw.2 c13
            refine xr_iload C 4 dX5_measurableOf_37 rfl ?_
            exact xr_iret C hr hw dX5_measurableOf_39
  show xX p l e rmX5_measurableOf s m args below meth c D vwCl (va_A ((wM ad cI cJ cZ) σ) s.heap.size) (wM ad cI cJ cZ) [20, 21, 22, 23, 24, 25, 26, 27, 28, 29, 30, 31, 32, 33] σ 0 0 (MQ below (xQi D (wM ad cI cJ cZ) [20, 21, 22, 23, 24, 25, 26, 27, 28, 29, 30, 31, 32, 33] σ s.heap.size Q) args s 0 0 (va_A ((wM ad cI cJ cZ) σ) s.heap.size)) 6 σ 0 [(0, .ref (ad 20)), (1, .int (i32 a1)), (2, .int (i32 a2))] []
  unfold vX5_measurableOf at hw
  refine xr_iconst C dX5_measurableOf_0 ?_
  refine xr_istore_n C [(0, .ref (ad 20)), (1, .int (i32 a1)), (2, .int (i32 a2)), (3, .int (i32 0))] dX5_measurableOf_1 rfl (by decide) rfl ?_
  refine xr_iconst C dX5_measurableOf_2 ?_
  refine xr_istore C [(0, .ref (ad 20)), (1, .int (i32 a1)), (2, .int (i32 a2)), (3, .int (i32 0)), (4, .int (i32 1))] dX5_measurableOf_3 (by decide) rfl ?_
  exact L5 (a1, a2, 0, 1, σ) hw
abbrev rmX5_measurable : Room := { frames := 7, cells := 0, slots := 0, locals := 234 }
set_option maxHeartbeats 8000000 in
set_option maxRecDepth 100000 in
theorem mX5_measurable {l : Launch} {D : va_G} {ad : Nat → Nat} {cI cJ cZ : ClassId} (σ : xS) (a1 a2 : Int) (Q : Int → xS → Prop) (hw : vX5_measurable a1 a2 σ Q) : xMi False l yX5_measurable wsX5_measurable rmX5_measurable D (xtys cI cJ cZ) (wM ad cI cJ cZ) [20, 21, 22, 23, 24, 25, 26, 27, 28, 29, 30, 31, 32, 33] σ [.ref (ad 20), .int (i32 a1), .int (i32 a2)] Q := by
  refine xenter (F := [20, 21, 22, 23, 24, 25, 26, 27, 28, 29, 30, 31, 32, 33]) (Qc := fun sz => xQi D (wM ad cI cJ cZ) [20, 21, 22, 23, 24, 25, 26, 27, 28, 29, 30, 31, 32, 33] σ sz Q) (own := RX5) (cc := cX5_measurable) (maxL := 3) (ret := some .int) (by decide) rfl rfl (Nat.le_of_ble_eq_true rfl) ?_
  intro p e s m args below meth c hargs C hr hnm
  show xX p l e rmX5_measurable s m args below meth c D vwCl (va_A ((wM ad cI cJ cZ) σ) s.heap.size) (wM ad cI cJ cZ) [20, 21, 22, 23, 24, 25, 26, 27, 28, 29, 30, 31, 32, 33] σ 0 0 (MQ below (xQi D (wM ad cI cJ cZ) [20, 21, 22, 23, 24, 25, 26, 27, 28, 29, 30, 31, 32, 33] σ s.heap.size Q) args s 0 0 (va_A ((wM ad cI cJ cZ) σ) s.heap.size)) 3 σ 0 [(0, .ref (ad 20)), (1, .int (i32 a1)), (2, .int (i32 a2))] []
  unfold vX5_measurable at hw
  refine xr_iload_n C 1 dX5_measurable_0 rfl rfl ?_
  refine xr_iconst C dX5_measurable_1 ?_
  obtain ⟨g1, hw⟩ := hw
  refine xr_icmp_lt C g1 ⟨by decide, by decide⟩ 15 dX5_measurable_2 (by decide) (fun c2 => ?_) (fun c2 => ?_)
  · have hw := hw.1 c2
    refine xr_bipush C dX5_measurable_15 (by decide +kernel) ?_
    refine xr_goto C 26 dX5_measurable_17 (by decide) ?_
    exact xr_iret C hr hw dX5_measurable_26
  · have hw := hw.2 c2
    refine xr_iload_n C 2 dX5_measurable_5 rfl rfl ?_
    refine xr_iconst C dX5_measurable_6 ?_
    refine xr_bipush C dX5_measurable_7 (by decide +kernel) ?_
    refine xr_callSi C (As := [.int (i32 a2), .int (i32 0), .int (i32 9)]) (rest := []) (xSp_nil _) (by decide) (fun h => h) (mX5_in σ a2 0 9 _ hw) (va_cwS 3 C.2.2.2.2.1 gX5_measurable_X5_in rfl rfl rfl (by decide +kernel) ⟨by decide, by decide⟩) rfl rfl (Nat.le_of_ble_eq_true rfl) ⟨by decide, by decide⟩ dX5_measurable_9 (fun r3 σ4 hw => ?_)
    obtain ⟨g5, hw⟩ := hw
    refine xr_if_ne C g5 20 dX5_measurable_12 (by decide) (fun c6 => ?_) (fun c6 => ?_)
    · have hw := hw.1 c6
      refine xr_aload_n C 0 dX5_measurable_20 rfl rfl ?_
      refine xr_iload_n C 1 dX5_measurable_21 rfl rfl ?_
      refine xr_iload_n C 2 dX5_measurable_22 rfl rfl ?_
      refine xr_callVi C (ci := 5) (q0 := 0) (As := [.int (i32 a1), .int (i32 a2)]) (rest := []) (xSp_rf _ _) (by decide) (fun h => h) (mX5_measurableOf σ4 a1 a2 _ hw) (cwV 2 C.2.2.2.2.1 gX5_measurable_X5_measurableOf rfl rfl rfl (by decide +kernel) ⟨by decide, by decide⟩) rfl rfl rfl rfl (Nat.le_of_ble_eq_true rfl) ⟨by decide, by decide⟩ dX5_measurable_23 (fun r7 σ8 hw => ?_)
      exact xr_iret C hr hw dX5_measurable_26
    · have hw := hw.2 c6
      refine xr_bipush C dX5_measurable_15 (by decide +kernel) ?_
      refine xr_goto C 26 dX5_measurable_17 (by decide) ?_
      exact xr_iret C hr hw dX5_measurable_26
abbrev rmX5_count : Room := { frames := 2, cells := 0, slots := 0, locals := 108 }
set_option maxHeartbeats 8000000 in
set_option maxRecDepth 100000 in
theorem mX5_count {l : Launch} {D : va_G} {ad : Nat → Nat} {cI cJ cZ : ClassId} (σ : xS) (a1 : Int) (Q : Int → xS → Prop) (hw : vX5_count a1 σ Q) : xMi False l yX5_count wsX5_count rmX5_count D (xtys cI cJ cZ) (wM ad cI cJ cZ) [20, 21, 22, 23, 24, 25, 26, 27, 28, 29, 30, 31, 32, 33] σ [.ref (ad 20), .int (i32 a1)] Q := by
  refine xenter (F := [20, 21, 22, 23, 24, 25, 26, 27, 28, 29, 30, 31, 32, 33]) (Qc := fun sz => xQi D (wM ad cI cJ cZ) [20, 21, 22, 23, 24, 25, 26, 27, 28, 29, 30, 31, 32, 33] σ sz Q) (own := RX5) (cc := cX5_count) (maxL := 2) (ret := some .int) (by decide) rfl rfl (Nat.le_of_ble_eq_true rfl) ?_
  intro p e s m args below meth c hargs C hr hnm
  have hinX5 : ∀ w ∈ u_ws RX5 TX5 22, w ∈ wsX5_count := fun _ h => List.mem_cons_of_mem _ (List.mem_append_right _ h)
  have m0 : (Cond.fieldLink RX5 7 "SandBenchModel" "m" "[I") ∈ wsX5_count := by decide +kernel
  have m1 : (Cond.fieldLink RX5 59 "SandBenchModel" "undos" "I") ∈ wsX5_count := by decide +kernel
  have m2 : (Cond.fieldLink RX5 109 "SandBenchModel" "textLength" "I") ∈ wsX5_count := by decide +kernel
  show xX p l e rmX5_count s m args below meth c D vwCl (va_A ((wM ad cI cJ cZ) σ) s.heap.size) (wM ad cI cJ cZ) [20, 21, 22, 23, 24, 25, 26, 27, 28, 29, 30, 31, 32, 33] σ 0 0 (MQ below (xQi D (wM ad cI cJ cZ) [20, 21, 22, 23, 24, 25, 26, 27, 28, 29, 30, 31, 32, 33] σ s.heap.size Q) args s 0 0 (va_A ((wM ad cI cJ cZ) σ) s.heap.size)) 2 σ 0 [(0, .ref (ad 20)), (1, .int (i32 a1))] []
  unfold vX5_count at hw
  refine xr_iload_n C 1 dX5_count_0 rfl rfl ?_
  obtain ⟨g1, hw⟩ := hw
  by_cases c2 : a1 < 0 ∨ 9 < a1
  · have hw := hw.1 c2
    refine xr_tabOut C g1 150 dX5_count_1 c2 (by decide) ?_
    refine xr_bipush C dX5_count_150 (by decide +kernel) ?_
    exact xr_iret C hr hw dX5_count_152
  · have hw := hw.2
    have hbc2 : (0 : Int) ≤ a1 := Int.not_lt.mp (fun q => c2 (Or.inl q))
    by_cases c3 : a1 = 0
    · have hw := hw.1 c3
      refine xr_tabIn C (off := 55) 0 c3 ⟨by decide, by decide⟩ 56 dX5_count_1 (by decide) (by decide) (by decide +kernel) (by decide) ?_
      refine xr_aload_n C 0 dX5_count_56 rfl rfl ?_
      refine xr_get C hinX5 (N := 22) (ci := 5) (a := (ad 20)) 0 rfl rfl 0 (by decide) m0 rfl rfl dX5_count_57 ?_
      refine xr_bipush C dX5_count_60 (by decide +kernel) ?_
      refine xr_iald C (t0 := 0) 1 rfl rfl (by decide) (N := 64) rfl ⟨by decide, by decide⟩ dX5_count_62 ?_
      exact xr_iret C hr hw dX5_count_63
    · have hw := hw.2
      have hbc2 : (1 : Int) ≤ a1 := Int.lt_iff_le_and_ne.mpr ⟨hbc2, fun q => c3 q.symm⟩
      by_cases c4 : a1 = 1
      · have hw := hw.1 c4
        refine xr_tabIn C (off := 63) 1 c4 ⟨by decide, by decide⟩ 64 dX5_count_1 (by decide) (by decide) (by decide +kernel) (by decide) ?_
        refine xr_aload_n C 0 dX5_count_64 rfl rfl ?_
        refine xr_callVi C (ci := 5) (q0 := 0) (As := []) (rest := []) (xSp_rf _ _) (by decide) (fun h => h) (mX5_stacks σ _ hw) (cwV 0 C.2.2.2.2.1 gX5_count_X5_stacks rfl rfl rfl (by decide +kernel) ⟨by decide, by decide⟩) rfl rfl rfl rfl (Nat.le_of_ble_eq_true rfl) ⟨by decide, by decide⟩ dX5_count_65 (fun r5 σ6 hw => ?_)
        exact xr_iret C hr hw dX5_count_68
      · have hw := hw.2
        have hbc2 : (2 : Int) ≤ a1 := Int.lt_iff_le_and_ne.mpr ⟨hbc2, fun q => c4 q.symm⟩
        by_cases c7 : a1 = 2
        · have hw := hw.1 c7
          refine xr_tabIn C (off := 68) 2 c7 ⟨by decide, by decide⟩ 69 dX5_count_1 (by decide) (by decide) (by decide +kernel) (by decide) ?_
          refine xr_aload_n C 0 dX5_count_69 rfl rfl ?_
          refine xr_get C hinX5 (N := 22) (ci := 5) (a := (ad 20)) 0 rfl rfl 0 (by decide) m0 rfl rfl dX5_count_70 ?_
          refine xr_bipush C dX5_count_73 (by decide +kernel) ?_
          refine xr_iald C (t0 := 0) 1 rfl rfl (by decide) (N := 64) rfl ⟨by decide, by decide⟩ dX5_count_75 ?_
          exact xr_iret C hr hw dX5_count_76
        · have hw := hw.2
          have hbc2 : (3 : Int) ≤ a1 := Int.lt_iff_le_and_ne.mpr ⟨hbc2, fun q => c7 q.symm⟩
          by_cases c8 : a1 = 3
          · have hw := hw.1 c8
            refine xr_tabIn C (off := 76) 3 c8 ⟨by decide, by decide⟩ 77 dX5_count_1 (by decide) (by decide) (by decide +kernel) (by decide) ?_
            refine xr_aload_n C 0 dX5_count_77 rfl rfl ?_
            refine xr_get C hinX5 (N := 22) (ci := 5) (a := (ad 20)) 0 rfl rfl 0 (by decide) m0 rfl rfl dX5_count_78 ?_
            refine xr_bipush C dX5_count_81 (by decide +kernel) ?_
            refine xr_iald C (t0 := 0) 1 rfl rfl (by decide) (N := 64) rfl ⟨by decide, by decide⟩ dX5_count_83 ?_
            refine xr_iconst C dX5_count_84 ?_
            obtain ⟨g9, hw⟩ := hw
            refine xr_icmp_ne C g9 ⟨by decide, by decide⟩ 92 dX5_count_85 (by decide) (fun c10 => ?_) (fun c10 => ?_)
            · have hw := hw.1 c10
              refine xr_aload_n C 0 dX5_count_92 rfl rfl ?_
              refine xr_get C hinX5 (N := 22) (ci := 5) (a := (ad 20)) 0 rfl rfl 0 (by decide) m0 rfl rfl dX5_count_93 ?_
              refine xr_bipush C dX5_count_96 (by decide +kernel) ?_
              refine xr_iald C (t0 := 0) 1 rfl rfl (by decide) (N := 64) rfl ⟨by decide, by decide⟩ dX5_count_98 ?_
              refine xr_aload_n C 0 dX5_count_99 rfl rfl ?_
              refine xr_get C hinX5 (N := 22) (ci := 5) (a := (ad 20)) 0 rfl rfl 0 (by decide) m0 rfl rfl dX5_count_100 ?_
              refine xr_bipush C dX5_count_103 (by decide +kernel) ?_
              refine xr_iald C (t0 := 0) 1 rfl rfl (by decide) (N := 64) rfl ⟨by decide, by decide⟩ dX5_count_105 ?_
              refine xr_isub C dX5_count_106 ?_
              exact xr_iret C hr hw dX5_count_107
            · have hw := hw.2 c10
              refine xr_iconst C dX5_count_88 ?_
              refine xr_goto C 107 dX5_count_89 (by decide) ?_
              exact xr_iret C hr hw dX5_count_107
          · have hw := hw.2
            have hbc2 : (4 : Int) ≤ a1 := Int.lt_iff_le_and_ne.mpr ⟨hbc2, fun q => c8 q.symm⟩
            by_cases c11 : a1 = 4
            · have hw := hw.1 c11
              refine xr_tabIn C (off := 107) 4 c11 ⟨by decide, by decide⟩ 108 dX5_count_1 (by decide) (by decide) (by decide +kernel) (by decide) ?_
              refine xr_aload_n C 0 dX5_count_108 rfl rfl ?_
              refine xr_get C hinX5 (N := 22) (ci := 5) (a := (ad 20)) 0 rfl rfl 0 (by decide) m0 rfl rfl dX5_count_109 ?_
              refine xr_bipush C dX5_count_112 (by decide +kernel) ?_
              refine xr_iald C (t0 := 0) 1 rfl rfl (by decide) (N := 64) rfl ⟨by decide, by decide⟩ dX5_count_114 ?_
              exact xr_iret C hr hw dX5_count_115
            · have hw := hw.2
              have hbc2 : (5 : Int) ≤ a1 := Int.lt_iff_le_and_ne.mpr ⟨hbc2, fun q => c11 q.symm⟩
              by_cases c12 : a1 = 5
              · have hw := hw.1 c12
                refine xr_tabIn C (off := 115) 5 c12 ⟨by decide, by decide⟩ 116 dX5_count_1 (by decide) (by decide) (by decide +kernel) (by decide) ?_
                refine xr_aload_n C 0 dX5_count_116 rfl rfl ?_
                refine xr_get C hinX5 (N := 22) (ci := 5) (a := (ad 20)) 0 rfl rfl 0 (by decide) m0 rfl rfl dX5_count_117 ?_
                refine xr_bipush C dX5_count_120 (by decide +kernel) ?_
                refine xr_iald C (t0 := 0) 1 rfl rfl (by decide) (N := 64) rfl ⟨by decide, by decide⟩ dX5_count_122 ?_
                exact xr_iret C hr hw dX5_count_123
              · have hw := hw.2
                have hbc2 : (6 : Int) ≤ a1 := Int.lt_iff_le_and_ne.mpr ⟨hbc2, fun q => c12 q.symm⟩
                by_cases c13 : a1 = 6
                · have hw := hw.1 c13
                  refine xr_tabIn C (off := 123) 6 c13 ⟨by decide, by decide⟩ 124 dX5_count_1 (by decide) (by decide) (by decide +kernel) (by decide) ?_
                  refine xr_aload_n C 0 dX5_count_124 rfl rfl ?_
                  refine xr_get C hinX5 (N := 22) (ci := 5) (a := (ad 20)) 0 rfl rfl 0 (by decide) m0 rfl rfl dX5_count_125 ?_
                  refine xr_bipush C dX5_count_128 (by decide +kernel) ?_
                  refine xr_iald C (t0 := 0) 1 rfl rfl (by decide) (N := 64) rfl ⟨by decide, by decide⟩ dX5_count_130 ?_
                  exact xr_iret C hr hw dX5_count_131
                · have hw := hw.2
                  have hbc2 : (7 : Int) ≤ a1 := Int.lt_iff_le_and_ne.mpr ⟨hbc2, fun q => c13 q.symm⟩
                  by_cases c14 : a1 = 7
                  · have hw := hw.1 c14
                    refine xr_tabIn C (off := 131) 7 c14 ⟨by decide, by decide⟩ 132 dX5_count_1 (by decide) (by decide) (by decide +kernel) (by decide) ?_
                    refine xr_aload_n C 0 dX5_count_132 rfl rfl ?_
                    refine xr_get C hinX5 (N := 22) (ci := 5) (a := (ad 20)) 0 rfl rfl 0 (by decide) m0 rfl rfl dX5_count_133 ?_
                    refine xr_bipush C dX5_count_136 (by decide +kernel) ?_
                    refine xr_iald C (t0 := 0) 1 rfl rfl (by decide) (N := 64) rfl ⟨by decide, by decide⟩ dX5_count_138 ?_
                    exact xr_iret C hr hw dX5_count_139
                  · have hw := hw.2
                    have hbc2 : (8 : Int) ≤ a1 := Int.lt_iff_le_and_ne.mpr ⟨hbc2, fun q => c14 q.symm⟩
                    by_cases c15 : a1 = 8
                    · have hw := hw.1 c15
                      refine xr_tabIn C (off := 139) 8 c15 ⟨by decide, by decide⟩ 140 dX5_count_1 (by decide) (by decide) (by decide +kernel) (by decide) ?_
                      refine xr_aload_n C 0 dX5_count_140 rfl rfl ?_
                      refine xr_get C hinX5 (N := 22) (ci := 5) (a := (ad 20)) 0 rfl rfl 3 (by decide) m1 rfl rfl dX5_count_141 ?_
                      exact xr_iret C hr hw dX5_count_144
                    · have hw := hw.2
                      have hbc2 : (9 : Int) ≤ a1 := Int.lt_iff_le_and_ne.mpr ⟨hbc2, fun q => c15 q.symm⟩
                      by_cases c16 : a1 = 9
                      · have hw := hw c16
                        refine xr_tabIn C (off := 144) 9 c16 ⟨by decide, by decide⟩ 145 dX5_count_1 (by decide) (by decide) (by decide +kernel) (by decide) ?_
                        refine xr_aload_n C 0 dX5_count_145 rfl rfl ?_
                        refine xr_get C hinX5 (N := 22) (ci := 5) (a := (ad 20)) 0 rfl rfl 5 (by decide) m2 rfl rfl dX5_count_146 ?_
                        exact xr_iret C hr hw dX5_count_149
                      · exact absurd (Or.inr (Int.lt_iff_le_and_ne.mpr ⟨hbc2, fun q => c16 q.symm⟩)) c2
abbrev rmX5_mixes : Room := { frames := 0, cells := 0, slots := 0, locals := 64 }
set_option maxHeartbeats 8000000 in
set_option maxRecDepth 100000 in
theorem mX5_mixes {l : Launch} {D : va_G} {ad : Nat → Nat} {cI cJ cZ : ClassId} (σ : xS) (a1 : Int) (Q : xS → Prop) (hw : vX5_mixes a1 σ Q) : xMv False l yX5_mixes wsX5_mixes rmX5_mixes D (xtys cI cJ cZ) (wM ad cI cJ cZ) [20, 21, 22, 23, 24, 25, 26, 27, 28, 29, 30, 31, 32, 33] σ [.ref (ad 20), .int (i32 a1)] Q := by
  refine xenter (F := [20, 21, 22, 23, 24, 25, 26, 27, 28, 29, 30, 31, 32, 33]) (Qc := fun sz => xQv D (wM ad cI cJ cZ) [20, 21, 22, 23, 24, 25, 26, 27, 28, 29, 30, 31, 32, 33] σ sz Q) (own := RX5) (cc := cX5_mixes) (maxL := 2) (ret := none) (by decide) rfl rfl (Nat.le_of_ble_eq_true rfl) ?_
  intro p e s m args below meth c hargs C hr hnm
  have hinX5 : ∀ w ∈ u_ws RX5 TX5 22, w ∈ wsX5_mixes := fun _ h => List.mem_cons_of_mem _ (List.mem_append_right _ h)
  have m0 : (Cond.constantLong RX5 205 31) ∈ wsX5_mixes := by decide +kernel
  have m1 : (Cond.fieldLink RX5 207 "SandBenchModel" "hash" "J") ∈ wsX5_mixes := by decide +kernel
  show xX p l e rmX5_mixes s m args below meth c D vwCl (va_A ((wM ad cI cJ cZ) σ) s.heap.size) (wM ad cI cJ cZ) [20, 21, 22, 23, 24, 25, 26, 27, 28, 29, 30, 31, 32, 33] σ 0 0 (MQ below (xQv D (wM ad cI cJ cZ) [20, 21, 22, 23, 24, 25, 26, 27, 28, 29, 30, 31, 32, 33] σ s.heap.size Q) args s 0 0 (va_A ((wM ad cI cJ cZ) σ) s.heap.size)) 2 σ 0 [(0, .ref (ad 20)), (1, .int (i32 a1))] []
  unfold vX5_mixes at hw
  refine xr_aload_n C 0 dX5_mixes_0 rfl rfl ?_
  refine xr_ldc2 C 31 m0 (by decide +kernel) dX5_mixes_1 ?_
  refine xr_aload_n C 0 dX5_mixes_4 rfl rfl ?_
  refine xr_get C hinX5 (N := 22) (ci := 5) (a := (ad 20)) 0 rfl rfl 21 (by decide) m1 rfl rfl dX5_mixes_5 ?_
  refine xr_lmul C dX5_mixes_8 ?_
  refine xr_iload_n C 1 dX5_mixes_9 rfl rfl ?_
  obtain ⟨g1, hw⟩ := hw
  refine xr_i2l C g1 dX5_mixes_10 ?_
  refine xr_ladd C dX5_mixes_11 ?_
  refine xr_put C (r := 20) (x := ((31 * (σ 20 21)) + a1)) (ty := .long) hinX5 (N := 22) (ci := 5) tyX5 tyX5_ok nmX5 0 rfl rfl 21 (by decide) m1 rfl rfl (by decide +kernel) rfl rfl (Nat.le_of_ble_eq_true rfl) rfl (by decide) dX5_mixes_12 ?_
  refine xr_sig (fun σ2 e3 => ?_)
  have hw := hw σ2 e3
  exact xr_vret C hr hw dX5_mixes_15
abbrev rmX5_digest : Room := { frames := 7, cells := 0, slots := 0, locals := 234 }
set_option maxHeartbeats 8000000 in
set_option maxRecDepth 100000 in
theorem mX5_digest {l : Launch} {D : va_G} {ad : Nat → Nat} {cI cJ cZ : ClassId} (σ : xS) (Q : Int → xS → Prop) (hw : vX5_digest σ Q) : xMl False l yX5_digest wsX5_digest rmX5_digest D (xtys cI cJ cZ) (wM ad cI cJ cZ) [20, 21, 22, 23, 24, 25, 26, 27, 28, 29, 30, 31, 32, 33] σ [.ref (ad 20)] Q := by
  refine xenter (F := [20, 21, 22, 23, 24, 25, 26, 27, 28, 29, 30, 31, 32, 33]) (Qc := fun sz => xQl D (wM ad cI cJ cZ) [20, 21, 22, 23, 24, 25, 26, 27, 28, 29, 30, 31, 32, 33] σ sz Q) (own := RX5) (cc := cX5_digest) (maxL := 2) (ret := some .long) (by decide) rfl rfl (Nat.le_of_ble_eq_true rfl) ?_
  intro p e s m args below meth c hargs C hr hnm
  have hinX5 : ∀ w ∈ u_ws RX5 TX5 22, w ∈ wsX5_digest := fun _ h => List.mem_cons_of_mem _ (List.mem_append_right _ h)
  have m0 : (Cond.fieldLink RX5 109 "SandBenchModel" "textLength" "I") ∈ wsX5_digest := by decide +kernel
  have m1 : (Cond.fieldLink RX5 207 "SandBenchModel" "hash" "J") ∈ wsX5_digest := by decide +kernel
  have m2 : (Cond.fieldLink RX5 19 "SandBenchModel" "text" "[I") ∈ wsX5_digest := by decide +kernel
  have m3 : (Cond.fieldLink RX5 7 "SandBenchModel" "m" "[I") ∈ wsX5_digest := by decide +kernel
  have m4 : (Cond.constantLong RX5 211 139) ∈ wsX5_digest := by decide +kernel
  have L138 : ∀ a, mu (vX5_digest_138  Q) a → xX p l e rmX5_digest s m args below meth c D vwCl (va_A ((wM ad cI cJ cZ) σ) s.heap.size) (wM ad cI cJ cZ) [20, 21, 22, 23, 24, 25, 26, 27, 28, 29, 30, 31, 32, 33] σ 0 0 (MQ below (xQl D (wM ad cI cJ cZ) [20, 21, 22, 23, 24, 25, 26, 27, 28, 29, 30, 31, 32, 33] σ s.heap.size Q) args s 0 0 (va_A ((wM ad cI cJ cZ) σ) s.heap.size)) 2 (a.2) 138 [(0, .ref (ad 20)), (1, .int (i32 (a.1)))] [] := by
    refine mu_ind (fun K138 hK138 a hw => ?_)
    obtain ⟨x1, σ0⟩ := a
    show xX p l e rmX5_digest s m args below meth c D vwCl (va_A ((wM ad cI cJ cZ) σ) s.heap.size) (wM ad cI cJ cZ) [20, 21, 22, 23, 24, 25, 26, 27, 28, 29, 30, 31, 32, 33] σ 0 0 (MQ below (xQl D (wM ad cI cJ cZ) [20, 21, 22, 23, 24, 25, 26, 27, 28, 29, 30, 31, 32, 33] σ s.heap.size Q) args s 0 0 (va_A ((wM ad cI cJ cZ) σ) s.heap.size)) 2 σ0 138 [(0, .ref (ad 20)), (1, .int (i32 x1))] []
    unfold vX5_digest_138 at hw
    refine xr_iload_n C 1 dX5_digest_138 rfl rfl ?_
    refine xr_aload_n C 0 dX5_digest_139 rfl rfl ?_
    refine xr_get C hinX5 (N := 22) (ci := 5) (a := (ad 20)) 0 rfl rfl 5 (by decide) m0 rfl rfl dX5_digest_140 ?_
    obtain ⟨g1, hw⟩ := hw
    obtain ⟨g2, hw⟩ := hw
    refine xr_icmp_ge C g1 g2 162 dX5_digest_143 (by decide) (fun c3 => ?_) (fun c3 => ?_)
    · have hw := hw.1 c3
      refine xr_aload_n C 0 dX5_digest_162 rfl rfl ?_
      refine xr_get C hinX5 (N := 22) (ci := 5) (a := (ad 20)) 0 rfl rfl 21 (by decide) m1 rfl rfl dX5_digest_163 ?_
      exact xr_lret C hr hw dX5_digest_166
    · have hw := hw.2 c3
      refine xr_aload_n C 0 dX5_digest_146 rfl rfl ?_
      refine xr_aload_n C 0 dX5_digest_147 rfl rfl ?_
      refine xr_get C hinX5 (N := 22) (ci := 5) (a := (ad 20)) 0 rfl rfl 4 (by decide) m2 rfl rfl dX5_digest_148 ?_
      refine xr_iload_n C 1 dX5_digest_151 rfl rfl ?_
      obtain ⟨g4, hw⟩ := hw
      refine xr_iald C (t0 := 0) 4 rfl rfl (by decide) (N := 60) rfl g4 dX5_digest_152 ?_
      refine xr_callVv C (ci := 5) (q0 := 0) (As := [.int (i32 (σ0 24 (x1.toNat)))]) (rest := []) (xSp_rf _ _) (by decide) (fun h => h) (mX5_mixes σ0 (σ0 24 (x1.toNat)) _ hw) (cwV 1 C.2.2.2.2.1 gX5_digest_X5_mixes rfl rfl rfl (by decide +kernel) ⟨by decide, by decide⟩) rfl rfl rfl rfl (Nat.le_of_ble_eq_true rfl) ⟨by decide, by decide⟩ dX5_digest_153 (fun σ6 hw => ?_)
      refine xr_iinc C 1 [(0, .ref (ad 20)), (1, .int (i32 (x1 + 1)))] dX5_digest_156 rfl (by decide) rfl ?_
      refine xr_goto C 138 dX5_digest_159 (by decide) ?_
      exact hK138 ((x1 + 1), σ6) hw
  have L105 : ∀ a, mu (vX5_digest_105  Q) a → xX p l e rmX5_digest s m args below meth c D vwCl (va_A ((wM ad cI cJ cZ) σ) s.heap.size) (wM ad cI cJ cZ) [20, 21, 22, 23, 24, 25, 26, 27, 28, 29, 30, 31, 32, 33] σ 0 0 (MQ below (xQl D (wM ad cI cJ cZ) [20, 21, 22, 23, 24, 25, 26, 27, 28, 29, 30, 31, 32, 33] σ s.heap.size Q) args s 0 0 (va_A ((wM ad cI cJ cZ) σ) s.heap.size)) 2 (a.2) 105 [(0, .ref (ad 20)), (1, .int (i32 (a.1)))] [] := by
    refine mu_ind (fun K105 hK105 a hw => ?_)
    obtain ⟨x1, σ0⟩ := a
    show xX p l e rmX5_digest s m args below meth c D vwCl (va_A ((wM ad cI cJ cZ) σ) s.heap.size) (wM ad cI cJ cZ) [20, 21, 22, 23, 24, 25, 26, 27, 28, 29, 30, 31, 32, 33] σ 0 0 (MQ below (xQl D (wM ad cI cJ cZ) [20, 21, 22, 23, 24, 25, 26, 27, 28, 29, 30, 31, 32, 33] σ s.heap.size Q) args s 0 0 (va_A ((wM ad cI cJ cZ) σ) s.heap.size)) 2 σ0 105 [(0, .ref (ad 20)), (1, .int (i32 x1))] []
    unfold vX5_digest_105 at hw
    refine xr_iload_n C 1 dX5_digest_105 rfl rfl ?_
    refine xr_bipush C dX5_digest_106 (by decide +kernel) ?_
    obtain ⟨g7, hw⟩ := hw
    refine xr_icmp_gt C g7 ⟨by decide, by decide⟩ 126 dX5_digest_108 (by decide) (fun c8 => ?_) (fun c8 => ?_)
    · have hw := hw.1 c8
      refine xr_aload_n C 0 dX5_digest_126 rfl rfl ?_
      refine xr_aload_n C 0 dX5_digest_127 rfl rfl ?_
      refine xr_iconst C dX5_digest_128 ?_
      refine xr_iconst C dX5_digest_129 ?_
      refine xr_callVi C (ci := 5) (q0 := 0) (As := [.int (i32 (-1)), .int (i32 3)]) (rest := [.ref (ad 20)]) (xSp_rf _ _) (by decide) (fun h => h) (mX5_measurableOf σ0 (-1) 3 _ hw) (cwV 2 C.2.2.2.2.1 gX5_digest_X5_measurableOf rfl rfl rfl (by decide +kernel) ⟨by decide, by decide⟩) rfl rfl rfl rfl (Nat.le_of_ble_eq_true rfl) ⟨by decide, by decide⟩ dX5_digest_130 (fun r9 σ10 hw => ?_)
      refine xr_callVv C (ci := 5) (q0 := 0) (As := [.int (i32 r9)]) (rest := []) (xSp_rf _ _) (by decide) (fun h => h) (mX5_mixes σ10 r9 _ hw) (cwV 1 C.2.2.2.2.1 gX5_digest_X5_mixes rfl rfl rfl (by decide +kernel) ⟨by decide, by decide⟩) rfl rfl rfl rfl (Nat.le_of_ble_eq_true rfl) ⟨by decide, by decide⟩ dX5_digest_133 (fun σ12 hw => ?_)
      refine xr_iconst C dX5_digest_136 ?_
      refine xr_istore_n C [(0, .ref (ad 20)), (1, .int (i32 0))] dX5_digest_137 rfl (by decide) rfl ?_
      exact L138 (0, σ12) hw
    · have hw := hw.2 c8
      refine xr_aload_n C 0 dX5_digest_111 rfl rfl ?_
      refine xr_aload_n C 0 dX5_digest_112 rfl rfl ?_
      refine xr_iload_n C 1 dX5_digest_113 rfl rfl ?_
      refine xr_callVi C (ci := 5) (q0 := 0) (As := [.int (i32 x1)]) (rest := [.ref (ad 20)]) (xSp_rf _ _) (by decide) (fun h => h) (mX5_costOf σ0 x1 _ hw) (cwV 1 C.2.2.2.2.1 gX5_digest_X5_costOf rfl rfl rfl (by decide +kernel) ⟨by decide, by decide⟩) rfl rfl rfl rfl (Nat.le_of_ble_eq_true rfl) ⟨by decide, by decide⟩ dX5_digest_114 (fun r13 σ14 hw => ?_)
      refine xr_callVv C (ci := 5) (q0 := 0) (As := [.int (i32 r13)]) (rest := []) (xSp_rf _ _) (by decide) (fun h => h) (mX5_mixes σ14 r13 _ hw) (cwV 1 C.2.2.2.2.1 gX5_digest_X5_mixes rfl rfl rfl (by decide +kernel) ⟨by decide, by decide⟩) rfl rfl rfl rfl (Nat.le_of_ble_eq_true rfl) ⟨by decide, by decide⟩ dX5_digest_117 (fun σ16 hw => ?_)
      refine xr_iinc C 1 [(0, .ref (ad 20)), (1, .int (i32 (x1 + 1)))] dX5_digest_120 rfl (by decide) rfl ?_
      refine xr_goto C 105 dX5_digest_123 (by decide) ?_
      exact hK105 ((x1 + 1), σ16) hw
  have L70 : ∀ a, mu (vX5_digest_70  Q) a → xX p l e rmX5_digest s m args below meth c D vwCl (va_A ((wM ad cI cJ cZ) σ) s.heap.size) (wM ad cI cJ cZ) [20, 21, 22, 23, 24, 25, 26, 27, 28, 29, 30, 31, 32, 33] σ 0 0 (MQ below (xQl D (wM ad cI cJ cZ) [20, 21, 22, 23, 24, 25, 26, 27, 28, 29, 30, 31, 32, 33] σ s.heap.size Q) args s 0 0 (va_A ((wM ad cI cJ cZ) σ) s.heap.size)) 2 (a.2) 70 [(0, .ref (ad 20)), (1, .int (i32 (a.1)))] [] := by
    refine mu_ind (fun K70 hK70 a hw => ?_)
    obtain ⟨x1, σ0⟩ := a
    show xX p l e rmX5_digest s m args below meth c D vwCl (va_A ((wM ad cI cJ cZ) σ) s.heap.size) (wM ad cI cJ cZ) [20, 21, 22, 23, 24, 25, 26, 27, 28, 29, 30, 31, 32, 33] σ 0 0 (MQ below (xQl D (wM ad cI cJ cZ) [20, 21, 22, 23, 24, 25, 26, 27, 28, 29, 30, 31, 32, 33] σ s.heap.size Q) args s 0 0 (va_A ((wM ad cI cJ cZ) σ) s.heap.size)) 2 σ0 70 [(0, .ref (ad 20)), (1, .int (i32 x1))] []
    unfold vX5_digest_70 at hw
    refine xr_iload_n C 1 dX5_digest_70 rfl rfl ?_
    refine xr_iconst C dX5_digest_71 ?_
    refine xr_aload_n C 0 dX5_digest_72 rfl rfl ?_
    refine xr_get C hinX5 (N := 22) (ci := 5) (a := (ad 20)) 0 rfl rfl 0 (by decide) m3 rfl rfl dX5_digest_73 ?_
    refine xr_bipush C dX5_digest_76 (by decide +kernel) ?_
    refine xr_iald C (t0 := 0) 1 rfl rfl (by decide) (N := 64) rfl ⟨by decide, by decide⟩ dX5_digest_78 ?_
    refine xr_imul C dX5_digest_79 ?_
    obtain ⟨g17, hw⟩ := hw
    obtain ⟨g18, hw⟩ := hw
    refine xr_icmp_ge C g17 g18 103 dX5_digest_80 (by decide) (fun c19 => ?_) (fun c19 => ?_)
    · have hw := hw.1 c19
      refine xr_iconst C dX5_digest_103 ?_
      refine xr_istore_n C [(0, .ref (ad 20)), (1, .int (i32 1))] dX5_digest_104 rfl (by decide) rfl ?_
      exact L105 (1, σ0) hw
    · have hw := hw.2 c19
      refine xr_aload_n C 0 dX5_digest_83 rfl rfl ?_
      refine xr_aload_n C 0 dX5_digest_84 rfl rfl ?_
      refine xr_iload_n C 1 dX5_digest_85 rfl rfl ?_
      refine xr_iconst C dX5_digest_86 ?_
      refine xr_idiv C ⟨⟨by decide, by decide⟩, by decide⟩ dX5_digest_87 ?_
      refine xr_iload_n C 1 dX5_digest_88 rfl rfl ?_
      refine xr_iconst C dX5_digest_89 ?_
      refine xr_irem C ⟨⟨by decide, by decide⟩, by decide⟩ dX5_digest_90 ?_
      refine xr_callVi C (ci := 5) (q0 := 0) (As := [.int (i32 (jdiv x1 3)), .int (i32 (jrem x1 3))]) (rest := [.ref (ad 20)]) (xSp_rf _ _) (by decide) (fun h => h) (mX5_event σ0 (jdiv x1 3) (jrem x1 3) _ hw) (cwV 2 C.2.2.2.2.1 gX5_digest_X5_event rfl rfl rfl (by decide +kernel) ⟨by decide, by decide⟩) rfl rfl rfl rfl (Nat.le_of_ble_eq_true rfl) ⟨by decide, by decide⟩ dX5_digest_91 (fun r20 σ21 hw => ?_)
      refine xr_callVv C (ci := 5) (q0 := 0) (As := [.int (i32 r20)]) (rest := []) (xSp_rf _ _) (by decide) (fun h => h) (mX5_mixes σ21 r20 _ hw) (cwV 1 C.2.2.2.2.1 gX5_digest_X5_mixes rfl rfl rfl (by decide +kernel) ⟨by decide, by decide⟩) rfl rfl rfl rfl (Nat.le_of_ble_eq_true rfl) ⟨by decide, by decide⟩ dX5_digest_94 (fun σ23 hw => ?_)
      refine xr_iinc C 1 [(0, .ref (ad 20)), (1, .int (i32 (x1 + 1)))] dX5_digest_97 rfl (by decide) rfl ?_
      refine xr_goto C 70 dX5_digest_100 (by decide) ?_
      exact hK70 ((x1 + 1), σ23) hw
  have L32 : ∀ a, mu (vX5_digest_32  Q) a → xX p l e rmX5_digest s m args below meth c D vwCl (va_A ((wM ad cI cJ cZ) σ) s.heap.size) (wM ad cI cJ cZ) [20, 21, 22, 23, 24, 25, 26, 27, 28, 29, 30, 31, 32, 33] σ 0 0 (MQ below (xQl D (wM ad cI cJ cZ) [20, 21, 22, 23, 24, 25, 26, 27, 28, 29, 30, 31, 32, 33] σ s.heap.size Q) args s 0 0 (va_A ((wM ad cI cJ cZ) σ) s.heap.size)) 2 (a.2) 32 [(0, .ref (ad 20)), (1, .int (i32 (a.1)))] [] := by
    refine mu_ind (fun K32 hK32 a hw => ?_)
    obtain ⟨x1, σ0⟩ := a
    show xX p l e rmX5_digest s m args below meth c D vwCl (va_A ((wM ad cI cJ cZ) σ) s.heap.size) (wM ad cI cJ cZ) [20, 21, 22, 23, 24, 25, 26, 27, 28, 29, 30, 31, 32, 33] σ 0 0 (MQ below (xQl D (wM ad cI cJ cZ) [20, 21, 22, 23, 24, 25, 26, 27, 28, 29, 30, 31, 32, 33] σ s.heap.size Q) args s 0 0 (va_A ((wM ad cI cJ cZ) σ) s.heap.size)) 2 σ0 32 [(0, .ref (ad 20)), (1, .int (i32 x1))] []
    unfold vX5_digest_32 at hw
    refine xr_iload_n C 1 dX5_digest_32 rfl rfl ?_
    refine xr_bipush C dX5_digest_33 (by decide +kernel) ?_
    refine xr_aload_n C 0 dX5_digest_35 rfl rfl ?_
    refine xr_get C hinX5 (N := 22) (ci := 5) (a := (ad 20)) 0 rfl rfl 0 (by decide) m3 rfl rfl dX5_digest_36 ?_
    refine xr_bipush C dX5_digest_39 (by decide +kernel) ?_
    refine xr_iald C (t0 := 0) 1 rfl rfl (by decide) (N := 64) rfl ⟨by decide, by decide⟩ dX5_digest_41 ?_
    refine xr_imul C dX5_digest_42 ?_
    obtain ⟨g24, hw⟩ := hw
    obtain ⟨g25, hw⟩ := hw
    refine xr_icmp_ge C g24 g25 68 dX5_digest_43 (by decide) (fun c26 => ?_) (fun c26 => ?_)
    · have hw := hw.1 c26
      refine xr_iconst C dX5_digest_68 ?_
      refine xr_istore_n C [(0, .ref (ad 20)), (1, .int (i32 0))] dX5_digest_69 rfl (by decide) rfl ?_
      exact L70 (0, σ0) hw
    · have hw := hw.2 c26
      refine xr_aload_n C 0 dX5_digest_46 rfl rfl ?_
      refine xr_aload_n C 0 dX5_digest_47 rfl rfl ?_
      refine xr_iload_n C 1 dX5_digest_48 rfl rfl ?_
      refine xr_bipush C dX5_digest_49 (by decide +kernel) ?_
      refine xr_idiv C ⟨⟨by decide, by decide⟩, by decide⟩ dX5_digest_51 ?_
      refine xr_iload_n C 1 dX5_digest_52 rfl rfl ?_
      refine xr_bipush C dX5_digest_53 (by decide +kernel) ?_
      refine xr_irem C ⟨⟨by decide, by decide⟩, by decide⟩ dX5_digest_55 ?_
      refine xr_callVi C (ci := 5) (q0 := 0) (As := [.int (i32 (jdiv x1 8)), .int (i32 (jrem x1 8))]) (rest := [.ref (ad 20)]) (xSp_rf _ _) (by decide) (fun h => h) (mX5_glass σ0 (jdiv x1 8) (jrem x1 8) _ hw) (cwV 2 C.2.2.2.2.1 gX5_digest_X5_glass rfl rfl rfl (by decide +kernel) ⟨by decide, by decide⟩) rfl rfl rfl rfl (Nat.le_of_ble_eq_true rfl) ⟨by decide, by decide⟩ dX5_digest_56 (fun r27 σ28 hw => ?_)
      refine xr_callVv C (ci := 5) (q0 := 0) (As := [.int (i32 r27)]) (rest := []) (xSp_rf _ _) (by decide) (fun h => h) (mX5_mixes σ28 r27 _ hw) (cwV 1 C.2.2.2.2.1 gX5_digest_X5_mixes rfl rfl rfl (by decide +kernel) ⟨by decide, by decide⟩) rfl rfl rfl rfl (Nat.le_of_ble_eq_true rfl) ⟨by decide, by decide⟩ dX5_digest_59 (fun σ30 hw => ?_)
      refine xr_iinc C 1 [(0, .ref (ad 20)), (1, .int (i32 (x1 + 1)))] dX5_digest_62 rfl (by decide) rfl ?_
      refine xr_goto C 32 dX5_digest_65 (by decide) ?_
      exact hK32 ((x1 + 1), σ30) hw
  have L9 : ∀ a, mu (vX5_digest_9  Q) a → xX p l e rmX5_digest s m args below meth c D vwCl (va_A ((wM ad cI cJ cZ) σ) s.heap.size) (wM ad cI cJ cZ) [20, 21, 22, 23, 24, 25, 26, 27, 28, 29, 30, 31, 32, 33] σ 0 0 (MQ below (xQl D (wM ad cI cJ cZ) [20, 21, 22, 23, 24, 25, 26, 27, 28, 29, 30, 31, 32, 33] σ s.heap.size Q) args s 0 0 (va_A ((wM ad cI cJ cZ) σ) s.heap.size)) 2 (a.2) 9 [(0, .ref (ad 20)), (1, .int (i32 (a.1)))] [] := by
    refine mu_ind (fun K9 hK9 a hw => ?_)
    obtain ⟨x1, σ0⟩ := a
    show xX p l e rmX5_digest s m args below meth c D vwCl (va_A ((wM ad cI cJ cZ) σ) s.heap.size) (wM ad cI cJ cZ) [20, 21, 22, 23, 24, 25, 26, 27, 28, 29, 30, 31, 32, 33] σ 0 0 (MQ below (xQl D (wM ad cI cJ cZ) [20, 21, 22, 23, 24, 25, 26, 27, 28, 29, 30, 31, 32, 33] σ s.heap.size Q) args s 0 0 (va_A ((wM ad cI cJ cZ) σ) s.heap.size)) 2 σ0 9 [(0, .ref (ad 20)), (1, .int (i32 x1))] []
    unfold vX5_digest_9 at hw
    refine xr_iload_n C 1 dX5_digest_9 rfl rfl ?_
    refine xr_bipush C dX5_digest_10 (by decide +kernel) ?_
    obtain ⟨g31, hw⟩ := hw
    refine xr_icmp_ge C g31 ⟨by decide, by decide⟩ 30 dX5_digest_12 (by decide) (fun c32 => ?_) (fun c32 => ?_)
    · have hw := hw.1 c32
      refine xr_iconst C dX5_digest_30 ?_
      refine xr_istore_n C [(0, .ref (ad 20)), (1, .int (i32 0))] dX5_digest_31 rfl (by decide) rfl ?_
      exact L32 (0, σ0) hw
    · have hw := hw.2 c32
      refine xr_aload_n C 0 dX5_digest_15 rfl rfl ?_
      refine xr_aload_n C 0 dX5_digest_16 rfl rfl ?_
      refine xr_iload_n C 1 dX5_digest_17 rfl rfl ?_
      refine xr_callVi C (ci := 5) (q0 := 0) (As := [.int (i32 x1)]) (rest := [.ref (ad 20)]) (xSp_rf _ _) (by decide) (fun h => h) (mX5_count σ0 x1 _ hw) (cwV 1 C.2.2.2.2.1 gX5_digest_X5_count rfl rfl rfl (by decide +kernel) ⟨by decide, by decide⟩) rfl rfl rfl rfl (Nat.le_of_ble_eq_true rfl) ⟨by decide, by decide⟩ dX5_digest_18 (fun r33 σ34 hw => ?_)
      refine xr_callVv C (ci := 5) (q0 := 0) (As := [.int (i32 r33)]) (rest := []) (xSp_rf _ _) (by decide) (fun h => h) (mX5_mixes σ34 r33 _ hw) (cwV 1 C.2.2.2.2.1 gX5_digest_X5_mixes rfl rfl rfl (by decide +kernel) ⟨by decide, by decide⟩) rfl rfl rfl rfl (Nat.le_of_ble_eq_true rfl) ⟨by decide, by decide⟩ dX5_digest_21 (fun σ36 hw => ?_)
      refine xr_iinc C 1 [(0, .ref (ad 20)), (1, .int (i32 (x1 + 1)))] dX5_digest_24 rfl (by decide) rfl ?_
      refine xr_goto C 9 dX5_digest_27 (by decide) ?_
      exact hK9 ((x1 + 1), σ36) hw
  show xX p l e rmX5_digest s m args below meth c D vwCl (va_A ((wM ad cI cJ cZ) σ) s.heap.size) (wM ad cI cJ cZ) [20, 21, 22, 23, 24, 25, 26, 27, 28, 29, 30, 31, 32, 33] σ 0 0 (MQ below (xQl D (wM ad cI cJ cZ) [20, 21, 22, 23, 24, 25, 26, 27, 28, 29, 30, 31, 32, 33] σ s.heap.size Q) args s 0 0 (va_A ((wM ad cI cJ cZ) σ) s.heap.size)) 2 σ 0 [(0, .ref (ad 20))] []
  unfold vX5_digest at hw
  refine xr_aload_n C 0 dX5_digest_0 rfl rfl ?_
  refine xr_ldc2 C 139 m4 (by decide +kernel) dX5_digest_1 ?_
  refine xr_put C (r := 20) (x := 139) (ty := .long) hinX5 (N := 22) (ci := 5) tyX5 tyX5_ok nmX5 0 rfl rfl 21 (by decide) m1 rfl rfl (by decide +kernel) rfl rfl (Nat.le_of_ble_eq_true rfl) rfl (by decide) dX5_digest_4 ?_
  refine xr_sig (fun σ37 e38 => ?_)
  have hw := hw σ37 e38
  refine xr_iconst C dX5_digest_7 ?_
  refine xr_istore_n C [(0, .ref (ad 20)), (1, .int (i32 0))] dX5_digest_8 rfl (by decide) rfl ?_
  exact L9 (0, σ37) hw
