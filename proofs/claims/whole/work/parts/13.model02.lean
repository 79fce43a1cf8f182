abbrev rmX5_untilEvent : Room := { frames := 3, cells := 0, slots := 0, locals := 133 }
set_option maxHeartbeats 8000000 in
set_option maxRecDepth 100000 in
theorem mX5_untilEvent {l : Launch} {D : va_G} {ad : Nat → Nat} {cI cJ cZ : ClassId} (σ : xS) (Q : Int → xS → Prop) (hw : vX5_untilEvent σ Q) : xMi False l yX5_untilEvent wsX5_untilEvent rmX5_untilEvent D (xtys cI cJ cZ) (wM ad cI cJ cZ) [20, 21, 22, 23, 24, 25, 26, 27, 28, 29, 30, 31, 32, 33] σ [.ref (ad 20)] Q := by
  refine xenter (F := [20, 21, 22, 23, 24, 25, 26, 27, 28, 29, 30, 31, 32, 33]) (Qc := fun sz => xQi D (wM ad cI cJ cZ) [20, 21, 22, 23, 24, 25, 26, 27, 28, 29, 30, 31, 32, 33] σ sz Q) (own := RX5) (cc := cX5_untilEvent) (maxL := 3) (ret := some .int) (by decide) rfl rfl (Nat.le_of_ble_eq_true rfl) ?_
  intro p e s m args below meth c hargs C hr hnm
  have hinX5 : ∀ w ∈ u_ws RX5 TX5 22, w ∈ wsX5_untilEvent := fun _ h => List.mem_cons_of_mem _ (List.mem_append_right _ h)
  have m0 : (Cond.fieldLink RX5 7 "SandBenchModel" "m" "[I") ∈ wsX5_untilEvent := by decide +kernel
  have m1 : (Cond.fieldLink RX5 16 "SandBenchModel" "aside" "[I") ∈ wsX5_untilEvent := by decide +kernel
  have L43 : ∀ a, mu (vX5_untilEvent_43  Q) a → xX p l e rmX5_untilEvent s m args below meth c D vwCl (va_A ((wM ad cI cJ cZ) σ) s.heap.size) (wM ad cI cJ cZ) [20, 21, 22, 23, 24, 25, 26, 27, 28, 29, 30, 31, 32, 33] σ 0 0 (MQ below (xQi D (wM ad cI cJ cZ) [20, 21, 22, 23, 24, 25, 26, 27, 28, 29, 30, 31, 32, 33] σ s.heap.size Q) args s 0 0 (va_A ((wM ad cI cJ cZ) σ) s.heap.size)) 3 (a.2.2) 43 [(0, .ref (ad 20)), (1, .int (i32 (a.1))), (2, .int (i32 (a.2.1)))] [] := by
    refine mu_ind (fun K43 hK43 a hw => ?_)
    obtain ⟨x1, x2, σ0⟩ := a
    show xX p l e rmX5_untilEvent s m args below meth c D vwCl (va_A ((wM ad cI cJ cZ) σ) s.heap.size) (wM ad cI cJ cZ) [20, 21, 22, 23, 24, 25, 26, 27, 28, 29, 30, 31, 32, 33] σ 0 0 (MQ below (xQi D (wM ad cI cJ cZ) [20, 21, 22, 23, 24, 25, 26, 27, 28, 29, 30, 31, 32, 33] σ s.heap.size Q) args s 0 0 (va_A ((wM ad cI cJ cZ) σ) s.heap.size)) 3 σ0 43 [(0, .ref (ad 20)), (1, .int (i32 x1)), (2, .int (i32 x2))] []
    unfold vX5_untilEvent_43 at hw
    refine xr_iload_n C 2 dX5_untilEvent_43 rfl rfl ?_
    refine xr_bipush C dX5_untilEvent_44 (by decide +kernel) ?_
    obtain ⟨g1, hw⟩ := hw
    refine xr_icmp_ge C g1 ⟨by decide, by decide⟩ 67 dX5_untilEvent_46 (by decide) (fun c2 => ?_) (fun c2 => ?_)
    · have hw := hw.1 c2
      refine xr_iload_n C 1 dX5_untilEvent_67 rfl rfl ?_
      exact xr_iret C hr hw dX5_untilEvent_68
    · have hw := hw.2 c2
      refine xr_aload_n C 0 dX5_untilEvent_49 rfl rfl ?_
      refine xr_get C hinX5 (N := 22) (ci := 5) (a := (ad 20)) 0 rfl rfl 0 (by decide) m0 rfl rfl dX5_untilEvent_50 ?_
      refine xr_iload_n C 2 dX5_untilEvent_53 rfl rfl ?_
      refine xr_aload_n C 0 dX5_untilEvent_54 rfl rfl ?_
      refine xr_get C hinX5 (N := 22) (ci := 5) (a := (ad 20)) 0 rfl rfl 2 (by decide) m1 rfl rfl dX5_untilEvent_55 ?_
      refine xr_iload_n C 2 dX5_untilEvent_58 rfl rfl ?_
      obtain ⟨g3, hw⟩ := hw
      refine xr_iald C (t0 := 0) 3 rfl rfl (by decide) (N := 64) rfl g3 dX5_untilEvent_59 ?_
      refine xr_iast C (t0 := 0) (r := 21) 1 rfl rfl (by decide) (N := 64) rfl g3 wM_st21 (by decide) dX5_untilEvent_60 ?_
      refine xr_sig (fun σ4 e5 => ?_)
      have hw := hw σ4 e5
      refine xr_iinc C 2 [(0, .ref (ad 20)), (1, .int (i32 x1)), (2, .int (i32 (x2 + 1)))] dX5_untilEvent_61 rfl (by decide) rfl ?_
      refine xr_goto C 43 dX5_untilEvent_64 (by decide) ?_
      exact hK43 (x1, (x2 + 1), σ4) hw
  have L28 : ∀ a, mu (vX5_untilEvent_28  Q) a → xX p l e rmX5_untilEvent s m args below meth c D vwCl (va_A ((wM ad cI cJ cZ) σ) s.heap.size) (wM ad cI cJ cZ) [20, 21, 22, 23, 24, 25, 26, 27, 28, 29, 30, 31, 32, 33] σ 0 0 (MQ below (xQi D (wM ad cI cJ cZ) [20, 21, 22, 23, 24, 25, 26, 27, 28, 29, 30, 31, 32, 33] σ s.heap.size Q) args s 0 0 (va_A ((wM ad cI cJ cZ) σ) s.heap.size)) 3 (a.2) 28 [(0, .ref (ad 20)), (1, .int (i32 (a.1)))] [] := by
    refine mu_ind (fun K28 hK28 a hw => ?_)
    obtain ⟨x1, σ0⟩ := a
    show xX p l e rmX5_untilEvent s m args below meth c D vwCl (va_A ((wM ad cI cJ cZ) σ) s.heap.size) (wM ad cI cJ cZ) [20, 21, 22, 23, 24, 25, 26, 27, 28, 29, 30, 31, 32, 33] σ 0 0 (MQ below (xQi D (wM ad cI cJ cZ) [20, 21, 22, 23, 24, 25, 26, 27, 28, 29, 30, 31, 32, 33] σ s.heap.size Q) args s 0 0 (va_A ((wM ad cI cJ cZ) σ) s.heap.size)) 3 σ0 28 [(0, .ref (ad 20)), (1, .int (i32 x1))] []
    unfold vX5_untilEvent_28 at hw
    refine xr_aload_n C 0 dX5_untilEvent_28 rfl rfl ?_
    refine xr_callVi C (ci := 5) (q0 := 0) (As := []) (rest := []) (xSp_rf _ _) (by decide) (fun h => h) (mX5_second σ0 _ hw) (cwV 0 C.2.2.2.2.1 gX5_untilEvent_X5_second rfl rfl rfl (by decide +kernel) ⟨by decide, by decide⟩) rfl rfl rfl rfl (Nat.le_of_ble_eq_true rfl) ⟨by decide, by decide⟩ dX5_untilEvent_29 (fun r6 σ7 hw => ?_)
    obtain ⟨g8, hw⟩ := hw
    refine xr_if_ne C g8 41 dX5_untilEvent_32 (by decide) (fun c9 => ?_) (fun c9 => ?_)
    · have hw := hw.1 c9
      refine xr_iconst C dX5_untilEvent_41 ?_
      refine xr_istore_n C [(0, .ref (ad 20)), (1, .int (i32 x1)), (2, .int (i32 0))] dX5_untilEvent_42 rfl (by decide) rfl ?_
      exact L43 (x1, 0, σ7) hw
    · have hw := hw.2 c9
      refine xr_iinc C 1 [(0, .ref (ad 20)), (1, .int (i32 (x1 + 1)))] dX5_untilEvent_35 rfl (by decide) rfl ?_
      refine xr_goto C 28 dX5_untilEvent_38 (by decide) ?_
      exact hK28 ((x1 + 1), σ7) hw
  have L2 : ∀ a, mu (vX5_untilEvent_2  Q) a → xX p l e rmX5_untilEvent s m args below meth c D vwCl (va_A ((wM ad cI cJ cZ) σ) s.heap.size) (wM ad cI cJ cZ) [20, 21, 22, 23, 24, 25, 26, 27, 28, 29, 30, 31, 32, 33] σ 0 0 (MQ below (xQi D (wM ad cI cJ cZ) [20, 21, 22, 23, 24, 25, 26, 27, 28, 29, 30, 31, 32, 33] σ s.heap.size Q) args s 0 0 (va_A ((wM ad cI cJ cZ) σ) s.heap.size)) 3 (a.2) 2 [(0, .ref (ad 20)), (1, .int (i32 (a.1)))] [] := by
    refine mu_ind (fun K2 hK2 a hw => ?_)
    obtain ⟨x1, σ0⟩ := a
    show xX p l e rmX5_untilEvent s m args below meth c D vwCl (va_A ((wM ad cI cJ cZ) σ) s.heap.size) (wM ad cI cJ cZ) [20, 21, 22, 23, 24, 25, 26, 27, 28, 29, 30, 31, 32, 33] σ 0 0 (MQ below (xQi D (wM ad cI cJ cZ) [20, 21, 22, 23, 24, 25, 26, 27, 28, 29, 30, 31, 32, 33] σ s.heap.size Q) args s 0 0 (va_A ((wM ad cI cJ cZ) σ) s.heap.size)) 3 σ0 2 [(0, .ref (ad 20)), (1, .int (i32 x1))] []
    unfold vX5_untilEvent_2 at hw
    refine xr_iload_n C 1 dX5_untilEvent_2 rfl rfl ?_
    refine xr_bipush C dX5_untilEvent_3 (by decide +kernel) ?_
    obtain ⟨g10, hw⟩ := hw
    refine xr_icmp_ge C g10 ⟨by decide, by decide⟩ 26 dX5_untilEvent_5 (by decide) (fun c11 => ?_) (fun c11 => ?_)
    · have hw := hw.1 c11
      refine xr_iconst C dX5_untilEvent_26 ?_
      refine xr_istore_n C [(0, .ref (ad 20)), (1, .int (i32 1))] dX5_untilEvent_27 rfl (by decide) rfl ?_
      exact L28 (1, σ0) hw
    · have hw := hw.2 c11
      refine xr_aload_n C 0 dX5_untilEvent_8 rfl rfl ?_
      refine xr_get C hinX5 (N := 22) (ci := 5) (a := (ad 20)) 0 rfl rfl 2 (by decide) m1 rfl rfl dX5_untilEvent_9 ?_
      refine xr_iload_n C 1 dX5_untilEvent_12 rfl rfl ?_
      refine xr_aload_n C 0 dX5_untilEvent_13 rfl rfl ?_
      refine xr_get C hinX5 (N := 22) (ci := 5) (a := (ad 20)) 0 rfl rfl 0 (by decide) m0 rfl rfl dX5_untilEvent_14 ?_
      refine xr_iload_n C 1 dX5_untilEvent_17 rfl rfl ?_
      obtain ⟨g12, hw⟩ := hw
      refine xr_iald C (t0 := 0) 1 rfl rfl (by decide) (N := 64) rfl g12 dX5_untilEvent_18 ?_
      refine xr_iast C (t0 := 0) (r := 23) 3 rfl rfl (by decide) (N := 64) rfl g12 wM_st23 (by decide) dX5_untilEvent_19 ?_
      refine xr_sig (fun σ13 e14 => ?_)
      have hw := hw σ13 e14
      refine xr_iinc C 1 [(0, .ref (ad 20)), (1, .int (i32 (x1 + 1)))] dX5_untilEvent_20 rfl (by decide) rfl ?_
      refine xr_goto C 2 dX5_untilEvent_23 (by decide) ?_
      exact hK2 ((x1 + 1), σ13) hw
  show xX p l e rmX5_untilEvent s m args below meth c D vwCl (va_A ((wM ad cI cJ cZ) σ) s.heap.size) (wM ad cI cJ cZ) [20, 21, 22, 23, 24, 25, 26, 27, 28, 29, 30, 31, 32, 33] σ 0 0 (MQ below (xQi D (wM ad cI cJ cZ) [20, 21, 22, 23, 24, 25, 26, 27, 28, 29, 30, 31, 32, 33] σ s.heap.size Q) args s 0 0 (va_A ((wM ad cI cJ cZ) σ) s.heap.size)) 3 σ 0 [(0, .ref (ad 20))] []
  unfold vX5_untilEvent at hw
  refine xr_iconst C dX5_untilEvent_0 ?_
  refine xr_istore_n C [(0, .ref (ad 20)), (1, .int (i32 0))] dX5_untilEvent_1 rfl (by decide) rfl ?_
  exact L2 (0, σ) hw
abbrev rmX5_passes : Room := { frames := 3, cells := 0, slots := 0, locals := 133 }
set_option maxHeartbeats 8000000 in
set_option maxRecDepth 100000 in
theorem mX5_passes {l : Launch} {D : va_G} {ad : Nat → Nat} {cI cJ cZ : ClassId} (σ : xS) (a1 : Int) (Q : Int → xS → Prop) (hw : vX5_passes a1 σ Q) : xMi False l yX5_passes wsX5_passes rmX5_passes D (xtys cI cJ cZ) (wM ad cI cJ cZ) [20, 21, 22, 23, 24, 25, 26, 27, 28, 29, 30, 31, 32, 33] σ [.ref (ad 20), .int (i32 a1)] Q := by
  refine xenter (F := [20, 21, 22, 23, 24, 25, 26, 27, 28, 29, 30, 31, 32, 33]) (Qc := fun sz => xQi D (wM ad cI cJ cZ) [20, 21, 22, 23, 24, 25, 26, 27, 28, 29, 30, 31, 32, 33] σ sz Q) (own := RX5) (cc := cX5_passes) (maxL := 4) (ret := some .int) (by decide) rfl rfl (Nat.le_of_ble_eq_true rfl) ?_
  intro p e s m args below meth c hargs C hr hnm
  have L4 : ∀ a, mu (vX5_passes_4  Q) a → xX p l e rmX5_passes s m args below meth c D vwCl (va_A ((wM ad cI cJ cZ) σ) s.heap.size) (wM ad cI cJ cZ) [20, 21, 22, 23, 24, 25, 26, 27, 28, 29, 30, 31, 32, 33] σ 0 0 (MQ below (xQi D (wM ad cI cJ cZ) [20, 21, 22, 23, 24, 25, 26, 27, 28, 29, 30, 31, 32, 33] σ s.heap.size Q) args s 0 0 (va_A ((wM ad cI cJ cZ) σ) s.heap.size)) 4 (a.2.2.2) 4 [(0, .ref (ad 20)), (1, .int (i32 (a.1))), (2, .int (i32 (a.2.1))), (3, .int (i32 (a.2.2.1)))] [] := by
    refine mu_ind (fun K4 hK4 a hw => ?_)
    obtain ⟨x1, x2, x3, σ0⟩ := a
    show xX p l e rmX5_passes s m args below meth c D vwCl (va_A ((wM ad cI cJ cZ) σ) s.heap.size) (wM ad cI cJ cZ) [20, 21, 22, 23, 24, 25, 26, 27, 28, 29, 30, 31, 32, 33] σ 0 0 (MQ below (xQi D (wM ad cI cJ cZ) [20, 21, 22, 23, 24, 25, 26, 27, 28, 29, 30, 31, 32, 33] σ s.heap.size Q) args s 0 0 (va_A ((wM ad cI cJ cZ) σ) s.heap.size)) 4 σ0 4 [(0, .ref (ad 20)), (1, .int (i32 x1)), (2, .int (i32 x2)), (3, .int (i32 x3))] []
    unfold vX5_passes_4 at hw
    refine xr_iload_n C 3 dX5_passes_4 rfl rfl ?_
    refine xr_iload_n C 1 dX5_passes_5 rfl rfl ?_
    obtain ⟨g1, hw⟩ := hw
    obtain ⟨g2, hw⟩ := hw
    refine xr_icmp_ge C g1 g2 22 dX5_passes_6 (by decide) (fun c3 => ?_) (fun c3 => ?_)
    · have hw := hw.1 c3
      refine xr_iload_n C 2 dX5_passes_22 rfl rfl ?_
      exact xr_iret C hr hw dX5_passes_23
    · have hw := hw.2 c3
      refine xr_iload_n C 2 dX5_passes_9 rfl rfl ?_
      refine xr_aload_n C 0 dX5_passes_10 rfl rfl ?_
      refine xr_callVi C (ci := 5) (q0 := 0) (As := []) (rest := [.int (i32 x2)]) (xSp_rf _ _) (by decide) (fun h => h) (mX5_second σ0 _ hw) (cwV 0 C.2.2.2.2.1 gX5_passes_X5_second rfl rfl rfl (by decide +kernel) ⟨by decide, by decide⟩) rfl rfl rfl rfl (Nat.le_of_ble_eq_true rfl) ⟨by decide, by decide⟩ dX5_passes_11 (fun r4 σ5 hw => ?_)
      refine xr_iadd C dX5_passes_14 ?_
      refine xr_istore_n C [(0, .ref (ad 20)), (1, .int (i32 x1)), (2, .int (i32 (x2 + r4))), (3, .int (i32 x3))] dX5_passes_15 rfl (by decide) rfl ?_
      refine xr_iinc C 3 [(0, .ref (ad 20)), (1, .int (i32 x1)), (2, .int (i32 (x2 + r4))), (3, .int (i32 (x3 + 1)))] dX5_passes_16 rfl (by decide) rfl ?_
      refine xr_goto C 4 dX5_passes_19 (by decide) ?_
      exact hK4 (x1, (x2 + r4), (x3 + 1), σ5) hw
  show xX p l e rmX5_passes s m args below meth c D vwCl (va_A ((wM ad cI cJ cZ) σ) s.heap.size) (wM ad cI cJ cZ) [20, 21, 22, 23, 24, 25, 26, 27, 28, 29, 30, 31, 32, 33] σ 0 0 (MQ below (xQi D (wM ad cI cJ cZ) [20, 21, 22, 23, 24, 25, 26, 27, 28, 29, 30, 31, 32, 33] σ s.heap.size Q) args s 0 0 (va_A ((wM ad cI cJ cZ) σ) s.heap.size)) 4 σ 0 [(0, .ref (ad 20)), (1, .int (i32 a1))] []
  unfold vX5_passes at hw
  refine xr_iconst C dX5_passes_0 ?_
  refine xr_istore_n C [(0, .ref (ad 20)), (1, .int (i32 a1)), (2, .int (i32 0))] dX5_passes_1 rfl (by decide) rfl ?_
  refine xr_iconst C dX5_passes_2 ?_
  refine xr_istore_n C [(0, .ref (ad 20)), (1, .int (i32 a1)), (2, .int (i32 0)), (3, .int (i32 0))] dX5_passes_3 rfl (by decide) rfl ?_
  exact L4 (a1, 0, 0, σ) hw
abbrev rmX5_setGlasses : Room := { frames := 1, cells := 0, slots := 0, locals := 87 }
set_option maxHeartbeats 8000000 in
set_option maxRecDepth 100000 in
theorem mX5_setGlasses {l : Launch} {D : va_G} {ad : Nat → Nat} {cI cJ cZ : ClassId} (σ : xS) (a1 : Int) (Q : Int → xS → Prop) (hw : vX5_setGlasses a1 σ Q) : xMi False l yX5_setGlasses wsX5_setGlasses rmX5_setGlasses D (xtys cI cJ cZ) (wM ad cI cJ cZ) [20, 21, 22, 23, 24, 25, 26, 27, 28, 29, 30, 31, 32, 33] σ [.ref (ad 20), .int (i32 a1)] Q := by
  refine xenter (F := [20, 21, 22, 23, 24, 25, 26, 27, 28, 29, 30, 31, 32, 33]) (Qc := fun sz => xQi D (wM ad cI cJ cZ) [20, 21, 22, 23, 24, 25, 26, 27, 28, 29, 30, 31, 32, 33] σ sz Q) (own := RX5) (cc := cX5_setGlasses) (maxL := 6) (ret := some .int) (by decide) rfl rfl (Nat.le_of_ble_eq_true rfl) ?_
  intro p e s m args below meth c hargs C hr hnm
  have hinX5 : ∀ w ∈ u_ws RX5 TX5 22, w ∈ wsX5_setGlasses := fun _ h => List.mem_cons_of_mem _ (List.mem_append_right _ h)
  have m0 : (Cond.fieldLink RX5 7 "SandBenchModel" "m" "[I") ∈ wsX5_setGlasses := by decide +kernel
  have B94 : ∀ (K26 : Int × Int × Int × xS → Prop) (K51 : Int × Int × Int × Int × Int × xS → Prop) (hK26 : ∀ a, K26 a → xX p l e rmX5_setGlasses s m args below meth c D vwCl (va_A ((wM ad cI cJ cZ) σ) s.heap.size) (wM ad cI cJ cZ) [20, 21, 22, 23, 24, 25, 26, 27, 28, 29, 30, 31, 32, 33] σ 0 0 (MQ below (xQi D (wM ad cI cJ cZ) [20, 21, 22, 23, 24, 25, 26, 27, 28, 29, 30, 31, 32, 33] σ s.heap.size Q) args s 0 0 (va_A ((wM ad cI cJ cZ) σ) s.heap.size)) 6 (a.2.2.2) 26 [(0, .ref (ad 20)), (1, .int (i32 (a.1))), (2, .int (i32 (a.2.1))), (3, .int (i32 (a.2.2.1)))] []) (hK51 : ∀ a, K51 a → xX p l e rmX5_setGlasses s m args below meth c D vwCl (va_A ((wM ad cI cJ cZ) σ) s.heap.size) (wM ad cI cJ cZ) [20, 21, 22, 23, 24, 25, 26, 27, 28, 29, 30, 31, 32, 33] σ 0 0 (MQ below (xQi D (wM ad cI cJ cZ) [20, 21, 22, 23, 24, 25, 26, 27, 28, 29, 30, 31, 32, 33] σ s.heap.size Q) args s 0 0 (va_A ((wM ad cI cJ cZ) σ) s.heap.size)) 6 (a.2.2.2.2.2) 51 [(0, .ref (ad 20)), (1, .int (i32 (a.1))), (2, .int (i32 (a.2.1))), (3, .int (i32 (a.2.2.1))), (4, .int (i32 (a.2.2.2.1))), (5, .int (i32 (a.2.2.2.2.1)))] []) (x1 x2 x3 x4 x5 y1 y2 y3 : Int) (σ0 : xS), vX5_setGlasses_94 K26 K51 Q x1 x2 x3 x4 x5 y1 y2 y3 σ0 → xX p l e rmX5_setGlasses s m args below meth c D vwCl (va_A ((wM ad cI cJ cZ) σ) s.heap.size) (wM ad cI cJ cZ) [20, 21, 22, 23, 24, 25, 26, 27, 28, 29, 30, 31, 32, 33] σ 0 0 (MQ below (xQi D (wM ad cI cJ cZ) [20, 21, 22, 23, 24, 25, 26, 27, 28, 29, 30, 31, 32, 33] σ s.heap.size Q) args s 0 0 (va_A ((wM ad cI cJ cZ) σ) s.heap.size)) 6 σ0 94 [(0, .ref (ad 20)), (1, .int (i32 x1)), (2, .int (i32 x2)), (3, .int (i32 x3)), (4, .int (i32 x4)), (5, .int (i32 x5))] [.int (i32 y3), .int (i32 y2), .int (i32 y1), .ref (ad 20)] := by
    intro K26 K51 hK26 hK51 x1 x2 x3 x4 x5 y1 y2 y3 σ0 hw
    unfold vX5_setGlasses_94 at hw
    refine xr_callVv C (ci := 5) (q0 := 0) (As := [.int (i32 y1), .int (i32 y2), .int (i32 y3)]) (rest := []) (xSp_rf _ _) (by decide) (fun h => h) (mX5_put σ0 y1 y2 y3 _ hw) (cwV 3 C.2.2.2.2.1 gX5_setGlasses_X5_put rfl rfl rfl (by decide +kernel) ⟨by decide, by decide⟩) rfl rfl rfl rfl (Nat.le_of_ble_eq_true rfl) ⟨by decide, by decide⟩ dX5_setGlasses_94 (fun σ2 hw => ?_)
    refine xr_iinc C 5 [(0, .ref (ad 20)), (1, .int (i32 x1)), (2, .int (i32 x2)), (3, .int (i32 x3)), (4, .int (i32 x4)), (5, .int (i32 (x5 + 1)))] dX5_setGlasses_97 rfl (by decide) rfl ?_
    refine xr_goto C 51 dX5_setGlasses_100 (by decide) ?_
    exact hK51 (x1, x2, x3, x4, (x5 + 1), σ2) hw
  have L51 : ∀ (K26 : Int × Int × Int × xS → Prop) (hK26 : ∀ a, K26 a → xX p l e rmX5_setGlasses s m args below meth c D vwCl (va_A ((wM ad cI cJ cZ) σ) s.heap.size) (wM ad cI cJ cZ) [20, 21, 22, 23, 24, 25, 26, 27, 28, 29, 30, 31, 32, 33] σ 0 0 (MQ below (xQi D (wM ad cI cJ cZ) [20, 21, 22, 23, 24, 25, 26, 27, 28, 29, 30, 31, 32, 33] σ s.heap.size Q) args s 0 0 (va_A ((wM ad cI cJ cZ) σ) s.heap.size)) 6 (a.2.2.2) 26 [(0, .ref (ad 20)), (1, .int (i32 (a.1))), (2, .int (i32 (a.2.1))), (3, .int (i32 (a.2.2.1)))] []), ∀ a, mu (vX5_setGlasses_51 K26 Q) a → xX p l e rmX5_setGlasses s m args below meth c D vwCl (va_A ((wM ad cI cJ cZ) σ) s.heap.size) (wM ad cI cJ cZ) [20, 21, 22, 23, 24, 25, 26, 27, 28, 29, 30, 31, 32, 33] σ 0 0 (MQ below (xQi D (wM ad cI cJ cZ) [20, 21, 22, 23, 24, 25, 26, 27, 28, 29, 30, 31, 32, 33] σ s.heap.size Q) args s 0 0 (va_A ((wM ad cI cJ cZ) σ) s.heap.size)) 6 (a.2.2.2.2.2) 51 [(0, .ref (ad 20)), (1, .int (i32 (a.1))), (2, .int (i32 (a.2.1))), (3, .int (i32 (a.2.2.1))), (4, .int (i32 (a.2.2.2.1))), (5, .int (i32 (a.2.2.2.2.1)))] [] := by
    intro K26 hK26
    refine mu_ind (fun K51 hK51 a hw => ?_)
    obtain ⟨x1, x2, x3, x4, x5, σ0⟩ := a
    show xX p l e rmX5_setGlasses s m args below meth c D vwCl (va_A ((wM ad cI cJ cZ) σ) s.heap.size) (wM ad cI cJ cZ) [20, 21, 22, 23, 24, 25, 26, 27, 28, 29, 30, 31, 32, 33] σ 0 0 (MQ below (xQi D (wM ad cI cJ cZ) [20, 21, 22, 23, 24, 25, 26, 27, 28, 29, 30, 31, 32, 33] σ s.heap.size Q) args s 0 0 (va_A ((wM ad cI cJ cZ) σ) s.heap.size)) 6 σ0 51 [(0, .ref (ad 20)), (1, .int (i32 x1)), (2, .int (i32 x2)), (3, .int (i32 x3)), (4, .int (i32 x4)), (5, .int (i32 x5))] []
    unfold vX5_setGlasses_51 at hw
    refine xr_iload C 5 dX5_setGlasses_51 rfl ?_
    refine xr_bipush C dX5_setGlasses_53 (by decide +kernel) ?_
    obtain ⟨g3, hw⟩ := hw
    refine xr_icmp_ge C g3 ⟨by decide, by decide⟩ 103 dX5_setGlasses_55 (by decide) (fun c4 => ?_) (fun c4 => ?_)
    · have hw := hw.1 c4
      refine xr_iinc C 3 [(0, .ref (ad 20)), (1, .int (i32 x1)), (2, .int (i32 x2)), (3, .int (i32 (x3 + 1))), (4, .int (i32 x4)), (5, .int (i32 x5))] dX5_setGlasses_103 rfl (by decide) rfl ?_
      refine xr_goto C 26 dX5_setGlasses_106 (by decide) ?_
      refine xr_sub C [0, 1, 2, 3] [(0, .ref (ad 20)), (1, .int (i32 x1)), (2, .int (i32 x2)), (3, .int (i32 (x3 + 1)))] rfl ?_
      exact hK26 (x1, x2, (x3 + 1), σ0) hw
    · have hw := hw.2 c4
      refine xr_aload_n C 0 dX5_setGlasses_58 rfl rfl ?_
      refine xr_iload_n C 3 dX5_setGlasses_59 rfl rfl ?_
      refine xr_iload C 5 dX5_setGlasses_60 rfl ?_
      refine xr_iload C 5 dX5_setGlasses_62 rfl ?_
      refine xr_if_ne C g3 72 dX5_setGlasses_64 (by decide) (fun c5 => ?_) (fun c5 => ?_)
      · have hw := hw.1 c5
        refine xr_iload C 5 dX5_setGlasses_72 rfl ?_
        refine xr_iconst C dX5_setGlasses_74 ?_
        refine xr_icmp_ne C g3 ⟨by decide, by decide⟩ 82 dX5_setGlasses_75 (by decide) (fun c6 => ?_) (fun c6 => ?_)
        · have hw := hw.1 c6
          refine xr_iload C 5 dX5_setGlasses_82 rfl ?_
          refine xr_bipush C dX5_setGlasses_84 (by decide +kernel) ?_
          refine xr_icmp_ne C g3 ⟨by decide, by decide⟩ 93 dX5_setGlasses_86 (by decide) (fun c7 => ?_) (fun c7 => ?_)
          · have hw := hw.1 c7
            refine xr_iconst C dX5_setGlasses_93 ?_
            exact B94 K26 K51 hK26 hK51 x1 x2 x3 x4 x5 x3 x5 0 σ0 hw
          · have hw := hw.2 c7
            refine xr_iload_n C 3 dX5_setGlasses_89 rfl rfl ?_
            refine xr_goto C 94 dX5_setGlasses_90 (by decide) ?_
            exact B94 K26 K51 hK26 hK51 x1 x2 x3 x4 x5 x3 x5 x3 σ0 hw
        · have hw := hw.2 c6
          refine xr_iconst C dX5_setGlasses_78 ?_
          refine xr_goto C 94 dX5_setGlasses_79 (by decide) ?_
          exact B94 K26 K51 hK26 hK51 x1 x2 x3 x4 x5 x3 x5 3 σ0 hw
      · have hw := hw.2 c5
        refine xr_iload C 4 dX5_setGlasses_67 rfl ?_
        refine xr_goto C 94 dX5_setGlasses_69 (by decide) ?_
        exact B94 K26 K51 hK26 hK51 x1 x2 x3 x4 x5 x3 x5 x4 σ0 hw
  have L26 : ∀ a, mu (vX5_setGlasses_26  Q) a → xX p l e rmX5_setGlasses s m args below meth c D vwCl (va_A ((wM ad cI cJ cZ) σ) s.heap.size) (wM ad cI cJ cZ) [20, 21, 22, 23, 24, 25, 26, 27, 28, 29, 30, 31, 32, 33] σ 0 0 (MQ below (xQi D (wM ad cI cJ cZ) [20, 21, 22, 23, 24, 25, 26, 27, 28, 29, 30, 31, 32, 33] σ s.heap.size Q) args s 0 0 (va_A ((wM ad cI cJ cZ) σ) s.heap.size)) 6 (a.2.2.2) 26 [(0, .ref (ad 20)), (1, .int (i32 (a.1))), (2, .int (i32 (a.2.1))), (3, .int (i32 (a.2.2.1)))] [] := by
    refine mu_ind (fun K26 hK26 a hw => ?_)
    obtain ⟨x1, x2, x3, σ0⟩ := a
    show xX p l e rmX5_setGlasses s m args below meth c D vwCl (va_A ((wM ad cI cJ cZ) σ) s.heap.size) (wM ad cI cJ cZ) [20, 21, 22, 23, 24, 25, 26, 27, 28, 29, 30, 31, 32, 33] σ 0 0 (MQ below (xQi D (wM ad cI cJ cZ) [20, 21, 22, 23, 24, 25, 26, 27, 28, 29, 30, 31, 32, 33] σ s.heap.size Q) args s 0 0 (va_A ((wM ad cI cJ cZ) σ) s.heap.size)) 6 σ0 26 [(0, .ref (ad 20)), (1, .int (i32 x1)), (2, .int (i32 x2)), (3, .int (i32 x3))] []
    unfold vX5_setGlasses_26 at hw
    refine xr_iload_n C 3 dX5_setGlasses_26 rfl rfl ?_
    refine xr_iconst C dX5_setGlasses_27 ?_
    obtain ⟨g8, hw⟩ := hw
    refine xr_icmp_ge C g8 ⟨by decide, by decide⟩ 109 dX5_setGlasses_28 (by decide) (fun c9 => ?_) (fun c9 => ?_)
    · have hw := hw.1 c9
      refine xr_aload_n C 0 dX5_setGlasses_109 rfl rfl ?_
      refine xr_get C hinX5 (N := 22) (ci := 5) (a := (ad 20)) 0 rfl rfl 0 (by decide) m0 rfl rfl dX5_setGlasses_110 ?_
      refine xr_bipush C dX5_setGlasses_113 (by decide +kernel) ?_
      refine xr_iload_n C 1 dX5_setGlasses_115 rfl rfl ?_
      refine xr_iast C (t0 := 0) (r := 21) 1 rfl rfl (by decide) (N := 64) rfl ⟨by decide, by decide⟩ wM_st21 (by decide) dX5_setGlasses_116 ?_
      refine xr_sig (fun σ10 e11 => ?_)
      have hw := hw σ10 e11
      refine xr_iload_n C 2 dX5_setGlasses_117 rfl rfl ?_
      exact xr_iret C hr hw dX5_setGlasses_118
    · have hw := hw.2 c9
      refine xr_iload_n C 3 dX5_setGlasses_31 rfl rfl ?_
      refine xr_iload_n C 2 dX5_setGlasses_32 rfl rfl ?_
      obtain ⟨g12, hw⟩ := hw
      refine xr_icmp_ge C g8 g12 45 dX5_setGlasses_33 (by decide) (fun c13 => ?_) (fun c13 => ?_)
      · have hw := hw.1 c13
        refine xr_iconst C dX5_setGlasses_45 ?_
        refine xr_istore C [(0, .ref (ad 20)), (1, .int (i32 x1)), (2, .int (i32 x2)), (3, .int (i32 x3)), (4, .int (i32 5))] dX5_setGlasses_46 (by decide) rfl ?_
        refine xr_iconst C dX5_setGlasses_48 ?_
        refine xr_istore C [(0, .ref (ad 20)), (1, .int (i32 x1)), (2, .int (i32 x2)), (3, .int (i32 x3)), (4, .int (i32 5)), (5, .int (i32 0))] dX5_setGlasses_49 (by decide) rfl ?_
        exact L51 K26 hK26 (x1, x2, x3, 5, 0, σ0) hw
      · have hw := hw.2 c13
        refine xr_aload_n C 0 dX5_setGlasses_36 rfl rfl ?_
        refine xr_iload_n C 3 dX5_setGlasses_37 rfl rfl ?_
        refine xr_iconst C dX5_setGlasses_38 ?_
        refine xr_callVi C (ci := 5) (q0 := 0) (As := [.int (i32 x3), .int (i32 0)]) (rest := []) (xSp_rf _ _) (by decide) (fun h => h) (mX5_of σ0 x3 0 _ hw) (cwV 2 C.2.2.2.2.1 gX5_setGlasses_X5_of rfl rfl rfl (by decide +kernel) ⟨by decide, by decide⟩) rfl rfl rfl rfl (Nat.le_of_ble_eq_true rfl) ⟨by decide, by decide⟩ dX5_setGlasses_39 (fun r14 σ15 hw => ?_)
        refine xr_goto C 46 dX5_setGlasses_42 (by decide) ?_
        refine xr_istore C [(0, .ref (ad 20)), (1, .int (i32 x1)), (2, .int (i32 x2)), (3, .int (i32 x3)), (4, .int (i32 r14))] dX5_setGlasses_46 (by decide) rfl ?_
        refine xr_iconst C dX5_setGlasses_48 ?_
        refine xr_istore C [(0, .ref (ad 20)), (1, .int (i32 x1)), (2, .int (i32 x2)), (3, .int (i32 x3)), (4, .int (i32 r14)), (5, .int (i32 0))] dX5_setGlasses_49 (by decide) rfl ?_
        exact L51 K26 hK26 (x1, x2, x3, r14, 0, σ15) hw
  show xX p l e rmX5_setGlasses s m args below meth c D vwCl (va_A ((wM ad cI cJ cZ) σ) s.heap.size) (wM ad cI cJ cZ) [20, 21, 22, 23, 24, 25, 26, 27, 28, 29, 30, 31, 32, 33] σ 0 0 (MQ below (xQi D (wM ad cI cJ cZ) [20, 21, 22, 23, 24, 25, 26, 27, 28, 29, 30, 31, 32, 33] σ s.heap.size Q) args s 0 0 (va_A ((wM ad cI cJ cZ) σ) s.heap.size)) 6 σ 0 [(0, .ref (ad 20)), (1, .int (i32 a1))] []
  unfold vX5_setGlasses at hw
  refine xr_iload_n C 1 dX5_setGlasses_0 rfl rfl ?_
  refine xr_iconst C dX5_setGlasses_1 ?_
  refine xr_iconst C dX5_setGlasses_2 ?_
  refine xr_callSi C (As := [.int (i32 a1), .int (i32 1), .int (i32 3)]) (rest := []) (xSp_nil _) (by decide) (fun h => h) (mX5_in σ a1 1 3 _ hw) (va_cwS 3 C.2.2.2.2.1 gX5_setGlasses_X5_in rfl rfl rfl (by decide +kernel) ⟨by decide, by decide⟩) rfl rfl (Nat.le_of_ble_eq_true rfl) ⟨by decide, by decide⟩ dX5_setGlasses_3 (fun r16 σ17 hw => ?_)
  obtain ⟨g18, hw⟩ := hw
  refine xr_if_ne C g18 12 dX5_setGlasses_6 (by decide) (fun c19 => ?_) (fun c19 => ?_)
  · have hw := hw.1 c19
    refine xr_aload_n C 0 dX5_setGlasses_12 rfl rfl ?_
    refine xr_callVv C (ci := 5) (q0 := 0) (As := []) (rest := []) (xSp_rf _ _) (by decide) (fun h => h) (mX5_keeps σ17 _ hw) (cwV 0 C.2.2.2.2.1 gX5_setGlasses_X5_keeps rfl rfl rfl (by decide +kernel) ⟨by decide, by decide⟩) rfl rfl rfl rfl (Nat.le_of_ble_eq_true rfl) ⟨by decide, by decide⟩ dX5_setGlasses_13 (fun σ21 hw => ?_)
    refine xr_aload_n C 0 dX5_setGlasses_16 rfl rfl ?_
    refine xr_get C hinX5 (N := 22) (ci := 5) (a := (ad 20)) 0 rfl rfl 0 (by decide) m0 rfl rfl dX5_setGlasses_17 ?_
    refine xr_bipush C dX5_setGlasses_20 (by decide +kernel) ?_
    refine xr_iald C (t0 := 0) 1 rfl rfl (by decide) (N := 64) rfl ⟨by decide, by decide⟩ dX5_setGlasses_22 ?_
    refine xr_istore_n C [(0, .ref (ad 20)), (1, .int (i32 a1)), (2, .int (i32 (σ21 21 21)))] dX5_setGlasses_23 rfl (by decide) rfl ?_
    refine xr_iconst C dX5_setGlasses_24 ?_
    refine xr_istore_n C [(0, .ref (ad 20)), (1, .int (i32 a1)), (2, .int (i32 (σ21 21 21))), (3, .int (i32 0))] dX5_setGlasses_25 rfl (by decide) rfl ?_
    exact L26 (a1, (σ21 21 21), 0, σ21) hw
  · have hw := hw.2 c19
    refine xr_bipush C dX5_setGlasses_9 (by decide +kernel) ?_
    exact xr_iret C hr hw dX5_setGlasses_11
abbrev rmX5_resets : Room := { frames := 1, cells := 0, slots := 0, locals := 87 }
set_option maxHeartbeats 8000000 in
set_option maxRecDepth 100000 in
theorem mX5_resets {l : Launch} {D : va_G} {ad : Nat → Nat} {cI cJ cZ : ClassId} (σ : xS) (a1 : Int) (Q : xS → Prop) (hw : vX5_resets a1 σ Q) : xMv False l yX5_resets wsX5_resets rmX5_resets D (xtys cI cJ cZ) (wM ad cI cJ cZ) [20, 21, 22, 23, 24, 25, 26, 27, 28, 29, 30, 31, 32, 33] σ [.ref (ad 20), .int (i32 a1)] Q := by
  refine xenter (F := [20, 21, 22, 23, 24, 25, 26, 27, 28, 29, 30, 31, 32, 33]) (Qc := fun sz => xQv D (wM ad cI cJ cZ) [20, 21, 22, 23, 24, 25, 26, 27, 28, 29, 30, 31, 32, 33] σ sz Q) (own := RX5) (cc := cX5_resets) (maxL := 2) (ret := none) (by decide) rfl rfl (Nat.le_of_ble_eq_true rfl) ?_
  intro p e s m args below meth c hargs C hr hnm
  show xX p l e rmX5_resets s m args below meth c D vwCl (va_A ((wM ad cI cJ cZ) σ) s.heap.size) (wM ad cI cJ cZ) [20, 21, 22, 23, 24, 25, 26, 27, 28, 29, 30, 31, 32, 33] σ 0 0 (MQ below (xQv D (wM ad cI cJ cZ) [20, 21, 22, 23, 24, 25, 26, 27, 28, 29, 30, 31, 32, 33] σ s.heap.size Q) args s 0 0 (va_A ((wM ad cI cJ cZ) σ) s.heap.size)) 2 σ 0 [(0, .ref (ad 20)), (1, .int (i32 a1))] []
  unfold vX5_resets at hw
  refine xr_aload_n C 0 dX5_resets_0 rfl rfl ?_
  refine xr_iload_n C 1 dX5_resets_1 rfl rfl ?_
  refine xr_iconst C dX5_resets_2 ?_
  refine xr_iconst C dX5_resets_3 ?_
  refine xr_callVv C (ci := 5) (q0 := 0) (As := [.int (i32 a1), .int (i32 4), .int (i32 0)]) (rest := []) (xSp_rf _ _) (by decide) (fun h => h) (mX5_put σ a1 4 0 _ hw) (cwV 3 C.2.2.2.2.1 gX5_resets_X5_put rfl rfl rfl (by decide +kernel) ⟨by decide, by decide⟩) rfl rfl rfl rfl (Nat.le_of_ble_eq_true rfl) ⟨by decide, by decide⟩ dX5_resets_4 (fun σ2 hw => ?_)
  refine xr_aload_n C 0 dX5_resets_7 rfl rfl ?_
  refine xr_iload_n C 1 dX5_resets_8 rfl rfl ?_
  refine xr_iconst C dX5_resets_9 ?_
  refine xr_iconst C dX5_resets_10 ?_
  refine xr_callVv C (ci := 5) (q0 := 0) (As := [.int (i32 a1), .int (i32 5), .int (i32 0)]) (rest := []) (xSp_rf _ _) (by decide) (fun h => h) (mX5_put σ2 a1 5 0 _ hw) (cwV 3 C.2.2.2.2.1 gX5_resets_X5_put rfl rfl rfl (by decide +kernel) ⟨by decide, by decide⟩) rfl rfl rfl rfl (Nat.le_of_ble_eq_true rfl) ⟨by decide, by decide⟩ dX5_resets_11 (fun σ4 hw => ?_)
  exact xr_vret C hr hw dX5_resets_14
abbrev rmX5_setAmount : Room := { frames := 2, cells := 0, slots := 0, locals := 108 }
set_option maxHeartbeats 8000000 in
set_option maxRecDepth 100000 in
theorem mX5_setAmount {l : Launch} {D : va_G} {ad : Nat → Nat} {cI cJ cZ : ClassId} (σ : xS) (a1 a2 : Int) (Q : Int → xS → Prop) (hw : vX5_setAmount a1 a2 σ Q) : xMi False l yX5_setAmount wsX5_setAmount rmX5_setAmount D (xtys cI cJ cZ) (wM ad cI cJ cZ) [20, 21, 22, 23, 24, 25, 26, 27, 28, 29, 30, 31, 32, 33] σ [.ref (ad 20), .int (i32 a1), .int (i32 a2)] Q := by
  refine xenter (F := [20, 21, 22, 23, 24, 25, 26, 27, 28, 29, 30, 31, 32, 33]) (Qc := fun sz => xQi D (wM ad cI cJ cZ) [20, 21, 22, 23, 24, 25, 26, 27, 28, 29, 30, 31, 32, 33] σ sz Q) (own := RX5) (cc := cX5_setAmount) (maxL := 4) (ret := some .int) (by decide) rfl rfl (Nat.le_of_ble_eq_true rfl) ?_
  intro p e s m args below meth c hargs C hr hnm
  show xX p l e rmX5_setAmount s m args below meth c D vwCl (va_A ((wM ad cI cJ cZ) σ) s.heap.size) (wM ad cI cJ cZ) [20, 21, 22, 23, 24, 25, 26, 27, 28, 29, 30, 31, 32, 33] σ 0 0 (MQ below (xQi D (wM ad cI cJ cZ) [20, 21, 22, 23, 24, 25, 26, 27, 28, 29, 30, 31, 32, 33] σ s.heap.size Q) args s 0 0 (va_A ((wM ad cI cJ cZ) σ) s.heap.size)) 4 σ 0 [(0, .ref (ad 20)), (1, .int (i32 a1)), (2, .int (i32 a2))] []
  unfold vX5_setAmount at hw
  refine xr_aload_n C 0 dX5_setAmount_0 rfl rfl ?_
  refine xr_iload_n C 1 dX5_setAmount_1 rfl rfl ?_
  refine xr_callVi C (ci := 5) (q0 := 0) (As := [.int (i32 a1)]) (rest := []) (xSp_rf _ _) (by decide) (fun h => h) (mX5_isGlass σ a1 _ hw) (cwV 1 C.2.2.2.2.1 gX5_setAmount_X5_isGlass rfl rfl rfl (by decide +kernel) ⟨by decide, by decide⟩) rfl rfl rfl rfl (Nat.le_of_ble_eq_true rfl) ⟨by decide, by decide⟩ dX5_setAmount_2 (fun r1 σ2 hw => ?_)
  obtain ⟨g3, hw⟩ := hw
  refine xr_if_eq C g3 18 dX5_setAmount_5 (by decide) (fun c4 => ?_) (fun c4 => ?_)
  · have hw := hw.1 c4
    refine xr_bipush C dX5_setAmount_18 (by decide +kernel) ?_
    exact xr_iret C hr hw dX5_setAmount_20
  · have hw := hw.2 c4
    refine xr_iload_n C 2 dX5_setAmount_8 rfl rfl ?_
    refine xr_iconst C dX5_setAmount_9 ?_
    refine xr_bipush C dX5_setAmount_10 (by decide +kernel) ?_
    refine xr_callSi C (As := [.int (i32 a2), .int (i32 1), .int (i32 12)]) (rest := []) (xSp_nil _) (by decide) (fun h => h) (mX5_in σ2 a2 1 12 _ hw) (va_cwS 3 C.2.2.2.2.1 gX5_setAmount_X5_in rfl rfl rfl (by decide +kernel) ⟨by decide, by decide⟩) rfl rfl (Nat.le_of_ble_eq_true rfl) ⟨by decide, by decide⟩ dX5_setAmount_12 (fun r5 σ6 hw => ?_)
    obtain ⟨g7, hw⟩ := hw
    refine xr_if_ne C g7 21 dX5_setAmount_15 (by decide) (fun c8 => ?_) (fun c8 => ?_)
    · have hw := hw.1 c8
      refine xr_aload_n C 0 dX5_setAmount_21 rfl rfl ?_
      refine xr_callVv C (ci := 5) (q0 := 0) (As := []) (rest := []) (xSp_rf _ _) (by decide) (fun h => h) (mX5_keeps σ6 _ hw) (cwV 0 C.2.2.2.2.1 gX5_setAmount_X5_keeps rfl rfl rfl (by decide +kernel) ⟨by decide, by decide⟩) rfl rfl rfl rfl (Nat.le_of_ble_eq_true rfl) ⟨by decide, by decide⟩ dX5_setAmount_22 (fun σ10 hw => ?_)
      refine xr_aload_n C 0 dX5_setAmount_25 rfl rfl ?_
      refine xr_iload_n C 1 dX5_setAmount_26 rfl rfl ?_
      refine xr_iconst C dX5_setAmount_27 ?_
      refine xr_callVi C (ci := 5) (q0 := 0) (As := [.int (i32 a1), .int (i32 0)]) (rest := []) (xSp_rf _ _) (by decide) (fun h => h) (mX5_of σ10 a1 0 _ hw) (cwV 2 C.2.2.2.2.1 gX5_setAmount_X5_of rfl rfl rfl (by decide +kernel) ⟨by decide, by decide⟩) rfl rfl rfl rfl (Nat.le_of_ble_eq_true rfl) ⟨by decide, by decide⟩ dX5_setAmount_28 (fun r11 σ12 hw => ?_)
      refine xr_istore_n C [(0, .ref (ad 20)), (1, .int (i32 a1)), (2, .int (i32 a2)), (3, .int (i32 r11))] dX5_setAmount_31 rfl (by decide) rfl ?_
      refine xr_aload_n C 0 dX5_setAmount_32 rfl rfl ?_
      refine xr_iload_n C 1 dX5_setAmount_33 rfl rfl ?_
      refine xr_iconst C dX5_setAmount_34 ?_
      refine xr_iload_n C 2 dX5_setAmount_35 rfl rfl ?_
      refine xr_callVv C (ci := 5) (q0 := 0) (As := [.int (i32 a1), .int (i32 0), .int (i32 a2)]) (rest := []) (xSp_rf _ _) (by decide) (fun h => h) (mX5_put σ12 a1 0 a2 _ hw) (cwV 3 C.2.2.2.2.1 gX5_setAmount_X5_put rfl rfl rfl (by decide +kernel) ⟨by decide, by decide⟩) rfl rfl rfl rfl (Nat.le_of_ble_eq_true rfl) ⟨by decide, by decide⟩ dX5_setAmount_36 (fun σ14 hw => ?_)
      refine xr_aload_n C 0 dX5_setAmount_39 rfl rfl ?_
      refine xr_iload_n C 1 dX5_setAmount_40 rfl rfl ?_
      refine xr_iconst C dX5_setAmount_41 ?_
      refine xr_iconst C dX5_setAmount_42 ?_
      refine xr_callVv C (ci := 5) (q0 := 0) (As := [.int (i32 a1), .int (i32 1), .int (i32 0)]) (rest := []) (xSp_rf _ _) (by decide) (fun h => h) (mX5_put σ14 a1 1 0 _ hw) (cwV 3 C.2.2.2.2.1 gX5_setAmount_X5_put rfl rfl rfl (by decide +kernel) ⟨by decide, by decide⟩) rfl rfl rfl rfl (Nat.le_of_ble_eq_true rfl) ⟨by decide, by decide⟩ dX5_setAmount_43 (fun σ16 hw => ?_)
      refine xr_aload_n C 0 dX5_setAmount_46 rfl rfl ?_
      refine xr_iload_n C 1 dX5_setAmount_47 rfl rfl ?_
      refine xr_callVv C (ci := 5) (q0 := 0) (As := [.int (i32 a1)]) (rest := []) (xSp_rf _ _) (by decide) (fun h => h) (mX5_resets σ16 a1 _ hw) (cwV 1 C.2.2.2.2.1 gX5_setAmount_X5_resets rfl rfl rfl (by decide +kernel) ⟨by decide, by decide⟩) rfl rfl rfl rfl (Nat.le_of_ble_eq_true rfl) ⟨by decide, by decide⟩ dX5_setAmount_48 (fun σ18 hw => ?_)
      refine xr_iload_n C 3 dX5_setAmount_51 rfl rfl ?_
      exact xr_iret C hr hw dX5_setAmount_52
    · have hw := hw.2 c8
      refine xr_bipush C dX5_setAmount_18 (by decide +kernel) ?_
      exact xr_iret C hr hw dX5_setAmount_20
abbrev rmX5_setKind : Room := { frames := 2, cells := 0, slots := 0, locals := 108 }
set_option maxHeartbeats 8000000 in
set_option maxRecDepth 100000 in
theorem mX5_setKind {l : Launch} {D : va_G} {ad : Nat → Nat} {cI cJ cZ : ClassId} (σ : xS) (a1 a2 a3 : Int) (Q : Int → xS → Prop) (hw : vX5_setKind a1 a2 a3 σ Q) : xMi False l yX5_setKind wsX5_setKind rmX5_setKind D (xtys cI cJ cZ) (wM ad cI cJ cZ) [20, 21, 22, 23, 24, 25, 26, 27, 28, 29, 30, 31, 32, 33] σ [.ref (ad 20), .int (i32 a1), .int (i32 a2), .int (i32 a3)] Q := by
  refine xenter (F := [20, 21, 22, 23, 24, 25, 26, 27, 28, 29, 30, 31, 32, 33]) (Qc := fun sz => xQi D (wM ad cI cJ cZ) [20, 21, 22, 23, 24, 25, 26, 27, 28, 29, 30, 31, 32, 33] σ sz Q) (own := RX5) (cc := cX5_setKind) (maxL := 5) (ret := some .int) (by decide) rfl rfl (Nat.le_of_ble_eq_true rfl) ?_
  intro p e s m args below meth c hargs C hr hnm
  show xX p l e rmX5_setKind s m args below meth c D vwCl (va_A ((wM ad cI cJ cZ) σ) s.heap.size) (wM ad cI cJ cZ) [20, 21, 22, 23, 24, 25, 26, 27, 28, 29, 30, 31, 32, 33] σ 0 0 (MQ below (xQi D (wM ad cI cJ cZ) [20, 21, 22, 23, 24, 25, 26, 27, 28, 29, 30, 31, 32, 33] σ s.heap.size Q) args s 0 0 (va_A ((wM ad cI cJ cZ) σ) s.heap.size)) 5 σ 0 [(0, .ref (ad 20)), (1, .int (i32 a1)), (2, .int (i32 a2)), (3, .int (i32 a3))] []
  unfold vX5_setKind at hw
  refine xr_aload_n C 0 dX5_setKind_0 rfl rfl ?_
  refine xr_iload_n C 1 dX5_setKind_1 rfl rfl ?_
  refine xr_callVi C (ci := 5) (q0 := 0) (As := [.int (i32 a1)]) (rest := []) (xSp_rf _ _) (by decide) (fun h => h) (mX5_isGlass σ a1 _ hw) (cwV 1 C.2.2.2.2.1 gX5_setKind_X5_isGlass rfl rfl rfl (by decide +kernel) ⟨by decide, by decide⟩) rfl rfl rfl rfl (Nat.le_of_ble_eq_true rfl) ⟨by decide, by decide⟩ dX5_setKind_2 (fun r1 σ2 hw => ?_)
  obtain ⟨g3, hw⟩ := hw
  refine xr_if_eq C g3 27 dX5_setKind_5 (by decide) (fun c4 => ?_) (fun c4 => ?_)
  · have hw := hw.1 c4
    refine xr_bipush C dX5_setKind_27 (by decide +kernel) ?_
    exact xr_iret C hr hw dX5_setKind_29
  · have hw := hw.2 c4
    refine xr_iload_n C 2 dX5_setKind_8 rfl rfl ?_
    refine xr_iconst C dX5_setKind_9 ?_
    refine xr_iconst C dX5_setKind_10 ?_
    refine xr_callSi C (As := [.int (i32 a2), .int (i32 0), .int (i32 2)]) (rest := []) (xSp_nil _) (by decide) (fun h => h) (mX5_in σ2 a2 0 2 _ hw) (va_cwS 3 C.2.2.2.2.1 gX5_setKind_X5_in rfl rfl rfl (by decide +kernel) ⟨by decide, by decide⟩) rfl rfl (Nat.le_of_ble_eq_true rfl) ⟨by decide, by decide⟩ dX5_setKind_11 (fun r5 σ6 hw => ?_)
    obtain ⟨g7, hw⟩ := hw
    refine xr_if_eq C g7 27 dX5_setKind_14 (by decide) (fun c8 => ?_) (fun c8 => ?_)
    · have hw := hw.1 c8
      refine xr_bipush C dX5_setKind_27 (by decide +kernel) ?_
      exact xr_iret C hr hw dX5_setKind_29
    · have hw := hw.2 c8
      refine xr_iload_n C 3 dX5_setKind_17 rfl rfl ?_
      refine xr_iconst C dX5_setKind_18 ?_
      refine xr_bipush C dX5_setKind_19 (by decide +kernel) ?_
      refine xr_callSi C (As := [.int (i32 a3), .int (i32 1), .int (i32 9)]) (rest := []) (xSp_nil _) (by decide) (fun h => h) (mX5_in σ6 a3 1 9 _ hw) (va_cwS 3 C.2.2.2.2.1 gX5_setKind_X5_in rfl rfl rfl (by decide +kernel) ⟨by decide, by decide⟩) rfl rfl (Nat.le_of_ble_eq_true rfl) ⟨by decide, by decide⟩ dX5_setKind_21 (fun r9 σ10 hw => ?_)
      obtain ⟨g11, hw⟩ := hw
      refine xr_if_ne C g11 30 dX5_setKind_24 (by decide) (fun c12 => ?_) (fun c12 => ?_)
      · have hw := hw.1 c12
        refine xr_aload_n C 0 dX5_setKind_30 rfl rfl ?_
        refine xr_callVv C (ci := 5) (q0 := 0) (As := []) (rest := []) (xSp_rf _ _) (by decide) (fun h => h) (mX5_keeps σ10 _ hw) (cwV 0 C.2.2.2.2.1 gX5_setKind_X5_keeps rfl rfl rfl (by decide +kernel) ⟨by decide, by decide⟩) rfl rfl rfl rfl (Nat.le_of_ble_eq_true rfl) ⟨by decide, by decide⟩ dX5_setKind_31 (fun σ14 hw => ?_)
        refine xr_aload_n C 0 dX5_setKind_34 rfl rfl ?_
        refine xr_iload_n C 1 dX5_setKind_35 rfl rfl ?_
        refine xr_iconst C dX5_setKind_36 ?_
        refine xr_callVi C (ci := 5) (q0 := 0) (As := [.int (i32 a1), .int (i32 2)]) (rest := []) (xSp_rf _ _) (by decide) (fun h => h) (mX5_of σ14 a1 2 _ hw) (cwV 2 C.2.2.2.2.1 gX5_setKind_X5_of rfl rfl rfl (by decide +kernel) ⟨by decide, by decide⟩) rfl rfl rfl rfl (Nat.le_of_ble_eq_true rfl) ⟨by decide, by decide⟩ dX5_setKind_37 (fun r15 σ16 hw => ?_)
        refine xr_istore C [(0, .ref (ad 20)), (1, .int (i32 a1)), (2, .int (i32 a2)), (3, .int (i32 a3)), (4, .int (i32 r15))] dX5_setKind_40 (by decide) rfl ?_
        refine xr_aload_n C 0 dX5_setKind_42 rfl rfl ?_
        refine xr_iload_n C 1 dX5_setKind_43 rfl rfl ?_
        refine xr_iconst C dX5_setKind_44 ?_
        refine xr_iload_n C 2 dX5_setKind_45 rfl rfl ?_
        refine xr_callVv C (ci := 5) (q0 := 0) (As := [.int (i32 a1), .int (i32 2), .int (i32 a2)]) (rest := []) (xSp_rf _ _) (by decide) (fun h => h) (mX5_put σ16 a1 2 a2 _ hw) (cwV 3 C.2.2.2.2.1 gX5_setKind_X5_put rfl rfl rfl (by decide +kernel) ⟨by decide, by decide⟩) rfl rfl rfl rfl (Nat.le_of_ble_eq_true rfl) ⟨by decide, by decide⟩ dX5_setKind_46 (fun σ18 hw => ?_)
        refine xr_aload_n C 0 dX5_setKind_49 rfl rfl ?_
        refine xr_iload_n C 1 dX5_setKind_50 rfl rfl ?_
        refine xr_iconst C dX5_setKind_51 ?_
        refine xr_iload_n C 3 dX5_setKind_52 rfl rfl ?_
        refine xr_callVv C (ci := 5) (q0 := 0) (As := [.int (i32 a1), .int (i32 3), .int (i32 a3)]) (rest := []) (xSp_rf _ _) (by decide) (fun h => h) (mX5_put σ18 a1 3 a3 _ hw) (cwV 3 C.2.2.2.2.1 gX5_setKind_X5_put rfl rfl rfl (by decide +kernel) ⟨by decide, by decide⟩) rfl rfl rfl rfl (Nat.le_of_ble_eq_true rfl) ⟨by decide, by decide⟩ dX5_setKind_53 (fun σ20 hw => ?_)
        refine xr_aload_n C 0 dX5_setKind_56 rfl rfl ?_
        refine xr_iload_n C 1 dX5_setKind_57 rfl rfl ?_
        refine xr_callVv C (ci := 5) (q0 := 0) (As := [.int (i32 a1)]) (rest := []) (xSp_rf _ _) (by decide) (fun h => h) (mX5_resets σ20 a1 _ hw) (cwV 1 C.2.2.2.2.1 gX5_setKind_X5_resets rfl rfl rfl (by decide +kernel) ⟨by decide, by decide⟩) rfl rfl rfl rfl (Nat.le_of_ble_eq_true rfl) ⟨by decide, by decide⟩ dX5_setKind_58 (fun σ22 hw => ?_)
        refine xr_iload C 4 dX5_setKind_61 rfl ?_
        exact xr_iret C hr hw dX5_setKind_63
      · have hw := hw.2 c12
        refine xr_bipush C dX5_setKind_27 (by decide +kernel) ?_
        exact xr_iret C hr hw dX5_setKind_29
abbrev rmX5_stacks : Room := { frames := 1, cells := 0, slots := 0, locals := 86 }
set_option maxHeartbeats 8000000 in
set_option maxRecDepth 100000 in
theorem mX5_stacks {l : Launch} {D : va_G} {ad : Nat → Nat} {cI cJ cZ : ClassId} (σ : xS) (Q : Int → xS → Prop) (hw : vX5_stacks σ Q) : xMi False l yX5_stacks wsX5_stacks rmX5_stacks D (xtys cI cJ cZ) (wM ad cI cJ cZ) [20, 21, 22, 23, 24, 25, 26, 27, 28, 29, 30, 31, 32, 33] σ [.ref (ad 20)] Q := by
  refine xenter (F := [20, 21, 22, 23, 24, 25, 26, 27, 28, 29, 30, 31, 32, 33]) (Qc := fun sz => xQi D (wM ad cI cJ cZ) [20, 21, 22, 23, 24, 25, 26, 27, 28, 29, 30, 31, 32, 33] σ sz Q) (own := RX5) (cc := cX5_stacks) (maxL := 3) (ret := some .int) (by decide) rfl rfl (Nat.le_of_ble_eq_true rfl) ?_
  intro p e s m args below meth c hargs C hr hnm
  have hinX5 : ∀ w ∈ u_ws RX5 TX5 22, w ∈ wsX5_stacks := fun _ h => List.mem_cons_of_mem _ (List.mem_append_right _ h)
  have m0 : (Cond.fieldLink RX5 7 "SandBenchModel" "m" "[I") ∈ wsX5_stacks := by decide +kernel
  have L4 : ∀ a, mu (vX5_stacks_4  Q) a → xX p l e rmX5_stacks s m args below meth c D vwCl (va_A ((wM ad cI cJ cZ) σ) s.heap.size) (wM ad cI cJ cZ) [20, 21, 22, 23, 24, 25, 26, 27, 28, 29, 30, 31, 32, 33] σ 0 0 (MQ below (xQi D (wM ad cI cJ cZ) [20, 21, 22, 23, 24, 25, 26, 27, 28, 29, 30, 31, 32, 33] σ s.heap.size Q) args s 0 0 (va_A ((wM ad cI cJ cZ) σ) s.heap.size)) 3 (a.2.2) 4 [(0, .ref (ad 20)), (1, .int (i32 (a.1))), (2, .int (i32 (a.2.1)))] [] := by
    refine mu_ind (fun K4 hK4 a hw => ?_)
    obtain ⟨x1, x2, σ0⟩ := a
    show xX p l e rmX5_stacks s m args below meth c D vwCl (va_A ((wM ad cI cJ cZ) σ) s.heap.size) (wM ad cI cJ cZ) [20, 21, 22, 23, 24, 25, 26, 27, 28, 29, 30, 31, 32, 33] σ 0 0 (MQ below (xQi D (wM ad cI cJ cZ) [20, 21, 22, 23, 24, 25, 26, 27, 28, 29, 30, 31, 32, 33] σ s.heap.size Q) args s 0 0 (va_A ((wM ad cI cJ cZ) σ) s.heap.size)) 3 σ0 4 [(0, .ref (ad 20)), (1, .int (i32 x1)), (2, .int (i32 x2))] []
    unfold vX5_stacks_4 at hw
    refine xr_iload_n C 2 dX5_stacks_4 rfl rfl ?_
    refine xr_aload_n C 0 dX5_stacks_5 rfl rfl ?_
    refine xr_get C hinX5 (N := 22) (ci := 5) (a := (ad 20)) 0 rfl rfl 0 (by decide) m0 rfl rfl dX5_stacks_6 ?_
    refine xr_bipush C dX5_stacks_9 (by decide +kernel) ?_
    refine xr_iald C (t0 := 0) 1 rfl rfl (by decide) (N := 64) rfl ⟨by decide, by decide⟩ dX5_stacks_11 ?_
    obtain ⟨g1, hw⟩ := hw
    obtain ⟨g2, hw⟩ := hw
    refine xr_icmp_ge C g1 g2 40 dX5_stacks_12 (by decide) (fun c3 => ?_) (fun c3 => ?_)
    · have hw := hw.1 c3
      refine xr_iload_n C 1 dX5_stacks_40 rfl rfl ?_
      exact xr_iret C hr hw dX5_stacks_41
    · have hw := hw.2 c3
      refine xr_iload_n C 1 dX5_stacks_15 rfl rfl ?_
      refine xr_aload_n C 0 dX5_stacks_16 rfl rfl ?_
      refine xr_iload_n C 2 dX5_stacks_17 rfl rfl ?_
      refine xr_bipush C dX5_stacks_18 (by decide +kernel) ?_
      refine xr_callVi C (ci := 5) (q0 := 0) (As := [.int (i32 x2), .int (i32 6)]) (rest := [.int (i32 x1)]) (xSp_rf _ _) (by decide) (fun h => h) (mX5_of σ0 x2 6 _ hw) (cwV 2 C.2.2.2.2.1 gX5_stacks_X5_of rfl rfl rfl (by decide +kernel) ⟨by decide, by decide⟩) rfl rfl rfl rfl (Nat.le_of_ble_eq_true rfl) ⟨by decide, by decide⟩ dX5_stacks_20 (fun r4 σ5 hw => ?_)
      refine xr_iload_n C 2 dX5_stacks_23 rfl rfl ?_
      obtain ⟨g6, hw⟩ := hw
      refine xr_icmp_ne C g6 g1 31 dX5_stacks_24 (by decide) (fun c7 => ?_) (fun c7 => ?_)
      · have hw := hw.1 c7
        refine xr_iconst C dX5_stacks_31 ?_
        refine xr_iadd C dX5_stacks_32 ?_
        refine xr_istore_n C [(0, .ref (ad 20)), (1, .int (i32 (x1 + 0))), (2, .int (i32 x2))] dX5_stacks_33 rfl (by decide) rfl ?_
        refine xr_iinc C 2 [(0, .ref (ad 20)), (1, .int (i32 (x1 + 0))), (2, .int (i32 (x2 + 1)))] dX5_stacks_34 rfl (by decide) rfl ?_
        refine xr_goto C 4 dX5_stacks_37 (by decide) ?_
        exact hK4 ((x1 + 0), (x2 + 1), σ5) hw
      · have hw := hw.2 c7
        refine xr_iconst C dX5_stacks_27 ?_
        refine xr_goto C 32 dX5_stacks_28 (by decide) ?_
        refine xr_iadd C dX5_stacks_32 ?_
        refine xr_istore_n C [(0, .ref (ad 20)), (1, .int (i32 (x1 + 1))), (2, .int (i32 x2))] dX5_stacks_33 rfl (by decide) rfl ?_
        refine xr_iinc C 2 [(0, .ref (ad 20)), (1, .int (i32 (x1 + 1))), (2, .int (i32 (x2 + 1)))] dX5_stacks_34 rfl (by decide) rfl ?_
        refine xr_goto C 4 dX5_stacks_37 (by decide) ?_
        exact hK4 ((x1 + 1), (x2 + 1), σ5) hw
  show xX p l e rmX5_stacks s m args below meth c D vwCl (va_A ((wM ad cI cJ cZ) σ) s.heap.size) (wM ad cI cJ cZ) [20, 21, 22, 23, 24, 25, 26, 27, 28, 29, 30, 31, 32, 33] σ 0 0 (MQ below (xQi D (wM ad cI cJ cZ) [20, 21, 22, 23, 24, 25, 26, 27, 28, 29, 30, 31, 32, 33] σ s.heap.size Q) args s 0 0 (va_A ((wM ad cI cJ cZ) σ) s.heap.size)) 3 σ 0 [(0, .ref (ad 20))] []
  unfold vX5_stacks at hw
  refine xr_iconst C dX5_stacks_0 ?_
  refine xr_istore_n C [(0, .ref (ad 20)), (1, .int (i32 0))] dX5_stacks_1 rfl (by decide) rfl ?_
  refine xr_iconst C dX5_stacks_2 ?_
  refine xr_istore_n C [(0, .ref (ad 20)), (1, .int (i32 0)), (2, .int (i32 0))] dX5_stacks_3 rfl (by decide) rfl ?_
  exact L4 (0, 0, σ) hw
abbrev rmX5_fix : Room := { frames := 2, cells := 0, slots := 0, locals := 107 }
set_option maxHeartbeats 8000000 in
set_option maxRecDepth 100000 in
theorem mX5_fix {l : Launch} {D : va_G} {ad : Nat → Nat} {cI cJ cZ : ClassId} (σ : xS) (a1 a2 : Int) (Q : Int → xS → Prop) (hw : vX5_fix a1 a2 σ Q) : xMi False l yX5_fix wsX5_fix rmX5_fix D (xtys cI cJ cZ) (wM ad cI cJ cZ) [20, 21, 22, 23, 24, 25, 26, 27, 28, 29, 30, 31, 32, 33] σ [.ref (ad 20), .int (i32 a1), .int (i32 a2)] Q := by
  refine xenter (F := [20, 21, 22, 23, 24, 25, 26, 27, 28, 29, 30, 31, 32, 33]) (Qc := fun sz => xQi D (wM ad cI cJ cZ) [20, 21, 22, 23, 24, 25, 26, 27, 28, 29, 30, 31, 32, 33] σ sz Q) (own := RX5) (cc := cX5_fix) (maxL := 7) (ret := some .int) (by decide) rfl rfl (Nat.le_of_ble_eq_true rfl) ?_
  intro p e s m args below meth c hargs C hr hnm
  have hinX5 : ∀ w ∈ u_ws RX5 TX5 22, w ∈ wsX5_fix := fun _ h => List.mem_cons_of_mem _ (List.mem_append_right _ h)
  have m0 : (Cond.fieldLink RX5 7 "SandBenchModel" "m" "[I") ∈ wsX5_fix := by decide +kernel
  have B121 : ∀ (K66 : Int × Int × Int × Int × xS → Prop) (hK66 : ∀ a, K66 a → xX p l e rmX5_fix s m args below meth c D vwCl (va_A ((wM ad cI cJ cZ) σ) s.heap.size) (wM ad cI cJ cZ) [20, 21, 22, 23, 24, 25, 26, 27, 28, 29, 30, 31, 32, 33] σ 0 0 (MQ below (xQi D (wM ad cI cJ cZ) [20, 21, 22, 23, 24, 25, 26, 27, 28, 29, 30, 31, 32, 33] σ s.heap.size Q) args s 0 0 (va_A ((wM ad cI cJ cZ) σ) s.heap.size)) 7 (a.2.2.2.2) 66 [(0, .ref (ad 20)), (3, .int (i32 (a.1))), (4, .int (i32 (a.2.1))), (5, .int (i32 (a.2.2.1))), (6, .int (i32 (a.2.2.2.1)))] []) (x3 x4 x5 x6 y1 y2 y3 : Int) (σ0 : xS), vX5_fix_121 K66 Q x3 x4 x5 x6 y1 y2 y3 σ0 → xX p l e rmX5_fix s m args below meth c D vwCl (va_A ((wM ad cI cJ cZ) σ) s.heap.size) (wM ad cI cJ cZ) [20, 21, 22, 23, 24, 25, 26, 27, 28, 29, 30, 31, 32, 33] σ 0 0 (MQ below (xQi D (wM ad cI cJ cZ) [20, 21, 22, 23, 24, 25, 26, 27, 28, 29, 30, 31, 32, 33] σ s.heap.size Q) args s 0 0 (va_A ((wM ad cI cJ cZ) σ) s.heap.size)) 7 σ0 121 [(0, .ref (ad 20)), (3, .int (i32 x3)), (4, .int (i32 x4)), (5, .int (i32 x5)), (6, .int (i32 x6))] [.int (i32 y3), .int (i32 y2), .int (i32 y1), .ref (ad 20)] := by
    intro K66 hK66 x3 x4 x5 x6 y1 y2 y3 σ0 hw
    unfold vX5_fix_121 at hw
    refine xr_callVv C (ci := 5) (q0 := 0) (As := [.int (i32 y1), .int (i32 y2), .int (i32 y3)]) (rest := []) (xSp_rf _ _) (by decide) (fun h => h) (mX5_put σ0 y1 y2 y3 _ hw) (cwV 3 C.2.2.2.2.1 gX5_fix_X5_put rfl rfl rfl (by decide +kernel) ⟨by decide, by decide⟩) rfl rfl rfl rfl (Nat.le_of_ble_eq_true rfl) ⟨by decide, by decide⟩ dX5_fix_121 (fun σ2 hw => ?_)
    refine xr_iinc C 4 [(0, .ref (ad 20)), (3, .int (i32 x3)), (4, .int (i32 x4)), (5, .int (i32 x5)), (6, .int (i32 (x6 + 1)))] dX5_fix_124 rfl (by decide) rfl ?_
    refine xr_goto C 66 dX5_fix_127 (by decide) ?_
    exact hK66 (x3, x4, x5, (x6 + 1), σ2) hw
  have L66 : ∀ a, mu (vX5_fix_66  Q) a → xX p l e rmX5_fix s m args below meth c D vwCl (va_A ((wM ad cI cJ cZ) σ) s.heap.size) (wM ad cI cJ cZ) [20, 21, 22, 23, 24, 25, 26, 27, 28, 29, 30, 31, 32, 33] σ 0 0 (MQ below (xQi D (wM ad cI cJ cZ) [20, 21, 22, 23, 24, 25, 26, 27, 28, 29, 30, 31, 32, 33] σ s.heap.size Q) args s 0 0 (va_A ((wM ad cI cJ cZ) σ) s.heap.size)) 7 (a.2.2.2.2) 66 [(0, .ref (ad 20)), (3, .int (i32 (a.1))), (4, .int (i32 (a.2.1))), (5, .int (i32 (a.2.2.1))), (6, .int (i32 (a.2.2.2.1)))] [] := by
    refine mu_ind (fun K66 hK66 a hw => ?_)
    obtain ⟨x3, x4, x5, x6, σ0⟩ := a
    show xX p l e rmX5_fix s m args below meth c D vwCl (va_A ((wM ad cI cJ cZ) σ) s.heap.size) (wM ad cI cJ cZ) [20, 21, 22, 23, 24, 25, 26, 27, 28, 29, 30, 31, 32, 33] σ 0 0 (MQ below (xQi D (wM ad cI cJ cZ) [20, 21, 22, 23, 24, 25, 26, 27, 28, 29, 30, 31, 32, 33] σ s.heap.size Q) args s 0 0 (va_A ((wM ad cI cJ cZ) σ) s.heap.size)) 7 σ0 66 [(0, .ref (ad 20)), (3, .int (i32 x3)), (4, .int (i32 x4)), (5, .int (i32 x5)), (6, .int (i32 x6))] []
    unfold vX5_fix_66 at hw
    refine xr_iload C 4 dX5_fix_66 rfl ?_
    refine xr_aload_n C 0 dX5_fix_68 rfl rfl ?_
    refine xr_get C hinX5 (N := 22) (ci := 5) (a := (ad 20)) 0 rfl rfl 0 (by decide) m0 rfl rfl dX5_fix_69 ?_
    refine xr_bipush C dX5_fix_72 (by decide +kernel) ?_
    refine xr_iald C (t0 := 0) 1 rfl rfl (by decide) (N := 64) rfl ⟨by decide, by decide⟩ dX5_fix_74 ?_
    obtain ⟨g3, hw⟩ := hw
    obtain ⟨g4, hw⟩ := hw
    refine xr_icmp_ge C g3 g4 130 dX5_fix_75 (by decide) (fun c5 => ?_) (fun c5 => ?_)
    · have hw := hw.1 c5
      refine xr_iload C 3 dX5_fix_130 rfl ?_
      exact xr_iret C hr hw dX5_fix_132
    · have hw := hw.2 c5
      refine xr_aload_n C 0 dX5_fix_78 rfl rfl ?_
      refine xr_iload C 4 dX5_fix_79 rfl ?_
      refine xr_bipush C dX5_fix_81 (by decide +kernel) ?_
      refine xr_aload_n C 0 dX5_fix_83 rfl rfl ?_
      refine xr_iload C 4 dX5_fix_84 rfl ?_
      refine xr_bipush C dX5_fix_86 (by decide +kernel) ?_
      refine xr_callVi C (ci := 5) (q0 := 0) (As := [.int (i32 x6), .int (i32 6)]) (rest := [.int (i32 6), .int (i32 x6), .ref (ad 20)]) (xSp_rf _ _) (by decide) (fun h => h) (mX5_of σ0 x6 6 _ hw) (cwV 2 C.2.2.2.2.1 gX5_fix_X5_of rfl rfl rfl (by decide +kernel) ⟨by decide, by decide⟩) rfl rfl rfl rfl (Nat.le_of_ble_eq_true rfl) ⟨by decide, by decide⟩ dX5_fix_88 (fun r6 σ7 hw => ?_)
      refine xr_iload_n C 1 dX5_fix_91 rfl rfl ?_
      obtain ⟨g8, hw⟩ := hw
      obtain ⟨g9, hw⟩ := hw
      refine xr_icmp_eq C g8 g9 108 dX5_fix_92 (by decide) (fun c10 => ?_) (fun c10 => ?_)
      · have hw := hw.1 c10
        refine xr_iload C 3 dX5_fix_108 rfl ?_
        refine xr_goto C 121 dX5_fix_110 (by decide) ?_
        exact B121 K66 hK66 x3 x4 x5 x6 x6 6 x5 σ7 hw
      · have hw := hw.2 c10
        refine xr_aload_n C 0 dX5_fix_95 rfl rfl ?_
        refine xr_iload C 4 dX5_fix_96 rfl ?_
        refine xr_bipush C dX5_fix_98 (by decide +kernel) ?_
        refine xr_callVi C (ci := 5) (q0 := 0) (As := [.int (i32 x6), .int (i32 6)]) (rest := [.int (i32 6), .int (i32 x6), .ref (ad 20)]) (xSp_rf _ _) (by decide) (fun h => h) (mX5_of σ7 x6 6 _ hw) (cwV 2 C.2.2.2.2.1 gX5_fix_X5_of rfl rfl rfl (by decide +kernel) ⟨by decide, by decide⟩) rfl rfl rfl rfl (Nat.le_of_ble_eq_true rfl) ⟨by decide, by decide⟩ dX5_fix_100 (fun r11 σ12 hw => ?_)
        refine xr_iload C 2 dX5_fix_103 rfl ?_
        obtain ⟨g13, hw⟩ := hw
        obtain ⟨g14, hw⟩ := hw
        refine xr_icmp_ne C g13 g14 113 dX5_fix_105 (by decide) (fun c15 => ?_) (fun c15 => ?_)
        · have hw := hw.1 c15
          refine xr_aload_n C 0 dX5_fix_113 rfl rfl ?_
          refine xr_iload C 4 dX5_fix_114 rfl ?_
          refine xr_bipush C dX5_fix_116 (by decide +kernel) ?_
          refine xr_callVi C (ci := 5) (q0 := 0) (As := [.int (i32 x6), .int (i32 6)]) (rest := [.int (i32 6), .int (i32 x6), .ref (ad 20)]) (xSp_rf _ _) (by decide) (fun h => h) (mX5_of σ12 x6 6 _ hw) (cwV 2 C.2.2.2.2.1 gX5_fix_X5_of rfl rfl rfl (by decide +kernel) ⟨by decide, by decide⟩) rfl rfl rfl rfl (Nat.le_of_ble_eq_true rfl) ⟨by decide, by decide⟩ dX5_fix_118 (fun r16 σ17 hw => ?_)
          exact B121 K66 hK66 x3 x4 x5 x6 x6 6 r16 σ17 hw
        · have hw := hw.2 c15
          refine xr_iload C 3 dX5_fix_108 rfl ?_
          refine xr_goto C 121 dX5_fix_110 (by decide) ?_
          exact B121 K66 hK66 x3 x4 x5 x6 x6 6 x5 σ12 hw
  show xX p l e rmX5_fix s m args below meth c D vwCl (va_A ((wM ad cI cJ cZ) σ) s.heap.size) (wM ad cI cJ cZ) [20, 21, 22, 23, 24, 25, 26, 27, 28, 29, 30, 31, 32, 33] σ 0 0 (MQ below (xQi D (wM ad cI cJ cZ) [20, 21, 22, 23, 24, 25, 26, 27, 28, 29, 30, 31, 32, 33] σ s.heap.size Q) args s 0 0 (va_A ((wM ad cI cJ cZ) σ) s.heap.size)) 7 σ 0 [(0, .ref (ad 20)), (1, .int (i32 a1)), (2, .int (i32 a2))] []
  unfold vX5_fix at hw
  refine xr_aload_n C 0 dX5_fix_0 rfl rfl ?_
  refine xr_iload_n C 1 dX5_fix_1 rfl rfl ?_
  refine xr_callVi C (ci := 5) (q0 := 0) (As := [.int (i32 a1)]) (rest := []) (xSp_rf _ _) (by decide) (fun h => h) (mX5_isGlass σ a1 _ hw) (cwV 1 C.2.2.2.2.1 gX5_fix_X5_isGlass rfl rfl rfl (by decide +kernel) ⟨by decide, by decide⟩) rfl rfl rfl rfl (Nat.le_of_ble_eq_true rfl) ⟨by decide, by decide⟩ dX5_fix_2 (fun r18 σ19 hw => ?_)
  obtain ⟨g20, hw⟩ := hw
  refine xr_if_eq C g20 16 dX5_fix_5 (by decide) (fun c21 => ?_) (fun c21 => ?_)
  · have hw := hw.1 c21
    refine xr_bipush C dX5_fix_16 (by decide +kernel) ?_
    exact xr_iret C hr hw dX5_fix_18
  · have hw := hw.2 c21
    refine xr_aload_n C 0 dX5_fix_8 rfl rfl ?_
    refine xr_iload_n C 2 dX5_fix_9 rfl rfl ?_
    refine xr_callVi C (ci := 5) (q0 := 0) (As := [.int (i32 a2)]) (rest := []) (xSp_rf _ _) (by decide) (fun h => h) (mX5_isGlass σ19 a2 _ hw) (cwV 1 C.2.2.2.2.1 gX5_fix_X5_isGlass rfl rfl rfl (by decide +kernel) ⟨by decide, by decide⟩) rfl rfl rfl rfl (Nat.le_of_ble_eq_true rfl) ⟨by decide, by decide⟩ dX5_fix_10 (fun r22 σ23 hw => ?_)
    obtain ⟨g24, hw⟩ := hw
    refine xr_if_ne C g24 19 dX5_fix_13 (by decide) (fun c25 => ?_) (fun c25 => ?_)
    · have hw := hw.1 c25
      refine xr_aload_n C 0 dX5_fix_19 rfl rfl ?_
      refine xr_iload_n C 1 dX5_fix_20 rfl rfl ?_
      refine xr_bipush C dX5_fix_21 (by decide +kernel) ?_
      refine xr_callVi C (ci := 5) (q0 := 0) (As := [.int (i32 a1), .int (i32 6)]) (rest := []) (xSp_rf _ _) (by decide) (fun h => h) (mX5_of σ23 a1 6 _ hw) (cwV 2 C.2.2.2.2.1 gX5_fix_X5_of rfl rfl rfl (by decide +kernel) ⟨by decide, by decide⟩) rfl rfl rfl rfl (Nat.le_of_ble_eq_true rfl) ⟨by decide, by decide⟩ dX5_fix_23 (fun r26 σ27 hw => ?_)
      refine xr_istore_n C [(0, .ref (ad 20)), (1, .int (i32 a1)), (2, .int (i32 a2)), (3, .int (i32 r26))] dX5_fix_26 rfl (by decide) rfl ?_
      refine xr_aload_n C 0 dX5_fix_27 rfl rfl ?_
      refine xr_iload_n C 2 dX5_fix_28 rfl rfl ?_
      refine xr_bipush C dX5_fix_29 (by decide +kernel) ?_
      refine xr_callVi C (ci := 5) (q0 := 0) (As := [.int (i32 a2), .int (i32 6)]) (rest := []) (xSp_rf _ _) (by decide) (fun h => h) (mX5_of σ27 a2 6 _ hw) (cwV 2 C.2.2.2.2.1 gX5_fix_X5_of rfl rfl rfl (by decide +kernel) ⟨by decide, by decide⟩) rfl rfl rfl rfl (Nat.le_of_ble_eq_true rfl) ⟨by decide, by decide⟩ dX5_fix_31 (fun r28 σ29 hw => ?_)
      refine xr_istore C [(0, .ref (ad 20)), (1, .int (i32 a1)), (2, .int (i32 a2)), (3, .int (i32 r26)), (4, .int (i32 r28))] dX5_fix_34 (by decide) rfl ?_
      refine xr_iload_n C 3 dX5_fix_36 rfl rfl ?_
      refine xr_iload C 4 dX5_fix_37 rfl ?_
      obtain ⟨g30, hw⟩ := hw
      obtain ⟨g31, hw⟩ := hw
      refine xr_icmp_ne C g30 g31 45 dX5_fix_39 (by decide) (fun c32 => ?_) (fun c32 => ?_)
      · have hw := hw.1 c32
        refine xr_aload_n C 0 dX5_fix_45 rfl rfl ?_
        refine xr_callVv C (ci := 5) (q0 := 0) (As := []) (rest := []) (xSp_rf _ _) (by decide) (fun h => h) (mX5_keeps σ29 _ hw) (cwV 0 C.2.2.2.2.1 gX5_fix_X5_keeps rfl rfl rfl (by decide +kernel) ⟨by decide, by decide⟩) rfl rfl rfl rfl (Nat.le_of_ble_eq_true rfl) ⟨by decide, by decide⟩ dX5_fix_46 (fun σ34 hw => ?_)
        refine xr_iload_n C 3 dX5_fix_49 rfl rfl ?_
        refine xr_iload C 4 dX5_fix_50 rfl ?_
        refine xr_icmp_ge C g30 g31 59 dX5_fix_52 (by decide) (fun c35 => ?_) (fun c35 => ?_)
        · have hw := hw.1 c35
          refine xr_iload C 4 dX5_fix_59 rfl ?_
          refine xr_istore C [(0, .ref (ad 20)), (1, .int (i32 a1)), (2, .int (i32 a2)), (3, .int (i32 r26)), (4, .int (i32 r28)), (5, .int (i32 r28))] dX5_fix_61 (by decide) rfl ?_
          refine xr_iconst C dX5_fix_63 ?_
          refine xr_istore C [(0, .ref (ad 20)), (1, .int (i32 a1)), (2, .int (i32 a2)), (3, .int (i32 r26)), (4, .int (i32 r28)), (5, .int (i32 r28)), (6, .int (i32 0))] dX5_fix_64 (by decide) rfl ?_
          refine xr_sub C [0, 3, 4, 5, 6] [(0, .ref (ad 20)), (3, .int (i32 r26)), (4, .int (i32 r28)), (5, .int (i32 r28)), (6, .int (i32 0))] rfl ?_
          exact L66 (r26, r28, r28, 0, σ34) hw
        · have hw := hw.2 c35
          refine xr_iload_n C 3 dX5_fix_55 rfl rfl ?_
          refine xr_goto C 61 dX5_fix_56 (by decide) ?_
          refine xr_istore C [(0, .ref (ad 20)), (1, .int (i32 a1)), (2, .int (i32 a2)), (3, .int (i32 r26)), (4, .int (i32 r28)), (5, .int (i32 r26))] dX5_fix_61 (by decide) rfl ?_
          refine xr_iconst C dX5_fix_63 ?_
          refine xr_istore C [(0, .ref (ad 20)), (1, .int (i32 a1)), (2, .int (i32 a2)), (3, .int (i32 r26)), (4, .int (i32 r28)), (5, .int (i32 r26)), (6, .int (i32 0))] dX5_fix_64 (by decide) rfl ?_
          refine xr_sub C [0, 3, 4, 5, 6] [(0, .ref (ad 20)), (3, .int (i32 r26)), (4, .int (i32 r28)), (5, .int (i32 r26)), (6, .int (i32 0))] rfl ?_
          exact L66 (r26, r28, r26, 0, σ34) hw
      · have hw := hw.2 c32
        refine xr_bipush C dX5_fix_42 (by decide +kernel) ?_
        exact xr_iret C hr hw dX5_fix_44
    · have hw := hw.2 c25
      refine xr_bipush C dX5_fix_16 (by decide +kernel) ?_
      exact xr_iret C hr hw dX5_fix_18
abbrev rmX5_loosen : Room := { frames := 2, cells := 0, slots := 0, locals := 108 }
set_option maxHeartbeats 8000000 in
set_option maxRecDepth 100000 in
theorem mX5_loosen {l : Launch} {D : va_G} {ad : Nat → Nat} {cI cJ cZ : ClassId} (σ : xS) (a1 : Int) (Q : Int → xS → Prop) (hw : vX5_loosen a1 σ Q) : xMi False l yX5_loosen wsX5_loosen rmX5_loosen D (xtys cI cJ cZ) (wM ad cI cJ cZ) [20, 21, 22, 23, 24, 25, 26, 27, 28, 29, 30, 31, 32, 33] σ [.ref (ad 20), .int (i32 a1)] Q := by
  refine xenter (F := [20, 21, 22, 23, 24, 25, 26, 27, 28, 29, 30, 31, 32, 33]) (Qc := fun sz => xQi D (wM ad cI cJ cZ) [20, 21, 22, 23, 24, 25, 26, 27, 28, 29, 30, 31, 32, 33] σ sz Q) (own := RX5) (cc := cX5_loosen) (maxL := 5) (ret := some .int) (by decide) rfl rfl (Nat.le_of_ble_eq_true rfl) ?_
  intro p e s m args below meth c hargs C hr hnm
  have hinX5 : ∀ w ∈ u_ws RX5 TX5 22, w ∈ wsX5_loosen := fun _ h => List.mem_cons_of_mem _ (List.mem_append_right _ h)
  have m0 : (Cond.fieldLink RX5 7 "SandBenchModel" "m" "[I") ∈ wsX5_loosen := by decide +kernel
  have B119 : ∀ (K77 : Int × Int × xS → Prop) (hK77 : ∀ a, K77 a → xX p l e rmX5_loosen s m args below meth c D vwCl (va_A ((wM ad cI cJ cZ) σ) s.heap.size) (wM ad cI cJ cZ) [20, 21, 22, 23, 24, 25, 26, 27, 28, 29, 30, 31, 32, 33] σ 0 0 (MQ below (xQi D (wM ad cI cJ cZ) [20, 21, 22, 23, 24, 25, 26, 27, 28, 29, 30, 31, 32, 33] σ s.heap.size Q) args s 0 0 (va_A ((wM ad cI cJ cZ) σ) s.heap.size)) 5 (a.2.2) 77 [(0, .ref (ad 20)), (2, .int (i32 (a.1))), (4, .int (i32 (a.2.1)))] []) (x2 x4 y1 y2 y3 : Int) (σ0 : xS), vX5_loosen_119 K77 Q x2 x4 y1 y2 y3 σ0 → xX p l e rmX5_loosen s m args below meth c D vwCl (va_A ((wM ad cI cJ cZ) σ) s.heap.size) (wM ad cI cJ cZ) [20, 21, 22, 23, 24, 25, 26, 27, 28, 29, 30, 31, 32, 33] σ 0 0 (MQ below (xQi D (wM ad cI cJ cZ) [20, 21, 22, 23, 24, 25, 26, 27, 28, 29, 30, 31, 32, 33] σ s.heap.size Q) args s 0 0 (va_A ((wM ad cI cJ cZ) σ) s.heap.size)) 5 σ0 119 [(0, .ref (ad 20)), (2, .int (i32 x2)), (4, .int (i32 x4))] [.int (i32 y3), .int (i32 y2), .int (i32 y1), .ref (ad 20)] := by
    intro K77 hK77 x2 x4 y1 y2 y3 σ0 hw
    unfold vX5_loosen_119 at hw
    refine xr_callVv C (ci := 5) (q0 := 0) (As := [.int (i32 y1), .int (i32 y2), .int (i32 y3)]) (rest := []) (xSp_rf _ _) (by decide) (fun h => h) (mX5_put σ0 y1 y2 y3 _ hw) (cwV 3 C.2.2.2.2.1 gX5_loosen_X5_put rfl rfl rfl (by decide +kernel) ⟨by decide, by decide⟩) rfl rfl rfl rfl (Nat.le_of_ble_eq_true rfl) ⟨by decide, by decide⟩ dX5_loosen_119 (fun σ2 hw => ?_)
    refine xr_iinc C 2 [(0, .ref (ad 20)), (2, .int (i32 x2)), (4, .int (i32 (x4 + 1)))] dX5_loosen_122 rfl (by decide) rfl ?_
    refine xr_goto C 77 dX5_loosen_125 (by decide) ?_
    exact hK77 (x2, (x4 + 1), σ2) hw
  have L77 : ∀ a, mu (vX5_loosen_77  Q) a → xX p l e rmX5_loosen s m args below meth c D vwCl (va_A ((wM ad cI cJ cZ) σ) s.heap.size) (wM ad cI cJ cZ) [20, 21, 22, 23, 24, 25, 26, 27, 28, 29, 30, 31, 32, 33] σ 0 0 (MQ below (xQi D (wM ad cI cJ cZ) [20, 21, 22, 23, 24, 25, 26, 27, 28, 29, 30, 31, 32, 33] σ s.heap.size Q) args s 0 0 (va_A ((wM ad cI cJ cZ) σ) s.heap.size)) 5 (a.2.2) 77 [(0, .ref (ad 20)), (2, .int (i32 (a.1))), (4, .int (i32 (a.2.1)))] [] := by
    refine mu_ind (fun K77 hK77 a hw => ?_)
    obtain ⟨x2, x4, σ0⟩ := a
    show xX p l e rmX5_loosen s m args below meth c D vwCl (va_A ((wM ad cI cJ cZ) σ) s.heap.size) (wM ad cI cJ cZ) [20, 21, 22, 23, 24, 25, 26, 27, 28, 29, 30, 31, 32, 33] σ 0 0 (MQ below (xQi D (wM ad cI cJ cZ) [20, 21, 22, 23, 24, 25, 26, 27, 28, 29, 30, 31, 32, 33] σ s.heap.size Q) args s 0 0 (va_A ((wM ad cI cJ cZ) σ) s.heap.size)) 5 σ0 77 [(0, .ref (ad 20)), (2, .int (i32 x2)), (4, .int (i32 x4))] []
    unfold vX5_loosen_77 at hw
    refine xr_iload C 2 dX5_loosen_77 rfl ?_
    refine xr_aload_n C 0 dX5_loosen_79 rfl rfl ?_
    refine xr_get C hinX5 (N := 22) (ci := 5) (a := (ad 20)) 0 rfl rfl 0 (by decide) m0 rfl rfl dX5_loosen_80 ?_
    refine xr_bipush C dX5_loosen_83 (by decide +kernel) ?_
    refine xr_iald C (t0 := 0) 1 rfl rfl (by decide) (N := 64) rfl ⟨by decide, by decide⟩ dX5_loosen_85 ?_
    obtain ⟨g3, hw⟩ := hw
    obtain ⟨g4, hw⟩ := hw
    refine xr_icmp_ge C g3 g4 128 dX5_loosen_86 (by decide) (fun c5 => ?_) (fun c5 => ?_)
    · have hw := hw.1 c5
      refine xr_aload_n C 0 dX5_loosen_128 rfl rfl ?_
      refine xr_callVi C (ci := 5) (q0 := 0) (As := []) (rest := []) (xSp_rf _ _) (by decide) (fun h => h) (mX5_stacks σ0 _ hw) (cwV 0 C.2.2.2.2.1 gX5_loosen_X5_stacks rfl rfl rfl (by decide +kernel) ⟨by decide, by decide⟩) rfl rfl rfl rfl (Nat.le_of_ble_eq_true rfl) ⟨by decide, by decide⟩ dX5_loosen_129 (fun r6 σ7 hw => ?_)
      exact xr_iret C hr hw dX5_loosen_132
    · have hw := hw.2 c5
      refine xr_aload_n C 0 dX5_loosen_89 rfl rfl ?_
      refine xr_iload C 2 dX5_loosen_90 rfl ?_
      refine xr_bipush C dX5_loosen_92 (by decide +kernel) ?_
      refine xr_aload_n C 0 dX5_loosen_94 rfl rfl ?_
      refine xr_iload C 2 dX5_loosen_95 rfl ?_
      refine xr_bipush C dX5_loosen_97 (by decide +kernel) ?_
      refine xr_callVi C (ci := 5) (q0 := 0) (As := [.int (i32 x4), .int (i32 6)]) (rest := [.int (i32 6), .int (i32 x4), .ref (ad 20)]) (xSp_rf _ _) (by decide) (fun h => h) (mX5_of σ0 x4 6 _ hw) (cwV 2 C.2.2.2.2.1 gX5_loosen_X5_of rfl rfl rfl (by decide +kernel) ⟨by decide, by decide⟩) rfl rfl rfl rfl (Nat.le_of_ble_eq_true rfl) ⟨by decide, by decide⟩ dX5_loosen_99 (fun r8 σ9 hw => ?_)
      refine xr_iload_n C 1 dX5_loosen_102 rfl rfl ?_
      obtain ⟨g10, hw⟩ := hw
      obtain ⟨g11, hw⟩ := hw
      refine xr_icmp_ne C g10 g11 111 dX5_loosen_103 (by decide) (fun c12 => ?_) (fun c12 => ?_)
      · have hw := hw.1 c12
        refine xr_aload_n C 0 dX5_loosen_111 rfl rfl ?_
        refine xr_iload C 2 dX5_loosen_112 rfl ?_
        refine xr_bipush C dX5_loosen_114 (by decide +kernel) ?_
        refine xr_callVi C (ci := 5) (q0 := 0) (As := [.int (i32 x4), .int (i32 6)]) (rest := [.int (i32 6), .int (i32 x4), .ref (ad 20)]) (xSp_rf _ _) (by decide) (fun h => h) (mX5_of σ9 x4 6 _ hw) (cwV 2 C.2.2.2.2.1 gX5_loosen_X5_of rfl rfl rfl (by decide +kernel) ⟨by decide, by decide⟩) rfl rfl rfl rfl (Nat.le_of_ble_eq_true rfl) ⟨by decide, by decide⟩ dX5_loosen_116 (fun r13 σ14 hw => ?_)
        exact B119 K77 hK77 x2 x4 x4 6 r13 σ14 hw
      · have hw := hw.2 c12
        refine xr_iload C 2 dX5_loosen_106 rfl ?_
        refine xr_goto C 119 dX5_loosen_108 (by decide) ?_
        exact B119 K77 hK77 x2 x4 x4 6 x4 σ9 hw
  have L24 : ∀ a, mu (vX5_loosen_24  Q) a → xX p l e rmX5_loosen s m args below meth c D vwCl (va_A ((wM ad cI cJ cZ) σ) s.heap.size) (wM ad cI cJ cZ) [20, 21, 22, 23, 24, 25, 26, 27, 28, 29, 30, 31, 32, 33] σ 0 0 (MQ below (xQi D (wM ad cI cJ cZ) [20, 21, 22, 23, 24, 25, 26, 27, 28, 29, 30, 31, 32, 33] σ s.heap.size Q) args s 0 0 (va_A ((wM ad cI cJ cZ) σ) s.heap.size)) 5 (a.2.2.2) 24 [(0, .ref (ad 20)), (2, .int (i32 (a.1))), (3, .int (i32 (a.2.1))), (4, .int (i32 (a.2.2.1)))] [] := by
    refine mu_ind (fun K24 hK24 a hw => ?_)
    obtain ⟨x2, x3, x4, σ0⟩ := a
    show xX p l e rmX5_loosen s m args below meth c D vwCl (va_A ((wM ad cI cJ cZ) σ) s.heap.size) (wM ad cI cJ cZ) [20, 21, 22, 23, 24, 25, 26, 27, 28, 29, 30, 31, 32, 33] σ 0 0 (MQ below (xQi D (wM ad cI cJ cZ) [20, 21, 22, 23, 24, 25, 26, 27, 28, 29, 30, 31, 32, 33] σ s.heap.size Q) args s 0 0 (va_A ((wM ad cI cJ cZ) σ) s.heap.size)) 5 σ0 24 [(0, .ref (ad 20)), (2, .int (i32 x2)), (3, .int (i32 x3)), (4, .int (i32 x4))] []
    unfold vX5_loosen_24 at hw
    refine xr_iload C 3 dX5_loosen_24 rfl ?_
    refine xr_aload_n C 0 dX5_loosen_26 rfl rfl ?_
    refine xr_get C hinX5 (N := 22) (ci := 5) (a := (ad 20)) 0 rfl rfl 0 (by decide) m0 rfl rfl dX5_loosen_27 ?_
    refine xr_bipush C dX5_loosen_30 (by decide +kernel) ?_
    refine xr_iald C (t0 := 0) 1 rfl rfl (by decide) (N := 64) rfl ⟨by decide, by decide⟩ dX5_loosen_32 ?_
    obtain ⟨g15, hw⟩ := hw
    obtain ⟨g16, hw⟩ := hw
    refine xr_icmp_ge C g15 g16 62 dX5_loosen_33 (by decide) (fun c17 => ?_) (fun c17 => ?_)
    · have hw := hw.1 c17
      refine xr_iload_n C 2 dX5_loosen_62 rfl rfl ?_
      refine xr_iconst C dX5_loosen_63 ?_
      obtain ⟨g18, hw⟩ := hw
      refine xr_icmp_ne C g18 ⟨by decide, by decide⟩ 70 dX5_loosen_64 (by decide) (fun c19 => ?_) (fun c19 => ?_)
      · have hw := hw.1 c19
        refine xr_aload_n C 0 dX5_loosen_70 rfl rfl ?_
        refine xr_callVv C (ci := 5) (q0 := 0) (As := []) (rest := []) (xSp_rf _ _) (by decide) (fun h => h) (mX5_keeps σ0 _ hw) (cwV 0 C.2.2.2.2.1 gX5_loosen_X5_keeps rfl rfl rfl (by decide +kernel) ⟨by decide, by decide⟩) rfl rfl rfl rfl (Nat.le_of_ble_eq_true rfl) ⟨by decide, by decide⟩ dX5_loosen_71 (fun σ21 hw => ?_)
        refine xr_iconst C dX5_loosen_74 ?_
        refine xr_istore C [(0, .ref (ad 20)), (2, .int (i32 x2)), (3, .int (i32 x3)), (4, .int (i32 0))] dX5_loosen_75 (by decide) rfl ?_
        refine xr_sub C [0, 1, 3] [(0, .ref (ad 20)), (2, .int (i32 x2)), (4, .int (i32 0))] rfl ?_
        exact L77 (x2, 0, σ21) hw
      · have hw := hw.2 c19
        refine xr_bipush C dX5_loosen_67 (by decide +kernel) ?_
        exact xr_iret C hr hw dX5_loosen_69
    · have hw := hw.2 c17
      refine xr_iload_n C 2 dX5_loosen_36 rfl rfl ?_
      refine xr_aload_n C 0 dX5_loosen_37 rfl rfl ?_
      refine xr_iload C 3 dX5_loosen_38 rfl ?_
      refine xr_bipush C dX5_loosen_40 (by decide +kernel) ?_
      refine xr_callVi C (ci := 5) (q0 := 0) (As := [.int (i32 x4), .int (i32 6)]) (rest := [.int (i32 x3)]) (xSp_rf _ _) (by decide) (fun h => h) (mX5_of σ0 x4 6 _ hw) (cwV 2 C.2.2.2.2.1 gX5_loosen_X5_of rfl rfl rfl (by decide +kernel) ⟨by decide, by decide⟩) rfl rfl rfl rfl (Nat.le_of_ble_eq_true rfl) ⟨by decide, by decide⟩ dX5_loosen_42 (fun r22 σ23 hw => ?_)
      refine xr_iload_n C 1 dX5_loosen_45 rfl rfl ?_
      obtain ⟨g24, hw⟩ := hw
      obtain ⟨g25, hw⟩ := hw
      refine xr_icmp_ne C g24 g25 53 dX5_loosen_46 (by decide) (fun c26 => ?_) (fun c26 => ?_)
      · have hw := hw.1 c26
        refine xr_iconst C dX5_loosen_53 ?_
        refine xr_iadd C dX5_loosen_54 ?_
        refine xr_istore_n C [(0, .ref (ad 20)), (2, .int (i32 x2)), (3, .int (i32 (x3 + 0))), (4, .int (i32 x4))] dX5_loosen_55 rfl (by decide) rfl ?_
        refine xr_iinc C 3 [(0, .ref (ad 20)), (2, .int (i32 x2)), (3, .int (i32 (x3 + 0))), (4, .int (i32 (x4 + 1)))] dX5_loosen_56 rfl (by decide) rfl ?_
        refine xr_goto C 24 dX5_loosen_59 (by decide) ?_
        exact hK24 (x2, (x3 + 0), (x4 + 1), σ23) hw
      · have hw := hw.2 c26
        refine xr_iconst C dX5_loosen_49 ?_
        refine xr_goto C 54 dX5_loosen_50 (by decide) ?_
        refine xr_iadd C dX5_loosen_54 ?_
        refine xr_istore_n C [(0, .ref (ad 20)), (2, .int (i32 x2)), (3, .int (i32 (x3 + 1))), (4, .int (i32 x4))] dX5_loosen_55 rfl (by decide) rfl ?_
        refine xr_iinc C 3 [(0, .ref (ad 20)), (2, .int (i32 x2)), (3, .int (i32 (x3 + 1))), (4, .int (i32 (x4 + 1)))] dX5_loosen_56 rfl (by decide) rfl ?_
        refine xr_goto C 24 dX5_loosen_59 (by decide) ?_
        exact hK24 (x2, (x3 + 1), (x4 + 1), σ23) hw
  show xX p l e rmX5_loosen s m args below meth c D vwCl (va_A ((wM ad cI cJ cZ) σ) s.heap.size) (wM ad cI cJ cZ) [20, 21, 22, 23, 24, 25, 26, 27, 28, 29, 30, 31, 32, 33] σ 0 0 (MQ below (xQi D (wM ad cI cJ cZ) [20, 21, 22, 23, 24, 25, 26, 27, 28, 29, 30, 31, 32, 33] σ s.heap.size Q) args s 0 0 (va_A ((wM ad cI cJ cZ) σ) s.heap.size)) 5 σ 0 [(0, .ref (ad 20)), (1, .int (i32 a1))] []
  unfold vX5_loosen at hw
  refine xr_aload_n C 0 dX5_loosen_0 rfl rfl ?_
  refine xr_iload_n C 1 dX5_loosen_1 rfl rfl ?_
  refine xr_callVi C (ci := 5) (q0 := 0) (As := [.int (i32 a1)]) (rest := []) (xSp_rf _ _) (by decide) (fun h => h) (mX5_isGlass σ a1 _ hw) (cwV 1 C.2.2.2.2.1 gX5_loosen_X5_isGlass rfl rfl rfl (by decide +kernel) ⟨by decide, by decide⟩) rfl rfl rfl rfl (Nat.le_of_ble_eq_true rfl) ⟨by decide, by decide⟩ dX5_loosen_2 (fun r27 σ28 hw => ?_)
  obtain ⟨g29, hw⟩ := hw
  refine xr_if_ne C g29 11 dX5_loosen_5 (by decide) (fun c30 => ?_) (fun c30 => ?_)
  · have hw := hw.1 c30
    refine xr_aload_n C 0 dX5_loosen_11 rfl rfl ?_
    refine xr_iload_n C 1 dX5_loosen_12 rfl rfl ?_
    refine xr_bipush C dX5_loosen_13 (by decide +kernel) ?_
    refine xr_callVi C (ci := 5) (q0 := 0) (As := [.int (i32 a1), .int (i32 6)]) (rest := []) (xSp_rf _ _) (by decide) (fun h => h) (mX5_of σ28 a1 6 _ hw) (cwV 2 C.2.2.2.2.1 gX5_loosen_X5_of rfl rfl rfl (by decide +kernel) ⟨by decide, by decide⟩) rfl rfl rfl rfl (Nat.le_of_ble_eq_true rfl) ⟨by decide, by decide⟩ dX5_loosen_15 (fun r31 σ32 hw => ?_)
    refine xr_istore_n C [(0, .ref (ad 20)), (1, .int (i32 a1)), (2, .int (i32 r31))] dX5_loosen_18 rfl (by decide) rfl ?_
    refine xr_iconst C dX5_loosen_19 ?_
    refine xr_istore_n C [(0, .ref (ad 20)), (1, .int (i32 a1)), (2, .int (i32 r31)), (3, .int (i32 0))] dX5_loosen_20 rfl (by decide) rfl ?_
    refine xr_iconst C dX5_loosen_21 ?_
    refine xr_istore C [(0, .ref (ad 20)), (1, .int (i32 a1)), (2, .int (i32 r31)), (3, .int (i32 0)), (4, .int (i32 0))] dX5_loosen_22 (by decide) rfl ?_
    refine xr_sub C [0, 2, 3, 4] [(0, .ref (ad 20)), (2, .int (i32 r31)), (3, .int (i32 0)), (4, .int (i32 0))] rfl ?_
    exact L24 (r31, 0, 0, σ32) hw
  · have hw := hw.2 c30
    refine xr_bipush C dX5_loosen_8 (by decide +kernel) ?_
    exact xr_iret C hr hw dX5_loosen_10
abbrev rmX5_turns : Room := { frames := 2, cells := 0, slots := 0, locals := 108 }
set_option maxHeartbeats 8000000 in
set_option maxRecDepth 100000 in
theorem mX5_turns {l : Launch} {D : va_G} {ad : Nat → Nat} {cI cJ cZ : ClassId} (σ : xS) (a1 : Int) (Q : xS → Prop) (hw : vX5_turns a1 σ Q) : xMv False l yX5_turns wsX5_turns rmX5_turns D (xtys cI cJ cZ) (wM ad cI cJ cZ) [20, 21, 22, 23, 24, 25, 26, 27, 28, 29, 30, 31, 32, 33] σ [.ref (ad 20), .int (i32 a1)] Q := by
  refine xenter (F := [20, 21, 22, 23, 24, 25, 26, 27, 28, 29, 30, 31, 32, 33]) (Qc := fun sz => xQv D (wM ad cI cJ cZ) [20, 21, 22, 23, 24, 25, 26, 27, 28, 29, 30, 31, 32, 33] σ sz Q) (own := RX5) (cc := cX5_turns) (maxL := 4) (ret := none) (by decide) rfl rfl (Nat.le_of_ble_eq_true rfl) ?_
  intro p e s m args below meth c hargs C hr hnm
  have hinX5 : ∀ w ∈ u_ws RX5 TX5 22, w ∈ wsX5_turns := fun _ h => List.mem_cons_of_mem _ (List.mem_append_right _ h)
  have m0 : (Cond.fieldLink RX5 7 "SandBenchModel" "m" "[I") ∈ wsX5_turns := by decide +kernel
  have L10 : ∀ a, mu (vX5_turns_10  Q) a → xX p l e rmX5_turns s m args below meth c D vwCl (va_A ((wM ad cI cJ cZ) σ) s.heap.size) (wM ad cI cJ cZ) [20, 21, 22, 23, 24, 25, 26, 27, 28, 29, 30, 31, 32, 33] σ 0 0 (MQ below (xQv D (wM ad cI cJ cZ) [20, 21, 22, 23, 24, 25, 26, 27, 28, 29, 30, 31, 32, 33] σ s.heap.size Q) args s 0 0 (va_A ((wM ad cI cJ cZ) σ) s.heap.size)) 4 (a.2.2) 10 [(0, .ref (ad 20)), (2, .int (i32 (a.1))), (3, .int (i32 (a.2.1)))] [] := by
    refine mu_ind (fun K10 hK10 a hw => ?_)
    obtain ⟨x2, x3, σ0⟩ := a
    show xX p l e rmX5_turns s m args below meth c D vwCl (va_A ((wM ad cI cJ cZ) σ) s.heap.size) (wM ad cI cJ cZ) [20, 21, 22, 23, 24, 25, 26, 27, 28, 29, 30, 31, 32, 33] σ 0 0 (MQ below (xQv D (wM ad cI cJ cZ) [20, 21, 22, 23, 24, 25, 26, 27, 28, 29, 30, 31, 32, 33] σ s.heap.size Q) args s 0 0 (va_A ((wM ad cI cJ cZ) σ) s.heap.size)) 4 σ0 10 [(0, .ref (ad 20)), (2, .int (i32 x2)), (3, .int (i32 x3))] []
    unfold vX5_turns_10 at hw
    refine xr_iload_n C 2 dX5_turns_10 rfl rfl ?_
    refine xr_aload_n C 0 dX5_turns_11 rfl rfl ?_
    refine xr_get C hinX5 (N := 22) (ci := 5) (a := (ad 20)) 0 rfl rfl 0 (by decide) m0 rfl rfl dX5_turns_12 ?_
    refine xr_bipush C dX5_turns_15 (by decide +kernel) ?_
    refine xr_iald C (t0 := 0) 1 rfl rfl (by decide) (N := 64) rfl ⟨by decide, by decide⟩ dX5_turns_17 ?_
    obtain ⟨g1, hw⟩ := hw
    obtain ⟨g2, hw⟩ := hw
    refine xr_icmp_ge C g1 g2 62 dX5_turns_18 (by decide) (fun c3 => ?_) (fun c3 => ?_)
    · have hw := hw.1 c3
      refine xr_aload_n C 0 dX5_turns_62 rfl rfl ?_
      refine xr_get C hinX5 (N := 22) (ci := 5) (a := (ad 20)) 0 rfl rfl 0 (by decide) m0 rfl rfl dX5_turns_63 ?_
      refine xr_bipush C dX5_turns_66 (by decide +kernel) ?_
      refine xr_dup2 C dX5_turns_68 rfl rfl ?_
      refine xr_iald C (t0 := 0) 1 rfl rfl (by decide) (N := 64) rfl ⟨by decide, by decide⟩ dX5_turns_69 ?_
      refine xr_iconst C dX5_turns_70 ?_
      refine xr_iadd C dX5_turns_71 ?_
      refine xr_iast C (t0 := 0) (r := 21) 1 rfl rfl (by decide) (N := 64) rfl ⟨by decide, by decide⟩ wM_st21 (by decide) dX5_turns_72 ?_
      refine xr_sig (fun σ4 e5 => ?_)
      have hw := hw σ4 e5
      exact xr_vret C hr hw dX5_turns_73
    · have hw := hw.2 c3
      refine xr_aload_n C 0 dX5_turns_21 rfl rfl ?_
      refine xr_iload_n C 2 dX5_turns_22 rfl rfl ?_
      refine xr_bipush C dX5_turns_23 (by decide +kernel) ?_
      refine xr_callVi C (ci := 5) (q0 := 0) (As := [.int (i32 x3), .int (i32 6)]) (rest := []) (xSp_rf _ _) (by decide) (fun h => h) (mX5_of σ0 x3 6 _ hw) (cwV 2 C.2.2.2.2.1 gX5_turns_X5_of rfl rfl rfl (by decide +kernel) ⟨by decide, by decide⟩) rfl rfl rfl rfl (Nat.le_of_ble_eq_true rfl) ⟨by decide, by decide⟩ dX5_turns_25 (fun r6 σ7 hw => ?_)
      refine xr_iload_n C 1 dX5_turns_28 rfl rfl ?_
      obtain ⟨g8, hw⟩ := hw
      obtain ⟨g9, hw⟩ := hw
      refine xr_icmp_ne C g8 g9 56 dX5_turns_29 (by decide) (fun c10 => ?_) (fun c10 => ?_)
      · have hw := hw.1 c10
        refine xr_iinc C 2 [(0, .ref (ad 20)), (2, .int (i32 x2)), (3, .int (i32 (x3 + 1)))] dX5_turns_56 rfl (by decide) rfl ?_
        refine xr_goto C 10 dX5_turns_59 (by decide) ?_
        exact hK10 (x2, (x3 + 1), σ7) hw
      · have hw := hw.2 c10
        refine xr_aload_n C 0 dX5_turns_32 rfl rfl ?_
        refine xr_iload_n C 2 dX5_turns_33 rfl rfl ?_
        refine xr_iconst C dX5_turns_34 ?_
        refine xr_aload_n C 0 dX5_turns_35 rfl rfl ?_
        refine xr_iload_n C 2 dX5_turns_36 rfl rfl ?_
        refine xr_iconst C dX5_turns_37 ?_
        refine xr_callVi C (ci := 5) (q0 := 0) (As := [.int (i32 x3), .int (i32 0)]) (rest := [.int (i32 1), .int (i32 x3), .ref (ad 20)]) (xSp_rf _ _) (by decide) (fun h => h) (mX5_of σ7 x3 0 _ hw) (cwV 2 C.2.2.2.2.1 gX5_turns_X5_of rfl rfl rfl (by decide +kernel) ⟨by decide, by decide⟩) rfl rfl rfl rfl (Nat.le_of_ble_eq_true rfl) ⟨by decide, by decide⟩ dX5_turns_38 (fun r11 σ12 hw => ?_)
        refine xr_aload_n C 0 dX5_turns_41 rfl rfl ?_
        refine xr_iload_n C 2 dX5_turns_42 rfl rfl ?_
        refine xr_iconst C dX5_turns_43 ?_
        refine xr_callVi C (ci := 5) (q0 := 0) (As := [.int (i32 x3), .int (i32 1)]) (rest := [.int (i32 r11), .int (i32 1), .int (i32 x3), .ref (ad 20)]) (xSp_rf _ _) (by decide) (fun h => h) (mX5_of σ12 x3 1 _ hw) (cwV 2 C.2.2.2.2.1 gX5_turns_X5_of rfl rfl rfl (by decide +kernel) ⟨by decide, by decide⟩) rfl rfl rfl rfl (Nat.le_of_ble_eq_true rfl) ⟨by decide, by decide⟩ dX5_turns_44 (fun r13 σ14 hw => ?_)
        refine xr_isub C dX5_turns_47 ?_
        refine xr_callVv C (ci := 5) (q0 := 0) (As := [.int (i32 x3), .int (i32 1), .int (i32 (r11 - r13))]) (rest := []) (xSp_rf _ _) (by decide) (fun h => h) (mX5_put σ14 x3 1 (r11 - r13) _ hw) (cwV 3 C.2.2.2.2.1 gX5_turns_X5_put rfl rfl rfl (by decide +kernel) ⟨by decide, by decide⟩) rfl rfl rfl rfl (Nat.le_of_ble_eq_true rfl) ⟨by decide, by decide⟩ dX5_turns_48 (fun σ16 hw => ?_)
        refine xr_aload_n C 0 dX5_turns_51 rfl rfl ?_
        refine xr_iload_n C 2 dX5_turns_52 rfl rfl ?_
        refine xr_callVv C (ci := 5) (q0 := 0) (As := [.int (i32 x3)]) (rest := []) (xSp_rf _ _) (by decide) (fun h => h) (mX5_resets σ16 x3 _ hw) (cwV 1 C.2.2.2.2.1 gX5_turns_X5_resets rfl rfl rfl (by decide +kernel) ⟨by decide, by decide⟩) rfl rfl rfl rfl (Nat.le_of_ble_eq_true rfl) ⟨by decide, by decide⟩ dX5_turns_53 (fun σ18 hw => ?_)
        refine xr_iinc C 2 [(0, .ref (ad 20)), (2, .int (i32 x2)), (3, .int (i32 (x3 + 1)))] dX5_turns_56 rfl (by decide) rfl ?_
        refine xr_goto C 10 dX5_turns_59 (by decide) ?_
        exact hK10 (x2, (x3 + 1), σ18) hw
  show xX p l e rmX5_turns s m args below meth c D vwCl (va_A ((wM ad cI cJ cZ) σ) s.heap.size) (wM ad cI cJ cZ) [20, 21, 22, 23, 24, 25, 26, 27, 28, 29, 30, 31, 32, 33] σ 0 0 (MQ below (xQv D (wM ad cI cJ cZ) [20, 21, 22, 23, 24, 25, 26, 27, 28, 29, 30, 31, 32, 33] σ s.heap.size Q) args s 0 0 (va_A ((wM ad cI cJ cZ) σ) s.heap.size)) 4 σ 0 [(0, .ref (ad 20)), (1, .int (i32 a1))] []
  unfold vX5_turns at hw
  refine xr_aload_n C 0 dX5_turns_0 rfl rfl ?_
  refine xr_iload_n C 1 dX5_turns_1 rfl rfl ?_
  refine xr_bipush C dX5_turns_2 (by decide +kernel) ?_
  refine xr_callVi C (ci := 5) (q0 := 0) (As := [.int (i32 a1), .int (i32 6)]) (rest := []) (xSp_rf _ _) (by decide) (fun h => h) (mX5_of σ a1 6 _ hw) (cwV 2 C.2.2.2.2.1 gX5_turns_X5_of rfl rfl rfl (by decide +kernel) ⟨by decide, by decide⟩) rfl rfl rfl rfl (Nat.le_of_ble_eq_true rfl) ⟨by decide, by decide⟩ dX5_turns_4 (fun r19 σ20 hw => ?_)
  refine xr_istore_n C [(0, .ref (ad 20)), (1, .int (i32 a1)), (2, .int (i32 r19))] dX5_turns_7 rfl (by decide) rfl ?_
  refine xr_iconst C dX5_turns_8 ?_
  refine xr_istore_n C [(0, .ref (ad 20)), (1, .int (i32 a1)), (2, .int (i32 r19)), (3, .int (i32 0))] dX5_turns_9 rfl (by decide) rfl ?_
  refine xr_sub C [0, 2, 3] [(0, .ref (ad 20)), (2, .int (i32 r19)), (3, .int (i32 0))] rfl ?_
  exact L10 (r19, 0, σ20) hw
