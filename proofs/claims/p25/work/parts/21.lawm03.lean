abbrev rmL_setsAmount : Room := { frames := 4, cells := 0, slots := 0, locals := 153 }
set_option maxHeartbeats 8000000 in
set_option maxRecDepth 100000 in
theorem mL_setsAmount {l : Launch} {D : va_G} {pv : Value} {ad : Nat → Nat} {cI cJ cZ : ClassId} (σ : xS) (a2 a3 : Int) (Q : Int → xS → Prop) (hw : vL_setsAmount a2 a3 σ Q) : xMi False l yL_setsAmount wsL_setsAmount rmL_setsAmount D (xtys cI cJ cZ) (wXA pv ad cI cJ cZ) [0, 1, 2, 3, 4, 5, 6, 7, 8, 40] σ [.ref (ad 0), .ref (ad 40), .int (i32 a2), .int (i32 a3)] Q := by
  refine xenter (F := [0, 1, 2, 3, 4, 5, 6, 7, 8, 40]) (Qc := fun sz => xQi D (wXA pv ad cI cJ cZ) [0, 1, 2, 3, 4, 5, 6, 7, 8, 40] σ sz Q) (own := RL) (cc := cL_setsAmount) (maxL := 5) (ret := some .boolean) (by decide) rfl rfl (Nat.le_of_ble_eq_true rfl) ?_
  intro p e s m args below meth c hargs C hr hnm
  show xX p l e rmL_setsAmount s m args below meth c D vwCl (va_A ((wXA pv ad cI cJ cZ) σ) s.heap.size) (wXA pv ad cI cJ cZ) [0, 1, 2, 3, 4, 5, 6, 7, 8, 40] σ 0 0 (MQ below (xQi D (wXA pv ad cI cJ cZ) [0, 1, 2, 3, 4, 5, 6, 7, 8, 40] σ s.heap.size Q) args s 0 0 (va_A ((wXA pv ad cI cJ cZ) σ) s.heap.size)) 5 σ 0 [(0, .ref (ad 0)), (1, .ref (ad 40)), (2, .int (i32 a2)), (3, .int (i32 a3))] []
  unfold vL_setsAmount at hw
  refine xr_aload_n C 1 dL_setsAmount_0 rfl rfl ?_
  refine xr_bipush C dL_setsAmount_1 (by decide +kernel) ?_
  refine xr_iload_n C 2 dL_setsAmount_3 rfl rfl ?_
  refine xr_imul C dL_setsAmount_4 ?_
  obtain ⟨g1, hw⟩ := hw
  refine xr_iald C (t0 := 0) 9 rfl rfl (by decide) (N := 64) rfl g1 dL_setsAmount_5 ?_
  refine xr_istore C [(0, .ref (ad 0)), (1, .ref (ad 40)), (2, .int (i32 a2)), (3, .int (i32 a3)), (4, .int (i32 (σ 40 ((7 * a2).toNat))))] dL_setsAmount_6 (by decide) rfl ?_
  refine xr_aload_n C 1 dL_setsAmount_8 rfl rfl ?_
  refine xr_bipush C dL_setsAmount_9 (by decide +kernel) ?_
  refine xr_iload_n C 2 dL_setsAmount_11 rfl rfl ?_
  refine xr_imul C dL_setsAmount_12 ?_
  refine xr_iload_n C 3 dL_setsAmount_13 rfl rfl ?_
  refine xr_iast C (t0 := 0) (r := 40) 9 rfl rfl (by decide) (N := 64) rfl g1 wXA_st40 (by decide) dL_setsAmount_14 ?_
  refine xr_sig (fun σ2 e3 => ?_)
  have hw := hw σ2 e3
  refine xr_aload_n C 1 dL_setsAmount_15 rfl rfl ?_
  refine xr_bipush C dL_setsAmount_16 (by decide +kernel) ?_
  refine xr_iload_n C 2 dL_setsAmount_18 rfl rfl ?_
  refine xr_imul C dL_setsAmount_19 ?_
  refine xr_iconst C dL_setsAmount_20 ?_
  refine xr_iadd C dL_setsAmount_21 ?_
  refine xr_iconst C dL_setsAmount_22 ?_
  obtain ⟨g4, hw⟩ := hw
  refine xr_iast C (t0 := 0) (r := 40) 9 rfl rfl (by decide) (N := 64) rfl g4 wXA_st40 (by decide) dL_setsAmount_23 ?_
  refine xr_sig (fun σ5 e6 => ?_)
  have hw := hw σ5 e6
  refine xr_aload_n C 1 dL_setsAmount_24 rfl rfl ?_
  refine xr_bipush C dL_setsAmount_25 (by decide +kernel) ?_
  refine xr_iload_n C 2 dL_setsAmount_27 rfl rfl ?_
  refine xr_imul C dL_setsAmount_28 ?_
  refine xr_iconst C dL_setsAmount_29 ?_
  refine xr_iadd C dL_setsAmount_30 ?_
  refine xr_iconst C dL_setsAmount_31 ?_
  obtain ⟨g7, hw⟩ := hw
  refine xr_iast C (t0 := 0) (r := 40) 9 rfl rfl (by decide) (N := 64) rfl g7 wXA_st40 (by decide) dL_setsAmount_32 ?_
  refine xr_sig (fun σ8 e9 => ?_)
  have hw := hw σ8 e9
  refine xr_aload_n C 1 dL_setsAmount_33 rfl rfl ?_
  refine xr_bipush C dL_setsAmount_34 (by decide +kernel) ?_
  refine xr_iload_n C 2 dL_setsAmount_36 rfl rfl ?_
  refine xr_imul C dL_setsAmount_37 ?_
  refine xr_iconst C dL_setsAmount_38 ?_
  refine xr_iadd C dL_setsAmount_39 ?_
  refine xr_iconst C dL_setsAmount_40 ?_
  obtain ⟨g10, hw⟩ := hw
  refine xr_iast C (t0 := 0) (r := 40) 9 rfl rfl (by decide) (N := 64) rfl g10 wXA_st40 (by decide) dL_setsAmount_41 ?_
  refine xr_sig (fun σ11 e12 => ?_)
  have hw := hw σ11 e12
  refine xr_aload_n C 0 dL_setsAmount_42 rfl rfl ?_
  refine xr_iload_n C 2 dL_setsAmount_43 rfl rfl ?_
  refine xr_iload_n C 3 dL_setsAmount_44 rfl rfl ?_
  refine xr_callVi C (ci := 3) (q0 := 0) (As := [.int (i32 a2), .int (i32 a3)]) (rest := []) (sp_wXA_wX pv ad cI cJ cZ) (by decide) (fun h => h) (mX4_setAmount σ11 a2 a3 _ hw) (cwV 2 C.2.2.2.2.1 gL_setsAmount_X4_setAmount rfl rfl rfl (by decide +kernel) ⟨by decide, by decide⟩) rfl rfl rfl rfl (Nat.le_of_ble_eq_true rfl) ⟨by decide, by decide⟩ dL_setsAmount_45 (fun r13 σ14 hw => ?_)
  refine xr_iload C 4 dL_setsAmount_48 rfl ?_
  obtain ⟨g15, hw⟩ := hw
  obtain ⟨g16, hw⟩ := hw
  refine xr_icmp_ne C g15 g16 69 dL_setsAmount_50 (by decide) (fun c17 => ?_) (fun c17 => ?_)
  · have hw := hw.1 c17
    refine xr_iconst C dL_setsAmount_69 ?_
    exact xr_zret C hr (Or.inl rfl) hw dL_setsAmount_70
  · have hw := hw.2 c17
    refine xr_aload_n C 0 dL_setsAmount_53 rfl rfl ?_
    refine xr_iload_n C 2 dL_setsAmount_54 rfl rfl ?_
    refine xr_bipush C dL_setsAmount_55 (by decide +kernel) ?_
    refine xr_callVi C (ci := 3) (q0 := 0) (As := [.int (i32 a2), .int (i32 13)]) (rest := []) (sp_wXA_wX pv ad cI cJ cZ) (by decide) (fun h => h) (mX4_setAmount σ14 a2 13 _ hw) (cwV 2 C.2.2.2.2.1 gL_setsAmount_X4_setAmount rfl rfl rfl (by decide +kernel) ⟨by decide, by decide⟩) rfl rfl rfl rfl (Nat.le_of_ble_eq_true rfl) ⟨by decide, by decide⟩ dL_setsAmount_57 (fun r18 σ19 hw => ?_)
    refine xr_bipush C dL_setsAmount_60 (by decide +kernel) ?_
    obtain ⟨g20, hw⟩ := hw
    refine xr_icmp_ne C g20 ⟨by decide, by decide⟩ 69 dL_setsAmount_62 (by decide) (fun c21 => ?_) (fun c21 => ?_)
    · have hw := hw.1 c21
      refine xr_iconst C dL_setsAmount_69 ?_
      exact xr_zret C hr (Or.inl rfl) hw dL_setsAmount_70
    · have hw := hw.2 c21
      refine xr_iconst C dL_setsAmount_65 ?_
      refine xr_goto C 70 dL_setsAmount_66 (by decide) ?_
      exact xr_zret C hr (Or.inr rfl) hw dL_setsAmount_70
abbrev rmL_setsKind : Room := { frames := 4, cells := 0, slots := 0, locals := 155 }
set_option maxHeartbeats 8000000 in
set_option maxRecDepth 100000 in
theorem mL_setsKind {l : Launch} {D : va_G} {pv : Value} {ad : Nat → Nat} {cI cJ cZ : ClassId} (σ : xS) (a2 a3 a4 : Int) (Q : Int → xS → Prop) (hw : vL_setsKind a2 a3 a4 σ Q) : xMi False l yL_setsKind wsL_setsKind rmL_setsKind D (xtys cI cJ cZ) (wXA pv ad cI cJ cZ) [0, 1, 2, 3, 4, 5, 6, 7, 8, 40] σ [.ref (ad 0), .ref (ad 40), .int (i32 a2), .int (i32 a3), .int (i32 a4)] Q := by
  refine xenter (F := [0, 1, 2, 3, 4, 5, 6, 7, 8, 40]) (Qc := fun sz => xQi D (wXA pv ad cI cJ cZ) [0, 1, 2, 3, 4, 5, 6, 7, 8, 40] σ sz Q) (own := RL) (cc := cL_setsKind) (maxL := 6) (ret := some .boolean) (by decide) rfl rfl (Nat.le_of_ble_eq_true rfl) ?_
  intro p e s m args below meth c hargs C hr hnm
  show xX p l e rmL_setsKind s m args below meth c D vwCl (va_A ((wXA pv ad cI cJ cZ) σ) s.heap.size) (wXA pv ad cI cJ cZ) [0, 1, 2, 3, 4, 5, 6, 7, 8, 40] σ 0 0 (MQ below (xQi D (wXA pv ad cI cJ cZ) [0, 1, 2, 3, 4, 5, 6, 7, 8, 40] σ s.heap.size Q) args s 0 0 (va_A ((wXA pv ad cI cJ cZ) σ) s.heap.size)) 6 σ 0 [(0, .ref (ad 0)), (1, .ref (ad 40)), (2, .int (i32 a2)), (3, .int (i32 a3)), (4, .int (i32 a4))] []
  unfold vL_setsKind at hw
  refine xr_aload_n C 1 dL_setsKind_0 rfl rfl ?_
  refine xr_bipush C dL_setsKind_1 (by decide +kernel) ?_
  refine xr_iload_n C 2 dL_setsKind_3 rfl rfl ?_
  refine xr_imul C dL_setsKind_4 ?_
  refine xr_iconst C dL_setsKind_5 ?_
  refine xr_iadd C dL_setsKind_6 ?_
  obtain ⟨g1, hw⟩ := hw
  refine xr_iald C (t0 := 0) 9 rfl rfl (by decide) (N := 64) rfl g1 dL_setsKind_7 ?_
  refine xr_topi (fun t2 e3 => ?_)
  have hw := hw t2 e3
  refine xr_istore C [(0, .ref (ad 0)), (1, .ref (ad 40)), (2, .int (i32 a2)), (3, .int (i32 a3)), (4, .int (i32 a4)), (5, .int (i32 t2))] dL_setsKind_8 (by decide) rfl ?_
  refine xr_aload_n C 1 dL_setsKind_10 rfl rfl ?_
  refine xr_bipush C dL_setsKind_11 (by decide +kernel) ?_
  refine xr_iload_n C 2 dL_setsKind_13 rfl rfl ?_
  refine xr_imul C dL_setsKind_14 ?_
  refine xr_iconst C dL_setsKind_15 ?_
  refine xr_iadd C dL_setsKind_16 ?_
  refine xr_iload_n C 3 dL_setsKind_17 rfl rfl ?_
  refine xr_iast C (t0 := 0) (r := 40) 9 rfl rfl (by decide) (N := 64) rfl g1 wXA_st40 (by decide) dL_setsKind_18 ?_
  refine xr_sig (fun σ4 e5 => ?_)
  have hw := hw σ4 e5
  refine xr_aload_n C 1 dL_setsKind_19 rfl rfl ?_
  refine xr_bipush C dL_setsKind_20 (by decide +kernel) ?_
  refine xr_iload_n C 2 dL_setsKind_22 rfl rfl ?_
  refine xr_imul C dL_setsKind_23 ?_
  refine xr_iconst C dL_setsKind_24 ?_
  refine xr_iadd C dL_setsKind_25 ?_
  refine xr_iload C 4 dL_setsKind_26 rfl ?_
  obtain ⟨g6, hw⟩ := hw
  refine xr_iast C (t0 := 0) (r := 40) 9 rfl rfl (by decide) (N := 64) rfl g6 wXA_st40 (by decide) dL_setsKind_28 ?_
  refine xr_sig (fun σ7 e8 => ?_)
  have hw := hw σ7 e8
  refine xr_aload_n C 1 dL_setsKind_29 rfl rfl ?_
  refine xr_bipush C dL_setsKind_30 (by decide +kernel) ?_
  refine xr_iload_n C 2 dL_setsKind_32 rfl rfl ?_
  refine xr_imul C dL_setsKind_33 ?_
  refine xr_iconst C dL_setsKind_34 ?_
  refine xr_iadd C dL_setsKind_35 ?_
  refine xr_iconst C dL_setsKind_36 ?_
  obtain ⟨g9, hw⟩ := hw
  refine xr_iast C (t0 := 0) (r := 40) 9 rfl rfl (by decide) (N := 64) rfl g9 wXA_st40 (by decide) dL_setsKind_37 ?_
  refine xr_sig (fun σ10 e11 => ?_)
  have hw := hw σ10 e11
  refine xr_aload_n C 1 dL_setsKind_38 rfl rfl ?_
  refine xr_bipush C dL_setsKind_39 (by decide +kernel) ?_
  refine xr_iload_n C 2 dL_setsKind_41 rfl rfl ?_
  refine xr_imul C dL_setsKind_42 ?_
  refine xr_iconst C dL_setsKind_43 ?_
  refine xr_iadd C dL_setsKind_44 ?_
  refine xr_iconst C dL_setsKind_45 ?_
  obtain ⟨g12, hw⟩ := hw
  refine xr_iast C (t0 := 0) (r := 40) 9 rfl rfl (by decide) (N := 64) rfl g12 wXA_st40 (by decide) dL_setsKind_46 ?_
  refine xr_sig (fun σ13 e14 => ?_)
  have hw := hw σ13 e14
  refine xr_aload_n C 0 dL_setsKind_47 rfl rfl ?_
  refine xr_iload_n C 2 dL_setsKind_48 rfl rfl ?_
  refine xr_iload_n C 3 dL_setsKind_49 rfl rfl ?_
  refine xr_iload C 4 dL_setsKind_50 rfl ?_
  refine xr_callVi C (ci := 3) (q0 := 0) (As := [.int (i32 a2), .int (i32 a3), .int (i32 a4)]) (rest := []) (sp_wXA_wX pv ad cI cJ cZ) (by decide) (fun h => h) (mX4_setKind σ13 a2 a3 a4 _ hw) (cwV 3 C.2.2.2.2.1 gL_setsKind_X4_setKind rfl rfl rfl (by decide +kernel) ⟨by decide, by decide⟩) rfl rfl rfl rfl (Nat.le_of_ble_eq_true rfl) ⟨by decide, by decide⟩ dL_setsKind_52 (fun r15 σ16 hw => ?_)
  refine xr_iload C 5 dL_setsKind_55 rfl ?_
  obtain ⟨g17, hw⟩ := hw
  obtain ⟨g18, hw⟩ := hw
  refine xr_icmp_ne C g17 g18 89 dL_setsKind_57 (by decide) (fun c19 => ?_) (fun c19 => ?_)
  · have hw := hw.1 c19
    refine xr_iconst C dL_setsKind_89 ?_
    exact xr_zret C hr (Or.inl rfl) hw dL_setsKind_90
  · have hw := hw.2 c19
    refine xr_aload_n C 0 dL_setsKind_60 rfl rfl ?_
    refine xr_iload_n C 2 dL_setsKind_61 rfl rfl ?_
    refine xr_iconst C dL_setsKind_62 ?_
    refine xr_iconst C dL_setsKind_63 ?_
    refine xr_callVi C (ci := 3) (q0 := 0) (As := [.int (i32 a2), .int (i32 3), .int (i32 1)]) (rest := []) (sp_wXA_wX pv ad cI cJ cZ) (by decide) (fun h => h) (mX4_setKind σ16 a2 3 1 _ hw) (cwV 3 C.2.2.2.2.1 gL_setsKind_X4_setKind rfl rfl rfl (by decide +kernel) ⟨by decide, by decide⟩) rfl rfl rfl rfl (Nat.le_of_ble_eq_true rfl) ⟨by decide, by decide⟩ dL_setsKind_64 (fun r20 σ21 hw => ?_)
    refine xr_bipush C dL_setsKind_67 (by decide +kernel) ?_
    obtain ⟨g22, hw⟩ := hw
    refine xr_icmp_ne C g22 ⟨by decide, by decide⟩ 89 dL_setsKind_69 (by decide) (fun c23 => ?_) (fun c23 => ?_)
    · have hw := hw.1 c23
      refine xr_iconst C dL_setsKind_89 ?_
      exact xr_zret C hr (Or.inl rfl) hw dL_setsKind_90
    · have hw := hw.2 c23
      refine xr_aload_n C 0 dL_setsKind_72 rfl rfl ?_
      refine xr_iload_n C 2 dL_setsKind_73 rfl rfl ?_
      refine xr_iconst C dL_setsKind_74 ?_
      refine xr_bipush C dL_setsKind_75 (by decide +kernel) ?_
      refine xr_callVi C (ci := 3) (q0 := 0) (As := [.int (i32 a2), .int (i32 0), .int (i32 10)]) (rest := []) (sp_wXA_wX pv ad cI cJ cZ) (by decide) (fun h => h) (mX4_setKind σ21 a2 0 10 _ hw) (cwV 3 C.2.2.2.2.1 gL_setsKind_X4_setKind rfl rfl rfl (by decide +kernel) ⟨by decide, by decide⟩) rfl rfl rfl rfl (Nat.le_of_ble_eq_true rfl) ⟨by decide, by decide⟩ dL_setsKind_77 (fun r24 σ25 hw => ?_)
      refine xr_bipush C dL_setsKind_80 (by decide +kernel) ?_
      obtain ⟨g26, hw⟩ := hw
      refine xr_icmp_ne C g26 ⟨by decide, by decide⟩ 89 dL_setsKind_82 (by decide) (fun c27 => ?_) (fun c27 => ?_)
      · have hw := hw.1 c27
        refine xr_iconst C dL_setsKind_89 ?_
        exact xr_zret C hr (Or.inl rfl) hw dL_setsKind_90
      · have hw := hw.2 c27
        refine xr_iconst C dL_setsKind_85 ?_
        refine xr_goto C 90 dL_setsKind_86 (by decide) ?_
        exact xr_zret C hr (Or.inr rfl) hw dL_setsKind_90
abbrev rmL_setsGlasses : Room := { frames := 5, cells := 0, slots := 0, locals := 176 }
set_option maxHeartbeats 8000000 in
set_option maxRecDepth 100000 in
theorem mL_setsGlasses {l : Launch} {D : va_G} {pv : Value} {ad : Nat → Nat} {cI cJ cZ : ClassId} (σ : xS) (a2 : Int) (Q : Int → xS → Prop) (hw : vL_setsGlasses a2 σ Q) : xMi False l yL_setsGlasses wsL_setsGlasses rmL_setsGlasses D (xtys cI cJ cZ) (wXA pv ad cI cJ cZ) [0, 1, 2, 3, 4, 5, 6, 7, 8, 40] σ [.ref (ad 0), .ref (ad 40), .int (i32 a2)] Q := by
  refine xenter (F := [0, 1, 2, 3, 4, 5, 6, 7, 8, 40]) (Qc := fun sz => xQi D (wXA pv ad cI cJ cZ) [0, 1, 2, 3, 4, 5, 6, 7, 8, 40] σ sz Q) (own := RL) (cc := cL_setsGlasses) (maxL := 7) (ret := some .boolean) (by decide) rfl rfl (Nat.le_of_ble_eq_true rfl) ?_
  intro p e s m args below meth c hargs C hr hnm
  have B85 : ∀ (K8 : Int × Int × Int × xS → Prop) (K36 : Int × Int × Int × Int × Int × xS → Prop) (hK8 : ∀ a, K8 a → xX p l e rmL_setsGlasses s m args below meth c D vwCl (va_A ((wXA pv ad cI cJ cZ) σ) s.heap.size) (wXA pv ad cI cJ cZ) [0, 1, 2, 3, 4, 5, 6, 7, 8, 40] σ 0 0 (MQ below (xQi D (wXA pv ad cI cJ cZ) [0, 1, 2, 3, 4, 5, 6, 7, 8, 40] σ s.heap.size Q) args s 0 0 (va_A ((wXA pv ad cI cJ cZ) σ) s.heap.size)) 7 (a.2.2.2) 8 [(0, .ref (ad 0)), (1, .ref (ad 40)), (2, .int (i32 (a.1))), (3, .int (i32 (a.2.1))), (4, .int (i32 (a.2.2.1)))] []) (hK36 : ∀ a, K36 a → xX p l e rmL_setsGlasses s m args below meth c D vwCl (va_A ((wXA pv ad cI cJ cZ) σ) s.heap.size) (wXA pv ad cI cJ cZ) [0, 1, 2, 3, 4, 5, 6, 7, 8, 40] σ 0 0 (MQ below (xQi D (wXA pv ad cI cJ cZ) [0, 1, 2, 3, 4, 5, 6, 7, 8, 40] σ s.heap.size Q) args s 0 0 (va_A ((wXA pv ad cI cJ cZ) σ) s.heap.size)) 7 (a.2.2.2.2.2) 36 [(0, .ref (ad 0)), (1, .ref (ad 40)), (2, .int (i32 (a.1))), (3, .int (i32 (a.2.1))), (4, .int (i32 (a.2.2.1))), (5, .int (i32 (a.2.2.2.1))), (6, .int (i32 (a.2.2.2.2.1)))] []) (x2 x3 x4 x5 x6 y1 y2 : Int) (σ0 : xS), vL_setsGlasses_85 K8 K36 Q x2 x3 x4 x5 x6 y1 y2 σ0 → xX p l e rmL_setsGlasses s m args below meth c D vwCl (va_A ((wXA pv ad cI cJ cZ) σ) s.heap.size) (wXA pv ad cI cJ cZ) [0, 1, 2, 3, 4, 5, 6, 7, 8, 40] σ 0 0 (MQ below (xQi D (wXA pv ad cI cJ cZ) [0, 1, 2, 3, 4, 5, 6, 7, 8, 40] σ s.heap.size Q) args s 0 0 (va_A ((wXA pv ad cI cJ cZ) σ) s.heap.size)) 7 σ0 85 [(0, .ref (ad 0)), (1, .ref (ad 40)), (2, .int (i32 x2)), (3, .int (i32 x3)), (4, .int (i32 x4)), (5, .int (i32 x5)), (6, .int (i32 x6))] [.int (i32 y2), .int (i32 y1), .ref (ad 40)] := by
    intro K8 K36 hK8 hK36 x2 x3 x4 x5 x6 y1 y2 σ0 hw
    unfold vL_setsGlasses_85 at hw
    obtain ⟨g1, hw⟩ := hw
    refine xr_iast C (t0 := 0) (r := 40) 9 rfl rfl (by decide) (N := 64) rfl g1 wXA_st40 (by decide) dL_setsGlasses_85 ?_
    refine xr_sig (fun σ2 e3 => ?_)
    have hw := hw σ2 e3
    refine xr_iinc C 6 [(0, .ref (ad 0)), (1, .ref (ad 40)), (2, .int (i32 x2)), (3, .int (i32 x3)), (4, .int (i32 x4)), (5, .int (i32 x5)), (6, .int (i32 (x6 + 1)))] dL_setsGlasses_86 rfl (by decide) rfl ?_
    refine xr_goto C 36 dL_setsGlasses_89 (by decide) ?_
    exact hK36 (x2, x3, x4, x5, (x6 + 1), σ2) hw
  have L36 : ∀ (K8 : Int × Int × Int × xS → Prop) (hK8 : ∀ a, K8 a → xX p l e rmL_setsGlasses s m args below meth c D vwCl (va_A ((wXA pv ad cI cJ cZ) σ) s.heap.size) (wXA pv ad cI cJ cZ) [0, 1, 2, 3, 4, 5, 6, 7, 8, 40] σ 0 0 (MQ below (xQi D (wXA pv ad cI cJ cZ) [0, 1, 2, 3, 4, 5, 6, 7, 8, 40] σ s.heap.size Q) args s 0 0 (va_A ((wXA pv ad cI cJ cZ) σ) s.heap.size)) 7 (a.2.2.2) 8 [(0, .ref (ad 0)), (1, .ref (ad 40)), (2, .int (i32 (a.1))), (3, .int (i32 (a.2.1))), (4, .int (i32 (a.2.2.1)))] []), ∀ a, mu (vL_setsGlasses_36 K8 Q) a → xX p l e rmL_setsGlasses s m args below meth c D vwCl (va_A ((wXA pv ad cI cJ cZ) σ) s.heap.size) (wXA pv ad cI cJ cZ) [0, 1, 2, 3, 4, 5, 6, 7, 8, 40] σ 0 0 (MQ below (xQi D (wXA pv ad cI cJ cZ) [0, 1, 2, 3, 4, 5, 6, 7, 8, 40] σ s.heap.size Q) args s 0 0 (va_A ((wXA pv ad cI cJ cZ) σ) s.heap.size)) 7 (a.2.2.2.2.2) 36 [(0, .ref (ad 0)), (1, .ref (ad 40)), (2, .int (i32 (a.1))), (3, .int (i32 (a.2.1))), (4, .int (i32 (a.2.2.1))), (5, .int (i32 (a.2.2.2.1))), (6, .int (i32 (a.2.2.2.2.1)))] [] := by
    intro K8 hK8
    refine mu_ind (fun K36 hK36 a hw => ?_)
    obtain ⟨x2, x3, x4, x5, x6, σ0⟩ := a
    show xX p l e rmL_setsGlasses s m args below meth c D vwCl (va_A ((wXA pv ad cI cJ cZ) σ) s.heap.size) (wXA pv ad cI cJ cZ) [0, 1, 2, 3, 4, 5, 6, 7, 8, 40] σ 0 0 (MQ below (xQi D (wXA pv ad cI cJ cZ) [0, 1, 2, 3, 4, 5, 6, 7, 8, 40] σ s.heap.size Q) args s 0 0 (va_A ((wXA pv ad cI cJ cZ) σ) s.heap.size)) 7 σ0 36 [(0, .ref (ad 0)), (1, .ref (ad 40)), (2, .int (i32 x2)), (3, .int (i32 x3)), (4, .int (i32 x4)), (5, .int (i32 x5)), (6, .int (i32 x6))] []
    unfold vL_setsGlasses_36 at hw
    refine xr_iload C 6 dL_setsGlasses_36 rfl ?_
    refine xr_bipush C dL_setsGlasses_38 (by decide +kernel) ?_
    obtain ⟨g4, hw⟩ := hw
    refine xr_icmp_ge C g4 ⟨by decide, by decide⟩ 92 dL_setsGlasses_40 (by decide) (fun c5 => ?_) (fun c5 => ?_)
    · have hw := hw.1 c5
      refine xr_iinc C 4 [(0, .ref (ad 0)), (1, .ref (ad 40)), (2, .int (i32 x2)), (3, .int (i32 x3)), (4, .int (i32 (x4 + 1))), (5, .int (i32 x5)), (6, .int (i32 x6))] dL_setsGlasses_92 rfl (by decide) rfl ?_
      refine xr_goto C 8 dL_setsGlasses_95 (by decide) ?_
      refine xr_sub C [0, 1, 2, 3, 4] [(0, .ref (ad 0)), (1, .ref (ad 40)), (2, .int (i32 x2)), (3, .int (i32 x3)), (4, .int (i32 (x4 + 1)))] rfl ?_
      exact hK8 (x2, x3, (x4 + 1), σ0) hw
    · have hw := hw.2 c5
      refine xr_aload_n C 1 dL_setsGlasses_43 rfl rfl ?_
      refine xr_bipush C dL_setsGlasses_44 (by decide +kernel) ?_
      refine xr_iload C 4 dL_setsGlasses_46 rfl ?_
      refine xr_imul C dL_setsGlasses_48 ?_
      refine xr_iload C 6 dL_setsGlasses_49 rfl ?_
      refine xr_iadd C dL_setsGlasses_51 ?_
      refine xr_iload C 6 dL_setsGlasses_52 rfl ?_
      refine xr_if_ne C g4 62 dL_setsGlasses_54 (by decide) (fun c6 => ?_) (fun c6 => ?_)
      · have hw := hw.1 c6
        refine xr_iload C 6 dL_setsGlasses_62 rfl ?_
        refine xr_iconst C dL_setsGlasses_64 ?_
        refine xr_icmp_ne C g4 ⟨by decide, by decide⟩ 72 dL_setsGlasses_65 (by decide) (fun c7 => ?_) (fun c7 => ?_)
        · have hw := hw.1 c7
          refine xr_iload C 6 dL_setsGlasses_72 rfl ?_
          refine xr_bipush C dL_setsGlasses_74 (by decide +kernel) ?_
          refine xr_icmp_ne C g4 ⟨by decide, by decide⟩ 84 dL_setsGlasses_76 (by decide) (fun c8 => ?_) (fun c8 => ?_)
          · have hw := hw.1 c8
            refine xr_iconst C dL_setsGlasses_84 ?_
            exact B85 K8 K36 hK8 hK36 x2 x3 x4 x5 x6 ((7 * x4) + x6) 0 σ0 hw
          · have hw := hw.2 c8
            refine xr_iload C 4 dL_setsGlasses_79 rfl ?_
            refine xr_goto C 85 dL_setsGlasses_81 (by decide) ?_
            exact B85 K8 K36 hK8 hK36 x2 x3 x4 x5 x6 ((7 * x4) + x6) x4 σ0 hw
        · have hw := hw.2 c7
          refine xr_iconst C dL_setsGlasses_68 ?_
          refine xr_goto C 85 dL_setsGlasses_69 (by decide) ?_
          exact B85 K8 K36 hK8 hK36 x2 x3 x4 x5 x6 ((7 * x4) + x6) 3 σ0 hw
      · have hw := hw.2 c6
        refine xr_iload C 5 dL_setsGlasses_57 rfl ?_
        refine xr_goto C 85 dL_setsGlasses_59 (by decide) ?_
        exact B85 K8 K36 hK8 hK36 x2 x3 x4 x5 x6 ((7 * x4) + x6) x5 σ0 hw
  have L8 : ∀ a, mu (vL_setsGlasses_8  Q) a → xX p l e rmL_setsGlasses s m args below meth c D vwCl (va_A ((wXA pv ad cI cJ cZ) σ) s.heap.size) (wXA pv ad cI cJ cZ) [0, 1, 2, 3, 4, 5, 6, 7, 8, 40] σ 0 0 (MQ below (xQi D (wXA pv ad cI cJ cZ) [0, 1, 2, 3, 4, 5, 6, 7, 8, 40] σ s.heap.size Q) args s 0 0 (va_A ((wXA pv ad cI cJ cZ) σ) s.heap.size)) 7 (a.2.2.2) 8 [(0, .ref (ad 0)), (1, .ref (ad 40)), (2, .int (i32 (a.1))), (3, .int (i32 (a.2.1))), (4, .int (i32 (a.2.2.1)))] [] := by
    refine mu_ind (fun K8 hK8 a hw => ?_)
    obtain ⟨x2, x3, x4, σ0⟩ := a
    show xX p l e rmL_setsGlasses s m args below meth c D vwCl (va_A ((wXA pv ad cI cJ cZ) σ) s.heap.size) (wXA pv ad cI cJ cZ) [0, 1, 2, 3, 4, 5, 6, 7, 8, 40] σ 0 0 (MQ below (xQi D (wXA pv ad cI cJ cZ) [0, 1, 2, 3, 4, 5, 6, 7, 8, 40] σ s.heap.size Q) args s 0 0 (va_A ((wXA pv ad cI cJ cZ) σ) s.heap.size)) 7 σ0 8 [(0, .ref (ad 0)), (1, .ref (ad 40)), (2, .int (i32 x2)), (3, .int (i32 x3)), (4, .int (i32 x4))] []
    unfold vL_setsGlasses_8 at hw
    refine xr_iload C 4 dL_setsGlasses_8 rfl ?_
    refine xr_iconst C dL_setsGlasses_10 ?_
    obtain ⟨g9, hw⟩ := hw
    refine xr_icmp_ge C g9 ⟨by decide, by decide⟩ 98 dL_setsGlasses_11 (by decide) (fun c10 => ?_) (fun c10 => ?_)
    · have hw := hw.1 c10
      refine xr_aload_n C 1 dL_setsGlasses_98 rfl rfl ?_
      refine xr_bipush C dL_setsGlasses_99 (by decide +kernel) ?_
      refine xr_iload_n C 2 dL_setsGlasses_101 rfl rfl ?_
      refine xr_iast C (t0 := 0) (r := 40) 9 rfl rfl (by decide) (N := 64) rfl ⟨by decide, by decide⟩ wXA_st40 (by decide) dL_setsGlasses_102 ?_
      refine xr_sig (fun σ11 e12 => ?_)
      have hw := hw σ11 e12
      refine xr_aload_n C 0 dL_setsGlasses_103 rfl rfl ?_
      refine xr_iload_n C 2 dL_setsGlasses_104 rfl rfl ?_
      refine xr_callVi C (ci := 3) (q0 := 0) (As := [.int (i32 x2)]) (rest := []) (sp_wXA_wX pv ad cI cJ cZ) (by decide) (fun h => h) (mX4_setGlasses σ11 x2 _ hw) (cwV 1 C.2.2.2.2.1 gL_setsGlasses_X4_setGlasses rfl rfl rfl (by decide +kernel) ⟨by decide, by decide⟩) rfl rfl rfl rfl (Nat.le_of_ble_eq_true rfl) ⟨by decide, by decide⟩ dL_setsGlasses_105 (fun r13 σ14 hw => ?_)
      refine xr_iload_n C 3 dL_setsGlasses_108 rfl rfl ?_
      obtain ⟨g15, hw⟩ := hw
      obtain ⟨g16, hw⟩ := hw
      refine xr_icmp_ne C g15 g16 126 dL_setsGlasses_109 (by decide) (fun c17 => ?_) (fun c17 => ?_)
      · have hw := hw.1 c17
        refine xr_iconst C dL_setsGlasses_126 ?_
        exact xr_zret C hr (Or.inl rfl) hw dL_setsGlasses_127
      · have hw := hw.2 c17
        refine xr_aload_n C 0 dL_setsGlasses_112 rfl rfl ?_
        refine xr_iconst C dL_setsGlasses_113 ?_
        refine xr_callVi C (ci := 3) (q0 := 0) (As := [.int (i32 4)]) (rest := []) (sp_wXA_wX pv ad cI cJ cZ) (by decide) (fun h => h) (mX4_setGlasses σ14 4 _ hw) (cwV 1 C.2.2.2.2.1 gL_setsGlasses_X4_setGlasses rfl rfl rfl (by decide +kernel) ⟨by decide, by decide⟩) rfl rfl rfl rfl (Nat.le_of_ble_eq_true rfl) ⟨by decide, by decide⟩ dL_setsGlasses_114 (fun r18 σ19 hw => ?_)
        refine xr_bipush C dL_setsGlasses_117 (by decide +kernel) ?_
        obtain ⟨g20, hw⟩ := hw
        refine xr_icmp_ne C g20 ⟨by decide, by decide⟩ 126 dL_setsGlasses_119 (by decide) (fun c21 => ?_) (fun c21 => ?_)
        · have hw := hw.1 c21
          refine xr_iconst C dL_setsGlasses_126 ?_
          exact xr_zret C hr (Or.inl rfl) hw dL_setsGlasses_127
        · have hw := hw.2 c21
          refine xr_iconst C dL_setsGlasses_122 ?_
          refine xr_goto C 127 dL_setsGlasses_123 (by decide) ?_
          exact xr_zret C hr (Or.inr rfl) hw dL_setsGlasses_127
    · have hw := hw.2 c10
      refine xr_iload C 4 dL_setsGlasses_14 rfl ?_
      refine xr_iload_n C 3 dL_setsGlasses_16 rfl rfl ?_
      obtain ⟨g22, hw⟩ := hw
      refine xr_icmp_ge C g9 g22 30 dL_setsGlasses_17 (by decide) (fun c23 => ?_) (fun c23 => ?_)
      · have hw := hw.1 c23
        refine xr_iconst C dL_setsGlasses_30 ?_
        refine xr_istore C [(0, .ref (ad 0)), (1, .ref (ad 40)), (2, .int (i32 x2)), (3, .int (i32 x3)), (4, .int (i32 x4)), (5, .int (i32 5))] dL_setsGlasses_31 (by decide) rfl ?_
        refine xr_iconst C dL_setsGlasses_33 ?_
        refine xr_istore C [(0, .ref (ad 0)), (1, .ref (ad 40)), (2, .int (i32 x2)), (3, .int (i32 x3)), (4, .int (i32 x4)), (5, .int (i32 5)), (6, .int (i32 0))] dL_setsGlasses_34 (by decide) rfl ?_
        exact L36 K8 hK8 (x2, x3, x4, 5, 0, σ0) hw
      · have hw := hw.2 c23
        refine xr_aload_n C 1 dL_setsGlasses_20 rfl rfl ?_
        refine xr_bipush C dL_setsGlasses_21 (by decide +kernel) ?_
        refine xr_iload C 4 dL_setsGlasses_23 rfl ?_
        refine xr_imul C dL_setsGlasses_25 ?_
        obtain ⟨g24, hw⟩ := hw
        refine xr_iald C (t0 := 0) 9 rfl rfl (by decide) (N := 64) rfl g24 dL_setsGlasses_26 ?_
        refine xr_goto C 31 dL_setsGlasses_27 (by decide) ?_
        refine xr_istore C [(0, .ref (ad 0)), (1, .ref (ad 40)), (2, .int (i32 x2)), (3, .int (i32 x3)), (4, .int (i32 x4)), (5, .int (i32 (σ0 40 ((7 * x4).toNat))))] dL_setsGlasses_31 (by decide) rfl ?_
        refine xr_iconst C dL_setsGlasses_33 ?_
        refine xr_istore C [(0, .ref (ad 0)), (1, .ref (ad 40)), (2, .int (i32 x2)), (3, .int (i32 x3)), (4, .int (i32 x4)), (5, .int (i32 (σ0 40 ((7 * x4).toNat)))), (6, .int (i32 0))] dL_setsGlasses_34 (by decide) rfl ?_
        exact L36 K8 hK8 (x2, x3, x4, (σ0 40 ((7 * x4).toNat)), 0, σ0) hw
  show xX p l e rmL_setsGlasses s m args below meth c D vwCl (va_A ((wXA pv ad cI cJ cZ) σ) s.heap.size) (wXA pv ad cI cJ cZ) [0, 1, 2, 3, 4, 5, 6, 7, 8, 40] σ 0 0 (MQ below (xQi D (wXA pv ad cI cJ cZ) [0, 1, 2, 3, 4, 5, 6, 7, 8, 40] σ s.heap.size Q) args s 0 0 (va_A ((wXA pv ad cI cJ cZ) σ) s.heap.size)) 7 σ 0 [(0, .ref (ad 0)), (1, .ref (ad 40)), (2, .int (i32 a2))] []
  unfold vL_setsGlasses at hw
  refine xr_aload_n C 1 dL_setsGlasses_0 rfl rfl ?_
  refine xr_bipush C dL_setsGlasses_1 (by decide +kernel) ?_
  refine xr_iald C (t0 := 0) 9 rfl rfl (by decide) (N := 64) rfl ⟨by decide, by decide⟩ dL_setsGlasses_3 ?_
  refine xr_istore_n C [(0, .ref (ad 0)), (1, .ref (ad 40)), (2, .int (i32 a2)), (3, .int (i32 (σ 40 21)))] dL_setsGlasses_4 rfl (by decide) rfl ?_
  refine xr_iconst C dL_setsGlasses_5 ?_
  refine xr_istore C [(0, .ref (ad 0)), (1, .ref (ad 40)), (2, .int (i32 a2)), (3, .int (i32 (σ 40 21))), (4, .int (i32 0))] dL_setsGlasses_6 (by decide) rfl ?_
  exact L8 (a2, (σ 40 21), 0, σ) hw
