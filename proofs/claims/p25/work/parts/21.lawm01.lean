abbrev rmL_low : Room := { frames := 0, cells := 0, slots := 0, locals := 64 }
set_option maxHeartbeats 8000000 in
set_option maxRecDepth 100000 in
theorem mL_low {l : Launch} {D : va_G} {cI cJ cZ : ClassId} (σ : xS) (a0 a1 : Int) (Q : Int → xS → Prop) (hw : vL_low a0 a1 σ Q) : xMi False l yL_low wsL_low rmL_low D (xtys cI cJ cZ) wN [] σ [.int (i32 a0), .int (i32 a1)] Q := by
  refine xenter (F := []) (Qc := fun sz => xQi D wN [] σ sz Q) (own := RL) (cc := cL_low) (maxL := 2) (ret := some .int) (by decide) rfl rfl (Nat.le_of_ble_eq_true rfl) ?_
  intro p e s m args below meth c hargs C hr hnm
  have m0 : (Cond.constant RL 8 2147483647) ∈ wsL_low := by decide +kernel
  show xX p l e rmL_low s m args below meth c D vwCl (va_A (wN σ) s.heap.size) wN [] σ 0 0 (MQ below (xQi D wN [] σ s.heap.size Q) args s 0 0 (va_A (wN σ) s.heap.size)) 2 σ 0 [(0, .int (i32 a0)), (1, .int (i32 a1))] []
  unfold vL_low at hw
  refine xr_iload_n C 0 dL_low_0 rfl rfl ?_
  refine xr_ldc C 2147483647 m0 (by decide +kernel) dL_low_1 ?_
  refine xr_iand C dL_low_3 ?_
  refine xr_iload_n C 1 dL_low_4 rfl rfl ?_
  obtain ⟨g1, hw⟩ := hw
  refine xr_irem C g1 dL_low_5 ?_
  exact xr_iret C hr hw dL_low_6
abbrev rmL_begins : Room := { frames := 0, cells := 0, slots := 0, locals := 64 }
set_option maxHeartbeats 8000000 in
set_option maxRecDepth 100000 in
theorem mL_begins {l : Launch} {D : va_G} {ad : Nat → Nat} {cI cJ cZ : ClassId} (σ : xS) (Q : xS → Prop) (hw : vL_begins σ Q) : xMv False l yL_begins wsL_begins rmL_begins D (xtys cI cJ cZ) (wA ad cI cJ cZ) [40] σ [.ref (ad 40)] Q := by
  refine xenter (F := [40]) (Qc := fun sz => xQv D (wA ad cI cJ cZ) [40] σ sz Q) (own := RL) (cc := cL_begins) (maxL := 2) (ret := none) (by decide) rfl rfl (Nat.le_of_ble_eq_true rfl) ?_
  intro p e s m args below meth c hargs C hr hnm
  have L65 : ∀ a, mu (vL_begins_65  Q) a → xX p l e rmL_begins s m args below meth c D vwCl (va_A ((wA ad cI cJ cZ) σ) s.heap.size) (wA ad cI cJ cZ) [40] σ 0 0 (MQ below (xQv D (wA ad cI cJ cZ) [40] σ s.heap.size Q) args s 0 0 (va_A ((wA ad cI cJ cZ) σ) s.heap.size)) 2 (a.2) 65 [(0, .ref (ad 40)), (1, .int (i32 (a.1)))] [] := by
    refine mu_ind (fun K65 hK65 a hw => ?_)
    obtain ⟨x1, σ0⟩ := a
    show xX p l e rmL_begins s m args below meth c D vwCl (va_A ((wA ad cI cJ cZ) σ) s.heap.size) (wA ad cI cJ cZ) [40] σ 0 0 (MQ below (xQv D (wA ad cI cJ cZ) [40] σ s.heap.size Q) args s 0 0 (va_A ((wA ad cI cJ cZ) σ) s.heap.size)) 2 σ0 65 [(0, .ref (ad 40)), (1, .int (i32 x1))] []
    unfold vL_begins_65 at hw
    refine xr_iload_n C 1 dL_begins_65 rfl rfl ?_
    refine xr_bipush C dL_begins_66 (by decide +kernel) ?_
    obtain ⟨g1, hw⟩ := hw
    refine xr_icmp_ge C g1 ⟨by decide, by decide⟩ 81 dL_begins_68 (by decide) (fun c2 => ?_) (fun c2 => ?_)
    · have hw := hw.1 c2
      exact xr_vret C hr hw dL_begins_81
    · have hw := hw.2 c2
      refine xr_aload_n C 0 dL_begins_71 rfl rfl ?_
      refine xr_iload_n C 1 dL_begins_72 rfl rfl ?_
      refine xr_iconst C dL_begins_73 ?_
      obtain ⟨g3, hw⟩ := hw
      refine xr_iast C (t0 := 0) (r := 40) 0 rfl rfl (by decide) (N := 64) rfl g3 wA_st40 (by decide) dL_begins_74 ?_
      refine xr_sig (fun σ4 e5 => ?_)
      have hw := hw σ4 e5
      refine xr_iinc C 1 [(0, .ref (ad 40)), (1, .int (i32 (x1 + 1)))] dL_begins_75 rfl (by decide) rfl ?_
      refine xr_goto C 65 dL_begins_78 (by decide) ?_
      exact hK65 ((x1 + 1), σ4) hw
  have B36 : ∀ (K7 : Int × xS → Prop) (hK7 : ∀ a, K7 a → xX p l e rmL_begins s m args below meth c D vwCl (va_A ((wA ad cI cJ cZ) σ) s.heap.size) (wA ad cI cJ cZ) [40] σ 0 0 (MQ below (xQv D (wA ad cI cJ cZ) [40] σ s.heap.size Q) args s 0 0 (va_A ((wA ad cI cJ cZ) σ) s.heap.size)) 2 (a.2) 7 [(0, .ref (ad 40)), (1, .int (i32 (a.1)))] []) (x1 y1 y2 : Int) (σ0 : xS), vL_begins_36 K7 Q x1 y1 y2 σ0 → xX p l e rmL_begins s m args below meth c D vwCl (va_A ((wA ad cI cJ cZ) σ) s.heap.size) (wA ad cI cJ cZ) [40] σ 0 0 (MQ below (xQv D (wA ad cI cJ cZ) [40] σ s.heap.size Q) args s 0 0 (va_A ((wA ad cI cJ cZ) σ) s.heap.size)) 2 σ0 36 [(0, .ref (ad 40)), (1, .int (i32 x1))] [.int (i32 y2), .int (i32 y1), .ref (ad 40)] := by
    intro K7 hK7 x1 y1 y2 σ0 hw
    unfold vL_begins_36 at hw
    obtain ⟨g6, hw⟩ := hw
    refine xr_iast C (t0 := 0) (r := 40) 0 rfl rfl (by decide) (N := 64) rfl g6 wA_st40 (by decide) dL_begins_36 ?_
    refine xr_sig (fun σ7 e8 => ?_)
    have hw := hw σ7 e8
    refine xr_aload_n C 0 dL_begins_37 rfl rfl ?_
    refine xr_bipush C dL_begins_38 (by decide +kernel) ?_
    refine xr_iload_n C 1 dL_begins_40 rfl rfl ?_
    refine xr_imul C dL_begins_41 ?_
    refine xr_iconst C dL_begins_42 ?_
    refine xr_iadd C dL_begins_43 ?_
    refine xr_iconst C dL_begins_44 ?_
    obtain ⟨g9, hw⟩ := hw
    refine xr_iast C (t0 := 0) (r := 40) 0 rfl rfl (by decide) (N := 64) rfl g9 wA_st40 (by decide) dL_begins_45 ?_
    refine xr_sig (fun σ10 e11 => ?_)
    have hw := hw σ10 e11
    refine xr_aload_n C 0 dL_begins_46 rfl rfl ?_
    refine xr_bipush C dL_begins_47 (by decide +kernel) ?_
    refine xr_iload_n C 1 dL_begins_49 rfl rfl ?_
    refine xr_imul C dL_begins_50 ?_
    refine xr_bipush C dL_begins_51 (by decide +kernel) ?_
    refine xr_iadd C dL_begins_53 ?_
    refine xr_iload_n C 1 dL_begins_54 rfl rfl ?_
    obtain ⟨g12, hw⟩ := hw
    refine xr_iast C (t0 := 0) (r := 40) 0 rfl rfl (by decide) (N := 64) rfl g12 wA_st40 (by decide) dL_begins_55 ?_
    refine xr_sig (fun σ13 e14 => ?_)
    have hw := hw σ13 e14
    refine xr_iinc C 1 [(0, .ref (ad 40)), (1, .int (i32 (x1 + 1)))] dL_begins_56 rfl (by decide) rfl ?_
    refine xr_goto C 7 dL_begins_59 (by decide) ?_
    exact hK7 ((x1 + 1), σ13) hw
  have L7 : ∀ a, mu (vL_begins_7  Q) a → xX p l e rmL_begins s m args below meth c D vwCl (va_A ((wA ad cI cJ cZ) σ) s.heap.size) (wA ad cI cJ cZ) [40] σ 0 0 (MQ below (xQv D (wA ad cI cJ cZ) [40] σ s.heap.size Q) args s 0 0 (va_A ((wA ad cI cJ cZ) σ) s.heap.size)) 2 (a.2) 7 [(0, .ref (ad 40)), (1, .int (i32 (a.1)))] [] := by
    refine mu_ind (fun K7 hK7 a hw => ?_)
    obtain ⟨x1, σ0⟩ := a
    show xX p l e rmL_begins s m args below meth c D vwCl (va_A ((wA ad cI cJ cZ) σ) s.heap.size) (wA ad cI cJ cZ) [40] σ 0 0 (MQ below (xQv D (wA ad cI cJ cZ) [40] σ s.heap.size Q) args s 0 0 (va_A ((wA ad cI cJ cZ) σ) s.heap.size)) 2 σ0 7 [(0, .ref (ad 40)), (1, .int (i32 x1))] []
    unfold vL_begins_7 at hw
    refine xr_iload_n C 1 dL_begins_7 rfl rfl ?_
    refine xr_iconst C dL_begins_8 ?_
    obtain ⟨g15, hw⟩ := hw
    refine xr_icmp_ge C g15 ⟨by decide, by decide⟩ 62 dL_begins_9 (by decide) (fun c16 => ?_) (fun c16 => ?_)
    · have hw := hw.1 c16
      refine xr_bipush C dL_begins_62 (by decide +kernel) ?_
      refine xr_istore_n C [(0, .ref (ad 40)), (1, .int (i32 30))] dL_begins_64 rfl (by decide) rfl ?_
      exact L65 (30, σ0) hw
    · have hw := hw.2 c16
      refine xr_aload_n C 0 dL_begins_12 rfl rfl ?_
      refine xr_bipush C dL_begins_13 (by decide +kernel) ?_
      refine xr_iload_n C 1 dL_begins_15 rfl rfl ?_
      refine xr_imul C dL_begins_16 ?_
      refine xr_iload_n C 1 dL_begins_17 rfl rfl ?_
      refine xr_if_ne C g15 25 dL_begins_18 (by decide) (fun c17 => ?_) (fun c17 => ?_)
      · have hw := hw.1 c17
        refine xr_iload_n C 1 dL_begins_25 rfl rfl ?_
        refine xr_iconst C dL_begins_26 ?_
        refine xr_icmp_ne C g15 ⟨by decide, by decide⟩ 34 dL_begins_27 (by decide) (fun c18 => ?_) (fun c18 => ?_)
        · have hw := hw.1 c18
          refine xr_bipush C dL_begins_34 (by decide +kernel) ?_
          exact B36 K7 hK7 x1 (7 * x1) 8 σ0 hw
        · have hw := hw.2 c18
          refine xr_iconst C dL_begins_30 ?_
          refine xr_goto C 36 dL_begins_31 (by decide) ?_
          exact B36 K7 hK7 x1 (7 * x1) 5 σ0 hw
      · have hw := hw.2 c17
        refine xr_iconst C dL_begins_21 ?_
        refine xr_goto C 36 dL_begins_22 (by decide) ?_
        exact B36 K7 hK7 x1 (7 * x1) 3 σ0 hw
  show xX p l e rmL_begins s m args below meth c D vwCl (va_A ((wA ad cI cJ cZ) σ) s.heap.size) (wA ad cI cJ cZ) [40] σ 0 0 (MQ below (xQv D (wA ad cI cJ cZ) [40] σ s.heap.size Q) args s 0 0 (va_A ((wA ad cI cJ cZ) σ) s.heap.size)) 2 σ 0 [(0, .ref (ad 40))] []
  unfold vL_begins at hw
  refine xr_aload_n C 0 dL_begins_0 rfl rfl ?_
  refine xr_bipush C dL_begins_1 (by decide +kernel) ?_
  refine xr_iconst C dL_begins_3 ?_
  refine xr_iast C (t0 := 0) (r := 40) 0 rfl rfl (by decide) (N := 64) rfl ⟨by decide, by decide⟩ wA_st40 (by decide) dL_begins_4 ?_
  refine xr_sig (fun σ19 e20 => ?_)
  have hw := hw σ19 e20
  refine xr_iconst C dL_begins_5 ?_
  refine xr_istore_n C [(0, .ref (ad 40)), (1, .int (i32 0))] dL_begins_6 rfl (by decide) rfl ?_
  exact L7 (0, σ19) hw
abbrev rmL_runs : Room := { frames := 0, cells := 0, slots := 0, locals := 64 }
set_option maxHeartbeats 8000000 in
set_option maxRecDepth 100000 in
theorem mL_runs {l : Launch} {D : va_G} {ad : Nat → Nat} {cI cJ cZ : ClassId} (σ : xS) (a1 : Int) (Q : Int → xS → Prop) (hw : vL_runs a1 σ Q) : xMi False l yL_runs wsL_runs rmL_runs D (xtys cI cJ cZ) (wA ad cI cJ cZ) [40] σ [.ref (ad 40), .int (i32 a1)] Q := by
  refine xenter (F := [40]) (Qc := fun sz => xQi D (wA ad cI cJ cZ) [40] σ sz Q) (own := RL) (cc := cL_runs) (maxL := 2) (ret := some .boolean) (by decide) rfl rfl (Nat.le_of_ble_eq_true rfl) ?_
  intro p e s m args below meth c hargs C hr hnm
  show xX p l e rmL_runs s m args below meth c D vwCl (va_A ((wA ad cI cJ cZ) σ) s.heap.size) (wA ad cI cJ cZ) [40] σ 0 0 (MQ below (xQi D (wA ad cI cJ cZ) [40] σ s.heap.size Q) args s 0 0 (va_A ((wA ad cI cJ cZ) σ) s.heap.size)) 2 σ 0 [(0, .ref (ad 40)), (1, .int (i32 a1))] []
  unfold vL_runs at hw
  refine xr_aload_n C 0 dL_runs_0 rfl rfl ?_
  refine xr_bipush C dL_runs_1 (by decide +kernel) ?_
  refine xr_iload_n C 1 dL_runs_3 rfl rfl ?_
  refine xr_imul C dL_runs_4 ?_
  refine xr_iconst C dL_runs_5 ?_
  refine xr_iadd C dL_runs_6 ?_
  obtain ⟨g1, hw⟩ := hw
  refine xr_iald C (t0 := 0) 0 rfl rfl (by decide) (N := 64) rfl g1 dL_runs_7 ?_
  obtain ⟨g2, hw⟩ := hw
  refine xr_if_le C g2 38 dL_runs_8 (by decide) (fun c3 => ?_) (fun c3 => ?_)
  · have hw := hw.1 c3
    refine xr_iconst C dL_runs_38 ?_
    exact xr_zret C hr (Or.inl rfl) hw dL_runs_39
  · have hw := hw.2 c3
    refine xr_aload_n C 0 dL_runs_11 rfl rfl ?_
    refine xr_bipush C dL_runs_12 (by decide +kernel) ?_
    refine xr_iload_n C 1 dL_runs_14 rfl rfl ?_
    refine xr_imul C dL_runs_15 ?_
    refine xr_iconst C dL_runs_16 ?_
    refine xr_iadd C dL_runs_17 ?_
    obtain ⟨g4, hw⟩ := hw
    refine xr_iald C (t0 := 0) 0 rfl rfl (by decide) (N := 64) rfl g4 dL_runs_18 ?_
    refine xr_iconst C dL_runs_19 ?_
    obtain ⟨g5, hw⟩ := hw
    refine xr_icmp_ge C g5 ⟨by decide, by decide⟩ 38 dL_runs_20 (by decide) (fun c6 => ?_) (fun c6 => ?_)
    · have hw := hw.1 c6
      refine xr_iconst C dL_runs_38 ?_
      exact xr_zret C hr (Or.inl rfl) hw dL_runs_39
    · have hw := hw.2 c6
      refine xr_aload_n C 0 dL_runs_23 rfl rfl ?_
      refine xr_bipush C dL_runs_24 (by decide +kernel) ?_
      refine xr_iload_n C 1 dL_runs_26 rfl rfl ?_
      refine xr_imul C dL_runs_27 ?_
      refine xr_iconst C dL_runs_28 ?_
      refine xr_iadd C dL_runs_29 ?_
      obtain ⟨g7, hw⟩ := hw
      refine xr_iald C (t0 := 0) 0 rfl rfl (by decide) (N := 64) rfl g7 dL_runs_30 ?_
      obtain ⟨g8, hw⟩ := hw
      refine xr_if_ne C g8 38 dL_runs_31 (by decide) (fun c9 => ?_) (fun c9 => ?_)
      · have hw := hw.1 c9
        refine xr_iconst C dL_runs_38 ?_
        exact xr_zret C hr (Or.inl rfl) hw dL_runs_39
      · have hw := hw.2 c9
        refine xr_iconst C dL_runs_34 ?_
        refine xr_goto C 39 dL_runs_35 (by decide) ?_
        exact xr_zret C hr (Or.inr rfl) hw dL_runs_39
abbrev rmL_runsAny : Room := { frames := 1, cells := 0, slots := 0, locals := 85 }
set_option maxHeartbeats 8000000 in
set_option maxRecDepth 100000 in
theorem mL_runsAny {l : Launch} {D : va_G} {ad : Nat → Nat} {cI cJ cZ : ClassId} (σ : xS) (Q : Int → xS → Prop) (hw : vL_runsAny σ Q) : xMi False l yL_runsAny wsL_runsAny rmL_runsAny D (xtys cI cJ cZ) (wA ad cI cJ cZ) [40] σ [.ref (ad 40)] Q := by
  refine xenter (F := [40]) (Qc := fun sz => xQi D (wA ad cI cJ cZ) [40] σ sz Q) (own := RL) (cc := cL_runsAny) (maxL := 1) (ret := some .boolean) (by decide) rfl rfl (Nat.le_of_ble_eq_true rfl) ?_
  intro p e s m args below meth c hargs C hr hnm
  have B31 : ∀ (σ0 : xS), vL_runsAny_31  Q σ0 → xX p l e rmL_runsAny s m args below meth c D vwCl (va_A ((wA ad cI cJ cZ) σ) s.heap.size) (wA ad cI cJ cZ) [40] σ 0 0 (MQ below (xQi D (wA ad cI cJ cZ) [40] σ s.heap.size Q) args s 0 0 (va_A ((wA ad cI cJ cZ) σ) s.heap.size)) 1 σ0 31 [(0, .ref (ad 40))] [] := by
    intro σ0 hw
    unfold vL_runsAny_31 at hw
    refine xr_aload_n C 0 dL_runsAny_31 rfl rfl ?_
    refine xr_bipush C dL_runsAny_32 (by decide +kernel) ?_
    refine xr_iald C (t0 := 0) 0 rfl rfl (by decide) (N := 64) rfl ⟨by decide, by decide⟩ dL_runsAny_34 ?_
    refine xr_iconst C dL_runsAny_35 ?_
    obtain ⟨g1, hw⟩ := hw
    refine xr_icmp_le C g1 ⟨by decide, by decide⟩ 51 dL_runsAny_36 (by decide) (fun c2 => ?_) (fun c2 => ?_)
    · have hw := hw.1 c2
      refine xr_iconst C dL_runsAny_51 ?_
      exact xr_zret C hr (Or.inl rfl) hw dL_runsAny_52
    · have hw := hw.2 c2
      refine xr_aload_n C 0 dL_runsAny_39 rfl rfl ?_
      refine xr_iconst C dL_runsAny_40 ?_
      refine xr_callSi C (As := [.ref (ad 40), .int (i32 2)]) (rest := []) (xSp_rf _ _) (by decide) (fun h => h) (mL_runs σ0 2 _ hw) (va_cwS 2 C.2.2.2.2.1 gL_runsAny_L_runs rfl rfl rfl (by decide +kernel) ⟨by decide, by decide⟩) rfl rfl (Nat.le_of_ble_eq_true rfl) ⟨by decide, by decide⟩ dL_runsAny_41 (fun r3 σ4 hw => ?_)
      obtain ⟨g5, hw⟩ := hw
      refine xr_if_eq C g5 51 dL_runsAny_44 (by decide) (fun c6 => ?_) (fun c6 => ?_)
      · have hw := hw.1 c6
        refine xr_iconst C dL_runsAny_51 ?_
        exact xr_zret C hr (Or.inl rfl) hw dL_runsAny_52
      · have hw := hw.2 c6
        refine xr_iconst C dL_runsAny_47 ?_
        refine xr_goto C 52 dL_runsAny_48 (by decide) ?_
        exact xr_zret C hr (Or.inr rfl) hw dL_runsAny_52
  have B15 : ∀ (σ0 : xS), vL_runsAny_15  Q σ0 → xX p l e rmL_runsAny s m args below meth c D vwCl (va_A ((wA ad cI cJ cZ) σ) s.heap.size) (wA ad cI cJ cZ) [40] σ 0 0 (MQ below (xQi D (wA ad cI cJ cZ) [40] σ s.heap.size Q) args s 0 0 (va_A ((wA ad cI cJ cZ) σ) s.heap.size)) 1 σ0 15 [(0, .ref (ad 40))] [] := by
    intro σ0 hw
    unfold vL_runsAny_15 at hw
    refine xr_aload_n C 0 dL_runsAny_15 rfl rfl ?_
    refine xr_bipush C dL_runsAny_16 (by decide +kernel) ?_
    refine xr_iald C (t0 := 0) 0 rfl rfl (by decide) (N := 64) rfl ⟨by decide, by decide⟩ dL_runsAny_18 ?_
    refine xr_iconst C dL_runsAny_19 ?_
    obtain ⟨g7, hw⟩ := hw
    refine xr_icmp_le C g7 ⟨by decide, by decide⟩ 31 dL_runsAny_20 (by decide) (fun c8 => ?_) (fun c8 => ?_)
    · have hw := hw.1 c8
      exact B31 σ0 hw
    · have hw := hw.2 c8
      refine xr_aload_n C 0 dL_runsAny_23 rfl rfl ?_
      refine xr_iconst C dL_runsAny_24 ?_
      refine xr_callSi C (As := [.ref (ad 40), .int (i32 1)]) (rest := []) (xSp_rf _ _) (by decide) (fun h => h) (mL_runs σ0 1 _ hw) (va_cwS 2 C.2.2.2.2.1 gL_runsAny_L_runs rfl rfl rfl (by decide +kernel) ⟨by decide, by decide⟩) rfl rfl (Nat.le_of_ble_eq_true rfl) ⟨by decide, by decide⟩ dL_runsAny_25 (fun r9 σ10 hw => ?_)
      obtain ⟨g11, hw⟩ := hw
      refine xr_if_ne C g11 47 dL_runsAny_28 (by decide) (fun c12 => ?_) (fun c12 => ?_)
      · have hw := hw.1 c12
        refine xr_iconst C dL_runsAny_47 ?_
        refine xr_goto C 52 dL_runsAny_48 (by decide) ?_
        exact xr_zret C hr (Or.inr rfl) hw dL_runsAny_52
      · have hw := hw.2 c12
        exact B31 σ10 hw
  show xX p l e rmL_runsAny s m args below meth c D vwCl (va_A ((wA ad cI cJ cZ) σ) s.heap.size) (wA ad cI cJ cZ) [40] σ 0 0 (MQ below (xQi D (wA ad cI cJ cZ) [40] σ s.heap.size Q) args s 0 0 (va_A ((wA ad cI cJ cZ) σ) s.heap.size)) 1 σ 0 [(0, .ref (ad 40))] []
  unfold vL_runsAny at hw
  refine xr_aload_n C 0 dL_runsAny_0 rfl rfl ?_
  refine xr_bipush C dL_runsAny_1 (by decide +kernel) ?_
  refine xr_iald C (t0 := 0) 0 rfl rfl (by decide) (N := 64) rfl ⟨by decide, by decide⟩ dL_runsAny_3 ?_
  obtain ⟨g13, hw⟩ := hw
  refine xr_if_le C g13 15 dL_runsAny_4 (by decide) (fun c14 => ?_) (fun c14 => ?_)
  · have hw := hw.1 c14
    exact B15 σ hw
  · have hw := hw.2 c14
    refine xr_aload_n C 0 dL_runsAny_7 rfl rfl ?_
    refine xr_iconst C dL_runsAny_8 ?_
    refine xr_callSi C (As := [.ref (ad 40), .int (i32 0)]) (rest := []) (xSp_rf _ _) (by decide) (fun h => h) (mL_runs σ 0 _ hw) (va_cwS 2 C.2.2.2.2.1 gL_runsAny_L_runs rfl rfl rfl (by decide +kernel) ⟨by decide, by decide⟩) rfl rfl (Nat.le_of_ble_eq_true rfl) ⟨by decide, by decide⟩ dL_runsAny_9 (fun r15 σ16 hw => ?_)
    obtain ⟨g17, hw⟩ := hw
    refine xr_if_ne C g17 47 dL_runsAny_12 (by decide) (fun c18 => ?_) (fun c18 => ?_)
    · have hw := hw.1 c18
      refine xr_iconst C dL_runsAny_47 ?_
      refine xr_goto C 52 dL_runsAny_48 (by decide) ?_
      exact xr_zret C hr (Or.inr rfl) hw dL_runsAny_52
    · have hw := hw.2 c18
      exact B15 σ16 hw
abbrev rmL_second : Room := { frames := 1, cells := 0, slots := 0, locals := 85 }
set_option maxHeartbeats 8000000 in
set_option maxRecDepth 100000 in
theorem mL_second {l : Launch} {D : va_G} {ad : Nat → Nat} {cI cJ cZ : ClassId} (σ : xS) (Q : Int → xS → Prop) (hw : vL_second σ Q) : xMi False l yL_second wsL_second rmL_second D (xtys cI cJ cZ) (wA ad cI cJ cZ) [40] σ [.ref (ad 40)] Q := by
  refine xenter (F := [40]) (Qc := fun sz => xQi D (wA ad cI cJ cZ) [40] σ sz Q) (own := RL) (cc := cL_second) (maxL := 6) (ret := some .int) (by decide) rfl rfl (Nat.le_of_ble_eq_true rfl) ?_
  intro p e s m args below meth c hargs C hr hnm
  have L125 : ∀ (K12 : Int × Int × xS → Prop) (hK12 : ∀ a, K12 a → xX p l e rmL_second s m args below meth c D vwCl (va_A ((wA ad cI cJ cZ) σ) s.heap.size) (wA ad cI cJ cZ) [40] σ 0 0 (MQ below (xQi D (wA ad cI cJ cZ) [40] σ s.heap.size Q) args s 0 0 (va_A ((wA ad cI cJ cZ) σ) s.heap.size)) 6 (a.2.2) 12 [(0, .ref (ad 40)), (1, .int (i32 (a.1))), (2, .int (i32 (a.2.1)))] []), ∀ a, mu (vL_second_125 K12 Q) a → xX p l e rmL_second s m args below meth c D vwCl (va_A ((wA ad cI cJ cZ) σ) s.heap.size) (wA ad cI cJ cZ) [40] σ 0 0 (MQ below (xQi D (wA ad cI cJ cZ) [40] σ s.heap.size Q) args s 0 0 (va_A ((wA ad cI cJ cZ) σ) s.heap.size)) 6 (a.2.2.2.2) 125 [(0, .ref (ad 40)), (1, .int (i32 (a.1))), (2, .int (i32 (a.2.1))), (3, .int (i32 (a.2.2.1))), (5, .int (i32 (a.2.2.2.1)))] [] := by
    intro K12 hK12
    refine mu_ind (fun K125 hK125 a hw => ?_)
    obtain ⟨x1, x2, x3, x5, σ0⟩ := a
    show xX p l e rmL_second s m args below meth c D vwCl (va_A ((wA ad cI cJ cZ) σ) s.heap.size) (wA ad cI cJ cZ) [40] σ 0 0 (MQ below (xQi D (wA ad cI cJ cZ) [40] σ s.heap.size Q) args s 0 0 (va_A ((wA ad cI cJ cZ) σ) s.heap.size)) 6 σ0 125 [(0, .ref (ad 40)), (1, .int (i32 x1)), (2, .int (i32 x2)), (3, .int (i32 x3)), (5, .int (i32 x5))] []
    unfold vL_second_125 at hw
    refine xr_iload C 4 dL_second_125 rfl ?_
    refine xr_bipush C dL_second_127 (by decide +kernel) ?_
    obtain ⟨g1, hw⟩ := hw
    refine xr_icmp_le C g1 ⟨by decide, by decide⟩ 148 dL_second_129 (by decide) (fun c2 => ?_) (fun c2 => ?_)
    · have hw := hw.1 c2
      refine xr_aload_n C 0 dL_second_148 rfl rfl ?_
      refine xr_bipush C dL_second_149 (by decide +kernel) ?_
      refine xr_bipush C dL_second_151 (by decide +kernel) ?_
      refine xr_aload_n C 0 dL_second_153 rfl rfl ?_
      refine xr_bipush C dL_second_154 (by decide +kernel) ?_
      refine xr_iald C (t0 := 0) 0 rfl rfl (by decide) (N := 64) rfl ⟨by decide, by decide⟩ dL_second_156 ?_
      refine xr_imul C dL_second_157 ?_
      refine xr_bipush C dL_second_158 (by decide +kernel) ?_
      refine xr_iload_n C 2 dL_second_160 rfl rfl ?_
      refine xr_imul C dL_second_161 ?_
      refine xr_iadd C dL_second_162 ?_
      refine xr_aload_n C 0 dL_second_163 rfl rfl ?_
      refine xr_iload_n C 3 dL_second_164 rfl rfl ?_
      refine xr_iconst C dL_second_165 ?_
      refine xr_iadd C dL_second_166 ?_
      obtain ⟨g3, hw⟩ := hw
      refine xr_iald C (t0 := 0) 0 rfl rfl (by decide) (N := 64) rfl g3 dL_second_167 ?_
      refine xr_iadd C dL_second_168 ?_
      refine xr_topi (fun t4 e5 => ?_)
      have hw := hw t4 e5
      refine xr_iast C (t0 := 0) (r := 40) 0 rfl rfl (by decide) (N := 64) rfl ⟨by decide, by decide⟩ wA_st40 (by decide) dL_second_169 ?_
      refine xr_sig (fun σ6 e7 => ?_)
      have hw := hw σ6 e7
      refine xr_aload_n C 0 dL_second_170 rfl rfl ?_
      refine xr_bipush C dL_second_171 (by decide +kernel) ?_
      refine xr_dup2 C dL_second_173 rfl rfl ?_
      refine xr_iald C (t0 := 0) 0 rfl rfl (by decide) (N := 64) rfl ⟨by decide, by decide⟩ dL_second_174 ?_
      refine xr_iconst C dL_second_175 ?_
      refine xr_iadd C dL_second_176 ?_
      refine xr_iast C (t0 := 0) (r := 40) 0 rfl rfl (by decide) (N := 64) rfl ⟨by decide, by decide⟩ wA_st40 (by decide) dL_second_177 ?_
      refine xr_sig (fun σ8 e9 => ?_)
      have hw := hw σ8 e9
      refine xr_iinc C 1 [(0, .ref (ad 40)), (1, .int (i32 (x1 + 1))), (2, .int (i32 x2)), (3, .int (i32 x3)), (5, .int (i32 x5))] dL_second_178 rfl (by decide) rfl ?_
      refine xr_iinc C 2 [(0, .ref (ad 40)), (1, .int (i32 (x1 + 1))), (2, .int (i32 (x2 + 1))), (3, .int (i32 x3)), (5, .int (i32 x5))] dL_second_181 rfl (by decide) rfl ?_
      refine xr_goto C 12 dL_second_184 (by decide) ?_
      refine xr_sub C [0, 1, 2] [(0, .ref (ad 40)), (1, .int (i32 (x1 + 1))), (2, .int (i32 (x2 + 1)))] rfl ?_
      exact hK12 ((x1 + 1), (x2 + 1), σ8) hw
    · have hw := hw.2 c2
      refine xr_aload_n C 0 dL_second_132 rfl rfl ?_
      refine xr_iload C 4 dL_second_133 rfl ?_
      refine xr_aload_n C 0 dL_second_135 rfl rfl ?_
      refine xr_iload C 4 dL_second_136 rfl ?_
      refine xr_iconst C dL_second_138 ?_
      refine xr_isub C dL_second_139 ?_
      obtain ⟨g10, hw⟩ := hw
      refine xr_iald C (t0 := 0) 0 rfl rfl (by decide) (N := 64) rfl g10 dL_second_140 ?_
      obtain ⟨g11, hw⟩ := hw
      refine xr_iast C (t0 := 0) (r := 40) 0 rfl rfl (by decide) (N := 64) rfl g11 wA_st40 (by decide) dL_second_141 ?_
      refine xr_sig (fun σ12 e13 => ?_)
      have hw := hw σ12 e13
      refine xr_iinc C 4 [(0, .ref (ad 40)), (1, .int (i32 x1)), (2, .int (i32 x2)), (3, .int (i32 x3)), (5, .int (i32 (x5 + (-1))))] dL_second_142 rfl (by decide) rfl ?_
      refine xr_goto C 125 dL_second_145 (by decide) ?_
      exact hK125 (x1, x2, x3, (x5 + (-1)), σ12) hw
  have B106 : ∀ (K12 : Int × Int × xS → Prop) (hK12 : ∀ a, K12 a → xX p l e rmL_second s m args below meth c D vwCl (va_A ((wA ad cI cJ cZ) σ) s.heap.size) (wA ad cI cJ cZ) [40] σ 0 0 (MQ below (xQi D (wA ad cI cJ cZ) [40] σ s.heap.size Q) args s 0 0 (va_A ((wA ad cI cJ cZ) σ) s.heap.size)) 6 (a.2.2) 12 [(0, .ref (ad 40)), (1, .int (i32 (a.1))), (2, .int (i32 (a.2.1)))] []) (x1 x2 x3 x4 y1 y2 : Int) (σ0 : xS), vL_second_106 K12 Q x1 x2 x3 x4 y1 y2 σ0 → xX p l e rmL_second s m args below meth c D vwCl (va_A ((wA ad cI cJ cZ) σ) s.heap.size) (wA ad cI cJ cZ) [40] σ 0 0 (MQ below (xQi D (wA ad cI cJ cZ) [40] σ s.heap.size Q) args s 0 0 (va_A ((wA ad cI cJ cZ) σ) s.heap.size)) 6 σ0 106 [(0, .ref (ad 40)), (1, .int (i32 x1)), (2, .int (i32 x2)), (3, .int (i32 x3)), (4, .int (i32 x4))] [.int (i32 y2), .int (i32 y1), .ref (ad 40)] := by
    intro K12 hK12 x1 x2 x3 x4 y1 y2 σ0 hw
    unfold vL_second_106 at hw
    obtain ⟨g14, hw⟩ := hw
    refine xr_iast C (t0 := 0) (r := 40) 0 rfl rfl (by decide) (N := 64) rfl g14 wA_st40 (by decide) dL_second_106 ?_
    refine xr_sig (fun σ15 e16 => ?_)
    have hw := hw σ15 e16
    refine xr_iload C 4 dL_second_107 rfl ?_
    obtain ⟨g17, hw⟩ := hw
    refine xr_if_ne C g17 121 dL_second_109 (by decide) (fun c18 => ?_) (fun c18 => ?_)
    · have hw := hw.1 c18
      refine xr_bipush C dL_second_121 (by decide +kernel) ?_
      refine xr_istore C [(0, .ref (ad 40)), (1, .int (i32 x1)), (2, .int (i32 x2)), (3, .int (i32 x3)), (4, .int (i32 x4)), (5, .int (i32 41))] dL_second_123 (by decide) rfl ?_
      refine xr_sub C [0, 1, 2, 3, 5] [(0, .ref (ad 40)), (1, .int (i32 x1)), (2, .int (i32 x2)), (3, .int (i32 x3)), (5, .int (i32 41))] rfl ?_
      exact L125 K12 hK12 (x1, x2, x3, 41, σ15) hw
    · have hw := hw.2 c18
      refine xr_aload_n C 0 dL_second_112 rfl rfl ?_
      refine xr_iload_n C 3 dL_second_113 rfl rfl ?_
      refine xr_iconst C dL_second_114 ?_
      refine xr_iadd C dL_second_115 ?_
      obtain ⟨g19, hw⟩ := hw
      refine xr_iald C (t0 := 0) 0 rfl rfl (by decide) (N := 64) rfl g19 dL_second_116 ?_
      refine xr_iconst C dL_second_117 ?_
      obtain ⟨g20, hw⟩ := hw
      refine xr_icmp_ne C g20 ⟨by decide, by decide⟩ 181 dL_second_118 (by decide) (fun c21 => ?_) (fun c21 => ?_)
      · have hw := hw.1 c21
        refine xr_iinc C 2 [(0, .ref (ad 40)), (1, .int (i32 x1)), (2, .int (i32 (x2 + 1))), (3, .int (i32 x3)), (4, .int (i32 x4))] dL_second_181 rfl (by decide) rfl ?_
        refine xr_goto C 12 dL_second_184 (by decide) ?_
        refine xr_sub C [0, 1, 2] [(0, .ref (ad 40)), (1, .int (i32 x1)), (2, .int (i32 (x2 + 1)))] rfl ?_
        exact hK12 (x1, (x2 + 1), σ15) hw
      · have hw := hw.2 c21
        refine xr_bipush C dL_second_121 (by decide +kernel) ?_
        refine xr_istore C [(0, .ref (ad 40)), (1, .int (i32 x1)), (2, .int (i32 x2)), (3, .int (i32 x3)), (4, .int (i32 x4)), (5, .int (i32 41))] dL_second_123 (by decide) rfl ?_
        refine xr_sub C [0, 1, 2, 3, 5] [(0, .ref (ad 40)), (1, .int (i32 x1)), (2, .int (i32 x2)), (3, .int (i32 x3)), (5, .int (i32 41))] rfl ?_
        exact L125 K12 hK12 (x1, x2, x3, 41, σ15) hw
  have B105 : ∀ (K12 : Int × Int × xS → Prop) (hK12 : ∀ a, K12 a → xX p l e rmL_second s m args below meth c D vwCl (va_A ((wA ad cI cJ cZ) σ) s.heap.size) (wA ad cI cJ cZ) [40] σ 0 0 (MQ below (xQi D (wA ad cI cJ cZ) [40] σ s.heap.size Q) args s 0 0 (va_A ((wA ad cI cJ cZ) σ) s.heap.size)) 6 (a.2.2) 12 [(0, .ref (ad 40)), (1, .int (i32 (a.1))), (2, .int (i32 (a.2.1)))] []) (x1 x2 x3 x4 y1 : Int) (σ0 : xS), vL_second_105 K12 Q x1 x2 x3 x4 y1 σ0 → xX p l e rmL_second s m args below meth c D vwCl (va_A ((wA ad cI cJ cZ) σ) s.heap.size) (wA ad cI cJ cZ) [40] σ 0 0 (MQ below (xQi D (wA ad cI cJ cZ) [40] σ s.heap.size Q) args s 0 0 (va_A ((wA ad cI cJ cZ) σ) s.heap.size)) 6 σ0 105 [(0, .ref (ad 40)), (1, .int (i32 x1)), (2, .int (i32 x2)), (3, .int (i32 x3)), (4, .int (i32 x4))] [.int (i32 y1), .ref (ad 40)] := by
    intro K12 hK12 x1 x2 x3 x4 y1 σ0 hw
    unfold vL_second_105 at hw
    refine xr_iconst C dL_second_105 ?_
    exact B106 K12 hK12 x1 x2 x3 x4 y1 0 σ0 hw
  have B68 : ∀ (K12 : Int × Int × xS → Prop) (hK12 : ∀ a, K12 a → xX p l e rmL_second s m args below meth c D vwCl (va_A ((wA ad cI cJ cZ) σ) s.heap.size) (wA ad cI cJ cZ) [40] σ 0 0 (MQ below (xQi D (wA ad cI cJ cZ) [40] σ s.heap.size Q) args s 0 0 (va_A ((wA ad cI cJ cZ) σ) s.heap.size)) 6 (a.2.2) 12 [(0, .ref (ad 40)), (1, .int (i32 (a.1))), (2, .int (i32 (a.2.1)))] []) (x1 x2 x3 y0 : Int) (σ0 : xS), vL_second_68 K12 Q x1 x2 x3 y0 σ0 → xX p l e rmL_second s m args below meth c D vwCl (va_A ((wA ad cI cJ cZ) σ) s.heap.size) (wA ad cI cJ cZ) [40] σ 0 0 (MQ below (xQi D (wA ad cI cJ cZ) [40] σ s.heap.size Q) args s 0 0 (va_A ((wA ad cI cJ cZ) σ) s.heap.size)) 6 σ0 68 [(0, .ref (ad 40)), (1, .int (i32 x1)), (2, .int (i32 x2)), (3, .int (i32 x3))] [.int (i32 y0)] := by
    intro K12 hK12 x1 x2 x3 y0 σ0 hw
    unfold vL_second_68 at hw
    refine xr_istore C [(0, .ref (ad 40)), (1, .int (i32 x1)), (2, .int (i32 x2)), (3, .int (i32 x3)), (4, .int (i32 y0))] dL_second_68 (by decide) rfl ?_
    refine xr_aload_n C 0 dL_second_70 rfl rfl ?_
    refine xr_iload_n C 3 dL_second_71 rfl rfl ?_
    refine xr_iconst C dL_second_72 ?_
    refine xr_iadd C dL_second_73 ?_
    refine xr_iload C 4 dL_second_74 rfl ?_
    obtain ⟨g22, hw⟩ := hw
    refine xr_if_ne C g22 105 dL_second_76 (by decide) (fun c23 => ?_) (fun c23 => ?_)
    · have hw := hw.1 c23
      exact B105 K12 hK12 x1 x2 x3 y0 (x3 + 4) σ0 hw
    · have hw := hw.2 c23
      refine xr_aload_n C 0 dL_second_79 rfl rfl ?_
      refine xr_iload_n C 3 dL_second_80 rfl rfl ?_
      refine xr_iconst C dL_second_81 ?_
      refine xr_iadd C dL_second_82 ?_
      obtain ⟨g24, hw⟩ := hw
      refine xr_iald C (t0 := 0) 0 rfl rfl (by decide) (N := 64) rfl g24 dL_second_83 ?_
      refine xr_iconst C dL_second_84 ?_
      obtain ⟨g25, hw⟩ := hw
      refine xr_icmp_ne C g25 ⟨by decide, by decide⟩ 105 dL_second_85 (by decide) (fun c26 => ?_) (fun c26 => ?_)
      · have hw := hw.1 c26
        exact B105 K12 hK12 x1 x2 x3 y0 (x3 + 4) σ0 hw
      · have hw := hw.2 c26
        refine xr_aload_n C 0 dL_second_88 rfl rfl ?_
        refine xr_iload_n C 3 dL_second_89 rfl rfl ?_
        refine xr_iconst C dL_second_90 ?_
        refine xr_iadd C dL_second_91 ?_
        obtain ⟨g27, hw⟩ := hw
        refine xr_iald C (t0 := 0) 0 rfl rfl (by decide) (N := 64) rfl g27 dL_second_92 ?_
        refine xr_aload_n C 0 dL_second_93 rfl rfl ?_
        refine xr_iload_n C 3 dL_second_94 rfl rfl ?_
        refine xr_iconst C dL_second_95 ?_
        refine xr_iadd C dL_second_96 ?_
        obtain ⟨g28, hw⟩ := hw
        refine xr_iald C (t0 := 0) 0 rfl rfl (by decide) (N := 64) rfl g28 dL_second_97 ?_
        obtain ⟨g29, hw⟩ := hw
        obtain ⟨g30, hw⟩ := hw
        refine xr_icmp_ne C g29 g30 105 dL_second_98 (by decide) (fun c31 => ?_) (fun c31 => ?_)
        · have hw := hw.1 c31
          exact B105 K12 hK12 x1 x2 x3 y0 (x3 + 4) σ0 hw
        · have hw := hw.2 c31
          refine xr_iconst C dL_second_101 ?_
          refine xr_goto C 106 dL_second_102 (by decide) ?_
          exact B106 K12 hK12 x1 x2 x3 y0 (x3 + 4) 1 σ0 hw
  have L12 : ∀ a, mu (vL_second_12  Q) a → xX p l e rmL_second s m args below meth c D vwCl (va_A ((wA ad cI cJ cZ) σ) s.heap.size) (wA ad cI cJ cZ) [40] σ 0 0 (MQ below (xQi D (wA ad cI cJ cZ) [40] σ s.heap.size Q) args s 0 0 (va_A ((wA ad cI cJ cZ) σ) s.heap.size)) 6 (a.2.2) 12 [(0, .ref (ad 40)), (1, .int (i32 (a.1))), (2, .int (i32 (a.2.1)))] [] := by
    refine mu_ind (fun K12 hK12 a hw => ?_)
    obtain ⟨x1, x2, σ0⟩ := a
    show xX p l e rmL_second s m args below meth c D vwCl (va_A ((wA ad cI cJ cZ) σ) s.heap.size) (wA ad cI cJ cZ) [40] σ 0 0 (MQ below (xQi D (wA ad cI cJ cZ) [40] σ s.heap.size Q) args s 0 0 (va_A ((wA ad cI cJ cZ) σ) s.heap.size)) 6 σ0 12 [(0, .ref (ad 40)), (1, .int (i32 x1)), (2, .int (i32 x2))] []
    unfold vL_second_12 at hw
    refine xr_iload_n C 2 dL_second_12 rfl rfl ?_
    refine xr_aload_n C 0 dL_second_13 rfl rfl ?_
    refine xr_bipush C dL_second_14 (by decide +kernel) ?_
    refine xr_iald C (t0 := 0) 0 rfl rfl (by decide) (N := 64) rfl ⟨by decide, by decide⟩ dL_second_16 ?_
    obtain ⟨g32, hw⟩ := hw
    obtain ⟨g33, hw⟩ := hw
    refine xr_icmp_ge C g32 g33 187 dL_second_17 (by decide) (fun c34 => ?_) (fun c34 => ?_)
    · have hw := hw.1 c34
      refine xr_iload_n C 1 dL_second_187 rfl rfl ?_
      exact xr_iret C hr hw dL_second_188
    · have hw := hw.2 c34
      refine xr_bipush C dL_second_20 (by decide +kernel) ?_
      refine xr_iload_n C 2 dL_second_22 rfl rfl ?_
      refine xr_imul C dL_second_23 ?_
      refine xr_istore_n C [(0, .ref (ad 40)), (1, .int (i32 x1)), (2, .int (i32 x2)), (3, .int (i32 (7 * x2)))] dL_second_24 rfl (by decide) rfl ?_
      refine xr_aload_n C 0 dL_second_25 rfl rfl ?_
      refine xr_iload_n C 2 dL_second_26 rfl rfl ?_
      refine xr_callSi C (As := [.ref (ad 40), .int (i32 x2)]) (rest := []) (xSp_rf _ _) (by decide) (fun h => h) (mL_runs σ0 x2 _ hw) (va_cwS 2 C.2.2.2.2.1 gL_second_L_runs rfl rfl rfl (by decide +kernel) ⟨by decide, by decide⟩) rfl rfl (Nat.le_of_ble_eq_true rfl) ⟨by decide, by decide⟩ dL_second_27 (fun r35 σ36 hw => ?_)
      obtain ⟨g37, hw⟩ := hw
      refine xr_if_eq C g37 181 dL_second_30 (by decide) (fun c38 => ?_) (fun c38 => ?_)
      · have hw := hw.1 c38
        refine xr_iinc C 2 [(0, .ref (ad 40)), (1, .int (i32 x1)), (2, .int (i32 (x2 + 1))), (3, .int (i32 (7 * x2)))] dL_second_181 rfl (by decide) rfl ?_
        refine xr_goto C 12 dL_second_184 (by decide) ?_
        refine xr_sub C [0, 1, 2] [(0, .ref (ad 40)), (1, .int (i32 x1)), (2, .int (i32 (x2 + 1)))] rfl ?_
        exact hK12 (x1, (x2 + 1), σ36) hw
      · have hw := hw.2 c38
        refine xr_aload_n C 0 dL_second_33 rfl rfl ?_
        refine xr_iload_n C 3 dL_second_34 rfl rfl ?_
        refine xr_iconst C dL_second_35 ?_
        refine xr_iadd C dL_second_36 ?_
        refine xr_dup2 C dL_second_37 rfl rfl ?_
        obtain ⟨g39, hw⟩ := hw
        refine xr_iald C (t0 := 0) 0 rfl rfl (by decide) (N := 64) rfl g39 dL_second_38 ?_
        refine xr_iconst C dL_second_39 ?_
        refine xr_isub C dL_second_40 ?_
        refine xr_topi (fun t40 e41 => ?_)
        have hw := hw t40 e41
        refine xr_iast C (t0 := 0) (r := 40) 0 rfl rfl (by decide) (N := 64) rfl g39 wA_st40 (by decide) dL_second_41 ?_
        refine xr_sig (fun σ42 e43 => ?_)
        have hw := hw σ42 e43
        refine xr_aload_n C 0 dL_second_42 rfl rfl ?_
        refine xr_iload_n C 3 dL_second_43 rfl rfl ?_
        refine xr_iconst C dL_second_44 ?_
        refine xr_iadd C dL_second_45 ?_
        refine xr_dup2 C dL_second_46 rfl rfl ?_
        obtain ⟨g44, hw⟩ := hw
        refine xr_iald C (t0 := 0) 0 rfl rfl (by decide) (N := 64) rfl g44 dL_second_47 ?_
        refine xr_aload_n C 0 dL_second_48 rfl rfl ?_
        refine xr_iload_n C 3 dL_second_49 rfl rfl ?_
        refine xr_iconst C dL_second_50 ?_
        refine xr_iadd C dL_second_51 ?_
        obtain ⟨g45, hw⟩ := hw
        refine xr_iald C (t0 := 0) 0 rfl rfl (by decide) (N := 64) rfl g45 dL_second_52 ?_
        refine xr_iadd C dL_second_53 ?_
        refine xr_topi (fun t46 e47 => ?_)
        have hw := hw t46 e47
        refine xr_iast C (t0 := 0) (r := 40) 0 rfl rfl (by decide) (N := 64) rfl g44 wA_st40 (by decide) dL_second_54 ?_
        refine xr_sig (fun σ48 e49 => ?_)
        have hw := hw σ48 e49
        refine xr_aload_n C 0 dL_second_55 rfl rfl ?_
        refine xr_iload_n C 3 dL_second_56 rfl rfl ?_
        refine xr_iconst C dL_second_57 ?_
        refine xr_iadd C dL_second_58 ?_
        refine xr_iald C (t0 := 0) 0 rfl rfl (by decide) (N := 64) rfl g39 dL_second_59 ?_
        obtain ⟨g50, hw⟩ := hw
        refine xr_if_ne C g50 67 dL_second_60 (by decide) (fun c51 => ?_) (fun c51 => ?_)
        · have hw := hw.1 c51
          refine xr_iconst C dL_second_67 ?_
          exact B68 K12 hK12 x1 x2 (7 * x2) 0 σ48 hw
        · have hw := hw.2 c51
          refine xr_iconst C dL_second_63 ?_
          refine xr_goto C 68 dL_second_64 (by decide) ?_
          exact B68 K12 hK12 x1 x2 (7 * x2) 1 σ48 hw
  show xX p l e rmL_second s m args below meth c D vwCl (va_A ((wA ad cI cJ cZ) σ) s.heap.size) (wA ad cI cJ cZ) [40] σ 0 0 (MQ below (xQi D (wA ad cI cJ cZ) [40] σ s.heap.size Q) args s 0 0 (va_A ((wA ad cI cJ cZ) σ) s.heap.size)) 6 σ 0 [(0, .ref (ad 40))] []
  unfold vL_second at hw
  refine xr_iconst C dL_second_0 ?_
  refine xr_istore_n C [(0, .ref (ad 40)), (1, .int (i32 0))] dL_second_1 rfl (by decide) rfl ?_
  refine xr_aload_n C 0 dL_second_2 rfl rfl ?_
  refine xr_bipush C dL_second_3 (by decide +kernel) ?_
  refine xr_dup2 C dL_second_5 rfl rfl ?_
  refine xr_iald C (t0 := 0) 0 rfl rfl (by decide) (N := 64) rfl ⟨by decide, by decide⟩ dL_second_6 ?_
  refine xr_iconst C dL_second_7 ?_
  refine xr_iadd C dL_second_8 ?_
  refine xr_iast C (t0 := 0) (r := 40) 0 rfl rfl (by decide) (N := 64) rfl ⟨by decide, by decide⟩ wA_st40 (by decide) dL_second_9 ?_
  refine xr_sig (fun σ52 e53 => ?_)
  have hw := hw σ52 e53
  refine xr_iconst C dL_second_10 ?_
  refine xr_istore_n C [(0, .ref (ad 40)), (1, .int (i32 0)), (2, .int (i32 0))] dL_second_11 rfl (by decide) rfl ?_
  exact L12 (0, 0, σ52) hw
abbrev rmL_passes : Room := { frames := 2, cells := 0, slots := 0, locals := 110 }
set_option maxHeartbeats 8000000 in
set_option maxRecDepth 100000 in
theorem mL_passes {l : Launch} {D : va_G} {ad : Nat → Nat} {cI cJ cZ : ClassId} (σ : xS) (a1 : Int) (Q : Int → xS → Prop) (hw : vL_passes a1 σ Q) : xMi False l yL_passes wsL_passes rmL_passes D (xtys cI cJ cZ) (wA ad cI cJ cZ) [40] σ [.ref (ad 40), .int (i32 a1)] Q := by
  refine xenter (F := [40]) (Qc := fun sz => xQi D (wA ad cI cJ cZ) [40] σ sz Q) (own := RL) (cc := cL_passes) (maxL := 4) (ret := some .int) (by decide) rfl rfl (Nat.le_of_ble_eq_true rfl) ?_
  intro p e s m args below meth c hargs C hr hnm
  have L4 : ∀ a, mu (vL_passes_4  Q) a → xX p l e rmL_passes s m args below meth c D vwCl (va_A ((wA ad cI cJ cZ) σ) s.heap.size) (wA ad cI cJ cZ) [40] σ 0 0 (MQ below (xQi D (wA ad cI cJ cZ) [40] σ s.heap.size Q) args s 0 0 (va_A ((wA ad cI cJ cZ) σ) s.heap.size)) 4 (a.2.2.2) 4 [(0, .ref (ad 40)), (1, .int (i32 (a.1))), (2, .int (i32 (a.2.1))), (3, .int (i32 (a.2.2.1)))] [] := by
    refine mu_ind (fun K4 hK4 a hw => ?_)
    obtain ⟨x1, x2, x3, σ0⟩ := a
    show xX p l e rmL_passes s m args below meth c D vwCl (va_A ((wA ad cI cJ cZ) σ) s.heap.size) (wA ad cI cJ cZ) [40] σ 0 0 (MQ below (xQi D (wA ad cI cJ cZ) [40] σ s.heap.size Q) args s 0 0 (va_A ((wA ad cI cJ cZ) σ) s.heap.size)) 4 σ0 4 [(0, .ref (ad 40)), (1, .int (i32 x1)), (2, .int (i32 x2)), (3, .int (i32 x3))] []
    unfold vL_passes_4 at hw
    refine xr_iload_n C 3 dL_passes_4 rfl rfl ?_
    refine xr_iload_n C 1 dL_passes_5 rfl rfl ?_
    obtain ⟨g1, hw⟩ := hw
    obtain ⟨g2, hw⟩ := hw
    refine xr_icmp_ge C g1 g2 22 dL_passes_6 (by decide) (fun c3 => ?_) (fun c3 => ?_)
    · have hw := hw.1 c3
      refine xr_iload_n C 2 dL_passes_22 rfl rfl ?_
      exact xr_iret C hr hw dL_passes_23
    · have hw := hw.2 c3
      refine xr_iload_n C 2 dL_passes_9 rfl rfl ?_
      refine xr_aload_n C 0 dL_passes_10 rfl rfl ?_
      refine xr_callSi C (As := [.ref (ad 40)]) (rest := [.int (i32 x2)]) (xSp_rf _ _) (by decide) (fun h => h) (mL_second σ0 _ hw) (va_cwS 1 C.2.2.2.2.1 gL_passes_L_second rfl rfl rfl (by decide +kernel) ⟨by decide, by decide⟩) rfl rfl (Nat.le_of_ble_eq_true rfl) ⟨by decide, by decide⟩ dL_passes_11 (fun r4 σ5 hw => ?_)
      refine xr_iadd C dL_passes_14 ?_
      refine xr_istore_n C [(0, .ref (ad 40)), (1, .int (i32 x1)), (2, .int (i32 (x2 + r4))), (3, .int (i32 x3))] dL_passes_15 rfl (by decide) rfl ?_
      refine xr_iinc C 3 [(0, .ref (ad 40)), (1, .int (i32 x1)), (2, .int (i32 (x2 + r4))), (3, .int (i32 (x3 + 1)))] dL_passes_16 rfl (by decide) rfl ?_
      refine xr_goto C 4 dL_passes_19 (by decide) ?_
      exact hK4 (x1, (x2 + r4), (x3 + 1), σ5) hw
  show xX p l e rmL_passes s m args below meth c D vwCl (va_A ((wA ad cI cJ cZ) σ) s.heap.size) (wA ad cI cJ cZ) [40] σ 0 0 (MQ below (xQi D (wA ad cI cJ cZ) [40] σ s.heap.size Q) args s 0 0 (va_A ((wA ad cI cJ cZ) σ) s.heap.size)) 4 σ 0 [(0, .ref (ad 40)), (1, .int (i32 a1))] []
  unfold vL_passes at hw
  refine xr_iconst C dL_passes_0 ?_
  refine xr_istore_n C [(0, .ref (ad 40)), (1, .int (i32 a1)), (2, .int (i32 0))] dL_passes_1 rfl (by decide) rfl ?_
  refine xr_iconst C dL_passes_2 ?_
  refine xr_istore_n C [(0, .ref (ad 40)), (1, .int (i32 a1)), (2, .int (i32 0)), (3, .int (i32 0))] dL_passes_3 rfl (by decide) rfl ?_
  exact L4 (a1, 0, 0, σ) hw
abbrev rmL_awaits : Room := { frames := 2, cells := 0, slots := 0, locals := 110 }
set_option maxHeartbeats 8000000 in
set_option maxRecDepth 100000 in
theorem mL_awaits {l : Launch} {D : va_G} {ad : Nat → Nat} {cI cJ cZ : ClassId} (σ : xS) (Q : Int → xS → Prop) (hw : vL_awaits σ Q) : xMi False l yL_awaits wsL_awaits rmL_awaits D (xtys cI cJ cZ) (wA ad cI cJ cZ) [40] σ [.ref (ad 40)] Q := by
  refine xenter (F := [40]) (Qc := fun sz => xQi D (wA ad cI cJ cZ) [40] σ sz Q) (own := RL) (cc := cL_awaits) (maxL := 3) (ret := some .int) (by decide) rfl rfl (Nat.le_of_ble_eq_true rfl) ?_
  intro p e s m args below meth c hargs C hr hnm
  have L7 : ∀ a, mu (vL_awaits_7  Q) a → xX p l e rmL_awaits s m args below meth c D vwCl (va_A ((wA ad cI cJ cZ) σ) s.heap.size) (wA ad cI cJ cZ) [40] σ 0 0 (MQ below (xQi D (wA ad cI cJ cZ) [40] σ s.heap.size Q) args s 0 0 (va_A ((wA ad cI cJ cZ) σ) s.heap.size)) 3 (a.2.2) 7 [(0, .ref (ad 40)), (1, .int (i32 (a.1))), (2, .int (i32 (a.2.1)))] [] := by
    refine mu_ind (fun K7 hK7 a hw => ?_)
    obtain ⟨x1, x2, σ0⟩ := a
    show xX p l e rmL_awaits s m args below meth c D vwCl (va_A ((wA ad cI cJ cZ) σ) s.heap.size) (wA ad cI cJ cZ) [40] σ 0 0 (MQ below (xQi D (wA ad cI cJ cZ) [40] σ s.heap.size Q) args s 0 0 (va_A ((wA ad cI cJ cZ) σ) s.heap.size)) 3 σ0 7 [(0, .ref (ad 40)), (1, .int (i32 x1)), (2, .int (i32 x2))] []
    unfold vL_awaits_7 at hw
    refine xr_iload_n C 2 dL_awaits_7 rfl rfl ?_
    obtain ⟨g1, hw⟩ := hw
    refine xr_if_eq C g1 30 dL_awaits_8 (by decide) (fun c2 => ?_) (fun c2 => ?_)
    · have hw := hw.1 c2
      refine xr_iload_n C 1 dL_awaits_30 rfl rfl ?_
      exact xr_iret C hr hw dL_awaits_31
    · have hw := hw.2 c2
      refine xr_iinc C 1 [(0, .ref (ad 40)), (1, .int (i32 (x1 + 1))), (2, .int (i32 x2))] dL_awaits_11 rfl (by decide) rfl ?_
      refine xr_aload_n C 0 dL_awaits_14 rfl rfl ?_
      refine xr_callSi C (As := [.ref (ad 40)]) (rest := []) (xSp_rf _ _) (by decide) (fun h => h) (mL_second σ0 _ hw) (va_cwS 1 C.2.2.2.2.1 gL_awaits_L_second rfl rfl rfl (by decide +kernel) ⟨by decide, by decide⟩) rfl rfl (Nat.le_of_ble_eq_true rfl) ⟨by decide, by decide⟩ dL_awaits_15 (fun r3 σ4 hw => ?_)
      obtain ⟨g5, hw⟩ := hw
      refine xr_if_ne C g5 25 dL_awaits_18 (by decide) (fun c6 => ?_) (fun c6 => ?_)
      · have hw := hw.1 c6
        refine xr_iconst C dL_awaits_25 ?_
        refine xr_istore_n C [(0, .ref (ad 40)), (1, .int (i32 (x1 + 1))), (2, .int (i32 0))] dL_awaits_26 rfl (by decide) rfl ?_
        refine xr_goto C 7 dL_awaits_27 (by decide) ?_
        exact hK7 ((x1 + 1), 0, σ4) hw
      · have hw := hw.2 c6
        refine xr_iconst C dL_awaits_21 ?_
        refine xr_goto C 26 dL_awaits_22 (by decide) ?_
        refine xr_istore_n C [(0, .ref (ad 40)), (1, .int (i32 (x1 + 1))), (2, .int (i32 1))] dL_awaits_26 rfl (by decide) rfl ?_
        refine xr_goto C 7 dL_awaits_27 (by decide) ?_
        exact hK7 ((x1 + 1), 1, σ4) hw
  show xX p l e rmL_awaits s m args below meth c D vwCl (va_A ((wA ad cI cJ cZ) σ) s.heap.size) (wA ad cI cJ cZ) [40] σ 0 0 (MQ below (xQi D (wA ad cI cJ cZ) [40] σ s.heap.size Q) args s 0 0 (va_A ((wA ad cI cJ cZ) σ) s.heap.size)) 3 σ 0 [(0, .ref (ad 40))] []
  unfold vL_awaits at hw
  refine xr_iconst C dL_awaits_0 ?_
  refine xr_istore_n C [(0, .ref (ad 40)), (1, .int (i32 0))] dL_awaits_1 rfl (by decide) rfl ?_
  refine xr_aload_n C 0 dL_awaits_2 rfl rfl ?_
  refine xr_callSi C (As := [.ref (ad 40)]) (rest := []) (xSp_rf _ _) (by decide) (fun h => h) (mL_runsAny σ _ hw) (va_cwS 1 C.2.2.2.2.1 gL_awaits_L_runsAny rfl rfl rfl (by decide +kernel) ⟨by decide, by decide⟩) rfl rfl (Nat.le_of_ble_eq_true rfl) ⟨by decide, by decide⟩ dL_awaits_3 (fun r7 σ8 hw => ?_)
  refine xr_istore_n C [(0, .ref (ad 40)), (1, .int (i32 0)), (2, .int (i32 r7))] dL_awaits_6 rfl (by decide) rfl ?_
  exact L7 (0, r7, σ8) hw
abbrev rmL_turns : Room := { frames := 0, cells := 0, slots := 0, locals := 64 }
set_option maxHeartbeats 8000000 in
set_option maxRecDepth 100000 in
theorem mL_turns {l : Launch} {D : va_G} {ad : Nat → Nat} {cI cJ cZ : ClassId} (σ : xS) (a1 : Int) (Q : xS → Prop) (hw : vL_turns a1 σ Q) : xMv False l yL_turns wsL_turns rmL_turns D (xtys cI cJ cZ) (wA ad cI cJ cZ) [40] σ [.ref (ad 40), .int (i32 a1)] Q := by
  refine xenter (F := [40]) (Qc := fun sz => xQv D (wA ad cI cJ cZ) [40] σ sz Q) (own := RL) (cc := cL_turns) (maxL := 4) (ret := none) (by decide) rfl rfl (Nat.le_of_ble_eq_true rfl) ?_
  intro p e s m args below meth c hargs C hr hnm
  have L12 : ∀ a, mu (vL_turns_12  Q) a → xX p l e rmL_turns s m args below meth c D vwCl (va_A ((wA ad cI cJ cZ) σ) s.heap.size) (wA ad cI cJ cZ) [40] σ 0 0 (MQ below (xQv D (wA ad cI cJ cZ) [40] σ s.heap.size Q) args s 0 0 (va_A ((wA ad cI cJ cZ) σ) s.heap.size)) 4 (a.2.2) 12 [(0, .ref (ad 40)), (2, .int (i32 (a.1))), (3, .int (i32 (a.2.1)))] [] := by
    refine mu_ind (fun K12 hK12 a hw => ?_)
    obtain ⟨x2, x3, σ0⟩ := a
    show xX p l e rmL_turns s m args below meth c D vwCl (va_A ((wA ad cI cJ cZ) σ) s.heap.size) (wA ad cI cJ cZ) [40] σ 0 0 (MQ below (xQv D (wA ad cI cJ cZ) [40] σ s.heap.size Q) args s 0 0 (va_A ((wA ad cI cJ cZ) σ) s.heap.size)) 4 σ0 12 [(0, .ref (ad 40)), (2, .int (i32 x2)), (3, .int (i32 x3))] []
    unfold vL_turns_12 at hw
    refine xr_iload_n C 2 dL_turns_12 rfl rfl ?_
    refine xr_aload_n C 0 dL_turns_13 rfl rfl ?_
    refine xr_bipush C dL_turns_14 (by decide +kernel) ?_
    refine xr_iald C (t0 := 0) 0 rfl rfl (by decide) (N := 64) rfl ⟨by decide, by decide⟩ dL_turns_16 ?_
    obtain ⟨g1, hw⟩ := hw
    obtain ⟨g2, hw⟩ := hw
    refine xr_icmp_ge C g1 g2 80 dL_turns_17 (by decide) (fun c3 => ?_) (fun c3 => ?_)
    · have hw := hw.1 c3
      refine xr_aload_n C 0 dL_turns_80 rfl rfl ?_
      refine xr_bipush C dL_turns_81 (by decide +kernel) ?_
      refine xr_dup2 C dL_turns_83 rfl rfl ?_
      refine xr_iald C (t0 := 0) 0 rfl rfl (by decide) (N := 64) rfl ⟨by decide, by decide⟩ dL_turns_84 ?_
      refine xr_iconst C dL_turns_85 ?_
      refine xr_iadd C dL_turns_86 ?_
      refine xr_iast C (t0 := 0) (r := 40) 0 rfl rfl (by decide) (N := 64) rfl ⟨by decide, by decide⟩ wA_st40 (by decide) dL_turns_87 ?_
      refine xr_sig (fun σ4 e5 => ?_)
      have hw := hw σ4 e5
      exact xr_vret C hr hw dL_turns_88
    · have hw := hw.2 c3
      refine xr_aload_n C 0 dL_turns_20 rfl rfl ?_
      refine xr_bipush C dL_turns_21 (by decide +kernel) ?_
      refine xr_iload_n C 2 dL_turns_23 rfl rfl ?_
      refine xr_imul C dL_turns_24 ?_
      refine xr_bipush C dL_turns_25 (by decide +kernel) ?_
      refine xr_iadd C dL_turns_27 ?_
      obtain ⟨g6, hw⟩ := hw
      refine xr_iald C (t0 := 0) 0 rfl rfl (by decide) (N := 64) rfl g6 dL_turns_28 ?_
      refine xr_iload_n C 1 dL_turns_29 rfl rfl ?_
      obtain ⟨g7, hw⟩ := hw
      obtain ⟨g8, hw⟩ := hw
      refine xr_icmp_ne C g7 g8 74 dL_turns_30 (by decide) (fun c9 => ?_) (fun c9 => ?_)
      · have hw := hw.1 c9
        refine xr_iinc C 2 [(0, .ref (ad 40)), (2, .int (i32 x2)), (3, .int (i32 (x3 + 1)))] dL_turns_74 rfl (by decide) rfl ?_
        refine xr_goto C 12 dL_turns_77 (by decide) ?_
        exact hK12 (x2, (x3 + 1), σ0) hw
      · have hw := hw.2 c9
        refine xr_aload_n C 0 dL_turns_33 rfl rfl ?_
        refine xr_bipush C dL_turns_34 (by decide +kernel) ?_
        refine xr_iload_n C 2 dL_turns_36 rfl rfl ?_
        refine xr_imul C dL_turns_37 ?_
        refine xr_iconst C dL_turns_38 ?_
        refine xr_iadd C dL_turns_39 ?_
        refine xr_aload_n C 0 dL_turns_40 rfl rfl ?_
        refine xr_bipush C dL_turns_41 (by decide +kernel) ?_
        refine xr_iload_n C 2 dL_turns_43 rfl rfl ?_
        refine xr_imul C dL_turns_44 ?_
        obtain ⟨g10, hw⟩ := hw
        refine xr_iald C (t0 := 0) 0 rfl rfl (by decide) (N := 64) rfl g10 dL_turns_45 ?_
        refine xr_aload_n C 0 dL_turns_46 rfl rfl ?_
        refine xr_bipush C dL_turns_47 (by decide +kernel) ?_
        refine xr_iload_n C 2 dL_turns_49 rfl rfl ?_
        refine xr_imul C dL_turns_50 ?_
        refine xr_iconst C dL_turns_51 ?_
        refine xr_iadd C dL_turns_52 ?_
        obtain ⟨g11, hw⟩ := hw
        refine xr_iald C (t0 := 0) 0 rfl rfl (by decide) (N := 64) rfl g11 dL_turns_53 ?_
        refine xr_isub C dL_turns_54 ?_
        refine xr_topi (fun t12 e13 => ?_)
        have hw := hw t12 e13
        refine xr_iast C (t0 := 0) (r := 40) 0 rfl rfl (by decide) (N := 64) rfl g11 wA_st40 (by decide) dL_turns_55 ?_
        refine xr_sig (fun σ14 e15 => ?_)
        have hw := hw σ14 e15
        refine xr_aload_n C 0 dL_turns_56 rfl rfl ?_
        refine xr_bipush C dL_turns_57 (by decide +kernel) ?_
        refine xr_iload_n C 2 dL_turns_59 rfl rfl ?_
        refine xr_imul C dL_turns_60 ?_
        refine xr_iconst C dL_turns_61 ?_
        refine xr_iadd C dL_turns_62 ?_
        refine xr_iconst C dL_turns_63 ?_
        obtain ⟨g16, hw⟩ := hw
        refine xr_iast C (t0 := 0) (r := 40) 0 rfl rfl (by decide) (N := 64) rfl g16 wA_st40 (by decide) dL_turns_64 ?_
        refine xr_sig (fun σ17 e18 => ?_)
        have hw := hw σ17 e18
        refine xr_aload_n C 0 dL_turns_65 rfl rfl ?_
        refine xr_bipush C dL_turns_66 (by decide +kernel) ?_
        refine xr_iload_n C 2 dL_turns_68 rfl rfl ?_
        refine xr_imul C dL_turns_69 ?_
        refine xr_iconst C dL_turns_70 ?_
        refine xr_iadd C dL_turns_71 ?_
        refine xr_iconst C dL_turns_72 ?_
        obtain ⟨g19, hw⟩ := hw
        refine xr_iast C (t0 := 0) (r := 40) 0 rfl rfl (by decide) (N := 64) rfl g19 wA_st40 (by decide) dL_turns_73 ?_
        refine xr_sig (fun σ20 e21 => ?_)
        have hw := hw σ20 e21
        refine xr_iinc C 2 [(0, .ref (ad 40)), (2, .int (i32 x2)), (3, .int (i32 (x3 + 1)))] dL_turns_74 rfl (by decide) rfl ?_
        refine xr_goto C 12 dL_turns_77 (by decide) ?_
        exact hK12 (x2, (x3 + 1), σ20) hw
  show xX p l e rmL_turns s m args below meth c D vwCl (va_A ((wA ad cI cJ cZ) σ) s.heap.size) (wA ad cI cJ cZ) [40] σ 0 0 (MQ below (xQv D (wA ad cI cJ cZ) [40] σ s.heap.size Q) args s 0 0 (va_A ((wA ad cI cJ cZ) σ) s.heap.size)) 4 σ 0 [(0, .ref (ad 40)), (1, .int (i32 a1))] []
  unfold vL_turns at hw
  refine xr_aload_n C 0 dL_turns_0 rfl rfl ?_
  refine xr_bipush C dL_turns_1 (by decide +kernel) ?_
  refine xr_iload_n C 1 dL_turns_3 rfl rfl ?_
  refine xr_imul C dL_turns_4 ?_
  refine xr_bipush C dL_turns_5 (by decide +kernel) ?_
  refine xr_iadd C dL_turns_7 ?_
  obtain ⟨g22, hw⟩ := hw
  refine xr_iald C (t0 := 0) 0 rfl rfl (by decide) (N := 64) rfl g22 dL_turns_8 ?_
  refine xr_topi (fun t23 e24 => ?_)
  have hw := hw t23 e24
  refine xr_istore_n C [(0, .ref (ad 40)), (1, .int (i32 a1)), (2, .int (i32 t23))] dL_turns_9 rfl (by decide) rfl ?_
  refine xr_iconst C dL_turns_10 ?_
  refine xr_istore_n C [(0, .ref (ad 40)), (1, .int (i32 a1)), (2, .int (i32 t23)), (3, .int (i32 0))] dL_turns_11 rfl (by decide) rfl ?_
  refine xr_sub C [0, 2, 3] [(0, .ref (ad 40)), (2, .int (i32 t23)), (3, .int (i32 0))] rfl ?_
  exact L12 (t23, 0, σ) hw
abbrev rmL_taps : Room := { frames := 0, cells := 0, slots := 0, locals := 64 }
set_option maxHeartbeats 8000000 in
set_option maxRecDepth 100000 in
theorem mL_taps {l : Launch} {D : va_G} {ad : Nat → Nat} {cI cJ cZ : ClassId} (σ : xS) (a1 : Int) (Q : Int → xS → Prop) (hw : vL_taps a1 σ Q) : xMi False l yL_taps wsL_taps rmL_taps D (xtys cI cJ cZ) (wA ad cI cJ cZ) [40] σ [.ref (ad 40), .int (i32 a1)] Q := by
  refine xenter (F := [40]) (Qc := fun sz => xQi D (wA ad cI cJ cZ) [40] σ sz Q) (own := RL) (cc := cL_taps) (maxL := 3) (ret := some .int) (by decide) rfl rfl (Nat.le_of_ble_eq_true rfl) ?_
  intro p e s m args below meth c hargs C hr hnm
  show xX p l e rmL_taps s m args below meth c D vwCl (va_A ((wA ad cI cJ cZ) σ) s.heap.size) (wA ad cI cJ cZ) [40] σ 0 0 (MQ below (xQi D (wA ad cI cJ cZ) [40] σ s.heap.size Q) args s 0 0 (va_A ((wA ad cI cJ cZ) σ) s.heap.size)) 3 σ 0 [(0, .ref (ad 40)), (1, .int (i32 a1))] []
  unfold vL_taps at hw
  refine xr_aload_n C 0 dL_taps_0 rfl rfl ?_
  refine xr_bipush C dL_taps_1 (by decide +kernel) ?_
  refine xr_iload_n C 1 dL_taps_3 rfl rfl ?_
  refine xr_imul C dL_taps_4 ?_
  refine xr_iconst C dL_taps_5 ?_
  refine xr_iadd C dL_taps_6 ?_
  obtain ⟨g1, hw⟩ := hw
  refine xr_iald C (t0 := 0) 0 rfl rfl (by decide) (N := 64) rfl g1 dL_taps_7 ?_
  refine xr_topi (fun t2 e3 => ?_)
  have hw := hw t2 e3
  refine xr_istore_n C [(0, .ref (ad 40)), (1, .int (i32 a1)), (2, .int (i32 t2))] dL_taps_8 rfl (by decide) rfl ?_
  refine xr_aload_n C 0 dL_taps_9 rfl rfl ?_
  refine xr_bipush C dL_taps_10 (by decide +kernel) ?_
  refine xr_iload_n C 1 dL_taps_12 rfl rfl ?_
  refine xr_imul C dL_taps_13 ?_
  refine xr_iconst C dL_taps_14 ?_
  refine xr_iadd C dL_taps_15 ?_
  refine xr_iconst C dL_taps_16 ?_
  refine xr_iast C (t0 := 0) (r := 40) 0 rfl rfl (by decide) (N := 64) rfl g1 wA_st40 (by decide) dL_taps_17 ?_
  refine xr_sig (fun σ4 e5 => ?_)
  have hw := hw σ4 e5
  refine xr_aload_n C 0 dL_taps_18 rfl rfl ?_
  refine xr_bipush C dL_taps_19 (by decide +kernel) ?_
  refine xr_iload_n C 1 dL_taps_21 rfl rfl ?_
  refine xr_imul C dL_taps_22 ?_
  refine xr_iconst C dL_taps_23 ?_
  refine xr_iadd C dL_taps_24 ?_
  refine xr_iconst C dL_taps_25 ?_
  obtain ⟨g6, hw⟩ := hw
  refine xr_iast C (t0 := 0) (r := 40) 0 rfl rfl (by decide) (N := 64) rfl g6 wA_st40 (by decide) dL_taps_26 ?_
  refine xr_sig (fun σ7 e8 => ?_)
  have hw := hw σ7 e8
  refine xr_aload_n C 0 dL_taps_27 rfl rfl ?_
  refine xr_bipush C dL_taps_28 (by decide +kernel) ?_
  refine xr_dup2 C dL_taps_30 rfl rfl ?_
  refine xr_iald C (t0 := 0) 0 rfl rfl (by decide) (N := 64) rfl ⟨by decide, by decide⟩ dL_taps_31 ?_
  refine xr_iconst C dL_taps_32 ?_
  refine xr_iadd C dL_taps_33 ?_
  refine xr_iast C (t0 := 0) (r := 40) 0 rfl rfl (by decide) (N := 64) rfl ⟨by decide, by decide⟩ wA_st40 (by decide) dL_taps_34 ?_
  refine xr_sig (fun σ9 e10 => ?_)
  have hw := hw σ9 e10
  refine xr_iload_n C 2 dL_taps_35 rfl rfl ?_
  exact xr_iret C hr hw dL_taps_36
