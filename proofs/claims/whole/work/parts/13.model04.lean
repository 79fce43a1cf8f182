abbrev rmX5_reads : Room := { frames := 4, cells := 0, slots := 0, locals := 151 }
set_option maxHeartbeats 8000000 in
set_option maxRecDepth 100000 in
theorem mX5_reads {l : Launch} {D : va_G} {ad : Nat → Nat} {cI cJ cZ : ClassId} (σ : xS) (Q : xS → Prop) (hw : vX5_reads σ Q) : xMv False l yX5_reads wsX5_reads rmX5_reads D (xtys cI cJ cZ) (wM ad cI cJ cZ) [20, 21, 22, 23, 24, 25, 26, 27, 28, 29, 30, 31, 32, 33] σ [.ref (ad 20)] Q := by
  refine xenter (F := [20, 21, 22, 23, 24, 25, 26, 27, 28, 29, 30, 31, 32, 33]) (Qc := fun sz => xQv D (wM ad cI cJ cZ) [20, 21, 22, 23, 24, 25, 26, 27, 28, 29, 30, 31, 32, 33] σ sz Q) (own := RX5) (cc := cX5_reads) (maxL := 1) (ret := none) (by decide) rfl rfl (Nat.le_of_ble_eq_true rfl) ?_
  intro p e s m args below meth c hargs C hr hnm
  have hinX5 : ∀ w ∈ u_ws RX5 TX5 22, w ∈ wsX5_reads := fun _ h => List.mem_cons_of_mem _ (List.mem_append_right _ h)
  have m0 : (Cond.fieldLink RX5 143 "SandBenchModel" "depth" "I") ∈ wsX5_reads := by decide +kernel
  have m1 : (Cond.fieldLink RX5 118 "SandBenchModel" "fault" "I") ∈ wsX5_reads := by decide +kernel
  have m2 : (Cond.fieldLink RX5 112 "SandBenchModel" "at" "I") ∈ wsX5_reads := by decide +kernel
  have m3 : (Cond.fieldLink RX5 109 "SandBenchModel" "textLength" "I") ∈ wsX5_reads := by decide +kernel
  have m4 : (Cond.fieldLink RX5 130 "SandBenchModel" "steps" "I") ∈ wsX5_reads := by decide +kernel
  have B108 : ∀ (K24 : xS → Prop) (hK24 : ∀ a, K24 a → xX p l e rmX5_reads s m args below meth c D vwCl (va_A ((wM ad cI cJ cZ) σ) s.heap.size) (wM ad cI cJ cZ) [20, 21, 22, 23, 24, 25, 26, 27, 28, 29, 30, 31, 32, 33] σ 0 0 (MQ below (xQv D (wM ad cI cJ cZ) [20, 21, 22, 23, 24, 25, 26, 27, 28, 29, 30, 31, 32, 33] σ s.heap.size Q) args s 0 0 (va_A ((wM ad cI cJ cZ) σ) s.heap.size)) 1 a 24 [(0, .ref (ad 20))] []) (σ0 : xS), vX5_reads_108 K24 Q σ0 → xX p l e rmX5_reads s m args below meth c D vwCl (va_A ((wM ad cI cJ cZ) σ) s.heap.size) (wM ad cI cJ cZ) [20, 21, 22, 23, 24, 25, 26, 27, 28, 29, 30, 31, 32, 33] σ 0 0 (MQ below (xQv D (wM ad cI cJ cZ) [20, 21, 22, 23, 24, 25, 26, 27, 28, 29, 30, 31, 32, 33] σ s.heap.size Q) args s 0 0 (va_A ((wM ad cI cJ cZ) σ) s.heap.size)) 1 σ0 108 [(0, .ref (ad 20))] [] := by
    intro K24 hK24 σ0 hw
    unfold vX5_reads_108 at hw
    refine xr_aload_n C 0 dX5_reads_108 rfl rfl ?_
    refine xr_callVv C (ci := 5) (q0 := 0) (As := []) (rest := []) (xSp_rf _ _) (by decide) (fun h => h) (mX5_readsStep σ0 _ hw) (cwV 0 C.2.2.2.2.1 gX5_reads_X5_readsStep rfl rfl rfl (by decide +kernel) ⟨by decide, by decide⟩) rfl rfl rfl rfl (Nat.le_of_ble_eq_true rfl) ⟨by decide, by decide⟩ dX5_reads_109 (fun σ2 hw => ?_)
    refine xr_goto C 24 dX5_reads_112 (by decide) ?_
    exact hK24 σ2 hw
  have B102 : ∀ (K24 : xS → Prop) (hK24 : ∀ a, K24 a → xX p l e rmX5_reads s m args below meth c D vwCl (va_A ((wM ad cI cJ cZ) σ) s.heap.size) (wM ad cI cJ cZ) [20, 21, 22, 23, 24, 25, 26, 27, 28, 29, 30, 31, 32, 33] σ 0 0 (MQ below (xQv D (wM ad cI cJ cZ) [20, 21, 22, 23, 24, 25, 26, 27, 28, 29, 30, 31, 32, 33] σ s.heap.size Q) args s 0 0 (va_A ((wM ad cI cJ cZ) σ) s.heap.size)) 1 a 24 [(0, .ref (ad 20))] []) (y1 : Int) (σ0 : xS), vX5_reads_102 K24 Q y1 σ0 → xX p l e rmX5_reads s m args below meth c D vwCl (va_A ((wM ad cI cJ cZ) σ) s.heap.size) (wM ad cI cJ cZ) [20, 21, 22, 23, 24, 25, 26, 27, 28, 29, 30, 31, 32, 33] σ 0 0 (MQ below (xQv D (wM ad cI cJ cZ) [20, 21, 22, 23, 24, 25, 26, 27, 28, 29, 30, 31, 32, 33] σ s.heap.size Q) args s 0 0 (va_A ((wM ad cI cJ cZ) σ) s.heap.size)) 1 σ0 102 [(0, .ref (ad 20))] [.int (i32 y1), .ref (ad 20)] := by
    intro K24 hK24 y1 σ0 hw
    unfold vX5_reads_102 at hw
    refine xr_callVv C (ci := 5) (q0 := 0) (As := [.int (i32 y1)]) (rest := []) (xSp_rf _ _) (by decide) (fun h => h) (mX5_needs σ0 y1 _ hw) (cwV 1 C.2.2.2.2.1 gX5_reads_X5_needs rfl rfl rfl (by decide +kernel) ⟨by decide, by decide⟩) rfl rfl rfl rfl (Nat.le_of_ble_eq_true rfl) ⟨by decide, by decide⟩ dX5_reads_102 (fun σ4 hw => ?_)
    refine xr_goto C 24 dX5_reads_105 (by decide) ?_
    exact hK24 σ4 hw
  have B50 : ∀ (K24 : xS → Prop) (hK24 : ∀ a, K24 a → xX p l e rmX5_reads s m args below meth c D vwCl (va_A ((wM ad cI cJ cZ) σ) s.heap.size) (wM ad cI cJ cZ) [20, 21, 22, 23, 24, 25, 26, 27, 28, 29, 30, 31, 32, 33] σ 0 0 (MQ below (xQv D (wM ad cI cJ cZ) [20, 21, 22, 23, 24, 25, 26, 27, 28, 29, 30, 31, 32, 33] σ s.heap.size Q) args s 0 0 (va_A ((wM ad cI cJ cZ) σ) s.heap.size)) 1 a 24 [(0, .ref (ad 20))] []) (σ0 : xS), vX5_reads_50 K24 Q σ0 → xX p l e rmX5_reads s m args below meth c D vwCl (va_A ((wM ad cI cJ cZ) σ) s.heap.size) (wM ad cI cJ cZ) [20, 21, 22, 23, 24, 25, 26, 27, 28, 29, 30, 31, 32, 33] σ 0 0 (MQ below (xQv D (wM ad cI cJ cZ) [20, 21, 22, 23, 24, 25, 26, 27, 28, 29, 30, 31, 32, 33] σ s.heap.size Q) args s 0 0 (va_A ((wM ad cI cJ cZ) σ) s.heap.size)) 1 σ0 50 [(0, .ref (ad 20))] [] := by
    intro K24 hK24 σ0 hw
    unfold vX5_reads_50 at hw
    refine xr_aload_n C 0 dX5_reads_50 rfl rfl ?_
    refine xr_callVi C (ci := 5) (q0 := 0) (As := []) (rest := []) (xSp_rf _ _) (by decide) (fun h => h) (mX5_next σ0 _ hw) (cwV 0 C.2.2.2.2.1 gX5_reads_X5_next rfl rfl rfl (by decide +kernel) ⟨by decide, by decide⟩) rfl rfl rfl rfl (Nat.le_of_ble_eq_true rfl) ⟨by decide, by decide⟩ dX5_reads_51 (fun r5 σ6 hw => ?_)
    refine xr_bipush C dX5_reads_54 (by decide +kernel) ?_
    obtain ⟨g7, hw⟩ := hw
    refine xr_icmp_ne C g7 ⟨by decide, by decide⟩ 108 dX5_reads_56 (by decide) (fun c8 => ?_) (fun c8 => ?_)
    · have hw := hw.1 c8
      exact B108 K24 hK24 σ6 hw
    · have hw := hw.2 c8
      refine xr_aload_n C 0 dX5_reads_59 rfl rfl ?_
      refine xr_get C hinX5 (N := 22) (ci := 5) (a := (ad 20)) 0 rfl rfl 11 (by decide) m0 rfl rfl dX5_reads_60 ?_
      obtain ⟨g9, hw⟩ := hw
      refine xr_if_le C g9 108 dX5_reads_63 (by decide) (fun c10 => ?_) (fun c10 => ?_)
      · have hw := hw.1 c10
        exact B108 K24 hK24 σ6 hw
      · have hw := hw.2 c10
        refine xr_aload_n C 0 dX5_reads_66 rfl rfl ?_
        refine xr_iconst C dX5_reads_67 ?_
        refine xr_callVv C (ci := 5) (q0 := 0) (As := [.int (i32 1)]) (rest := []) (xSp_rf _ _) (by decide) (fun h => h) (mX5_needs σ6 1 _ hw) (cwV 1 C.2.2.2.2.1 gX5_reads_X5_needs rfl rfl rfl (by decide +kernel) ⟨by decide, by decide⟩) rfl rfl rfl rfl (Nat.le_of_ble_eq_true rfl) ⟨by decide, by decide⟩ dX5_reads_68 (fun σ12 hw => ?_)
        refine xr_aload_n C 0 dX5_reads_71 rfl rfl ?_
        refine xr_dup C dX5_reads_72 rfl ?_
        refine xr_get C hinX5 (N := 22) (ci := 5) (a := (ad 20)) 0 rfl rfl 11 (by decide) m0 rfl rfl dX5_reads_73 ?_
        refine xr_iconst C dX5_reads_76 ?_
        refine xr_isub C dX5_reads_77 ?_
        refine xr_put C (r := 20) (x := ((σ12 20 11) - 1)) (ty := .int) hinX5 (N := 22) (ci := 5) tyX5 tyX5_ok nmX5 0 rfl rfl 11 (by decide) m0 rfl rfl (by decide +kernel) rfl rfl (Nat.le_of_ble_eq_true rfl) rfl (by decide) dX5_reads_78 ?_
        refine xr_sig (fun σ13 e14 => ?_)
        have hw := hw σ13 e14
        refine xr_aload_n C 0 dX5_reads_81 rfl rfl ?_
        refine xr_iconst C dX5_reads_82 ?_
        refine xr_iconst C dX5_reads_83 ?_
        refine xr_callVv C (ci := 5) (q0 := 0) (As := [.int (i32 5), .int (i32 0)]) (rest := []) (xSp_rf _ _) (by decide) (fun h => h) (mX5_adds σ13 5 0 _ hw) (cwV 2 C.2.2.2.2.1 gX5_reads_X5_adds rfl rfl rfl (by decide +kernel) ⟨by decide, by decide⟩) rfl rfl rfl rfl (Nat.le_of_ble_eq_true rfl) ⟨by decide, by decide⟩ dX5_reads_84 (fun σ16 hw => ?_)
        refine xr_aload_n C 0 dX5_reads_87 rfl rfl ?_
        refine xr_aload_n C 0 dX5_reads_88 rfl rfl ?_
        refine xr_callVi C (ci := 5) (q0 := 0) (As := []) (rest := [.ref (ad 20)]) (xSp_rf _ _) (by decide) (fun h => h) (mX5_next σ16 _ hw) (cwV 0 C.2.2.2.2.1 gX5_reads_X5_next rfl rfl rfl (by decide +kernel) ⟨by decide, by decide⟩) rfl rfl rfl rfl (Nat.le_of_ble_eq_true rfl) ⟨by decide, by decide⟩ dX5_reads_89 (fun r17 σ18 hw => ?_)
        refine xr_bipush C dX5_reads_92 (by decide +kernel) ?_
        obtain ⟨g19, hw⟩ := hw
        refine xr_icmp_ne C g19 ⟨by decide, by decide⟩ 101 dX5_reads_94 (by decide) (fun c20 => ?_) (fun c20 => ?_)
        · have hw := hw.1 c20
          refine xr_iconst C dX5_reads_101 ?_
          exact B102 K24 hK24 0 σ18 hw
        · have hw := hw.2 c20
          refine xr_iconst C dX5_reads_97 ?_
          refine xr_goto C 102 dX5_reads_98 (by decide) ?_
          exact B102 K24 hK24 1 σ18 hw
  have L24 : ∀ a, mu (vX5_reads_24  Q) a → xX p l e rmX5_reads s m args below meth c D vwCl (va_A ((wM ad cI cJ cZ) σ) s.heap.size) (wM ad cI cJ cZ) [20, 21, 22, 23, 24, 25, 26, 27, 28, 29, 30, 31, 32, 33] σ 0 0 (MQ below (xQv D (wM ad cI cJ cZ) [20, 21, 22, 23, 24, 25, 26, 27, 28, 29, 30, 31, 32, 33] σ s.heap.size Q) args s 0 0 (va_A ((wM ad cI cJ cZ) σ) s.heap.size)) 1 a 24 [(0, .ref (ad 20))] [] := by
    refine mu_ind (fun K24 hK24 a hw => ?_)
    obtain ⟨σ0, hs0⟩ : ∃ x, x = a := ⟨_, rfl⟩
    subst hs0
    show xX p l e rmX5_reads s m args below meth c D vwCl (va_A ((wM ad cI cJ cZ) σ) s.heap.size) (wM ad cI cJ cZ) [20, 21, 22, 23, 24, 25, 26, 27, 28, 29, 30, 31, 32, 33] σ 0 0 (MQ below (xQv D (wM ad cI cJ cZ) [20, 21, 22, 23, 24, 25, 26, 27, 28, 29, 30, 31, 32, 33] σ s.heap.size Q) args s 0 0 (va_A ((wM ad cI cJ cZ) σ) s.heap.size)) 1 σ0 24 [(0, .ref (ad 20))] []
    unfold vX5_reads_24 at hw
    refine xr_aload_n C 0 dX5_reads_24 rfl rfl ?_
    refine xr_get C hinX5 (N := 22) (ci := 5) (a := (ad 20)) 0 rfl rfl 10 (by decide) m1 rfl rfl dX5_reads_25 ?_
    refine xr_iconst C dX5_reads_28 ?_
    obtain ⟨g21, hw⟩ := hw
    refine xr_icmp_ne C g21 ⟨by decide, by decide⟩ 115 dX5_reads_29 (by decide) (fun c22 => ?_) (fun c22 => ?_)
    · have hw := hw.1 c22
      exact xr_vret C hr hw dX5_reads_115
    · have hw := hw.2 c22
      refine xr_aload_n C 0 dX5_reads_32 rfl rfl ?_
      refine xr_get C hinX5 (N := 22) (ci := 5) (a := (ad 20)) 0 rfl rfl 9 (by decide) m2 rfl rfl dX5_reads_33 ?_
      refine xr_aload_n C 0 dX5_reads_36 rfl rfl ?_
      refine xr_get C hinX5 (N := 22) (ci := 5) (a := (ad 20)) 0 rfl rfl 5 (by decide) m3 rfl rfl dX5_reads_37 ?_
      obtain ⟨g23, hw⟩ := hw
      obtain ⟨g24, hw⟩ := hw
      refine xr_icmp_lt C g23 g24 50 dX5_reads_40 (by decide) (fun c25 => ?_) (fun c25 => ?_)
      · have hw := hw.1 c25
        exact B50 K24 hK24 σ0 hw
      · have hw := hw.2 c25
        refine xr_aload_n C 0 dX5_reads_43 rfl rfl ?_
        refine xr_get C hinX5 (N := 22) (ci := 5) (a := (ad 20)) 0 rfl rfl 11 (by decide) m0 rfl rfl dX5_reads_44 ?_
        obtain ⟨g26, hw⟩ := hw
        refine xr_if_le C g26 115 dX5_reads_47 (by decide) (fun c27 => ?_) (fun c27 => ?_)
        · have hw := hw.1 c27
          exact xr_vret C hr hw dX5_reads_115
        · have hw := hw.2 c27
          exact B50 K24 hK24 σ0 hw
  show xX p l e rmX5_reads s m args below meth c D vwCl (va_A ((wM ad cI cJ cZ) σ) s.heap.size) (wM ad cI cJ cZ) [20, 21, 22, 23, 24, 25, 26, 27, 28, 29, 30, 31, 32, 33] σ 0 0 (MQ below (xQv D (wM ad cI cJ cZ) [20, 21, 22, 23, 24, 25, 26, 27, 28, 29, 30, 31, 32, 33] σ s.heap.size Q) args s 0 0 (va_A ((wM ad cI cJ cZ) σ) s.heap.size)) 1 σ 0 [(0, .ref (ad 20))] []
  unfold vX5_reads at hw
  refine xr_aload_n C 0 dX5_reads_0 rfl rfl ?_
  refine xr_iconst C dX5_reads_1 ?_
  refine xr_put C (r := 20) (x := 0) (ty := .int) hinX5 (N := 22) (ci := 5) tyX5 tyX5_ok nmX5 0 rfl rfl 9 (by decide) m2 rfl rfl (by decide +kernel) rfl rfl (Nat.le_of_ble_eq_true rfl) rfl (by decide) dX5_reads_2 ?_
  refine xr_sig (fun σ28 e29 => ?_)
  have hw := hw σ28 e29
  refine xr_aload_n C 0 dX5_reads_5 rfl rfl ?_
  refine xr_iconst C dX5_reads_6 ?_
  refine xr_put C (r := 20) (x := (-1)) (ty := .int) hinX5 (N := 22) (ci := 5) tyX5 tyX5_ok nmX5 0 rfl rfl 10 (by decide) m1 rfl rfl (by decide +kernel) rfl rfl (Nat.le_of_ble_eq_true rfl) rfl (by decide) dX5_reads_7 ?_
  refine xr_sig (fun σ30 e31 => ?_)
  have hw := hw σ30 e31
  refine xr_aload_n C 0 dX5_reads_10 rfl rfl ?_
  refine xr_iconst C dX5_reads_11 ?_
  refine xr_put C (r := 20) (x := 0) (ty := .int) hinX5 (N := 22) (ci := 5) tyX5 tyX5_ok nmX5 0 rfl rfl 8 (by decide) m4 rfl rfl (by decide +kernel) rfl rfl (Nat.le_of_ble_eq_true rfl) rfl (by decide) dX5_reads_12 ?_
  refine xr_sig (fun σ32 e33 => ?_)
  have hw := hw σ32 e33
  refine xr_aload_n C 0 dX5_reads_15 rfl rfl ?_
  refine xr_iconst C dX5_reads_16 ?_
  refine xr_put C (r := 20) (x := 0) (ty := .int) hinX5 (N := 22) (ci := 5) tyX5 tyX5_ok nmX5 0 rfl rfl 11 (by decide) m0 rfl rfl (by decide +kernel) rfl rfl (Nat.le_of_ble_eq_true rfl) rfl (by decide) dX5_reads_17 ?_
  refine xr_sig (fun σ34 e35 => ?_)
  have hw := hw σ34 e35
  refine xr_aload_n C 0 dX5_reads_20 rfl rfl ?_
  refine xr_callVv C (ci := 5) (q0 := 0) (As := []) (rest := []) (xSp_rf _ _) (by decide) (fun h => h) (mX5_blanks σ34 _ hw) (cwV 0 C.2.2.2.2.1 gX5_reads_X5_blanks rfl rfl rfl (by decide +kernel) ⟨by decide, by decide⟩) rfl rfl rfl rfl (Nat.le_of_ble_eq_true rfl) ⟨by decide, by decide⟩ dX5_reads_21 (fun σ37 hw => ?_)
  exact L24 σ37 hw
abbrev rmX5_fault : Room := { frames := 5, cells := 0, slots := 0, locals := 171 }
set_option maxHeartbeats 8000000 in
set_option maxRecDepth 100000 in
theorem mX5_fault {l : Launch} {D : va_G} {ad : Nat → Nat} {cI cJ cZ : ClassId} (σ : xS) (Q : Int → xS → Prop) (hw : vX5_fault σ Q) : xMi False l yX5_fault wsX5_fault rmX5_fault D (xtys cI cJ cZ) (wM ad cI cJ cZ) [20, 21, 22, 23, 24, 25, 26, 27, 28, 29, 30, 31, 32, 33] σ [.ref (ad 20)] Q := by
  refine xenter (F := [20, 21, 22, 23, 24, 25, 26, 27, 28, 29, 30, 31, 32, 33]) (Qc := fun sz => xQi D (wM ad cI cJ cZ) [20, 21, 22, 23, 24, 25, 26, 27, 28, 29, 30, 31, 32, 33] σ sz Q) (own := RX5) (cc := cX5_fault) (maxL := 1) (ret := some .int) (by decide) rfl rfl (Nat.le_of_ble_eq_true rfl) ?_
  intro p e s m args below meth c hargs C hr hnm
  have hinX5 : ∀ w ∈ u_ws RX5 TX5 22, w ∈ wsX5_fault := fun _ h => List.mem_cons_of_mem _ (List.mem_append_right _ h)
  have m0 : (Cond.fieldLink RX5 118 "SandBenchModel" "fault" "I") ∈ wsX5_fault := by decide +kernel
  show xX p l e rmX5_fault s m args below meth c D vwCl (va_A ((wM ad cI cJ cZ) σ) s.heap.size) (wM ad cI cJ cZ) [20, 21, 22, 23, 24, 25, 26, 27, 28, 29, 30, 31, 32, 33] σ 0 0 (MQ below (xQi D (wM ad cI cJ cZ) [20, 21, 22, 23, 24, 25, 26, 27, 28, 29, 30, 31, 32, 33] σ s.heap.size Q) args s 0 0 (va_A ((wM ad cI cJ cZ) σ) s.heap.size)) 1 σ 0 [(0, .ref (ad 20))] []
  unfold vX5_fault at hw
  refine xr_aload_n C 0 dX5_fault_0 rfl rfl ?_
  refine xr_callVv C (ci := 5) (q0 := 0) (As := []) (rest := []) (xSp_rf _ _) (by decide) (fun h => h) (mX5_reads σ _ hw) (cwV 0 C.2.2.2.2.1 gX5_fault_X5_reads rfl rfl rfl (by decide +kernel) ⟨by decide, by decide⟩) rfl rfl rfl rfl (Nat.le_of_ble_eq_true rfl) ⟨by decide, by decide⟩ dX5_fault_1 (fun σ2 hw => ?_)
  refine xr_aload_n C 0 dX5_fault_4 rfl rfl ?_
  refine xr_get C hinX5 (N := 22) (ci := 5) (a := (ad 20)) 0 rfl rfl 10 (by decide) m0 rfl rfl dX5_fault_5 ?_
  exact xr_iret C hr hw dX5_fault_8
abbrev rmX5_does : Room := { frames := 4, cells := 0, slots := 0, locals := 156 }
set_option maxHeartbeats 8000000 in
set_option maxRecDepth 100000 in
theorem mX5_does {l : Launch} {D : va_G} {ad : Nat → Nat} {cI cJ cZ : ClassId} (σ : xS) (a1 : Int) (Q : Int → xS → Prop) (hw : vX5_does a1 σ Q) : xMi False l yX5_does wsX5_does rmX5_does D (xtys cI cJ cZ) (wM ad cI cJ cZ) [20, 21, 22, 23, 24, 25, 26, 27, 28, 29, 30, 31, 32, 33] σ [.ref (ad 20), .int (i32 a1)] Q := by
  refine xenter (F := [20, 21, 22, 23, 24, 25, 26, 27, 28, 29, 30, 31, 32, 33]) (Qc := fun sz => xQi D (wM ad cI cJ cZ) [20, 21, 22, 23, 24, 25, 26, 27, 28, 29, 30, 31, 32, 33] σ sz Q) (own := RX5) (cc := cX5_does) (maxL := 3) (ret := some .boolean) (by decide) rfl rfl (Nat.le_of_ble_eq_true rfl) ?_
  intro p e s m args below meth c hargs C hr hnm
  have hinX5 : ∀ w ∈ u_ws RX5 TX5 22, w ∈ wsX5_does := fun _ h => List.mem_cons_of_mem _ (List.mem_append_right _ h)
  have m0 : (Cond.fieldLink RX5 7 "SandBenchModel" "m" "[I") ∈ wsX5_does := by decide +kernel
  have m1 : (Cond.fieldLink RX5 22 "SandBenchModel" "step" "[I") ∈ wsX5_does := by decide +kernel
  have m2 : (Cond.fieldLink RX5 25 "SandBenchModel" "its" "[I") ∈ wsX5_does := by decide +kernel
  have B79 : ∀ (y0 : Int) (σ0 : xS), vX5_does_79  Q y0 σ0 → xX p l e rmX5_does s m args below meth c D vwCl (va_A ((wM ad cI cJ cZ) σ) s.heap.size) (wM ad cI cJ cZ) [20, 21, 22, 23, 24, 25, 26, 27, 28, 29, 30, 31, 32, 33] σ 0 0 (MQ below (xQi D (wM ad cI cJ cZ) [20, 21, 22, 23, 24, 25, 26, 27, 28, 29, 30, 31, 32, 33] σ s.heap.size Q) args s 0 0 (va_A ((wM ad cI cJ cZ) σ) s.heap.size)) 3 σ0 79 [(0, .ref (ad 20))] [.int (i32 y0)] := by
    intro y0 σ0 hw
    unfold vX5_does_79 at hw
    refine xr_istore_n C [(0, .ref (ad 20)), (2, .int (i32 y0))] dX5_does_79 rfl (by decide) rfl ?_
    refine xr_aload_n C 0 dX5_does_80 rfl rfl ?_
    refine xr_get C hinX5 (N := 22) (ci := 5) (a := (ad 20)) 0 rfl rfl 0 (by decide) m0 rfl rfl dX5_does_81 ?_
    refine xr_bipush C dX5_does_84 (by decide +kernel) ?_
    refine xr_iald C (t0 := 0) 1 rfl rfl (by decide) (N := 64) rfl ⟨by decide, by decide⟩ dX5_does_86 ?_
    refine xr_iload_n C 1 dX5_does_87 rfl rfl ?_
    refine xr_iadd C dX5_does_88 ?_
    refine xr_sipush C dX5_does_89 (by decide +kernel) ?_
    obtain ⟨g1, hw⟩ := hw
    refine xr_icmp_le C g1 ⟨by decide, by decide⟩ 97 dX5_does_92 (by decide) (fun c2 => ?_) (fun c2 => ?_)
    · have hw := hw.1 c2
      refine xr_aload_n C 0 dX5_does_97 rfl rfl ?_
      refine xr_iload_n C 1 dX5_does_98 rfl rfl ?_
      refine xr_callVi C (ci := 5) (q0 := 0) (As := [.int (i32 y0)]) (rest := []) (xSp_rf _ _) (by decide) (fun h => h) (mX5_passes σ0 y0 _ hw) (cwV 1 C.2.2.2.2.1 gX5_does_X5_passes rfl rfl rfl (by decide +kernel) ⟨by decide, by decide⟩) rfl rfl rfl rfl (Nat.le_of_ble_eq_true rfl) ⟨by decide, by decide⟩ dX5_does_99 (fun r3 σ4 hw => ?_)
      obtain ⟨g5, hw⟩ := hw
      refine xr_if_lt C g5 109 dX5_does_102 (by decide) (fun c6 => ?_) (fun c6 => ?_)
      · have hw := hw.1 c6
        refine xr_iconst C dX5_does_109 ?_
        exact xr_zret C hr (Or.inl rfl) hw dX5_does_110
      · have hw := hw.2 c6
        refine xr_iconst C dX5_does_105 ?_
        refine xr_goto C 110 dX5_does_106 (by decide) ?_
        exact xr_zret C hr (Or.inr rfl) hw dX5_does_110
    · have hw := hw.2 c2
      refine xr_iconst C dX5_does_95 ?_
      exact xr_zret C hr (Or.inl rfl) hw dX5_does_96
  show xX p l e rmX5_does s m args below meth c D vwCl (va_A ((wM ad cI cJ cZ) σ) s.heap.size) (wM ad cI cJ cZ) [20, 21, 22, 23, 24, 25, 26, 27, 28, 29, 30, 31, 32, 33] σ 0 0 (MQ below (xQi D (wM ad cI cJ cZ) [20, 21, 22, 23, 24, 25, 26, 27, 28, 29, 30, 31, 32, 33] σ s.heap.size Q) args s 0 0 (va_A ((wM ad cI cJ cZ) σ) s.heap.size)) 3 σ 0 [(0, .ref (ad 20)), (1, .int (i32 a1))] []
  unfold vX5_does at hw
  refine xr_aload_n C 0 dX5_does_0 rfl rfl ?_
  refine xr_get C hinX5 (N := 22) (ci := 5) (a := (ad 20)) 0 rfl rfl 6 (by decide) m1 rfl rfl dX5_does_1 ?_
  refine xr_iload_n C 1 dX5_does_4 rfl rfl ?_
  obtain ⟨g7, hw⟩ := hw
  refine xr_iald C (t0 := 0) 5 rfl rfl (by decide) (N := 60) rfl g7 dX5_does_5 ?_
  refine xr_iconst C dX5_does_6 ?_
  obtain ⟨g8, hw⟩ := hw
  refine xr_icmp_ge C g8 ⟨by decide, by decide⟩ 45 dX5_does_7 (by decide) (fun c9 => ?_) (fun c9 => ?_)
  · have hw := hw.1 c9
    refine xr_aload_n C 0 dX5_does_45 rfl rfl ?_
    refine xr_get C hinX5 (N := 22) (ci := 5) (a := (ad 20)) 0 rfl rfl 6 (by decide) m1 rfl rfl dX5_does_46 ?_
    refine xr_iload_n C 1 dX5_does_49 rfl rfl ?_
    refine xr_iald C (t0 := 0) 5 rfl rfl (by decide) (N := 60) rfl g7 dX5_does_50 ?_
    refine xr_iconst C dX5_does_51 ?_
    refine xr_icmp_ne C g8 ⟨by decide, by decide⟩ 64 dX5_does_52 (by decide) (fun c10 => ?_) (fun c10 => ?_)
    · have hw := hw.1 c10
      refine xr_aload_n C 0 dX5_does_64 rfl rfl ?_
      refine xr_callVi C (ci := 5) (q0 := 0) (As := []) (rest := []) (xSp_rf _ _) (by decide) (fun h => h) (mX5_runsAny σ _ hw) (cwV 0 C.2.2.2.2.1 gX5_does_X5_runsAny rfl rfl rfl (by decide +kernel) ⟨by decide, by decide⟩) rfl rfl rfl rfl (Nat.le_of_ble_eq_true rfl) ⟨by decide, by decide⟩ dX5_does_65 (fun r11 σ12 hw => ?_)
      obtain ⟨g13, hw⟩ := hw
      refine xr_if_eq C g13 78 dX5_does_68 (by decide) (fun c14 => ?_) (fun c14 => ?_)
      · have hw := hw.1 c14
        refine xr_iconst C dX5_does_78 ?_
        refine xr_sub C [0] [(0, .ref (ad 20))] rfl ?_
        exact B79 0 σ12 hw
      · have hw := hw.2 c14
        refine xr_aload_n C 0 dX5_does_71 rfl rfl ?_
        refine xr_callVi C (ci := 5) (q0 := 0) (As := []) (rest := []) (xSp_rf _ _) (by decide) (fun h => h) (mX5_untilEvent σ12 _ hw) (cwV 0 C.2.2.2.2.1 gX5_does_X5_untilEvent rfl rfl rfl (by decide +kernel) ⟨by decide, by decide⟩) rfl rfl rfl rfl (Nat.le_of_ble_eq_true rfl) ⟨by decide, by decide⟩ dX5_does_72 (fun r15 σ16 hw => ?_)
        refine xr_goto C 79 dX5_does_75 (by decide) ?_
        refine xr_sub C [0] [(0, .ref (ad 20))] rfl ?_
        exact B79 r15 σ16 hw
    · have hw := hw.2 c10
      refine xr_aload_n C 0 dX5_does_55 rfl rfl ?_
      refine xr_get C hinX5 (N := 22) (ci := 5) (a := (ad 20)) 0 rfl rfl 7 (by decide) m2 rfl rfl dX5_does_56 ?_
      refine xr_iload_n C 1 dX5_does_59 rfl rfl ?_
      refine xr_iald C (t0 := 0) 6 rfl rfl (by decide) (N := 60) rfl g7 dX5_does_60 ?_
      refine xr_goto C 79 dX5_does_61 (by decide) ?_
      refine xr_sub C [0] [(0, .ref (ad 20))] rfl ?_
      exact B79 (σ 26 (a1.toNat)) σ hw
  · have hw := hw.2 c9
    refine xr_aload_n C 0 dX5_does_10 rfl rfl ?_
    refine xr_get C hinX5 (N := 22) (ci := 5) (a := (ad 20)) 0 rfl rfl 6 (by decide) m1 rfl rfl dX5_does_11 ?_
    refine xr_iload_n C 1 dX5_does_14 rfl rfl ?_
    refine xr_iald C (t0 := 0) 5 rfl rfl (by decide) (N := 60) rfl g7 dX5_does_15 ?_
    refine xr_if_ne C g8 32 dX5_does_16 (by decide) (fun c17 => ?_) (fun c17 => ?_)
    · have hw := hw.1 c17
      refine xr_aload_n C 0 dX5_does_32 rfl rfl ?_
      refine xr_aload_n C 0 dX5_does_33 rfl rfl ?_
      refine xr_get C hinX5 (N := 22) (ci := 5) (a := (ad 20)) 0 rfl rfl 7 (by decide) m2 rfl rfl dX5_does_34 ?_
      refine xr_iload_n C 1 dX5_does_37 rfl rfl ?_
      refine xr_iald C (t0 := 0) 6 rfl rfl (by decide) (N := 60) rfl g7 dX5_does_38 ?_
      refine xr_callVi C (ci := 5) (q0 := 0) (As := [.int (i32 (σ 26 (a1.toNat)))]) (rest := []) (xSp_rf _ _) (by decide) (fun h => h) (mX5_taps σ (σ 26 (a1.toNat)) _ hw) (cwV 1 C.2.2.2.2.1 gX5_does_X5_taps rfl rfl rfl (by decide +kernel) ⟨by decide, by decide⟩) rfl rfl rfl rfl (Nat.le_of_ble_eq_true rfl) ⟨by decide, by decide⟩ dX5_does_39 (fun r18 σ19 hw => ?_)
      refine xr_pop C dX5_does_42 rfl ?_
      refine xr_iconst C dX5_does_43 ?_
      exact xr_zret C hr (Or.inr rfl) hw dX5_does_44
    · have hw := hw.2 c17
      refine xr_aload_n C 0 dX5_does_19 rfl rfl ?_
      refine xr_aload_n C 0 dX5_does_20 rfl rfl ?_
      refine xr_get C hinX5 (N := 22) (ci := 5) (a := (ad 20)) 0 rfl rfl 7 (by decide) m2 rfl rfl dX5_does_21 ?_
      refine xr_iload_n C 1 dX5_does_24 rfl rfl ?_
      refine xr_iald C (t0 := 0) 6 rfl rfl (by decide) (N := 60) rfl g7 dX5_does_25 ?_
      refine xr_callVv C (ci := 5) (q0 := 0) (As := [.int (i32 (σ 26 (a1.toNat)))]) (rest := []) (xSp_rf _ _) (by decide) (fun h => h) (mX5_turns σ (σ 26 (a1.toNat)) _ hw) (cwV 1 C.2.2.2.2.1 gX5_does_X5_turns rfl rfl rfl (by decide +kernel) ⟨by decide, by decide⟩) rfl rfl rfl rfl (Nat.le_of_ble_eq_true rfl) ⟨by decide, by decide⟩ dX5_does_26 (fun σ21 hw => ?_)
      refine xr_goto C 43 dX5_does_29 (by decide) ?_
      refine xr_iconst C dX5_does_43 ?_
      exact xr_zret C hr (Or.inr rfl) hw dX5_does_44
abbrev rmX5_runsScript : Room := { frames := 5, cells := 0, slots := 0, locals := 178 }
set_option maxHeartbeats 8000000 in
set_option maxRecDepth 100000 in
theorem mX5_runsScript {l : Launch} {D : va_G} {ad : Nat → Nat} {cI cJ cZ : ClassId} (σ : xS) (Q : Int → xS → Prop) (hw : vX5_runsScript σ Q) : xMi False l yX5_runsScript wsX5_runsScript rmX5_runsScript D (xtys cI cJ cZ) (wM ad cI cJ cZ) [20, 21, 22, 23, 24, 25, 26, 27, 28, 29, 30, 31, 32, 33] σ [.ref (ad 20)] Q := by
  refine xenter (F := [20, 21, 22, 23, 24, 25, 26, 27, 28, 29, 30, 31, 32, 33]) (Qc := fun sz => xQi D (wM ad cI cJ cZ) [20, 21, 22, 23, 24, 25, 26, 27, 28, 29, 30, 31, 32, 33] σ sz Q) (own := RX5) (cc := cX5_runsScript) (maxL := 4) (ret := some .int) (by decide) rfl rfl (Nat.le_of_ble_eq_true rfl) ?_
  intro p e s m args below meth c hargs C hr hnm
  have hinX5 : ∀ w ∈ u_ws RX5 TX5 22, w ∈ wsX5_runsScript := fun _ h => List.mem_cons_of_mem _ (List.mem_append_right _ h)
  have m0 : (Cond.fieldLink RX5 31 "SandBenchModel" "left" "[I") ∈ wsX5_runsScript := by decide +kernel
  have m1 : (Cond.fieldLink RX5 130 "SandBenchModel" "steps" "I") ∈ wsX5_runsScript := by decide +kernel
  have m2 : (Cond.fieldLink RX5 22 "SandBenchModel" "step" "[I") ∈ wsX5_runsScript := by decide +kernel
  have m3 : (Cond.fieldLink RX5 28 "SandBenchModel" "begin" "[I") ∈ wsX5_runsScript := by decide +kernel
  have m4 : (Cond.fieldLink RX5 25 "SandBenchModel" "its" "[I") ∈ wsX5_runsScript := by decide +kernel
  have B94 : ∀ (K6 : Int × Int × Int × xS → Prop) (hK6 : ∀ a, K6 a → xX p l e rmX5_runsScript s m args below meth c D vwCl (va_A ((wM ad cI cJ cZ) σ) s.heap.size) (wM ad cI cJ cZ) [20, 21, 22, 23, 24, 25, 26, 27, 28, 29, 30, 31, 32, 33] σ 0 0 (MQ below (xQi D (wM ad cI cJ cZ) [20, 21, 22, 23, 24, 25, 26, 27, 28, 29, 30, 31, 32, 33] σ s.heap.size Q) args s 0 0 (va_A ((wM ad cI cJ cZ) σ) s.heap.size)) 4 (a.2.2.2) 6 [(0, .ref (ad 20)), (1, .int (i32 (a.1))), (2, .int (i32 (a.2.1))), (3, .int (i32 (a.2.2.1)))] []) (x1 x2 y0 : Int) (σ0 : xS), vX5_runsScript_94 K6 Q x1 x2 y0 σ0 → xX p l e rmX5_runsScript s m args below meth c D vwCl (va_A ((wM ad cI cJ cZ) σ) s.heap.size) (wM ad cI cJ cZ) [20, 21, 22, 23, 24, 25, 26, 27, 28, 29, 30, 31, 32, 33] σ 0 0 (MQ below (xQi D (wM ad cI cJ cZ) [20, 21, 22, 23, 24, 25, 26, 27, 28, 29, 30, 31, 32, 33] σ s.heap.size Q) args s 0 0 (va_A ((wM ad cI cJ cZ) σ) s.heap.size)) 4 σ0 94 [(0, .ref (ad 20)), (1, .int (i32 x1)), (2, .int (i32 x2))] [.int (i32 y0)] := by
    intro K6 hK6 x1 x2 y0 σ0 hw
    unfold vX5_runsScript_94 at hw
    refine xr_istore_n C [(0, .ref (ad 20)), (1, .int (i32 x1)), (2, .int (i32 x2)), (3, .int (i32 y0))] dX5_runsScript_94 rfl (by decide) rfl ?_
    refine xr_iload_n C 2 dX5_runsScript_95 rfl rfl ?_
    refine xr_aload_n C 0 dX5_runsScript_96 rfl rfl ?_
    refine xr_get C hinX5 (N := 22) (ci := 5) (a := (ad 20)) 0 rfl rfl 13 (by decide) m0 rfl rfl dX5_runsScript_97 ?_
    refine xr_iload_n C 2 dX5_runsScript_100 rfl rfl ?_
    refine xr_iconst C dX5_runsScript_101 ?_
    refine xr_isub C dX5_runsScript_102 ?_
    obtain ⟨g1, hw⟩ := hw
    refine xr_iald C (t0 := 0) 8 rfl rfl (by decide) (N := 2) rfl g1 dX5_runsScript_103 ?_
    obtain ⟨g2, hw⟩ := hw
    refine xr_if_le C g2 111 dX5_runsScript_104 (by decide) (fun c3 => ?_) (fun c3 => ?_)
    · have hw := hw.1 c3
      refine xr_iconst C dX5_runsScript_111 ?_
      refine xr_isub C dX5_runsScript_112 ?_
      refine xr_istore_n C [(0, .ref (ad 20)), (1, .int (i32 x1)), (2, .int (i32 (x2 - 1))), (3, .int (i32 y0))] dX5_runsScript_113 rfl (by decide) rfl ?_
      refine xr_goto C 136 dX5_runsScript_114 (by decide) ?_
      refine xr_iinc C 3 [(0, .ref (ad 20)), (1, .int (i32 x1)), (2, .int (i32 (x2 - 1))), (3, .int (i32 (y0 + 1)))] dX5_runsScript_136 rfl (by decide) rfl ?_
      refine xr_goto C 6 dX5_runsScript_139 (by decide) ?_
      exact hK6 (x1, (x2 - 1), (y0 + 1), σ0) hw
    · have hw := hw.2 c3
      refine xr_iconst C dX5_runsScript_107 ?_
      refine xr_goto C 112 dX5_runsScript_108 (by decide) ?_
      refine xr_isub C dX5_runsScript_112 ?_
      refine xr_istore_n C [(0, .ref (ad 20)), (1, .int (i32 x1)), (2, .int (i32 (x2 - 0))), (3, .int (i32 y0))] dX5_runsScript_113 rfl (by decide) rfl ?_
      refine xr_goto C 136 dX5_runsScript_114 (by decide) ?_
      refine xr_iinc C 3 [(0, .ref (ad 20)), (1, .int (i32 x1)), (2, .int (i32 (x2 - 0))), (3, .int (i32 (y0 + 1)))] dX5_runsScript_136 rfl (by decide) rfl ?_
      refine xr_goto C 6 dX5_runsScript_139 (by decide) ?_
      exact hK6 (x1, (x2 - 0), (y0 + 1), σ0) hw
  have L6 : ∀ a, mu (vX5_runsScript_6  Q) a → xX p l e rmX5_runsScript s m args below meth c D vwCl (va_A ((wM ad cI cJ cZ) σ) s.heap.size) (wM ad cI cJ cZ) [20, 21, 22, 23, 24, 25, 26, 27, 28, 29, 30, 31, 32, 33] σ 0 0 (MQ below (xQi D (wM ad cI cJ cZ) [20, 21, 22, 23, 24, 25, 26, 27, 28, 29, 30, 31, 32, 33] σ s.heap.size Q) args s 0 0 (va_A ((wM ad cI cJ cZ) σ) s.heap.size)) 4 (a.2.2.2) 6 [(0, .ref (ad 20)), (1, .int (i32 (a.1))), (2, .int (i32 (a.2.1))), (3, .int (i32 (a.2.2.1)))] [] := by
    refine mu_ind (fun K6 hK6 a hw => ?_)
    obtain ⟨x1, x2, x3, σ0⟩ := a
    show xX p l e rmX5_runsScript s m args below meth c D vwCl (va_A ((wM ad cI cJ cZ) σ) s.heap.size) (wM ad cI cJ cZ) [20, 21, 22, 23, 24, 25, 26, 27, 28, 29, 30, 31, 32, 33] σ 0 0 (MQ below (xQi D (wM ad cI cJ cZ) [20, 21, 22, 23, 24, 25, 26, 27, 28, 29, 30, 31, 32, 33] σ s.heap.size Q) args s 0 0 (va_A ((wM ad cI cJ cZ) σ) s.heap.size)) 4 σ0 6 [(0, .ref (ad 20)), (1, .int (i32 x1)), (2, .int (i32 x2)), (3, .int (i32 x3))] []
    unfold vX5_runsScript_6 at hw
    refine xr_iload_n C 3 dX5_runsScript_6 rfl rfl ?_
    refine xr_aload_n C 0 dX5_runsScript_7 rfl rfl ?_
    refine xr_get C hinX5 (N := 22) (ci := 5) (a := (ad 20)) 0 rfl rfl 8 (by decide) m1 rfl rfl dX5_runsScript_8 ?_
    obtain ⟨g4, hw⟩ := hw
    obtain ⟨g5, hw⟩ := hw
    refine xr_icmp_ge C g4 g5 142 dX5_runsScript_11 (by decide) (fun c6 => ?_) (fun c6 => ?_)
    · have hw := hw.1 c6
      refine xr_iload_n C 1 dX5_runsScript_142 rfl rfl ?_
      exact xr_iret C hr hw dX5_runsScript_143
    · have hw := hw.2 c6
      refine xr_aload_n C 0 dX5_runsScript_14 rfl rfl ?_
      refine xr_get C hinX5 (N := 22) (ci := 5) (a := (ad 20)) 0 rfl rfl 6 (by decide) m2 rfl rfl dX5_runsScript_15 ?_
      refine xr_iload_n C 3 dX5_runsScript_18 rfl rfl ?_
      obtain ⟨g7, hw⟩ := hw
      refine xr_iald C (t0 := 0) 5 rfl rfl (by decide) (N := 60) rfl g7 dX5_runsScript_19 ?_
      refine xr_iconst C dX5_runsScript_20 ?_
      obtain ⟨g8, hw⟩ := hw
      refine xr_icmp_ne C g8 ⟨by decide, by decide⟩ 49 dX5_runsScript_21 (by decide) (fun c9 => ?_) (fun c9 => ?_)
      · have hw := hw.1 c9
        refine xr_aload_n C 0 dX5_runsScript_49 rfl rfl ?_
        refine xr_get C hinX5 (N := 22) (ci := 5) (a := (ad 20)) 0 rfl rfl 6 (by decide) m2 rfl rfl dX5_runsScript_50 ?_
        refine xr_iload_n C 3 dX5_runsScript_53 rfl rfl ?_
        refine xr_iald C (t0 := 0) 5 rfl rfl (by decide) (N := 60) rfl g7 dX5_runsScript_54 ?_
        refine xr_iconst C dX5_runsScript_55 ?_
        refine xr_icmp_ne C g8 ⟨by decide, by decide⟩ 117 dX5_runsScript_56 (by decide) (fun c10 => ?_) (fun c10 => ?_)
        · have hw := hw.1 c10
          refine xr_iload_n C 1 dX5_runsScript_117 rfl rfl ?_
          refine xr_bipush C dX5_runsScript_118 (by decide +kernel) ?_
          obtain ⟨g11, hw⟩ := hw
          refine xr_icmp_eq C g11 ⟨by decide, by decide⟩ 131 dX5_runsScript_120 (by decide) (fun c12 => ?_) (fun c12 => ?_)
          · have hw := hw.1 c12
            refine xr_iload_n C 1 dX5_runsScript_131 rfl rfl ?_
            exact xr_iret C hr hw dX5_runsScript_132
          · have hw := hw.2 c12
            refine xr_aload_n C 0 dX5_runsScript_123 rfl rfl ?_
            refine xr_iload_n C 3 dX5_runsScript_124 rfl rfl ?_
            refine xr_callVi C (ci := 5) (q0 := 0) (As := [.int (i32 x3)]) (rest := []) (xSp_rf _ _) (by decide) (fun h => h) (mX5_does σ0 x3 _ hw) (cwV 1 C.2.2.2.2.1 gX5_runsScript_X5_does rfl rfl rfl (by decide +kernel) ⟨by decide, by decide⟩) rfl rfl rfl rfl (Nat.le_of_ble_eq_true rfl) ⟨by decide, by decide⟩ dX5_runsScript_125 (fun r13 σ14 hw => ?_)
            obtain ⟨g15, hw⟩ := hw
            refine xr_if_ne C g15 133 dX5_runsScript_128 (by decide) (fun c16 => ?_) (fun c16 => ?_)
            · have hw := hw.1 c16
              refine xr_iinc C 1 [(0, .ref (ad 20)), (1, .int (i32 (x1 + 1))), (2, .int (i32 x2)), (3, .int (i32 x3))] dX5_runsScript_133 rfl (by decide) rfl ?_
              refine xr_iinc C 3 [(0, .ref (ad 20)), (1, .int (i32 (x1 + 1))), (2, .int (i32 x2)), (3, .int (i32 (x3 + 1)))] dX5_runsScript_136 rfl (by decide) rfl ?_
              refine xr_goto C 6 dX5_runsScript_139 (by decide) ?_
              exact hK6 ((x1 + 1), x2, (x3 + 1), σ14) hw
            · have hw := hw.2 c16
              refine xr_iload_n C 1 dX5_runsScript_131 rfl rfl ?_
              exact xr_iret C hr hw dX5_runsScript_132
        · have hw := hw.2 c10
          refine xr_aload_n C 0 dX5_runsScript_59 rfl rfl ?_
          refine xr_get C hinX5 (N := 22) (ci := 5) (a := (ad 20)) 0 rfl rfl 13 (by decide) m0 rfl rfl dX5_runsScript_60 ?_
          refine xr_iload_n C 2 dX5_runsScript_63 rfl rfl ?_
          refine xr_iconst C dX5_runsScript_64 ?_
          refine xr_isub C dX5_runsScript_65 ?_
          refine xr_dup2 C dX5_runsScript_66 rfl rfl ?_
          obtain ⟨g17, hw⟩ := hw
          refine xr_iald C (t0 := 0) 8 rfl rfl (by decide) (N := 2) rfl g17 dX5_runsScript_67 ?_
          refine xr_iconst C dX5_runsScript_68 ?_
          refine xr_isub C dX5_runsScript_69 ?_
          refine xr_topi (fun t18 e19 => ?_)
          have hw := hw t18 e19
          refine xr_iast C (t0 := 0) (r := 28) 8 rfl rfl (by decide) (N := 2) rfl g17 wM_st28 (by decide) dX5_runsScript_70 ?_
          refine xr_sig (fun σ20 e21 => ?_)
          have hw := hw σ20 e21
          refine xr_aload_n C 0 dX5_runsScript_71 rfl rfl ?_
          refine xr_get C hinX5 (N := 22) (ci := 5) (a := (ad 20)) 0 rfl rfl 13 (by decide) m0 rfl rfl dX5_runsScript_72 ?_
          refine xr_iload_n C 2 dX5_runsScript_75 rfl rfl ?_
          refine xr_iconst C dX5_runsScript_76 ?_
          refine xr_isub C dX5_runsScript_77 ?_
          refine xr_iald C (t0 := 0) 8 rfl rfl (by decide) (N := 2) rfl g17 dX5_runsScript_78 ?_
          obtain ⟨g22, hw⟩ := hw
          refine xr_if_le C g22 93 dX5_runsScript_79 (by decide) (fun c23 => ?_) (fun c23 => ?_)
          · have hw := hw.1 c23
            refine xr_iload_n C 3 dX5_runsScript_93 rfl rfl ?_
            refine xr_sub C [0, 1, 2] [(0, .ref (ad 20)), (1, .int (i32 x1)), (2, .int (i32 x2))] rfl ?_
            exact B94 K6 hK6 x1 x2 x3 σ20 hw
          · have hw := hw.2 c23
            refine xr_aload_n C 0 dX5_runsScript_82 rfl rfl ?_
            refine xr_get C hinX5 (N := 22) (ci := 5) (a := (ad 20)) 0 rfl rfl 12 (by decide) m3 rfl rfl dX5_runsScript_83 ?_
            refine xr_iload_n C 2 dX5_runsScript_86 rfl rfl ?_
            refine xr_iconst C dX5_runsScript_87 ?_
            refine xr_isub C dX5_runsScript_88 ?_
            refine xr_iald C (t0 := 0) 7 rfl rfl (by decide) (N := 2) rfl g17 dX5_runsScript_89 ?_
            refine xr_goto C 94 dX5_runsScript_90 (by decide) ?_
            refine xr_sub C [0, 1, 2] [(0, .ref (ad 20)), (1, .int (i32 x1)), (2, .int (i32 x2))] rfl ?_
            exact B94 K6 hK6 x1 x2 (σ20 27 ((x2 - 1).toNat)) σ20 hw
      · have hw := hw.2 c9
        refine xr_aload_n C 0 dX5_runsScript_24 rfl rfl ?_
        refine xr_get C hinX5 (N := 22) (ci := 5) (a := (ad 20)) 0 rfl rfl 12 (by decide) m3 rfl rfl dX5_runsScript_25 ?_
        refine xr_iload_n C 2 dX5_runsScript_28 rfl rfl ?_
        refine xr_iload_n C 3 dX5_runsScript_29 rfl rfl ?_
        obtain ⟨g24, hw⟩ := hw
        refine xr_iast C (t0 := 0) (r := 27) 7 rfl rfl (by decide) (N := 2) rfl g24 wM_st27 (by decide) dX5_runsScript_30 ?_
        refine xr_sig (fun σ25 e26 => ?_)
        have hw := hw σ25 e26
        refine xr_aload_n C 0 dX5_runsScript_31 rfl rfl ?_
        refine xr_get C hinX5 (N := 22) (ci := 5) (a := (ad 20)) 0 rfl rfl 13 (by decide) m0 rfl rfl dX5_runsScript_32 ?_
        refine xr_iload_n C 2 dX5_runsScript_35 rfl rfl ?_
        refine xr_aload_n C 0 dX5_runsScript_36 rfl rfl ?_
        refine xr_get C hinX5 (N := 22) (ci := 5) (a := (ad 20)) 0 rfl rfl 7 (by decide) m4 rfl rfl dX5_runsScript_37 ?_
        refine xr_iload_n C 3 dX5_runsScript_40 rfl rfl ?_
        refine xr_iald C (t0 := 0) 6 rfl rfl (by decide) (N := 60) rfl g7 dX5_runsScript_41 ?_
        refine xr_iast C (t0 := 0) (r := 28) 8 rfl rfl (by decide) (N := 2) rfl g24 wM_st28 (by decide) dX5_runsScript_42 ?_
        refine xr_sig (fun σ27 e28 => ?_)
        have hw := hw σ27 e28
        refine xr_iinc C 2 [(0, .ref (ad 20)), (1, .int (i32 x1)), (2, .int (i32 (x2 + 1))), (3, .int (i32 x3))] dX5_runsScript_43 rfl (by decide) rfl ?_
        refine xr_goto C 136 dX5_runsScript_46 (by decide) ?_
        refine xr_iinc C 3 [(0, .ref (ad 20)), (1, .int (i32 x1)), (2, .int (i32 (x2 + 1))), (3, .int (i32 (x3 + 1)))] dX5_runsScript_136 rfl (by decide) rfl ?_
        refine xr_goto C 6 dX5_runsScript_139 (by decide) ?_
        exact hK6 (x1, (x2 + 1), (x3 + 1), σ27) hw
  show xX p l e rmX5_runsScript s m args below meth c D vwCl (va_A ((wM ad cI cJ cZ) σ) s.heap.size) (wM ad cI cJ cZ) [20, 21, 22, 23, 24, 25, 26, 27, 28, 29, 30, 31, 32, 33] σ 0 0 (MQ below (xQi D (wM ad cI cJ cZ) [20, 21, 22, 23, 24, 25, 26, 27, 28, 29, 30, 31, 32, 33] σ s.heap.size Q) args s 0 0 (va_A ((wM ad cI cJ cZ) σ) s.heap.size)) 4 σ 0 [(0, .ref (ad 20))] []
  unfold vX5_runsScript at hw
  refine xr_iconst C dX5_runsScript_0 ?_
  refine xr_istore_n C [(0, .ref (ad 20)), (1, .int (i32 0))] dX5_runsScript_1 rfl (by decide) rfl ?_
  refine xr_iconst C dX5_runsScript_2 ?_
  refine xr_istore_n C [(0, .ref (ad 20)), (1, .int (i32 0)), (2, .int (i32 0))] dX5_runsScript_3 rfl (by decide) rfl ?_
  refine xr_iconst C dX5_runsScript_4 ?_
  refine xr_istore_n C [(0, .ref (ad 20)), (1, .int (i32 0)), (2, .int (i32 0)), (3, .int (i32 0))] dX5_runsScript_5 rfl (by decide) rfl ?_
  exact L6 (0, 0, 0, σ) hw
abbrev rmX5_run : Room := { frames := 6, cells := 0, slots := 0, locals := 201 }
set_option maxHeartbeats 8000000 in
set_option maxRecDepth 100000 in
theorem mX5_run {l : Launch} {D : va_G} {ad : Nat → Nat} {cI cJ cZ : ClassId} (σ : xS) (Q : Int → xS → Prop) (hw : vX5_run σ Q) : xMi False l yX5_run wsX5_run rmX5_run D (xtys cI cJ cZ) (wM ad cI cJ cZ) [20, 21, 22, 23, 24, 25, 26, 27, 28, 29, 30, 31, 32, 33] σ [.ref (ad 20)] Q := by
  refine xenter (F := [20, 21, 22, 23, 24, 25, 26, 27, 28, 29, 30, 31, 32, 33]) (Qc := fun sz => xQi D (wM ad cI cJ cZ) [20, 21, 22, 23, 24, 25, 26, 27, 28, 29, 30, 31, 32, 33] σ sz Q) (own := RX5) (cc := cX5_run) (maxL := 1) (ret := some .int) (by decide) rfl rfl (Nat.le_of_ble_eq_true rfl) ?_
  intro p e s m args below meth c hargs C hr hnm
  have hinX5 : ∀ w ∈ u_ws RX5 TX5 22, w ∈ wsX5_run := fun _ h => List.mem_cons_of_mem _ (List.mem_append_right _ h)
  have m0 : (Cond.fieldLink RX5 118 "SandBenchModel" "fault" "I") ∈ wsX5_run := by decide +kernel
  show xX p l e rmX5_run s m args below meth c D vwCl (va_A ((wM ad cI cJ cZ) σ) s.heap.size) (wM ad cI cJ cZ) [20, 21, 22, 23, 24, 25, 26, 27, 28, 29, 30, 31, 32, 33] σ 0 0 (MQ below (xQi D (wM ad cI cJ cZ) [20, 21, 22, 23, 24, 25, 26, 27, 28, 29, 30, 31, 32, 33] σ s.heap.size Q) args s 0 0 (va_A ((wM ad cI cJ cZ) σ) s.heap.size)) 1 σ 0 [(0, .ref (ad 20))] []
  unfold vX5_run at hw
  refine xr_aload_n C 0 dX5_run_0 rfl rfl ?_
  refine xr_callVv C (ci := 5) (q0 := 0) (As := []) (rest := []) (xSp_rf _ _) (by decide) (fun h => h) (mX5_reads σ _ hw) (cwV 0 C.2.2.2.2.1 gX5_run_X5_reads rfl rfl rfl (by decide +kernel) ⟨by decide, by decide⟩) rfl rfl rfl rfl (Nat.le_of_ble_eq_true rfl) ⟨by decide, by decide⟩ dX5_run_1 (fun σ2 hw => ?_)
  refine xr_aload_n C 0 dX5_run_4 rfl rfl ?_
  refine xr_get C hinX5 (N := 22) (ci := 5) (a := (ad 20)) 0 rfl rfl 10 (by decide) m0 rfl rfl dX5_run_5 ?_
  refine xr_iconst C dX5_run_8 ?_
  obtain ⟨g3, hw⟩ := hw
  refine xr_icmp_eq C g3 ⟨by decide, by decide⟩ 15 dX5_run_9 (by decide) (fun c4 => ?_) (fun c4 => ?_)
  · have hw := hw.1 c4
    refine xr_aload_n C 0 dX5_run_15 rfl rfl ?_
    refine xr_callVv C (ci := 5) (q0 := 0) (As := []) (rest := []) (xSp_rf _ _) (by decide) (fun h => h) (mX5_keeps σ2 _ hw) (cwV 0 C.2.2.2.2.1 gX5_run_X5_keeps rfl rfl rfl (by decide +kernel) ⟨by decide, by decide⟩) rfl rfl rfl rfl (Nat.le_of_ble_eq_true rfl) ⟨by decide, by decide⟩ dX5_run_16 (fun σ6 hw => ?_)
    refine xr_aload_n C 0 dX5_run_19 rfl rfl ?_
    refine xr_callVi C (ci := 5) (q0 := 0) (As := []) (rest := []) (xSp_rf _ _) (by decide) (fun h => h) (mX5_runsScript σ6 _ hw) (cwV 0 C.2.2.2.2.1 gX5_run_X5_runsScript rfl rfl rfl (by decide +kernel) ⟨by decide, by decide⟩) rfl rfl rfl rfl (Nat.le_of_ble_eq_true rfl) ⟨by decide, by decide⟩ dX5_run_20 (fun r7 σ8 hw => ?_)
    exact xr_iret C hr hw dX5_run_23
  · have hw := hw.2 c4
    refine xr_bipush C dX5_run_12 (by decide +kernel) ?_
    exact xr_iret C hr hw dX5_run_14
abbrev rmX5_glass : Room := { frames := 2, cells := 0, slots := 0, locals := 107 }
set_option maxHeartbeats 8000000 in
set_option maxRecDepth 100000 in
theorem mX5_glass {l : Launch} {D : va_G} {ad : Nat → Nat} {cI cJ cZ : ClassId} (σ : xS) (a1 a2 : Int) (Q : Int → xS → Prop) (hw : vX5_glass a1 a2 σ Q) : xMi False l yX5_glass wsX5_glass rmX5_glass D (xtys cI cJ cZ) (wM ad cI cJ cZ) [20, 21, 22, 23, 24, 25, 26, 27, 28, 29, 30, 31, 32, 33] σ [.ref (ad 20), .int (i32 a1), .int (i32 a2)] Q := by
  refine xenter (F := [20, 21, 22, 23, 24, 25, 26, 27, 28, 29, 30, 31, 32, 33]) (Qc := fun sz => xQi D (wM ad cI cJ cZ) [20, 21, 22, 23, 24, 25, 26, 27, 28, 29, 30, 31, 32, 33] σ sz Q) (own := RX5) (cc := cX5_glass) (maxL := 3) (ret := some .int) (by decide) rfl rfl (Nat.le_of_ble_eq_true rfl) ?_
  intro p e s m args below meth c hargs C hr hnm
  have B60 : ∀ (x1 x2 : Int) (σ0 : xS), vX5_glass_60  Q x1 x2 σ0 → xX p l e rmX5_glass s m args below meth c D vwCl (va_A ((wM ad cI cJ cZ) σ) s.heap.size) (wM ad cI cJ cZ) [20, 21, 22, 23, 24, 25, 26, 27, 28, 29, 30, 31, 32, 33] σ 0 0 (MQ below (xQi D (wM ad cI cJ cZ) [20, 21, 22, 23, 24, 25, 26, 27, 28, 29, 30, 31, 32, 33] σ s.heap.size Q) args s 0 0 (va_A ((wM ad cI cJ cZ) σ) s.heap.size)) 3 σ0 60 [(0, .ref (ad 20)), (1, .int (i32 x1)), (2, .int (i32 x2))] [] := by
    intro x1 x2 σ0 hw
    unfold vX5_glass_60 at hw
    refine xr_aload_n C 0 dX5_glass_60 rfl rfl ?_
    refine xr_iload_n C 1 dX5_glass_61 rfl rfl ?_
    refine xr_iload_n C 2 dX5_glass_62 rfl rfl ?_
    refine xr_callVi C (ci := 5) (q0 := 0) (As := [.int (i32 x1), .int (i32 x2)]) (rest := []) (xSp_rf _ _) (by decide) (fun h => h) (mX5_of σ0 x1 x2 _ hw) (cwV 2 C.2.2.2.2.1 gX5_glass_X5_of rfl rfl rfl (by decide +kernel) ⟨by decide, by decide⟩) rfl rfl rfl rfl (Nat.le_of_ble_eq_true rfl) ⟨by decide, by decide⟩ dX5_glass_63 (fun r1 σ2 hw => ?_)
    exact xr_iret C hr hw dX5_glass_66
  show xX p l e rmX5_glass s m args below meth c D vwCl (va_A ((wM ad cI cJ cZ) σ) s.heap.size) (wM ad cI cJ cZ) [20, 21, 22, 23, 24, 25, 26, 27, 28, 29, 30, 31, 32, 33] σ 0 0 (MQ below (xQi D (wM ad cI cJ cZ) [20, 21, 22, 23, 24, 25, 26, 27, 28, 29, 30, 31, 32, 33] σ s.heap.size Q) args s 0 0 (va_A ((wM ad cI cJ cZ) σ) s.heap.size)) 3 σ 0 [(0, .ref (ad 20)), (1, .int (i32 a1)), (2, .int (i32 a2))] []
  unfold vX5_glass at hw
  refine xr_aload_n C 0 dX5_glass_0 rfl rfl ?_
  refine xr_iload_n C 1 dX5_glass_1 rfl rfl ?_
  refine xr_callVi C (ci := 5) (q0 := 0) (As := [.int (i32 a1)]) (rest := []) (xSp_rf _ _) (by decide) (fun h => h) (mX5_isGlass σ a1 _ hw) (cwV 1 C.2.2.2.2.1 gX5_glass_X5_isGlass rfl rfl rfl (by decide +kernel) ⟨by decide, by decide⟩) rfl rfl rfl rfl (Nat.le_of_ble_eq_true rfl) ⟨by decide, by decide⟩ dX5_glass_2 (fun r3 σ4 hw => ?_)
  obtain ⟨g5, hw⟩ := hw
  refine xr_if_ne C g5 11 dX5_glass_5 (by decide) (fun c6 => ?_) (fun c6 => ?_)
  · have hw := hw.1 c6
    refine xr_iload_n C 2 dX5_glass_11 rfl rfl ?_
    obtain ⟨g7, hw⟩ := hw
    by_cases c8 : a2 < 0 ∨ 7 < a2
    · have hw := hw.1 c8
      refine xr_tabOut C g7 96 dX5_glass_12 c8 (by decide) ?_
      refine xr_bipush C dX5_glass_96 (by decide +kernel) ?_
      exact xr_iret C hr hw dX5_glass_98
    · have hw := hw.2
      have hbc8 : (0 : Int) ≤ a2 := Int.not_lt.mp (fun q => c8 (Or.inl q))
      by_cases c9 : a2 = 0
      · have hw := hw.1 c9
        refine xr_tabIn C (off := 48) 0 c9 ⟨by decide, by decide⟩ 60 dX5_glass_12 (by decide) (by decide) (by decide +kernel) (by decide) ?_
        exact B60 a1 a2 σ4 hw
      · have hw := hw.2
        have hbc8 : (1 : Int) ≤ a2 := Int.lt_iff_le_and_ne.mpr ⟨hbc8, fun q => c9 q.symm⟩
        by_cases c10 : a2 = 1
        · have hw := hw.1 c10
          refine xr_tabIn C (off := 48) 1 c10 ⟨by decide, by decide⟩ 60 dX5_glass_12 (by decide) (by decide) (by decide +kernel) (by decide) ?_
          exact B60 a1 a2 σ4 hw
        · have hw := hw.2
          have hbc8 : (2 : Int) ≤ a2 := Int.lt_iff_le_and_ne.mpr ⟨hbc8, fun q => c10 q.symm⟩
          by_cases c11 : a2 = 2
          · have hw := hw.1 c11
            refine xr_tabIn C (off := 48) 2 c11 ⟨by decide, by decide⟩ 60 dX5_glass_12 (by decide) (by decide) (by decide +kernel) (by decide) ?_
            exact B60 a1 a2 σ4 hw
          · have hw := hw.2
            have hbc8 : (3 : Int) ≤ a2 := Int.lt_iff_le_and_ne.mpr ⟨hbc8, fun q => c11 q.symm⟩
            by_cases c12 : a2 = 3
            · have hw := hw.1 c12
              refine xr_tabIn C (off := 48) 3 c12 ⟨by decide, by decide⟩ 60 dX5_glass_12 (by decide) (by decide) (by decide +kernel) (by decide) ?_
              exact B60 a1 a2 σ4 hw
            · have hw := hw.2
              have hbc8 : (4 : Int) ≤ a2 := Int.lt_iff_le_and_ne.mpr ⟨hbc8, fun q => c12 q.symm⟩
              by_cases c13 : a2 = 4
              · have hw := hw.1 c13
                refine xr_tabIn C (off := 48) 4 c13 ⟨by decide, by decide⟩ 60 dX5_glass_12 (by decide) (by decide) (by decide +kernel) (by decide) ?_
                exact B60 a1 a2 σ4 hw
              · have hw := hw.2
                have hbc8 : (5 : Int) ≤ a2 := Int.lt_iff_le_and_ne.mpr ⟨hbc8, fun q => c13 q.symm⟩
                by_cases c14 : a2 = 5
                · have hw := hw.1 c14
                  refine xr_tabIn C (off := 55) 5 c14 ⟨by decide, by decide⟩ 67 dX5_glass_12 (by decide) (by decide) (by decide +kernel) (by decide) ?_
                  refine xr_aload_n C 0 dX5_glass_67 rfl rfl ?_
                  refine xr_iload_n C 1 dX5_glass_68 rfl rfl ?_
                  refine xr_bipush C dX5_glass_69 (by decide +kernel) ?_
                  refine xr_callVi C (ci := 5) (q0 := 0) (As := [.int (i32 a1), .int (i32 6)]) (rest := []) (xSp_rf _ _) (by decide) (fun h => h) (mX5_of σ4 a1 6 _ hw) (cwV 2 C.2.2.2.2.1 gX5_glass_X5_of rfl rfl rfl (by decide +kernel) ⟨by decide, by decide⟩) rfl rfl rfl rfl (Nat.le_of_ble_eq_true rfl) ⟨by decide, by decide⟩ dX5_glass_71 (fun r15 σ16 hw => ?_)
                  exact xr_iret C hr hw dX5_glass_74
                · have hw := hw.2
                  have hbc8 : (6 : Int) ≤ a2 := Int.lt_iff_le_and_ne.mpr ⟨hbc8, fun q => c14 q.symm⟩
                  by_cases c17 : a2 = 6
                  · have hw := hw.1 c17
                    refine xr_tabIn C (off := 63) 6 c17 ⟨by decide, by decide⟩ 75 dX5_glass_12 (by decide) (by decide) (by decide +kernel) (by decide) ?_
                    refine xr_aload_n C 0 dX5_glass_75 rfl rfl ?_
                    refine xr_iload_n C 1 dX5_glass_76 rfl rfl ?_
                    refine xr_iconst C dX5_glass_77 ?_
                    refine xr_callVi C (ci := 5) (q0 := 0) (As := [.int (i32 a1), .int (i32 5)]) (rest := []) (xSp_rf _ _) (by decide) (fun h => h) (mX5_of σ4 a1 5 _ hw) (cwV 2 C.2.2.2.2.1 gX5_glass_X5_of rfl rfl rfl (by decide +kernel) ⟨by decide, by decide⟩) rfl rfl rfl rfl (Nat.le_of_ble_eq_true rfl) ⟨by decide, by decide⟩ dX5_glass_78 (fun r18 σ19 hw => ?_)
                    exact xr_iret C hr hw dX5_glass_81
                  · have hw := hw.2
                    have hbc8 : (7 : Int) ≤ a2 := Int.lt_iff_le_and_ne.mpr ⟨hbc8, fun q => c17 q.symm⟩
                    by_cases c20 : a2 = 7
                    · have hw := hw c20
                      refine xr_tabIn C (off := 70) 7 c20 ⟨by decide, by decide⟩ 82 dX5_glass_12 (by decide) (by decide) (by decide +kernel) (by decide) ?_
                      refine xr_aload_n C 0 dX5_glass_82 rfl rfl ?_
                      refine xr_iload_n C 1 dX5_glass_83 rfl rfl ?_
                      refine xr_callVi C (ci := 5) (q0 := 0) (As := [.int (i32 a1)]) (rest := []) (xSp_rf _ _) (by decide) (fun h => h) (mX5_runs σ4 a1 _ hw) (cwV 1 C.2.2.2.2.1 gX5_glass_X5_runs rfl rfl rfl (by decide +kernel) ⟨by decide, by decide⟩) rfl rfl rfl rfl (Nat.le_of_ble_eq_true rfl) ⟨by decide, by decide⟩ dX5_glass_84 (fun r21 σ22 hw => ?_)
                      obtain ⟨g23, hw⟩ := hw
                      refine xr_if_eq C g23 94 dX5_glass_87 (by decide) (fun c24 => ?_) (fun c24 => ?_)
                      · have hw := hw.1 c24
                        refine xr_iconst C dX5_glass_94 ?_
                        exact xr_iret C hr hw dX5_glass_95
                      · have hw := hw.2 c24
                        refine xr_iconst C dX5_glass_90 ?_
                        refine xr_goto C 95 dX5_glass_91 (by decide) ?_
                        exact xr_iret C hr hw dX5_glass_95
                    · exact absurd (Or.inr (Int.lt_iff_le_and_ne.mpr ⟨hbc8, fun q => c20 q.symm⟩)) c8
  · have hw := hw.2 c6
    refine xr_bipush C dX5_glass_8 (by decide +kernel) ?_
    exact xr_iret C hr hw dX5_glass_10
abbrev rmX5_event : Room := { frames := 1, cells := 0, slots := 0, locals := 86 }
set_option maxHeartbeats 8000000 in
set_option maxRecDepth 100000 in
theorem mX5_event {l : Launch} {D : va_G} {ad : Nat → Nat} {cI cJ cZ : ClassId} (σ : xS) (a1 a2 : Int) (Q : Int → xS → Prop) (hw : vX5_event a1 a2 σ Q) : xMi False l yX5_event wsX5_event rmX5_event D (xtys cI cJ cZ) (wM ad cI cJ cZ) [20, 21, 22, 23, 24, 25, 26, 27, 28, 29, 30, 31, 32, 33] σ [.ref (ad 20), .int (i32 a1), .int (i32 a2)] Q := by
  refine xenter (F := [20, 21, 22, 23, 24, 25, 26, 27, 28, 29, 30, 31, 32, 33]) (Qc := fun sz => xQi D (wM ad cI cJ cZ) [20, 21, 22, 23, 24, 25, 26, 27, 28, 29, 30, 31, 32, 33] σ sz Q) (own := RX5) (cc := cX5_event) (maxL := 3) (ret := some .int) (by decide) rfl rfl (Nat.le_of_ble_eq_true rfl) ?_
  intro p e s m args below meth c hargs C hr hnm
  have hinX5 : ∀ w ∈ u_ws RX5 TX5 22, w ∈ wsX5_event := fun _ h => List.mem_cons_of_mem _ (List.mem_append_right _ h)
  have m0 : (Cond.fieldLink RX5 7 "SandBenchModel" "m" "[I") ∈ wsX5_event := by decide +kernel
  show xX p l e rmX5_event s m args below meth c D vwCl (va_A ((wM ad cI cJ cZ) σ) s.heap.size) (wM ad cI cJ cZ) [20, 21, 22, 23, 24, 25, 26, 27, 28, 29, 30, 31, 32, 33] σ 0 0 (MQ below (xQi D (wM ad cI cJ cZ) [20, 21, 22, 23, 24, 25, 26, 27, 28, 29, 30, 31, 32, 33] σ s.heap.size Q) args s 0 0 (va_A ((wM ad cI cJ cZ) σ) s.heap.size)) 3 σ 0 [(0, .ref (ad 20)), (1, .int (i32 a1)), (2, .int (i32 a2))] []
  unfold vX5_event at hw
  refine xr_iload_n C 1 dX5_event_0 rfl rfl ?_
  obtain ⟨g1, hw⟩ := hw
  refine xr_if_lt C g1 13 dX5_event_1 (by decide) (fun c2 => ?_) (fun c2 => ?_)
  · have hw := hw.1 c2
    refine xr_bipush C dX5_event_13 (by decide +kernel) ?_
    exact xr_iret C hr hw dX5_event_15
  · have hw := hw.2 c2
    refine xr_iload_n C 2 dX5_event_4 rfl rfl ?_
    refine xr_iconst C dX5_event_5 ?_
    refine xr_iconst C dX5_event_6 ?_
    refine xr_callSi C (As := [.int (i32 a2), .int (i32 0), .int (i32 2)]) (rest := []) (xSp_nil _) (by decide) (fun h => h) (mX5_in σ a2 0 2 _ hw) (va_cwS 3 C.2.2.2.2.1 gX5_event_X5_in rfl rfl rfl (by decide +kernel) ⟨by decide, by decide⟩) rfl rfl (Nat.le_of_ble_eq_true rfl) ⟨by decide, by decide⟩ dX5_event_7 (fun r3 σ4 hw => ?_)
    obtain ⟨g5, hw⟩ := hw
    refine xr_if_ne C g5 16 dX5_event_10 (by decide) (fun c6 => ?_) (fun c6 => ?_)
    · have hw := hw.1 c6
      refine xr_iload_n C 1 dX5_event_16 rfl rfl ?_
      refine xr_aload_n C 0 dX5_event_17 rfl rfl ?_
      refine xr_get C hinX5 (N := 22) (ci := 5) (a := (ad 20)) 0 rfl rfl 0 (by decide) m0 rfl rfl dX5_event_18 ?_
      refine xr_bipush C dX5_event_21 (by decide +kernel) ?_
      refine xr_iald C (t0 := 0) 1 rfl rfl (by decide) (N := 64) rfl ⟨by decide, by decide⟩ dX5_event_23 ?_
      obtain ⟨g7, hw⟩ := hw
      refine xr_icmp_ge C g1 g7 53 dX5_event_24 (by decide) (fun c8 => ?_) (fun c8 => ?_)
      · have hw := hw.1 c8
        refine xr_iconst C dX5_event_53 ?_
        exact xr_iret C hr hw dX5_event_54
      · have hw := hw.2 c8
        refine xr_aload_n C 0 dX5_event_27 rfl rfl ?_
        refine xr_get C hinX5 (N := 22) (ci := 5) (a := (ad 20)) 0 rfl rfl 0 (by decide) m0 rfl rfl dX5_event_28 ?_
        refine xr_bipush C dX5_event_31 (by decide +kernel) ?_
        refine xr_iconst C dX5_event_33 ?_
        refine xr_aload_n C 0 dX5_event_34 rfl rfl ?_
        refine xr_get C hinX5 (N := 22) (ci := 5) (a := (ad 20)) 0 rfl rfl 0 (by decide) m0 rfl rfl dX5_event_35 ?_
        refine xr_bipush C dX5_event_38 (by decide +kernel) ?_
        refine xr_iald C (t0 := 0) 1 rfl rfl (by decide) (N := 64) rfl ⟨by decide, by decide⟩ dX5_event_40 ?_
        refine xr_iconst C dX5_event_41 ?_
        refine xr_isub C dX5_event_42 ?_
        refine xr_iload_n C 1 dX5_event_43 rfl rfl ?_
        refine xr_isub C dX5_event_44 ?_
        refine xr_imul C dX5_event_45 ?_
        refine xr_iadd C dX5_event_46 ?_
        refine xr_iload_n C 2 dX5_event_47 rfl rfl ?_
        refine xr_iadd C dX5_event_48 ?_
        obtain ⟨g9, hw⟩ := hw
        refine xr_iald C (t0 := 0) 1 rfl rfl (by decide) (N := 64) rfl g9 dX5_event_49 ?_
        refine xr_goto C 54 dX5_event_50 (by decide) ?_
        exact xr_iret C hr hw dX5_event_54
    · have hw := hw.2 c6
      refine xr_bipush C dX5_event_13 (by decide +kernel) ?_
      exact xr_iret C hr hw dX5_event_15
abbrev rmX5_place : Room := { frames := 0, cells := 0, slots := 0, locals := 64 }
set_option maxHeartbeats 8000000 in
set_option maxRecDepth 100000 in
theorem mX5_place {l : Launch} {D : va_G} {cI cJ cZ : ClassId} (σ : xS) (a0 a1 a2 a3 : Int) (Q : Int → xS → Prop) (hw : vX5_place a0 a1 a2 a3 σ Q) : xMi False l yX5_place wsX5_place rmX5_place D (xtys cI cJ cZ) wN [] σ [.int (i32 a0), .int (i32 a1), .int (i32 a2), .int (i32 a3)] Q := by
  refine xenter (F := []) (Qc := fun sz => xQi D wN [] σ sz Q) (own := RX5) (cc := cX5_place) (maxL := 4) (ret := some .int) (by decide) rfl rfl (Nat.le_of_ble_eq_true rfl) ?_
  intro p e s m args below meth c hargs C hr hnm
  show xX p l e rmX5_place s m args below meth c D vwCl (va_A (wN σ) s.heap.size) wN [] σ 0 0 (MQ below (xQi D wN [] σ s.heap.size Q) args s 0 0 (va_A (wN σ) s.heap.size)) 4 σ 0 [(0, .int (i32 a0)), (1, .int (i32 a1)), (2, .int (i32 a2)), (3, .int (i32 a3))] []
  unfold vX5_place at hw
  refine xr_sipush C dX5_place_0 (by decide +kernel) ?_
  refine xr_iload_n C 0 dX5_place_3 rfl rfl ?_
  refine xr_imul C dX5_place_4 ?_
  refine xr_sipush C dX5_place_5 (by decide +kernel) ?_
  refine xr_iload_n C 1 dX5_place_8 rfl rfl ?_
  refine xr_imul C dX5_place_9 ?_
  refine xr_iadd C dX5_place_10 ?_
  refine xr_bipush C dX5_place_11 (by decide +kernel) ?_
  refine xr_iload_n C 2 dX5_place_13 rfl rfl ?_
  refine xr_imul C dX5_place_14 ?_
  refine xr_iadd C dX5_place_15 ?_
  refine xr_iload_n C 3 dX5_place_16 rfl rfl ?_
  refine xr_iadd C dX5_place_17 ?_
  exact xr_iret C hr hw dX5_place_18
abbrev rmX5_isTable : Room := { frames := 1, cells := 0, slots := 0, locals := 86 }
set_option maxHeartbeats 8000000 in
set_option maxRecDepth 100000 in
theorem mX5_isTable {l : Launch} {D : va_G} {ad : Nat → Nat} {cI cJ cZ : ClassId} (σ : xS) (Q : Int → xS → Prop) (hw : vX5_isTable σ Q) : xMi False l yX5_isTable wsX5_isTable rmX5_isTable D (xtys cI cJ cZ) (wM ad cI cJ cZ) [20, 21, 22, 23, 24, 25, 26, 27, 28, 29, 30, 31, 32, 33] σ [.ref (ad 20)] Q := by
  refine xenter (F := [20, 21, 22, 23, 24, 25, 26, 27, 28, 29, 30, 31, 32, 33]) (Qc := fun sz => xQi D (wM ad cI cJ cZ) [20, 21, 22, 23, 24, 25, 26, 27, 28, 29, 30, 31, 32, 33] σ sz Q) (own := RX5) (cc := cX5_isTable) (maxL := 3) (ret := some .boolean) (by decide) rfl rfl (Nat.le_of_ble_eq_true rfl) ?_
  intro p e s m args below meth c hargs C hr hnm
  have hinX5 : ∀ w ∈ u_ws RX5 TX5 22, w ∈ wsX5_isTable := fun _ h => List.mem_cons_of_mem _ (List.mem_append_right _ h)
  have m0 : (Cond.fieldLink RX5 38 "SandBenchModel" "filledFor" "[I") ∈ wsX5_isTable := by decide +kernel
  have m1 : (Cond.fieldLink RX5 41 "SandBenchModel" "amount" "[I") ∈ wsX5_isTable := by decide +kernel
  have m2 : (Cond.fieldLink RX5 44 "SandBenchModel" "lies" "[Z") ∈ wsX5_isTable := by decide +kernel
  have m3 : (Cond.fieldLink RX5 7 "SandBenchModel" "m" "[I") ∈ wsX5_isTable := by decide +kernel
  have m4 : (Cond.fieldLink RX5 158 "SandBenchModel" "isFilled" "Z") ∈ wsX5_isTable := by decide +kernel
  have B182 : ∀ (K7 : Int × Int × xS → Prop) (hK7 : ∀ a, K7 a → xX p l e rmX5_isTable s m args below meth c D vwCl (va_A ((wM ad cI cJ cZ) σ) s.heap.size) (wM ad cI cJ cZ) [20, 21, 22, 23, 24, 25, 26, 27, 28, 29, 30, 31, 32, 33] σ 0 0 (MQ below (xQi D (wM ad cI cJ cZ) [20, 21, 22, 23, 24, 25, 26, 27, 28, 29, 30, 31, 32, 33] σ s.heap.size Q) args s 0 0 (va_A ((wM ad cI cJ cZ) σ) s.heap.size)) 3 (a.2.2) 7 [(0, .ref (ad 20)), (1, .int (i32 (a.1))), (2, .int (i32 (a.2.1)))] []) (x1 x2 y1 y2 : Int) (σ0 : xS), vX5_isTable_182 K7 Q x1 x2 y1 y2 σ0 → xX p l e rmX5_isTable s m args below meth c D vwCl (va_A ((wM ad cI cJ cZ) σ) s.heap.size) (wM ad cI cJ cZ) [20, 21, 22, 23, 24, 25, 26, 27, 28, 29, 30, 31, 32, 33] σ 0 0 (MQ below (xQi D (wM ad cI cJ cZ) [20, 21, 22, 23, 24, 25, 26, 27, 28, 29, 30, 31, 32, 33] σ s.heap.size Q) args s 0 0 (va_A ((wM ad cI cJ cZ) σ) s.heap.size)) 3 σ0 182 [(0, .ref (ad 20)), (1, .int (i32 x1)), (2, .int (i32 x2))] [.int (i32 y2), .int (i32 y1), .ref (ad 30)] := by
    intro K7 hK7 x1 x2 y1 y2 σ0 hw
    unfold vX5_isTable_182 at hw
    obtain ⟨g1, hw⟩ := hw
    refine xr_iast C (t0 := 0) (r := 30) 10 rfl rfl (by decide) (N := 9) rfl g1 wM_st30 (by decide) dX5_isTable_182 ?_
    refine xr_sig (fun σ2 e3 => ?_)
    have hw := hw σ2 e3
    refine xr_aload_n C 0 dX5_isTable_183 rfl rfl ?_
    refine xr_get C hinX5 (N := 22) (ci := 5) (a := (ad 20)) 0 rfl rfl 15 (by decide) m0 rfl rfl dX5_isTable_184 ?_
    refine xr_iconst C dX5_isTable_187 ?_
    refine xr_iload_n C 2 dX5_isTable_188 rfl rfl ?_
    refine xr_imul C dX5_isTable_189 ?_
    refine xr_iconst C dX5_isTable_190 ?_
    refine xr_iadd C dX5_isTable_191 ?_
    refine xr_aload_n C 0 dX5_isTable_192 rfl rfl ?_
    refine xr_iload_n C 2 dX5_isTable_193 rfl rfl ?_
    refine xr_bipush C dX5_isTable_194 (by decide +kernel) ?_
    refine xr_callVi C (ci := 5) (q0 := 0) (As := [.int (i32 x2), .int (i32 6)]) (rest := [.int (i32 ((3 * x2) + 2)), .ref (ad 30)]) (xSp_rf _ _) (by decide) (fun h => h) (mX5_of σ2 x2 6 _ hw) (cwV 2 C.2.2.2.2.1 gX5_isTable_X5_of rfl rfl rfl (by decide +kernel) ⟨by decide, by decide⟩) rfl rfl rfl rfl (Nat.le_of_ble_eq_true rfl) ⟨by decide, by decide⟩ dX5_isTable_196 (fun r4 σ5 hw => ?_)
    obtain ⟨g6, hw⟩ := hw
    refine xr_iast C (t0 := 0) (r := 30) 10 rfl rfl (by decide) (N := 9) rfl g6 wM_st30 (by decide) dX5_isTable_199 ?_
    refine xr_sig (fun σ7 e8 => ?_)
    have hw := hw σ7 e8
    refine xr_iinc C 2 [(0, .ref (ad 20)), (1, .int (i32 x1)), (2, .int (i32 (x2 + 1)))] dX5_isTable_200 rfl (by decide) rfl ?_
    refine xr_goto C 7 dX5_isTable_203 (by decide) ?_
    exact hK7 (x1, (x2 + 1), σ7) hw
  have B144 : ∀ (K7 : Int × Int × xS → Prop) (hK7 : ∀ a, K7 a → xX p l e rmX5_isTable s m args below meth c D vwCl (va_A ((wM ad cI cJ cZ) σ) s.heap.size) (wM ad cI cJ cZ) [20, 21, 22, 23, 24, 25, 26, 27, 28, 29, 30, 31, 32, 33] σ 0 0 (MQ below (xQi D (wM ad cI cJ cZ) [20, 21, 22, 23, 24, 25, 26, 27, 28, 29, 30, 31, 32, 33] σ s.heap.size Q) args s 0 0 (va_A ((wM ad cI cJ cZ) σ) s.heap.size)) 3 (a.2.2) 7 [(0, .ref (ad 20)), (1, .int (i32 (a.1))), (2, .int (i32 (a.2.1)))] []) (x2 y0 : Int) (σ0 : xS), vX5_isTable_144 K7 Q x2 y0 σ0 → xX p l e rmX5_isTable s m args below meth c D vwCl (va_A ((wM ad cI cJ cZ) σ) s.heap.size) (wM ad cI cJ cZ) [20, 21, 22, 23, 24, 25, 26, 27, 28, 29, 30, 31, 32, 33] σ 0 0 (MQ below (xQi D (wM ad cI cJ cZ) [20, 21, 22, 23, 24, 25, 26, 27, 28, 29, 30, 31, 32, 33] σ s.heap.size Q) args s 0 0 (va_A ((wM ad cI cJ cZ) σ) s.heap.size)) 3 σ0 144 [(0, .ref (ad 20)), (2, .int (i32 x2))] [.int (i32 y0)] := by
    intro K7 hK7 x2 y0 σ0 hw
    unfold vX5_isTable_144 at hw
    refine xr_istore_n C [(0, .ref (ad 20)), (1, .int (i32 y0)), (2, .int (i32 x2))] dX5_isTable_144 rfl (by decide) rfl ?_
    refine xr_aload_n C 0 dX5_isTable_145 rfl rfl ?_
    refine xr_get C hinX5 (N := 22) (ci := 5) (a := (ad 20)) 0 rfl rfl 15 (by decide) m0 rfl rfl dX5_isTable_146 ?_
    refine xr_iconst C dX5_isTable_149 ?_
    refine xr_iload_n C 2 dX5_isTable_150 rfl rfl ?_
    refine xr_imul C dX5_isTable_151 ?_
    refine xr_aload_n C 0 dX5_isTable_152 rfl rfl ?_
    refine xr_get C hinX5 (N := 22) (ci := 5) (a := (ad 20)) 0 rfl rfl 17 (by decide) m1 rfl rfl dX5_isTable_153 ?_
    refine xr_iload_n C 2 dX5_isTable_156 rfl rfl ?_
    obtain ⟨g9, hw⟩ := hw
    refine xr_iald C (t0 := 0) 11 rfl rfl (by decide) (N := 3) rfl g9 dX5_isTable_157 ?_
    obtain ⟨g10, hw⟩ := hw
    refine xr_iast C (t0 := 0) (r := 30) 10 rfl rfl (by decide) (N := 9) rfl g10 wM_st30 (by decide) dX5_isTable_158 ?_
    refine xr_sig (fun σ11 e12 => ?_)
    have hw := hw σ11 e12
    refine xr_aload_n C 0 dX5_isTable_159 rfl rfl ?_
    refine xr_get C hinX5 (N := 22) (ci := 5) (a := (ad 20)) 0 rfl rfl 15 (by decide) m0 rfl rfl dX5_isTable_160 ?_
    refine xr_iconst C dX5_isTable_163 ?_
    refine xr_iload_n C 2 dX5_isTable_164 rfl rfl ?_
    refine xr_imul C dX5_isTable_165 ?_
    refine xr_iconst C dX5_isTable_166 ?_
    refine xr_iadd C dX5_isTable_167 ?_
    refine xr_aload_n C 0 dX5_isTable_168 rfl rfl ?_
    refine xr_get C hinX5 (N := 22) (ci := 5) (a := (ad 20)) 0 rfl rfl 18 (by decide) m2 rfl rfl dX5_isTable_169 ?_
    refine xr_iload_n C 2 dX5_isTable_172 rfl rfl ?_
    refine xr_zald C (t0 := 2) 12 rfl rfl (by decide) (N := 3) rfl g9 dX5_isTable_173 ?_
    obtain ⟨g13, hw⟩ := hw
    refine xr_if_eq C g13 181 dX5_isTable_174 (by decide) (fun c14 => ?_) (fun c14 => ?_)
    · have hw := hw.1 c14
      refine xr_iconst C dX5_isTable_181 ?_
      exact B182 K7 hK7 y0 x2 ((3 * x2) + 1) 0 σ11 hw
    · have hw := hw.2 c14
      refine xr_iconst C dX5_isTable_177 ?_
      refine xr_goto C 182 dX5_isTable_178 (by decide) ?_
      exact B182 K7 hK7 y0 x2 ((3 * x2) + 1) 1 σ11 hw
  have B143 : ∀ (K7 : Int × Int × xS → Prop) (hK7 : ∀ a, K7 a → xX p l e rmX5_isTable s m args below meth c D vwCl (va_A ((wM ad cI cJ cZ) σ) s.heap.size) (wM ad cI cJ cZ) [20, 21, 22, 23, 24, 25, 26, 27, 28, 29, 30, 31, 32, 33] σ 0 0 (MQ below (xQi D (wM ad cI cJ cZ) [20, 21, 22, 23, 24, 25, 26, 27, 28, 29, 30, 31, 32, 33] σ s.heap.size Q) args s 0 0 (va_A ((wM ad cI cJ cZ) σ) s.heap.size)) 3 (a.2.2) 7 [(0, .ref (ad 20)), (1, .int (i32 (a.1))), (2, .int (i32 (a.2.1)))] []) (x2 : Int) (σ0 : xS), vX5_isTable_143 K7 Q x2 σ0 → xX p l e rmX5_isTable s m args below meth c D vwCl (va_A ((wM ad cI cJ cZ) σ) s.heap.size) (wM ad cI cJ cZ) [20, 21, 22, 23, 24, 25, 26, 27, 28, 29, 30, 31, 32, 33] σ 0 0 (MQ below (xQi D (wM ad cI cJ cZ) [20, 21, 22, 23, 24, 25, 26, 27, 28, 29, 30, 31, 32, 33] σ s.heap.size Q) args s 0 0 (va_A ((wM ad cI cJ cZ) σ) s.heap.size)) 3 σ0 143 [(0, .ref (ad 20)), (2, .int (i32 x2))] [] := by
    intro K7 hK7 x2 σ0 hw
    unfold vX5_isTable_143 at hw
    refine xr_iconst C dX5_isTable_143 ?_
    exact B144 K7 hK7 x2 0 σ0 hw
  have B116 : ∀ (K7 : Int × Int × xS → Prop) (hK7 : ∀ a, K7 a → xX p l e rmX5_isTable s m args below meth c D vwCl (va_A ((wM ad cI cJ cZ) σ) s.heap.size) (wM ad cI cJ cZ) [20, 21, 22, 23, 24, 25, 26, 27, 28, 29, 30, 31, 32, 33] σ 0 0 (MQ below (xQi D (wM ad cI cJ cZ) [20, 21, 22, 23, 24, 25, 26, 27, 28, 29, 30, 31, 32, 33] σ s.heap.size Q) args s 0 0 (va_A ((wM ad cI cJ cZ) σ) s.heap.size)) 3 (a.2.2) 7 [(0, .ref (ad 20)), (1, .int (i32 (a.1))), (2, .int (i32 (a.2.1)))] []) (x2 y0 y1 : Int) (σ0 : xS), vX5_isTable_116 K7 Q x2 y0 y1 σ0 → xX p l e rmX5_isTable s m args below meth c D vwCl (va_A ((wM ad cI cJ cZ) σ) s.heap.size) (wM ad cI cJ cZ) [20, 21, 22, 23, 24, 25, 26, 27, 28, 29, 30, 31, 32, 33] σ 0 0 (MQ below (xQi D (wM ad cI cJ cZ) [20, 21, 22, 23, 24, 25, 26, 27, 28, 29, 30, 31, 32, 33] σ s.heap.size Q) args s 0 0 (va_A ((wM ad cI cJ cZ) σ) s.heap.size)) 3 σ0 116 [(0, .ref (ad 20)), (2, .int (i32 x2))] [.int (i32 y1), .int (i32 y0)] := by
    intro K7 hK7 x2 y0 y1 σ0 hw
    unfold vX5_isTable_116 at hw
    obtain ⟨g15, hw⟩ := hw
    obtain ⟨g16, hw⟩ := hw
    refine xr_icmp_ne C g15 g16 143 dX5_isTable_116 (by decide) (fun c17 => ?_) (fun c17 => ?_)
    · have hw := hw.1 c17
      exact B143 K7 hK7 x2 σ0 hw
    · have hw := hw.2 c17
      refine xr_aload_n C 0 dX5_isTable_119 rfl rfl ?_
      refine xr_get C hinX5 (N := 22) (ci := 5) (a := (ad 20)) 0 rfl rfl 15 (by decide) m0 rfl rfl dX5_isTable_120 ?_
      refine xr_iconst C dX5_isTable_123 ?_
      refine xr_iload_n C 1 dX5_isTable_124 rfl rfl ?_
      refine xr_imul C dX5_isTable_125 ?_
      refine xr_iconst C dX5_isTable_126 ?_
      refine xr_iadd C dX5_isTable_127 ?_
      obtain ⟨g18, hw⟩ := hw
      refine xr_iald C (t0 := 0) 10 rfl rfl (by decide) (N := 9) rfl g18 dX5_isTable_128 ?_
      refine xr_aload_n C 0 dX5_isTable_129 rfl rfl ?_
      refine xr_iload_n C 1 dX5_isTable_130 rfl rfl ?_
      refine xr_bipush C dX5_isTable_131 (by decide +kernel) ?_
      refine xr_callVi C (ci := 5) (q0 := 0) (As := [.int (i32 x2), .int (i32 6)]) (rest := [.int (i32 (σ0 30 (((3 * x2) + 2).toNat)))]) (xSp_rf _ _) (by decide) (fun h => h) (mX5_of σ0 x2 6 _ hw) (cwV 2 C.2.2.2.2.1 gX5_isTable_X5_of rfl rfl rfl (by decide +kernel) ⟨by decide, by decide⟩) rfl rfl rfl rfl (Nat.le_of_ble_eq_true rfl) ⟨by decide, by decide⟩ dX5_isTable_133 (fun r19 σ20 hw => ?_)
      obtain ⟨g21, hw⟩ := hw
      obtain ⟨g22, hw⟩ := hw
      refine xr_icmp_ne C g21 g22 143 dX5_isTable_136 (by decide) (fun c23 => ?_) (fun c23 => ?_)
      · have hw := hw.1 c23
        exact B143 K7 hK7 x2 σ20 hw
      · have hw := hw.2 c23
        refine xr_iconst C dX5_isTable_139 ?_
        refine xr_goto C 144 dX5_isTable_140 (by decide) ?_
        exact B144 K7 hK7 x2 1 σ20 hw
  have B70 : ∀ (K7 : Int × Int × xS → Prop) (hK7 : ∀ a, K7 a → xX p l e rmX5_isTable s m args below meth c D vwCl (va_A ((wM ad cI cJ cZ) σ) s.heap.size) (wM ad cI cJ cZ) [20, 21, 22, 23, 24, 25, 26, 27, 28, 29, 30, 31, 32, 33] σ 0 0 (MQ below (xQi D (wM ad cI cJ cZ) [20, 21, 22, 23, 24, 25, 26, 27, 28, 29, 30, 31, 32, 33] σ s.heap.size Q) args s 0 0 (va_A ((wM ad cI cJ cZ) σ) s.heap.size)) 3 (a.2.2) 7 [(0, .ref (ad 20)), (1, .int (i32 (a.1))), (2, .int (i32 (a.2.1)))] []) (x1 x2 y1 y2 : Int) (σ0 : xS), vX5_isTable_70 K7 Q x1 x2 y1 y2 σ0 → xX p l e rmX5_isTable s m args below meth c D vwCl (va_A ((wM ad cI cJ cZ) σ) s.heap.size) (wM ad cI cJ cZ) [20, 21, 22, 23, 24, 25, 26, 27, 28, 29, 30, 31, 32, 33] σ 0 0 (MQ below (xQi D (wM ad cI cJ cZ) [20, 21, 22, 23, 24, 25, 26, 27, 28, 29, 30, 31, 32, 33] σ s.heap.size Q) args s 0 0 (va_A ((wM ad cI cJ cZ) σ) s.heap.size)) 3 σ0 70 [(0, .ref (ad 20)), (1, .int (i32 x1)), (2, .int (i32 x2))] [.int (i32 y2), .int (i32 y1), .ref (ad 32)] := by
    intro K7 hK7 x1 x2 y1 y2 σ0 hw
    unfold vX5_isTable_70 at hw
    obtain ⟨g24, hw⟩ := hw
    obtain ⟨g25, hw⟩ := hw
    refine xr_zast C (t0 := 2) (r := 32) 12 rfl rfl (by decide) (N := 3) rfl g24 g25 wM_st32 (by decide) dX5_isTable_70 ?_
    refine xr_sig (fun σ26 e27 => ?_)
    have hw := hw σ26 e27
    refine xr_iload_n C 1 dX5_isTable_71 rfl rfl ?_
    obtain ⟨g28, hw⟩ := hw
    refine xr_if_eq C g28 143 dX5_isTable_72 (by decide) (fun c29 => ?_) (fun c29 => ?_)
    · have hw := hw.1 c29
      refine xr_sub C [0, 2] [(0, .ref (ad 20)), (2, .int (i32 x2))] rfl ?_
      exact B143 K7 hK7 x2 σ26 hw
    · have hw := hw.2 c29
      refine xr_aload_n C 0 dX5_isTable_75 rfl rfl ?_
      refine xr_get C hinX5 (N := 22) (ci := 5) (a := (ad 20)) 0 rfl rfl 15 (by decide) m0 rfl rfl dX5_isTable_76 ?_
      refine xr_iconst C dX5_isTable_79 ?_
      refine xr_iload_n C 2 dX5_isTable_80 rfl rfl ?_
      refine xr_imul C dX5_isTable_81 ?_
      obtain ⟨g30, hw⟩ := hw
      refine xr_iald C (t0 := 0) 10 rfl rfl (by decide) (N := 9) rfl g30 dX5_isTable_82 ?_
      refine xr_aload_n C 0 dX5_isTable_83 rfl rfl ?_
      refine xr_get C hinX5 (N := 22) (ci := 5) (a := (ad 20)) 0 rfl rfl 17 (by decide) m1 rfl rfl dX5_isTable_84 ?_
      refine xr_iload_n C 2 dX5_isTable_87 rfl rfl ?_
      obtain ⟨g31, hw⟩ := hw
      refine xr_iald C (t0 := 0) 11 rfl rfl (by decide) (N := 3) rfl g31 dX5_isTable_88 ?_
      obtain ⟨g32, hw⟩ := hw
      obtain ⟨g33, hw⟩ := hw
      refine xr_icmp_ne C g32 g33 143 dX5_isTable_89 (by decide) (fun c34 => ?_) (fun c34 => ?_)
      · have hw := hw.1 c34
        refine xr_sub C [0, 2] [(0, .ref (ad 20)), (2, .int (i32 x2))] rfl ?_
        exact B143 K7 hK7 x2 σ26 hw
      · have hw := hw.2 c34
        refine xr_aload_n C 0 dX5_isTable_92 rfl rfl ?_
        refine xr_get C hinX5 (N := 22) (ci := 5) (a := (ad 20)) 0 rfl rfl 15 (by decide) m0 rfl rfl dX5_isTable_93 ?_
        refine xr_iconst C dX5_isTable_96 ?_
        refine xr_iload_n C 2 dX5_isTable_97 rfl rfl ?_
        refine xr_imul C dX5_isTable_98 ?_
        refine xr_iconst C dX5_isTable_99 ?_
        refine xr_iadd C dX5_isTable_100 ?_
        obtain ⟨g35, hw⟩ := hw
        refine xr_iald C (t0 := 0) 10 rfl rfl (by decide) (N := 9) rfl g35 dX5_isTable_101 ?_
        refine xr_aload_n C 0 dX5_isTable_102 rfl rfl ?_
        refine xr_get C hinX5 (N := 22) (ci := 5) (a := (ad 20)) 0 rfl rfl 18 (by decide) m2 rfl rfl dX5_isTable_103 ?_
        refine xr_iload_n C 2 dX5_isTable_106 rfl rfl ?_
        refine xr_zald C (t0 := 2) 12 rfl rfl (by decide) (N := 3) rfl g31 dX5_isTable_107 ?_
        obtain ⟨g36, hw⟩ := hw
        refine xr_if_eq C g36 115 dX5_isTable_108 (by decide) (fun c37 => ?_) (fun c37 => ?_)
        · have hw := hw.1 c37
          refine xr_iconst C dX5_isTable_115 ?_
          refine xr_sub C [0, 2] [(0, .ref (ad 20)), (2, .int (i32 x2))] rfl ?_
          exact B116 K7 hK7 x2 (σ26 30 (((3 * x2) + 1).toNat)) 0 σ26 hw
        · have hw := hw.2 c37
          refine xr_iconst C dX5_isTable_111 ?_
          refine xr_goto C 116 dX5_isTable_112 (by decide) ?_
          refine xr_sub C [0, 2] [(0, .ref (ad 20)), (2, .int (i32 x2))] rfl ?_
          exact B116 K7 hK7 x2 (σ26 30 (((3 * x2) + 1).toNat)) 1 σ26 hw
  have B38 : ∀ (K7 : Int × Int × xS → Prop) (hK7 : ∀ a, K7 a → xX p l e rmX5_isTable s m args below meth c D vwCl (va_A ((wM ad cI cJ cZ) σ) s.heap.size) (wM ad cI cJ cZ) [20, 21, 22, 23, 24, 25, 26, 27, 28, 29, 30, 31, 32, 33] σ 0 0 (MQ below (xQi D (wM ad cI cJ cZ) [20, 21, 22, 23, 24, 25, 26, 27, 28, 29, 30, 31, 32, 33] σ s.heap.size Q) args s 0 0 (va_A ((wM ad cI cJ cZ) σ) s.heap.size)) 3 (a.2.2) 7 [(0, .ref (ad 20)), (1, .int (i32 (a.1))), (2, .int (i32 (a.2.1)))] []) (x1 x2 y1 y2 : Int) (σ0 : xS), vX5_isTable_38 K7 Q x1 x2 y1 y2 σ0 → xX p l e rmX5_isTable s m args below meth c D vwCl (va_A ((wM ad cI cJ cZ) σ) s.heap.size) (wM ad cI cJ cZ) [20, 21, 22, 23, 24, 25, 26, 27, 28, 29, 30, 31, 32, 33] σ 0 0 (MQ below (xQi D (wM ad cI cJ cZ) [20, 21, 22, 23, 24, 25, 26, 27, 28, 29, 30, 31, 32, 33] σ s.heap.size Q) args s 0 0 (va_A ((wM ad cI cJ cZ) σ) s.heap.size)) 3 σ0 38 [(0, .ref (ad 20)), (1, .int (i32 x1)), (2, .int (i32 x2))] [.int (i32 y2), .int (i32 y1), .ref (ad 31)] := by
    intro K7 hK7 x1 x2 y1 y2 σ0 hw
    unfold vX5_isTable_38 at hw
    obtain ⟨g38, hw⟩ := hw
    refine xr_iast C (t0 := 0) (r := 31) 11 rfl rfl (by decide) (N := 3) rfl g38 wM_st31 (by decide) dX5_isTable_38 ?_
    refine xr_sig (fun σ39 e40 => ?_)
    have hw := hw σ39 e40
    refine xr_aload_n C 0 dX5_isTable_39 rfl rfl ?_
    refine xr_get C hinX5 (N := 22) (ci := 5) (a := (ad 20)) 0 rfl rfl 18 (by decide) m2 rfl rfl dX5_isTable_40 ?_
    refine xr_iload_n C 2 dX5_isTable_43 rfl rfl ?_
    refine xr_iload_n C 2 dX5_isTable_44 rfl rfl ?_
    refine xr_aload_n C 0 dX5_isTable_45 rfl rfl ?_
    refine xr_get C hinX5 (N := 22) (ci := 5) (a := (ad 20)) 0 rfl rfl 0 (by decide) m3 rfl rfl dX5_isTable_46 ?_
    refine xr_bipush C dX5_isTable_49 (by decide +kernel) ?_
    refine xr_iald C (t0 := 0) 1 rfl rfl (by decide) (N := 64) rfl ⟨by decide, by decide⟩ dX5_isTable_51 ?_
    obtain ⟨g41, hw⟩ := hw
    obtain ⟨g42, hw⟩ := hw
    refine xr_icmp_ge C g41 g42 65 dX5_isTable_52 (by decide) (fun c43 => ?_) (fun c43 => ?_)
    · have hw := hw.1 c43
      refine xr_iconst C dX5_isTable_65 ?_
      refine xr_goto C 70 dX5_isTable_66 (by decide) ?_
      exact B70 K7 hK7 x1 x2 x2 1 σ39 hw
    · have hw := hw.2 c43
      refine xr_aload_n C 0 dX5_isTable_55 rfl rfl ?_
      refine xr_iload_n C 2 dX5_isTable_56 rfl rfl ?_
      refine xr_iconst C dX5_isTable_57 ?_
      refine xr_callVi C (ci := 5) (q0 := 0) (As := [.int (i32 x2), .int (i32 2)]) (rest := [.int (i32 x2), .ref (ad 32)]) (xSp_rf _ _) (by decide) (fun h => h) (mX5_of σ39 x2 2 _ hw) (cwV 2 C.2.2.2.2.1 gX5_isTable_X5_of rfl rfl rfl (by decide +kernel) ⟨by decide, by decide⟩) rfl rfl rfl rfl (Nat.le_of_ble_eq_true rfl) ⟨by decide, by decide⟩ dX5_isTable_58 (fun r44 σ45 hw => ?_)
      refine xr_iconst C dX5_isTable_61 ?_
      obtain ⟨g46, hw⟩ := hw
      refine xr_icmp_ne C g46 ⟨by decide, by decide⟩ 69 dX5_isTable_62 (by decide) (fun c47 => ?_) (fun c47 => ?_)
      · have hw := hw.1 c47
        refine xr_iconst C dX5_isTable_69 ?_
        exact B70 K7 hK7 x1 x2 x2 0 σ45 hw
      · have hw := hw.2 c47
        refine xr_iconst C dX5_isTable_65 ?_
        refine xr_goto C 70 dX5_isTable_66 (by decide) ?_
        exact B70 K7 hK7 x1 x2 x2 1 σ45 hw
  have L7 : ∀ a, mu (vX5_isTable_7  Q) a → xX p l e rmX5_isTable s m args below meth c D vwCl (va_A ((wM ad cI cJ cZ) σ) s.heap.size) (wM ad cI cJ cZ) [20, 21, 22, 23, 24, 25, 26, 27, 28, 29, 30, 31, 32, 33] σ 0 0 (MQ below (xQi D (wM ad cI cJ cZ) [20, 21, 22, 23, 24, 25, 26, 27, 28, 29, 30, 31, 32, 33] σ s.heap.size Q) args s 0 0 (va_A ((wM ad cI cJ cZ) σ) s.heap.size)) 3 (a.2.2) 7 [(0, .ref (ad 20)), (1, .int (i32 (a.1))), (2, .int (i32 (a.2.1)))] [] := by
    refine mu_ind (fun K7 hK7 a hw => ?_)
    obtain ⟨x1, x2, σ0⟩ := a
    show xX p l e rmX5_isTable s m args below meth c D vwCl (va_A ((wM ad cI cJ cZ) σ) s.heap.size) (wM ad cI cJ cZ) [20, 21, 22, 23, 24, 25, 26, 27, 28, 29, 30, 31, 32, 33] σ 0 0 (MQ below (xQi D (wM ad cI cJ cZ) [20, 21, 22, 23, 24, 25, 26, 27, 28, 29, 30, 31, 32, 33] σ s.heap.size Q) args s 0 0 (va_A ((wM ad cI cJ cZ) σ) s.heap.size)) 3 σ0 7 [(0, .ref (ad 20)), (1, .int (i32 x1)), (2, .int (i32 x2))] []
    unfold vX5_isTable_7 at hw
    refine xr_iload_n C 2 dX5_isTable_7 rfl rfl ?_
    refine xr_iconst C dX5_isTable_8 ?_
    obtain ⟨g48, hw⟩ := hw
    refine xr_icmp_ge C g48 ⟨by decide, by decide⟩ 206 dX5_isTable_9 (by decide) (fun c49 => ?_) (fun c49 => ?_)
    · have hw := hw.1 c49
      refine xr_aload_n C 0 dX5_isTable_206 rfl rfl ?_
      refine xr_iconst C dX5_isTable_207 ?_
      refine xr_put C (r := 20) (x := 1) (ty := .boolean) hinX5 (N := 22) (ci := 5) tyX5 tyX5_ok nmX5 0 rfl rfl 16 (by decide) m4 rfl rfl (by decide +kernel) rfl rfl (Nat.le_of_ble_eq_true rfl) rfl (by decide) dX5_isTable_208 ?_
      refine xr_sig (fun σ50 e51 => ?_)
      have hw := hw σ50 e51
      refine xr_iload_n C 1 dX5_isTable_211 rfl rfl ?_
      exact xr_zret C hr hw.1 hw.2 dX5_isTable_212
    · have hw := hw.2 c49
      refine xr_aload_n C 0 dX5_isTable_12 rfl rfl ?_
      refine xr_get C hinX5 (N := 22) (ci := 5) (a := (ad 20)) 0 rfl rfl 17 (by decide) m1 rfl rfl dX5_isTable_13 ?_
      refine xr_iload_n C 2 dX5_isTable_16 rfl rfl ?_
      refine xr_iload_n C 2 dX5_isTable_17 rfl rfl ?_
      refine xr_aload_n C 0 dX5_isTable_18 rfl rfl ?_
      refine xr_get C hinX5 (N := 22) (ci := 5) (a := (ad 20)) 0 rfl rfl 0 (by decide) m3 rfl rfl dX5_isTable_19 ?_
      refine xr_bipush C dX5_isTable_22 (by decide +kernel) ?_
      refine xr_iald C (t0 := 0) 1 rfl rfl (by decide) (N := 64) rfl ⟨by decide, by decide⟩ dX5_isTable_24 ?_
      obtain ⟨g52, hw⟩ := hw
      refine xr_icmp_ge C g48 g52 37 dX5_isTable_25 (by decide) (fun c53 => ?_) (fun c53 => ?_)
      · have hw := hw.1 c53
        refine xr_iconst C dX5_isTable_37 ?_
        exact B38 K7 hK7 x1 x2 x2 0 σ0 hw
      · have hw := hw.2 c53
        refine xr_aload_n C 0 dX5_isTable_28 rfl rfl ?_
        refine xr_iload_n C 2 dX5_isTable_29 rfl rfl ?_
        refine xr_iconst C dX5_isTable_30 ?_
        refine xr_callVi C (ci := 5) (q0 := 0) (As := [.int (i32 x2), .int (i32 0)]) (rest := [.int (i32 x2), .ref (ad 31)]) (xSp_rf _ _) (by decide) (fun h => h) (mX5_of σ0 x2 0 _ hw) (cwV 2 C.2.2.2.2.1 gX5_isTable_X5_of rfl rfl rfl (by decide +kernel) ⟨by decide, by decide⟩) rfl rfl rfl rfl (Nat.le_of_ble_eq_true rfl) ⟨by decide, by decide⟩ dX5_isTable_31 (fun r54 σ55 hw => ?_)
        refine xr_goto C 38 dX5_isTable_34 (by decide) ?_
        exact B38 K7 hK7 x1 x2 x2 r54 σ55 hw
  show xX p l e rmX5_isTable s m args below meth c D vwCl (va_A ((wM ad cI cJ cZ) σ) s.heap.size) (wM ad cI cJ cZ) [20, 21, 22, 23, 24, 25, 26, 27, 28, 29, 30, 31, 32, 33] σ 0 0 (MQ below (xQi D (wM ad cI cJ cZ) [20, 21, 22, 23, 24, 25, 26, 27, 28, 29, 30, 31, 32, 33] σ s.heap.size Q) args s 0 0 (va_A ((wM ad cI cJ cZ) σ) s.heap.size)) 3 σ 0 [(0, .ref (ad 20))] []
  unfold vX5_isTable at hw
  refine xr_aload_n C 0 dX5_isTable_0 rfl rfl ?_
  refine xr_get C hinX5 (N := 22) (ci := 5) (a := (ad 20)) 0 rfl rfl 16 (by decide) m4 rfl rfl dX5_isTable_1 ?_
  refine xr_istore_n C [(0, .ref (ad 20)), (1, .int (i32 (σ 20 16)))] dX5_isTable_4 rfl (by decide) rfl ?_
  refine xr_iconst C dX5_isTable_5 ?_
  refine xr_istore_n C [(0, .ref (ad 20)), (1, .int (i32 (σ 20 16))), (2, .int (i32 0))] dX5_isTable_6 rfl (by decide) rfl ?_
  exact L7 ((σ 20 16), 0, σ) hw
