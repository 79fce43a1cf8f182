abbrev rmX4_event : Room := { frames := 2, cells := 0, slots := 0, locals := 106 }
set_option maxHeartbeats 8000000 in
set_option maxRecDepth 100000 in
theorem mX4_event {l : Launch} {D : va_G} {pv : Value} {ad : Nat → Nat} {cI cJ cZ : ClassId} (σ : xS) (a1 a2 : Int) (Q : Int → xS → Prop) (hw : vX4_event a1 a2 σ Q) : xMi False l yX4_event wsX4_event rmX4_event D (xtys cI cJ cZ) (wX pv ad cI cJ cZ) [0, 1, 2, 3, 4, 5, 6, 7, 8] σ [.ref (ad 0), .int (i32 a1), .int (i32 a2)] Q := by
  refine xenter (F := [0, 1, 2, 3, 4, 5, 6, 7, 8]) (Qc := fun sz => xQi D (wX pv ad cI cJ cZ) [0, 1, 2, 3, 4, 5, 6, 7, 8] σ sz Q) (own := RX4) (cc := cX4_event) (maxL := 3) (ret := some .int) (by decide) rfl rfl (Nat.le_of_ble_eq_true rfl) ?_
  intro p e s m args below meth c hargs C hr hnm
  have hinX4 : ∀ w ∈ u_ws RX4 TX4 4, w ∈ wsX4_event := fun _ h => List.mem_cons_of_mem _ (List.mem_append_left _ (List.mem_append_right _ h))
  have m0 : (Cond.fieldLink RX4 10 "SandBench" "bench" "LSandBench$Bench;") ∈ wsX4_event := by decide +kernel
  show xX p l e rmX4_event s m args below meth c D vwCl (va_A ((wX pv ad cI cJ cZ) σ) s.heap.size) (wX pv ad cI cJ cZ) [0, 1, 2, 3, 4, 5, 6, 7, 8] σ 0 0 (MQ below (xQi D (wX pv ad cI cJ cZ) [0, 1, 2, 3, 4, 5, 6, 7, 8] σ s.heap.size Q) args s 0 0 (va_A ((wX pv ad cI cJ cZ) σ) s.heap.size)) 3 σ 0 [(0, .ref (ad 0)), (1, .int (i32 a1)), (2, .int (i32 a2))] []
  unfold vX4_event at hw
  refine xr_iload_n C 1 dX4_event_0 rfl rfl ?_
  obtain ⟨g1, hw⟩ := hw
  refine xr_if_lt C g1 13 dX4_event_1 (by decide) (fun c2 => ?_) (fun c2 => ?_)
  · have hw := hw.1 c2
    refine xr_bipush C dX4_event_13 (by decide +kernel) ?_
    exact xr_iret C hr hw dX4_event_15
  · have hw := hw.2 c2
    refine xr_iload_n C 2 dX4_event_4 rfl rfl ?_
    obtain ⟨g3, hw⟩ := hw
    refine xr_if_lt C g3 13 dX4_event_5 (by decide) (fun c4 => ?_) (fun c4 => ?_)
    · have hw := hw.1 c4
      refine xr_bipush C dX4_event_13 (by decide +kernel) ?_
      exact xr_iret C hr hw dX4_event_15
    · have hw := hw.2 c4
      refine xr_iload_n C 2 dX4_event_8 rfl rfl ?_
      refine xr_iconst C dX4_event_9 ?_
      refine xr_icmp_lt C g3 ⟨by decide, by decide⟩ 16 dX4_event_10 (by decide) (fun c5 => ?_) (fun c5 => ?_)
      · have hw := hw.1 c5
        refine xr_iload_n C 1 dX4_event_16 rfl rfl ?_
        refine xr_aload_n C 0 dX4_event_17 rfl rfl ?_
        refine xr_get C hinX4 (N := 4) (ci := 4) (a := (ad 0)) 0 rfl rfl 0 (by decide) m0 rfl rfl dX4_event_18 ?_
        refine xr_callVi C (ci := 0) (q0 := 0) (As := []) (rest := [.int (i32 a1)]) (sp_wX_wB pv ad cI cJ cZ) (by decide) (fun h => h) (mX0_eventsListed σ _ hw) (cwV 0 C.2.2.2.2.1 gX4_event_X0_eventsListed rfl rfl rfl (by decide +kernel) ⟨by decide, by decide⟩) rfl rfl rfl rfl (Nat.le_of_ble_eq_true rfl) ⟨by decide, by decide⟩ dX4_event_21 (fun r6 σ7 hw => ?_)
        obtain ⟨g8, hw⟩ := hw
        refine xr_icmp_ge C g1 g8 39 dX4_event_24 (by decide) (fun c9 => ?_) (fun c9 => ?_)
        · have hw := hw.1 c9
          refine xr_iconst C dX4_event_39 ?_
          exact xr_iret C hr hw dX4_event_40
        · have hw := hw.2 c9
          refine xr_aload_n C 0 dX4_event_27 rfl rfl ?_
          refine xr_get C hinX4 (N := 4) (ci := 4) (a := (ad 0)) 0 rfl rfl 0 (by decide) m0 rfl rfl dX4_event_28 ?_
          refine xr_iload_n C 1 dX4_event_31 rfl rfl ?_
          refine xr_iload_n C 2 dX4_event_32 rfl rfl ?_
          refine xr_callVi C (ci := 0) (q0 := 0) (As := [.int (i32 a1), .int (i32 a2)]) (rest := []) (sp_wX_wB pv ad cI cJ cZ) (by decide) (fun h => h) (mX0_eventPart σ7 a1 a2 _ hw) (cwV 2 C.2.2.2.2.1 gX4_event_X0_eventPart rfl rfl rfl (by decide +kernel) ⟨by decide, by decide⟩) rfl rfl rfl rfl (Nat.le_of_ble_eq_true rfl) ⟨by decide, by decide⟩ dX4_event_33 (fun r10 σ11 hw => ?_)
          refine xr_goto C 40 dX4_event_36 (by decide) ?_
          exact xr_iret C hr hw dX4_event_40
      · have hw := hw.2 c5
        refine xr_bipush C dX4_event_13 (by decide +kernel) ?_
        exact xr_iret C hr hw dX4_event_15
abbrev rmX4_count : Room := { frames := 2, cells := 0, slots := 0, locals := 108 }
set_option maxHeartbeats 8000000 in
set_option maxRecDepth 100000 in
theorem mX4_count {l : Launch} {D : va_G} {pv : Value} {ad : Nat → Nat} {cI cJ cZ : ClassId} (σ : xS) (a1 : Int) (Q : Int → xS → Prop) (hw : vX4_count a1 σ Q) : xMi False l yX4_count wsX4_count rmX4_count D (xtys cI cJ cZ) (wX pv ad cI cJ cZ) [0, 1, 2, 3, 4, 5, 6, 7, 8] σ [.ref (ad 0), .int (i32 a1)] Q := by
  refine xenter (F := [0, 1, 2, 3, 4, 5, 6, 7, 8]) (Qc := fun sz => xQi D (wX pv ad cI cJ cZ) [0, 1, 2, 3, 4, 5, 6, 7, 8] σ sz Q) (own := RX4) (cc := cX4_count) (maxL := 2) (ret := some .int) (by decide) rfl rfl (Nat.le_of_ble_eq_true rfl) ?_
  intro p e s m args below meth c hargs C hr hnm
  have hinX4 : ∀ w ∈ u_ws RX4 TX4 4, w ∈ wsX4_count := fun _ h => List.mem_cons_of_mem _ (List.mem_append_left _ (List.mem_append_left _ (List.mem_append_left _ (List.mem_append_right _ h))))
  have m0 : (Cond.fieldLink RX4 10 "SandBench" "bench" "LSandBench$Bench;") ∈ wsX4_count := by decide +kernel
  have m1 : (Cond.fieldLink RX4 19 "SandBench" "history" "LSandBench$History;") ∈ wsX4_count := by decide +kernel
  have m2 : (Cond.fieldLink RX4 26 "SandBench" "script" "LSandBench$Script;") ∈ wsX4_count := by decide +kernel
  show xX p l e rmX4_count s m args below meth c D vwCl (va_A ((wX pv ad cI cJ cZ) σ) s.heap.size) (wX pv ad cI cJ cZ) [0, 1, 2, 3, 4, 5, 6, 7, 8] σ 0 0 (MQ below (xQi D (wX pv ad cI cJ cZ) [0, 1, 2, 3, 4, 5, 6, 7, 8] σ s.heap.size Q) args s 0 0 (va_A ((wX pv ad cI cJ cZ) σ) s.heap.size)) 2 σ 0 [(0, .ref (ad 0)), (1, .int (i32 a1))] []
  unfold vX4_count at hw
  refine xr_iload_n C 1 dX4_count_0 rfl rfl ?_
  obtain ⟨g1, hw⟩ := hw
  by_cases c2 : a1 < 0 ∨ 9 < a1
  · have hw := hw.1 c2
    refine xr_tabOut C g1 159 dX4_count_1 c2 (by decide) ?_
    refine xr_bipush C dX4_count_159 (by decide +kernel) ?_
    exact xr_iret C hr hw dX4_count_161
  · have hw := hw.2
    have hbc2 : (0 : Int) ≤ a1 := Int.not_lt.mp (fun q => c2 (Or.inl q))
    by_cases c3 : a1 = 0
    · have hw := hw.1 c3
      refine xr_tabIn C (off := 55) 0 c3 ⟨by decide, by decide⟩ 56 dX4_count_1 (by decide) (by decide) (by decide +kernel) (by decide) ?_
      refine xr_aload_n C 0 dX4_count_56 rfl rfl ?_
      refine xr_get C hinX4 (N := 4) (ci := 4) (a := (ad 0)) 0 rfl rfl 0 (by decide) m0 rfl rfl dX4_count_57 ?_
      refine xr_callVi C (ci := 0) (q0 := 0) (As := []) (rest := []) (sp_wX_wB pv ad cI cJ cZ) (by decide) (fun h => h) (mX0_glasses σ _ hw) (cwV 0 C.2.2.2.2.1 gX4_count_X0_glasses rfl rfl rfl (by decide +kernel) ⟨by decide, by decide⟩) rfl rfl rfl rfl (Nat.le_of_ble_eq_true rfl) ⟨by decide, by decide⟩ dX4_count_60 (fun r4 σ5 hw => ?_)
      exact xr_iret C hr hw dX4_count_63
    · have hw := hw.2
      have hbc2 : (1 : Int) ≤ a1 := Int.lt_iff_le_and_ne.mpr ⟨hbc2, fun q => c3 q.symm⟩
      by_cases c6 : a1 = 1
      · have hw := hw.1 c6
        refine xr_tabIn C (off := 63) 1 c6 ⟨by decide, by decide⟩ 64 dX4_count_1 (by decide) (by decide) (by decide +kernel) (by decide) ?_
        refine xr_aload_n C 0 dX4_count_64 rfl rfl ?_
        refine xr_get C hinX4 (N := 4) (ci := 4) (a := (ad 0)) 0 rfl rfl 0 (by decide) m0 rfl rfl dX4_count_65 ?_
        refine xr_callVi C (ci := 0) (q0 := 0) (As := []) (rest := []) (sp_wX_wB pv ad cI cJ cZ) (by decide) (fun h => h) (mX0_stacks σ _ hw) (cwV 0 C.2.2.2.2.1 gX4_count_X0_stacks rfl rfl rfl (by decide +kernel) ⟨by decide, by decide⟩) rfl rfl rfl rfl (Nat.le_of_ble_eq_true rfl) ⟨by decide, by decide⟩ dX4_count_68 (fun r7 σ8 hw => ?_)
        exact xr_iret C hr hw dX4_count_71
      · have hw := hw.2
        have hbc2 : (2 : Int) ≤ a1 := Int.lt_iff_le_and_ne.mpr ⟨hbc2, fun q => c6 q.symm⟩
        by_cases c9 : a1 = 2
        · have hw := hw.1 c9
          refine xr_tabIn C (off := 71) 2 c9 ⟨by decide, by decide⟩ 72 dX4_count_1 (by decide) (by decide) (by decide +kernel) (by decide) ?_
          refine xr_aload_n C 0 dX4_count_72 rfl rfl ?_
          refine xr_get C hinX4 (N := 4) (ci := 4) (a := (ad 0)) 0 rfl rfl 0 (by decide) m0 rfl rfl dX4_count_73 ?_
          refine xr_callVi C (ci := 0) (q0 := 0) (As := []) (rest := []) (sp_wX_wB pv ad cI cJ cZ) (by decide) (fun h => h) (mX0_time σ _ hw) (cwV 0 C.2.2.2.2.1 gX4_count_X0_time rfl rfl rfl (by decide +kernel) ⟨by decide, by decide⟩) rfl rfl rfl rfl (Nat.le_of_ble_eq_true rfl) ⟨by decide, by decide⟩ dX4_count_76 (fun r10 σ11 hw => ?_)
          exact xr_iret C hr hw dX4_count_79
        · have hw := hw.2
          have hbc2 : (3 : Int) ≤ a1 := Int.lt_iff_le_and_ne.mpr ⟨hbc2, fun q => c9 q.symm⟩
          by_cases c12 : a1 = 3
          · have hw := hw.1 c12
            refine xr_tabIn C (off := 79) 3 c12 ⟨by decide, by decide⟩ 80 dX4_count_1 (by decide) (by decide) (by decide +kernel) (by decide) ?_
            refine xr_aload_n C 0 dX4_count_80 rfl rfl ?_
            refine xr_get C hinX4 (N := 4) (ci := 4) (a := (ad 0)) 0 rfl rfl 0 (by decide) m0 rfl rfl dX4_count_81 ?_
            refine xr_callVi C (ci := 0) (q0 := 0) (As := []) (rest := []) (sp_wX_wB pv ad cI cJ cZ) (by decide) (fun h => h) (mX0_markedTime σ _ hw) (cwV 0 C.2.2.2.2.1 gX4_count_X0_markedTime rfl rfl rfl (by decide +kernel) ⟨by decide, by decide⟩) rfl rfl rfl rfl (Nat.le_of_ble_eq_true rfl) ⟨by decide, by decide⟩ dX4_count_84 (fun r13 σ14 hw => ?_)
            refine xr_iconst C dX4_count_87 ?_
            obtain ⟨g15, hw⟩ := hw
            refine xr_icmp_ne C g15 ⟨by decide, by decide⟩ 95 dX4_count_88 (by decide) (fun c16 => ?_) (fun c16 => ?_)
            · have hw := hw.1 c16
              refine xr_aload_n C 0 dX4_count_95 rfl rfl ?_
              refine xr_get C hinX4 (N := 4) (ci := 4) (a := (ad 0)) 0 rfl rfl 0 (by decide) m0 rfl rfl dX4_count_96 ?_
              refine xr_callVi C (ci := 0) (q0 := 0) (As := []) (rest := []) (sp_wX_wB pv ad cI cJ cZ) (by decide) (fun h => h) (mX0_time σ14 _ hw) (cwV 0 C.2.2.2.2.1 gX4_count_X0_time rfl rfl rfl (by decide +kernel) ⟨by decide, by decide⟩) rfl rfl rfl rfl (Nat.le_of_ble_eq_true rfl) ⟨by decide, by decide⟩ dX4_count_99 (fun r17 σ18 hw => ?_)
              refine xr_aload_n C 0 dX4_count_102 rfl rfl ?_
              refine xr_get C hinX4 (N := 4) (ci := 4) (a := (ad 0)) 0 rfl rfl 0 (by decide) m0 rfl rfl dX4_count_103 ?_
              refine xr_callVi C (ci := 0) (q0 := 0) (As := []) (rest := [.int (i32 r17)]) (sp_wX_wB pv ad cI cJ cZ) (by decide) (fun h => h) (mX0_markedTime σ18 _ hw) (cwV 0 C.2.2.2.2.1 gX4_count_X0_markedTime rfl rfl rfl (by decide +kernel) ⟨by decide, by decide⟩) rfl rfl rfl rfl (Nat.le_of_ble_eq_true rfl) ⟨by decide, by decide⟩ dX4_count_106 (fun r19 σ20 hw => ?_)
              refine xr_isub C dX4_count_109 ?_
              exact xr_iret C hr hw dX4_count_110
            · have hw := hw.2 c16
              refine xr_iconst C dX4_count_91 ?_
              refine xr_goto C 110 dX4_count_92 (by decide) ?_
              exact xr_iret C hr hw dX4_count_110
          · have hw := hw.2
            have hbc2 : (4 : Int) ≤ a1 := Int.lt_iff_le_and_ne.mpr ⟨hbc2, fun q => c12 q.symm⟩
            by_cases c21 : a1 = 4
            · have hw := hw.1 c21
              refine xr_tabIn C (off := 110) 4 c21 ⟨by decide, by decide⟩ 111 dX4_count_1 (by decide) (by decide) (by decide +kernel) (by decide) ?_
              refine xr_aload_n C 0 dX4_count_111 rfl rfl ?_
              refine xr_get C hinX4 (N := 4) (ci := 4) (a := (ad 0)) 0 rfl rfl 0 (by decide) m0 rfl rfl dX4_count_112 ?_
              refine xr_callVi C (ci := 0) (q0 := 0) (As := []) (rest := []) (sp_wX_wB pv ad cI cJ cZ) (by decide) (fun h => h) (mX0_eventsEver σ _ hw) (cwV 0 C.2.2.2.2.1 gX4_count_X0_eventsEver rfl rfl rfl (by decide +kernel) ⟨by decide, by decide⟩) rfl rfl rfl rfl (Nat.le_of_ble_eq_true rfl) ⟨by decide, by decide⟩ dX4_count_115 (fun r22 σ23 hw => ?_)
              exact xr_iret C hr hw dX4_count_118
            · have hw := hw.2
              have hbc2 : (5 : Int) ≤ a1 := Int.lt_iff_le_and_ne.mpr ⟨hbc2, fun q => c21 q.symm⟩
              by_cases c24 : a1 = 5
              · have hw := hw.1 c24
                refine xr_tabIn C (off := 118) 5 c24 ⟨by decide, by decide⟩ 119 dX4_count_1 (by decide) (by decide) (by decide +kernel) (by decide) ?_
                refine xr_aload_n C 0 dX4_count_119 rfl rfl ?_
                refine xr_get C hinX4 (N := 4) (ci := 4) (a := (ad 0)) 0 rfl rfl 0 (by decide) m0 rfl rfl dX4_count_120 ?_
                refine xr_callVi C (ci := 0) (q0 := 0) (As := []) (rest := []) (sp_wX_wB pv ad cI cJ cZ) (by decide) (fun h => h) (mX0_eventsListed σ _ hw) (cwV 0 C.2.2.2.2.1 gX4_count_X0_eventsListed rfl rfl rfl (by decide +kernel) ⟨by decide, by decide⟩) rfl rfl rfl rfl (Nat.le_of_ble_eq_true rfl) ⟨by decide, by decide⟩ dX4_count_123 (fun r25 σ26 hw => ?_)
                exact xr_iret C hr hw dX4_count_126
              · have hw := hw.2
                have hbc2 : (6 : Int) ≤ a1 := Int.lt_iff_le_and_ne.mpr ⟨hbc2, fun q => c24 q.symm⟩
                by_cases c27 : a1 = 6
                · have hw := hw.1 c27
                  refine xr_tabIn C (off := 126) 6 c27 ⟨by decide, by decide⟩ 127 dX4_count_1 (by decide) (by decide) (by decide +kernel) (by decide) ?_
                  refine xr_aload_n C 0 dX4_count_127 rfl rfl ?_
                  refine xr_get C hinX4 (N := 4) (ci := 4) (a := (ad 0)) 0 rfl rfl 0 (by decide) m0 rfl rfl dX4_count_128 ?_
                  refine xr_callVi C (ci := 0) (q0 := 0) (As := []) (rest := []) (sp_wX_wB pv ad cI cJ cZ) (by decide) (fun h => h) (mX0_turns σ _ hw) (cwV 0 C.2.2.2.2.1 gX4_count_X0_turns rfl rfl rfl (by decide +kernel) ⟨by decide, by decide⟩) rfl rfl rfl rfl (Nat.le_of_ble_eq_true rfl) ⟨by decide, by decide⟩ dX4_count_131 (fun r28 σ29 hw => ?_)
                  exact xr_iret C hr hw dX4_count_134
                · have hw := hw.2
                  have hbc2 : (7 : Int) ≤ a1 := Int.lt_iff_le_and_ne.mpr ⟨hbc2, fun q => c27 q.symm⟩
                  by_cases c30 : a1 = 7
                  · have hw := hw.1 c30
                    refine xr_tabIn C (off := 134) 7 c30 ⟨by decide, by decide⟩ 135 dX4_count_1 (by decide) (by decide) (by decide +kernel) (by decide) ?_
                    refine xr_aload_n C 0 dX4_count_135 rfl rfl ?_
                    refine xr_get C hinX4 (N := 4) (ci := 4) (a := (ad 0)) 0 rfl rfl 0 (by decide) m0 rfl rfl dX4_count_136 ?_
                    refine xr_callVi C (ci := 0) (q0 := 0) (As := []) (rest := []) (sp_wX_wB pv ad cI cJ cZ) (by decide) (fun h => h) (mX0_taps σ _ hw) (cwV 0 C.2.2.2.2.1 gX4_count_X0_taps rfl rfl rfl (by decide +kernel) ⟨by decide, by decide⟩) rfl rfl rfl rfl (Nat.le_of_ble_eq_true rfl) ⟨by decide, by decide⟩ dX4_count_139 (fun r31 σ32 hw => ?_)
                    exact xr_iret C hr hw dX4_count_142
                  · have hw := hw.2
                    have hbc2 : (8 : Int) ≤ a1 := Int.lt_iff_le_and_ne.mpr ⟨hbc2, fun q => c30 q.symm⟩
                    by_cases c33 : a1 = 8
                    · have hw := hw.1 c33
                      refine xr_tabIn C (off := 142) 8 c33 ⟨by decide, by decide⟩ 143 dX4_count_1 (by decide) (by decide) (by decide +kernel) (by decide) ?_
                      refine xr_aload_n C 0 dX4_count_143 rfl rfl ?_
                      refine xr_get C hinX4 (N := 4) (ci := 4) (a := (ad 0)) 0 rfl rfl 1 (by decide) m1 rfl rfl dX4_count_144 ?_
                      refine xr_callVi C (ci := 1) (q0 := 0) (As := []) (rest := []) (sp_wX_wHB pv ad cI cJ cZ) (by decide) (fun h => h) (mX1_states σ _ hw) (cwV 0 C.2.2.2.2.1 gX4_count_X1_states rfl rfl rfl (by decide +kernel) ⟨by decide, by decide⟩) rfl rfl rfl rfl (Nat.le_of_ble_eq_true rfl) ⟨by decide, by decide⟩ dX4_count_147 (fun r34 σ35 hw => ?_)
                      exact xr_iret C hr hw dX4_count_150
                    · have hw := hw.2
                      have hbc2 : (9 : Int) ≤ a1 := Int.lt_iff_le_and_ne.mpr ⟨hbc2, fun q => c33 q.symm⟩
                      by_cases c36 : a1 = 9
                      · have hw := hw c36
                        refine xr_tabIn C (off := 150) 9 c36 ⟨by decide, by decide⟩ 151 dX4_count_1 (by decide) (by decide) (by decide +kernel) (by decide) ?_
                        refine xr_aload_n C 0 dX4_count_151 rfl rfl ?_
                        refine xr_get C hinX4 (N := 4) (ci := 4) (a := (ad 0)) 0 rfl rfl 2 (by decide) m2 rfl rfl dX4_count_152 ?_
                        refine xr_callVi C (ci := 3) (q0 := 0) (As := []) (rest := []) (sp_wX_wS pv ad cI cJ cZ) (by decide) (fun h => h) (mX3_length σ _ hw) (cwV 0 C.2.2.2.2.1 gX4_count_X3_length rfl rfl rfl (by decide +kernel) ⟨by decide, by decide⟩) rfl rfl rfl rfl (Nat.le_of_ble_eq_true rfl) ⟨by decide, by decide⟩ dX4_count_155 (fun r37 σ38 hw => ?_)
                        exact xr_iret C hr hw dX4_count_158
                      · exact absurd (Or.inr (Int.lt_iff_le_and_ne.mpr ⟨hbc2, fun q => c36 q.symm⟩)) c2
abbrev rmX4_isSpan : Room := { frames := 0, cells := 0, slots := 0, locals := 64 }
set_option maxHeartbeats 8000000 in
set_option maxRecDepth 100000 in
theorem mX4_isSpan {l : Launch} {D : va_G} {cI cJ cZ : ClassId} (σ : xS) (a0 : Int) (Q : Int → xS → Prop) (hw : vX4_isSpan a0 σ Q) : xMi False l yX4_isSpan wsX4_isSpan rmX4_isSpan D (xtys cI cJ cZ) wN [] σ [.int (i32 a0)] Q := by
  refine xenter (F := []) (Qc := fun sz => xQi D wN [] σ sz Q) (own := RX4) (cc := cX4_isSpan) (maxL := 1) (ret := some .boolean) (by decide) rfl rfl (Nat.le_of_ble_eq_true rfl) ?_
  intro p e s m args below meth c hargs C hr hnm
  show xX p l e rmX4_isSpan s m args below meth c D vwCl (va_A (wN σ) s.heap.size) wN [] σ 0 0 (MQ below (xQi D wN [] σ s.heap.size Q) args s 0 0 (va_A (wN σ) s.heap.size)) 1 σ 0 [(0, .int (i32 a0))] []
  unfold vX4_isSpan at hw
  refine xr_iload_n C 0 dX4_isSpan_0 rfl rfl ?_
  refine xr_iconst C dX4_isSpan_1 ?_
  obtain ⟨g1, hw⟩ := hw
  refine xr_icmp_lt C g1 ⟨by decide, by decide⟩ 15 dX4_isSpan_2 (by decide) (fun c2 => ?_) (fun c2 => ?_)
  · have hw := hw.1 c2
    refine xr_iconst C dX4_isSpan_15 ?_
    exact xr_zret C hr (Or.inl rfl) hw dX4_isSpan_16
  · have hw := hw.2 c2
    refine xr_iload_n C 0 dX4_isSpan_5 rfl rfl ?_
    refine xr_bipush C dX4_isSpan_6 (by decide +kernel) ?_
    refine xr_icmp_gt C g1 ⟨by decide, by decide⟩ 15 dX4_isSpan_8 (by decide) (fun c3 => ?_) (fun c3 => ?_)
    · have hw := hw.1 c3
      refine xr_iconst C dX4_isSpan_15 ?_
      exact xr_zret C hr (Or.inl rfl) hw dX4_isSpan_16
    · have hw := hw.2 c3
      refine xr_iconst C dX4_isSpan_11 ?_
      refine xr_goto C 16 dX4_isSpan_12 (by decide) ?_
      exact xr_zret C hr (Or.inr rfl) hw dX4_isSpan_16
abbrev rmX4_bitOf : Room := { frames := 0, cells := 0, slots := 0, locals := 64 }
set_option maxHeartbeats 8000000 in
set_option maxRecDepth 100000 in
theorem mX4_bitOf {l : Launch} {D : va_G} {cI cJ cZ : ClassId} (σ : xS) (a0 a2 : Int) (Q : Int → xS → Prop) (hw : vX4_bitOf a0 a2 σ Q) : xMi False l yX4_bitOf wsX4_bitOf rmX4_bitOf D (xtys cI cJ cZ) wN [] σ [.long (i64 a0), .int (i32 a2)] Q := by
  refine xenter (F := []) (Qc := fun sz => xQi D wN [] σ sz Q) (own := RX4) (cc := cX4_bitOf) (maxL := 5) (ret := some .int) (by decide) rfl rfl (Nat.le_of_ble_eq_true rfl) ?_
  intro p e s m args below meth c hargs C hr hnm
  have L5 : ∀ a, mu (vX4_bitOf_5  Q) a → xX p l e rmX4_bitOf s m args below meth c D vwCl (va_A (wN σ) s.heap.size) wN [] σ 0 0 (MQ below (xQi D wN [] σ s.heap.size Q) args s 0 0 (va_A (wN σ) s.heap.size)) 5 (a.2.2.2.2) 5 [(0, .long (i64 (a.1))), (2, .int (i32 (a.2.1))), (3, .int (i32 (a.2.2.1))), (4, .int (i32 (a.2.2.2.1)))] [] := by
    refine mu_ind (fun K5 hK5 a hw => ?_)
    obtain ⟨x0, x2, x3, x4, σ0⟩ := a
    show xX p l e rmX4_bitOf s m args below meth c D vwCl (va_A (wN σ) s.heap.size) wN [] σ 0 0 (MQ below (xQi D wN [] σ s.heap.size Q) args s 0 0 (va_A (wN σ) s.heap.size)) 5 σ0 5 [(0, .long (i64 x0)), (2, .int (i32 x2)), (3, .int (i32 x3)), (4, .int (i32 x4))] []
    unfold vX4_bitOf_5 at hw
    refine xr_iload C 3 dX4_bitOf_5 rfl ?_
    refine xr_bipush C dX4_bitOf_7 (by decide +kernel) ?_
    obtain ⟨g1, hw⟩ := hw
    refine xr_icmp_gt C g1 ⟨by decide, by decide⟩ 40 dX4_bitOf_9 (by decide) (fun c2 => ?_) (fun c2 => ?_)
    · have hw := hw.1 c2
      refine xr_iconst C dX4_bitOf_40 ?_
      exact xr_iret C hr hw dX4_bitOf_41
    · have hw := hw.2 c2
      refine xr_lload_n C 0 dX4_bitOf_12 rfl rfl ?_
      refine xr_iload C 3 dX4_bitOf_13 rfl ?_
      refine xr_lshr C dX4_bitOf_15 ?_
      refine xr_lconst C 1 dX4_bitOf_16 (by decide +kernel) ?_
      refine xr_land C dX4_bitOf_17 ?_
      refine xr_lconst C 1 dX4_bitOf_18 (by decide +kernel) ?_
      refine xr_lcmp C dX4_bitOf_19 ?_
      obtain ⟨g3, hw⟩ := hw
      refine xr_if_ne C g3 34 dX4_bitOf_20 (by decide) (fun c4 => ?_) (fun c4 => ?_)
      · have hw := hw.1 c4
        refine xr_iinc C 3 [(0, .long (i64 x0)), (2, .int (i32 x2)), (3, .int (i32 x3)), (4, .int (i32 (x4 + 1)))] dX4_bitOf_34 rfl (by decide) rfl ?_
        refine xr_goto C 5 dX4_bitOf_37 (by decide) ?_
        exact hK5 (x0, x2, x3, (x4 + 1), σ0) hw
      · have hw := hw.2 c4
        refine xr_iload_n C 2 dX4_bitOf_23 rfl rfl ?_
        refine xr_iload_n C 1 dX4_bitOf_24 rfl rfl ?_
        obtain ⟨g5, hw⟩ := hw
        obtain ⟨g6, hw⟩ := hw
        refine xr_icmp_ne C g5 g6 31 dX4_bitOf_25 (by decide) (fun c7 => ?_) (fun c7 => ?_)
        · have hw := hw.1 c7
          refine xr_iinc C 2 [(0, .long (i64 x0)), (2, .int (i32 x2)), (3, .int (i32 (x3 + 1))), (4, .int (i32 x4))] dX4_bitOf_31 rfl (by decide) rfl ?_
          refine xr_iinc C 3 [(0, .long (i64 x0)), (2, .int (i32 x2)), (3, .int (i32 (x3 + 1))), (4, .int (i32 (x4 + 1)))] dX4_bitOf_34 rfl (by decide) rfl ?_
          refine xr_goto C 5 dX4_bitOf_37 (by decide) ?_
          exact hK5 (x0, x2, (x3 + 1), (x4 + 1), σ0) hw
        · have hw := hw.2 c7
          refine xr_iload C 3 dX4_bitOf_28 rfl ?_
          exact xr_iret C hr hw dX4_bitOf_30
  show xX p l e rmX4_bitOf s m args below meth c D vwCl (va_A (wN σ) s.heap.size) wN [] σ 0 0 (MQ below (xQi D wN [] σ s.heap.size Q) args s 0 0 (va_A (wN σ) s.heap.size)) 5 σ 0 [(0, .long (i64 a0)), (2, .int (i32 a2))] []
  unfold vX4_bitOf at hw
  refine xr_iconst C dX4_bitOf_0 ?_
  refine xr_istore_n C [(0, .long (i64 a0)), (2, .int (i32 a2)), (3, .int (i32 0))] dX4_bitOf_1 rfl (by decide) rfl ?_
  refine xr_iconst C dX4_bitOf_2 ?_
  refine xr_istore C [(0, .long (i64 a0)), (2, .int (i32 a2)), (3, .int (i32 0)), (4, .int (i32 0))] dX4_bitOf_3 (by decide) rfl ?_
  exact L5 (a0, a2, 0, 0, σ) hw
