abbrev rmX5_in : Room := { frames := 0, cells := 0, slots := 0, locals := 64 }
set_option maxHeartbeats 8000000 in
set_option maxRecDepth 100000 in
theorem mX5_in {l : Launch} {D : va_G} {cI cJ cZ : ClassId} (σ : xS) (a0 a1 a2 : Int) (Q : Int → xS → Prop) (hw : vX5_in a0 a1 a2 σ Q) : xMi False l yX5_in wsX5_in rmX5_in D (xtys cI cJ cZ) wN [] σ [.int (i32 a0), .int (i32 a1), .int (i32 a2)] Q := by
  refine xenter (F := []) (Qc := fun sz => xQi D wN [] σ sz Q) (own := RX5) (cc := cX5_in) (maxL := 3) (ret := some .boolean) (by decide) rfl rfl (Nat.le_of_ble_eq_true rfl) ?_
  intro p e s m args below meth c hargs C hr hnm
  show xX p l e rmX5_in s m args below meth c D vwCl (va_A (wN σ) s.heap.size) wN [] σ 0 0 (MQ below (xQi D wN [] σ s.heap.size Q) args s 0 0 (va_A (wN σ) s.heap.size)) 3 σ 0 [(0, .int (i32 a0)), (1, .int (i32 a1)), (2, .int (i32 a2))] []
  unfold vX5_in at hw
  refine xr_iload_n C 0 dX5_in_0 rfl rfl ?_
  refine xr_iload_n C 1 dX5_in_1 rfl rfl ?_
  obtain ⟨g1, hw⟩ := hw
  obtain ⟨g2, hw⟩ := hw
  refine xr_icmp_lt C g1 g2 14 dX5_in_2 (by decide) (fun c3 => ?_) (fun c3 => ?_)
  · have hw := hw.1 c3
    refine xr_iconst C dX5_in_14 ?_
    exact xr_zret C hr (Or.inl rfl) hw dX5_in_15
  · have hw := hw.2 c3
    refine xr_iload_n C 0 dX5_in_5 rfl rfl ?_
    refine xr_iload_n C 2 dX5_in_6 rfl rfl ?_
    obtain ⟨g4, hw⟩ := hw
    refine xr_icmp_gt C g1 g4 14 dX5_in_7 (by decide) (fun c5 => ?_) (fun c5 => ?_)
    · have hw := hw.1 c5
      refine xr_iconst C dX5_in_14 ?_
      exact xr_zret C hr (Or.inl rfl) hw dX5_in_15
    · have hw := hw.2 c5
      refine xr_iconst C dX5_in_10 ?_
      refine xr_goto C 15 dX5_in_11 (by decide) ?_
      exact xr_zret C hr (Or.inr rfl) hw dX5_in_15
abbrev rmX5_of : Room := { frames := 0, cells := 0, slots := 0, locals := 64 }
set_option maxHeartbeats 8000000 in
set_option maxRecDepth 100000 in
theorem mX5_of {l : Launch} {D : va_G} {ad : Nat → Nat} {cI cJ cZ : ClassId} (σ : xS) (a1 a2 : Int) (Q : Int → xS → Prop) (hw : vX5_of a1 a2 σ Q) : xMi False l yX5_of wsX5_of rmX5_of D (xtys cI cJ cZ) (wM ad cI cJ cZ) [20, 21, 22, 23, 24, 25, 26, 27, 28, 29, 30, 31, 32, 33] σ [.ref (ad 20), .int (i32 a1), .int (i32 a2)] Q := by
  refine xenter (F := [20, 21, 22, 23, 24, 25, 26, 27, 28, 29, 30, 31, 32, 33]) (Qc := fun sz => xQi D (wM ad cI cJ cZ) [20, 21, 22, 23, 24, 25, 26, 27, 28, 29, 30, 31, 32, 33] σ sz Q) (own := RX5) (cc := cX5_of) (maxL := 3) (ret := some .int) (by decide) rfl rfl (Nat.le_of_ble_eq_true rfl) ?_
  intro p e s m args below meth c hargs C hr hnm
  have hinX5 : ∀ w ∈ u_ws RX5 TX5 22, w ∈ wsX5_of := fun _ h => List.mem_cons_of_mem _ (List.mem_append_right _ h)
  have m0 : (Cond.fieldLink RX5 7 "SandBenchModel" "m" "[I") ∈ wsX5_of := by decide +kernel
  show xX p l e rmX5_of s m args below meth c D vwCl (va_A ((wM ad cI cJ cZ) σ) s.heap.size) (wM ad cI cJ cZ) [20, 21, 22, 23, 24, 25, 26, 27, 28, 29, 30, 31, 32, 33] σ 0 0 (MQ below (xQi D (wM ad cI cJ cZ) [20, 21, 22, 23, 24, 25, 26, 27, 28, 29, 30, 31, 32, 33] σ s.heap.size Q) args s 0 0 (va_A ((wM ad cI cJ cZ) σ) s.heap.size)) 3 σ 0 [(0, .ref (ad 20)), (1, .int (i32 a1)), (2, .int (i32 a2))] []
  unfold vX5_of at hw
  refine xr_aload_n C 0 dX5_of_0 rfl rfl ?_
  refine xr_get C hinX5 (N := 22) (ci := 5) (a := (ad 20)) 0 rfl rfl 0 (by decide) m0 rfl rfl dX5_of_1 ?_
  refine xr_bipush C dX5_of_4 (by decide +kernel) ?_
  refine xr_iload_n C 1 dX5_of_6 rfl rfl ?_
  refine xr_imul C dX5_of_7 ?_
  refine xr_iload_n C 2 dX5_of_8 rfl rfl ?_
  refine xr_iadd C dX5_of_9 ?_
  obtain ⟨g1, hw⟩ := hw
  refine xr_iald C (t0 := 0) 1 rfl rfl (by decide) (N := 64) rfl g1 dX5_of_10 ?_
  exact xr_iret C hr hw dX5_of_11
abbrev rmX5_put : Room := { frames := 0, cells := 0, slots := 0, locals := 64 }
set_option maxHeartbeats 8000000 in
set_option maxRecDepth 100000 in
theorem mX5_put {l : Launch} {D : va_G} {ad : Nat → Nat} {cI cJ cZ : ClassId} (σ : xS) (a1 a2 a3 : Int) (Q : xS → Prop) (hw : vX5_put a1 a2 a3 σ Q) : xMv False l yX5_put wsX5_put rmX5_put D (xtys cI cJ cZ) (wM ad cI cJ cZ) [20, 21, 22, 23, 24, 25, 26, 27, 28, 29, 30, 31, 32, 33] σ [.ref (ad 20), .int (i32 a1), .int (i32 a2), .int (i32 a3)] Q := by
  refine xenter (F := [20, 21, 22, 23, 24, 25, 26, 27, 28, 29, 30, 31, 32, 33]) (Qc := fun sz => xQv D (wM ad cI cJ cZ) [20, 21, 22, 23, 24, 25, 26, 27, 28, 29, 30, 31, 32, 33] σ sz Q) (own := RX5) (cc := cX5_put) (maxL := 4) (ret := none) (by decide) rfl rfl (Nat.le_of_ble_eq_true rfl) ?_
  intro p e s m args below meth c hargs C hr hnm
  have hinX5 : ∀ w ∈ u_ws RX5 TX5 22, w ∈ wsX5_put := fun _ h => List.mem_cons_of_mem _ (List.mem_append_right _ h)
  have m0 : (Cond.fieldLink RX5 7 "SandBenchModel" "m" "[I") ∈ wsX5_put := by decide +kernel
  show xX p l e rmX5_put s m args below meth c D vwCl (va_A ((wM ad cI cJ cZ) σ) s.heap.size) (wM ad cI cJ cZ) [20, 21, 22, 23, 24, 25, 26, 27, 28, 29, 30, 31, 32, 33] σ 0 0 (MQ below (xQv D (wM ad cI cJ cZ) [20, 21, 22, 23, 24, 25, 26, 27, 28, 29, 30, 31, 32, 33] σ s.heap.size Q) args s 0 0 (va_A ((wM ad cI cJ cZ) σ) s.heap.size)) 4 σ 0 [(0, .ref (ad 20)), (1, .int (i32 a1)), (2, .int (i32 a2)), (3, .int (i32 a3))] []
  unfold vX5_put at hw
  refine xr_aload_n C 0 dX5_put_0 rfl rfl ?_
  refine xr_get C hinX5 (N := 22) (ci := 5) (a := (ad 20)) 0 rfl rfl 0 (by decide) m0 rfl rfl dX5_put_1 ?_
  refine xr_bipush C dX5_put_4 (by decide +kernel) ?_
  refine xr_iload_n C 1 dX5_put_6 rfl rfl ?_
  refine xr_imul C dX5_put_7 ?_
  refine xr_iload_n C 2 dX5_put_8 rfl rfl ?_
  refine xr_iadd C dX5_put_9 ?_
  refine xr_iload_n C 3 dX5_put_10 rfl rfl ?_
  obtain ⟨g1, hw⟩ := hw
  refine xr_iast C (t0 := 0) (r := 21) 1 rfl rfl (by decide) (N := 64) rfl g1 wM_st21 (by decide) dX5_put_11 ?_
  refine xr_sig (fun σ2 e3 => ?_)
  have hw := hw σ2 e3
  exact xr_vret C hr hw dX5_put_12
abbrev rmX5_isGlass : Room := { frames := 1, cells := 0, slots := 0, locals := 86 }
set_option maxHeartbeats 8000000 in
set_option maxRecDepth 100000 in
theorem mX5_isGlass {l : Launch} {D : va_G} {ad : Nat → Nat} {cI cJ cZ : ClassId} (σ : xS) (a1 : Int) (Q : Int → xS → Prop) (hw : vX5_isGlass a1 σ Q) : xMi False l yX5_isGlass wsX5_isGlass rmX5_isGlass D (xtys cI cJ cZ) (wM ad cI cJ cZ) [20, 21, 22, 23, 24, 25, 26, 27, 28, 29, 30, 31, 32, 33] σ [.ref (ad 20), .int (i32 a1)] Q := by
  refine xenter (F := [20, 21, 22, 23, 24, 25, 26, 27, 28, 29, 30, 31, 32, 33]) (Qc := fun sz => xQi D (wM ad cI cJ cZ) [20, 21, 22, 23, 24, 25, 26, 27, 28, 29, 30, 31, 32, 33] σ sz Q) (own := RX5) (cc := cX5_isGlass) (maxL := 2) (ret := some .boolean) (by decide) rfl rfl (Nat.le_of_ble_eq_true rfl) ?_
  intro p e s m args below meth c hargs C hr hnm
  have hinX5 : ∀ w ∈ u_ws RX5 TX5 22, w ∈ wsX5_isGlass := fun _ h => List.mem_cons_of_mem _ (List.mem_append_right _ h)
  have m0 : (Cond.fieldLink RX5 7 "SandBenchModel" "m" "[I") ∈ wsX5_isGlass := by decide +kernel
  show xX p l e rmX5_isGlass s m args below meth c D vwCl (va_A ((wM ad cI cJ cZ) σ) s.heap.size) (wM ad cI cJ cZ) [20, 21, 22, 23, 24, 25, 26, 27, 28, 29, 30, 31, 32, 33] σ 0 0 (MQ below (xQi D (wM ad cI cJ cZ) [20, 21, 22, 23, 24, 25, 26, 27, 28, 29, 30, 31, 32, 33] σ s.heap.size Q) args s 0 0 (va_A ((wM ad cI cJ cZ) σ) s.heap.size)) 2 σ 0 [(0, .ref (ad 20)), (1, .int (i32 a1))] []
  unfold vX5_isGlass at hw
  refine xr_iload_n C 1 dX5_isGlass_0 rfl rfl ?_
  refine xr_iconst C dX5_isGlass_1 ?_
  refine xr_aload_n C 0 dX5_isGlass_2 rfl rfl ?_
  refine xr_get C hinX5 (N := 22) (ci := 5) (a := (ad 20)) 0 rfl rfl 0 (by decide) m0 rfl rfl dX5_isGlass_3 ?_
  refine xr_bipush C dX5_isGlass_6 (by decide +kernel) ?_
  refine xr_iald C (t0 := 0) 1 rfl rfl (by decide) (N := 64) rfl ⟨by decide, by decide⟩ dX5_isGlass_8 ?_
  refine xr_iconst C dX5_isGlass_9 ?_
  refine xr_isub C dX5_isGlass_10 ?_
  refine xr_callSi C (As := [.int (i32 a1), .int (i32 0), .int (i32 ((σ 21 21) - 1))]) (rest := []) (xSp_nil _) (by decide) (fun h => h) (mX5_in σ a1 0 ((σ 21 21) - 1) _ hw) (va_cwS 3 C.2.2.2.2.1 gX5_isGlass_X5_in rfl rfl rfl (by decide +kernel) ⟨by decide, by decide⟩) rfl rfl (Nat.le_of_ble_eq_true rfl) ⟨by decide, by decide⟩ dX5_isGlass_11 (fun r1 σ2 hw => ?_)
  exact xr_zret C hr hw.1 hw.2 dX5_isGlass_14
abbrev rmX5_keeps : Room := { frames := 0, cells := 0, slots := 0, locals := 64 }
set_option maxHeartbeats 8000000 in
set_option maxRecDepth 100000 in
theorem mX5_keeps {l : Launch} {D : va_G} {ad : Nat → Nat} {cI cJ cZ : ClassId} (σ : xS) (Q : xS → Prop) (hw : vX5_keeps σ Q) : xMv False l yX5_keeps wsX5_keeps rmX5_keeps D (xtys cI cJ cZ) (wM ad cI cJ cZ) [20, 21, 22, 23, 24, 25, 26, 27, 28, 29, 30, 31, 32, 33] σ [.ref (ad 20)] Q := by
  refine xenter (F := [20, 21, 22, 23, 24, 25, 26, 27, 28, 29, 30, 31, 32, 33]) (Qc := fun sz => xQv D (wM ad cI cJ cZ) [20, 21, 22, 23, 24, 25, 26, 27, 28, 29, 30, 31, 32, 33] σ sz Q) (own := RX5) (cc := cX5_keeps) (maxL := 2) (ret := none) (by decide) rfl rfl (Nat.le_of_ble_eq_true rfl) ?_
  intro p e s m args below meth c hargs C hr hnm
  have hinX5 : ∀ w ∈ u_ws RX5 TX5 22, w ∈ wsX5_keeps := fun _ h => List.mem_cons_of_mem _ (List.mem_append_right _ h)
  have m0 : (Cond.fieldLink RX5 59 "SandBenchModel" "undos" "I") ∈ wsX5_keeps := by decide +kernel
  have m1 : (Cond.fieldLink RX5 13 "SandBenchModel" "past" "[I") ∈ wsX5_keeps := by decide +kernel
  have m2 : (Cond.fieldLink RX5 7 "SandBenchModel" "m" "[I") ∈ wsX5_keeps := by decide +kernel
  have L51 : ∀ a, mu (vX5_keeps_51  Q) a → xX p l e rmX5_keeps s m args below meth c D vwCl (va_A ((wM ad cI cJ cZ) σ) s.heap.size) (wM ad cI cJ cZ) [20, 21, 22, 23, 24, 25, 26, 27, 28, 29, 30, 31, 32, 33] σ 0 0 (MQ below (xQv D (wM ad cI cJ cZ) [20, 21, 22, 23, 24, 25, 26, 27, 28, 29, 30, 31, 32, 33] σ s.heap.size Q) args s 0 0 (va_A ((wM ad cI cJ cZ) σ) s.heap.size)) 2 (a.2) 51 [(0, .ref (ad 20)), (1, .int (i32 (a.1)))] [] := by
    refine mu_ind (fun K51 hK51 a hw => ?_)
    obtain ⟨x1, σ0⟩ := a
    show xX p l e rmX5_keeps s m args below meth c D vwCl (va_A ((wM ad cI cJ cZ) σ) s.heap.size) (wM ad cI cJ cZ) [20, 21, 22, 23, 24, 25, 26, 27, 28, 29, 30, 31, 32, 33] σ 0 0 (MQ below (xQv D (wM ad cI cJ cZ) [20, 21, 22, 23, 24, 25, 26, 27, 28, 29, 30, 31, 32, 33] σ s.heap.size Q) args s 0 0 (va_A ((wM ad cI cJ cZ) σ) s.heap.size)) 2 σ0 51 [(0, .ref (ad 20)), (1, .int (i32 x1))] []
    unfold vX5_keeps_51 at hw
    refine xr_iload_n C 1 dX5_keeps_51 rfl rfl ?_
    refine xr_bipush C dX5_keeps_52 (by decide +kernel) ?_
    obtain ⟨g1, hw⟩ := hw
    refine xr_icmp_ge C g1 ⟨by decide, by decide⟩ 83 dX5_keeps_54 (by decide) (fun c2 => ?_) (fun c2 => ?_)
    · have hw := hw.1 c2
      refine xr_aload_n C 0 dX5_keeps_83 rfl rfl ?_
      refine xr_dup C dX5_keeps_84 rfl ?_
      refine xr_get C hinX5 (N := 22) (ci := 5) (a := (ad 20)) 0 rfl rfl 3 (by decide) m0 rfl rfl dX5_keeps_85 ?_
      refine xr_iconst C dX5_keeps_88 ?_
      refine xr_iadd C dX5_keeps_89 ?_
      refine xr_put C (r := 20) (x := ((σ0 20 3) + 1)) (ty := .int) hinX5 (N := 22) (ci := 5) tyX5 tyX5_ok nmX5 0 rfl rfl 3 (by decide) m0 rfl rfl (by decide +kernel) rfl rfl (Nat.le_of_ble_eq_true rfl) rfl (by decide) dX5_keeps_90 ?_
      refine xr_sig (fun σ3 e4 => ?_)
      have hw := hw σ3 e4
      exact xr_vret C hr hw dX5_keeps_93
    · have hw := hw.2 c2
      refine xr_aload_n C 0 dX5_keeps_57 rfl rfl ?_
      refine xr_get C hinX5 (N := 22) (ci := 5) (a := (ad 20)) 0 rfl rfl 1 (by decide) m1 rfl rfl dX5_keeps_58 ?_
      refine xr_bipush C dX5_keeps_61 (by decide +kernel) ?_
      refine xr_aload_n C 0 dX5_keeps_63 rfl rfl ?_
      refine xr_get C hinX5 (N := 22) (ci := 5) (a := (ad 20)) 0 rfl rfl 3 (by decide) m0 rfl rfl dX5_keeps_64 ?_
      refine xr_imul C dX5_keeps_67 ?_
      refine xr_iload_n C 1 dX5_keeps_68 rfl rfl ?_
      refine xr_iadd C dX5_keeps_69 ?_
      refine xr_aload_n C 0 dX5_keeps_70 rfl rfl ?_
      refine xr_get C hinX5 (N := 22) (ci := 5) (a := (ad 20)) 0 rfl rfl 0 (by decide) m2 rfl rfl dX5_keeps_71 ?_
      refine xr_iload_n C 1 dX5_keeps_74 rfl rfl ?_
      obtain ⟨g5, hw⟩ := hw
      refine xr_iald C (t0 := 0) 1 rfl rfl (by decide) (N := 64) rfl g5 dX5_keeps_75 ?_
      obtain ⟨g6, hw⟩ := hw
      refine xr_iast C (t0 := 0) (r := 22) 2 rfl rfl (by decide) (N := 512) rfl g6 wM_st22 (by decide) dX5_keeps_76 ?_
      refine xr_sig (fun σ7 e8 => ?_)
      have hw := hw σ7 e8
      refine xr_iinc C 1 [(0, .ref (ad 20)), (1, .int (i32 (x1 + 1)))] dX5_keeps_77 rfl (by decide) rfl ?_
      refine xr_goto C 51 dX5_keeps_80 (by decide) ?_
      exact hK51 ((x1 + 1), σ7) hw
  have L11 : ∀ a, mu (vX5_keeps_11  Q) a → xX p l e rmX5_keeps s m args below meth c D vwCl (va_A ((wM ad cI cJ cZ) σ) s.heap.size) (wM ad cI cJ cZ) [20, 21, 22, 23, 24, 25, 26, 27, 28, 29, 30, 31, 32, 33] σ 0 0 (MQ below (xQv D (wM ad cI cJ cZ) [20, 21, 22, 23, 24, 25, 26, 27, 28, 29, 30, 31, 32, 33] σ s.heap.size Q) args s 0 0 (va_A ((wM ad cI cJ cZ) σ) s.heap.size)) 2 (a.2) 11 [(0, .ref (ad 20)), (1, .int (i32 (a.1)))] [] := by
    refine mu_ind (fun K11 hK11 a hw => ?_)
    obtain ⟨x1, σ0⟩ := a
    show xX p l e rmX5_keeps s m args below meth c D vwCl (va_A ((wM ad cI cJ cZ) σ) s.heap.size) (wM ad cI cJ cZ) [20, 21, 22, 23, 24, 25, 26, 27, 28, 29, 30, 31, 32, 33] σ 0 0 (MQ below (xQv D (wM ad cI cJ cZ) [20, 21, 22, 23, 24, 25, 26, 27, 28, 29, 30, 31, 32, 33] σ s.heap.size Q) args s 0 0 (va_A ((wM ad cI cJ cZ) σ) s.heap.size)) 2 σ0 11 [(0, .ref (ad 20)), (1, .int (i32 x1))] []
    unfold vX5_keeps_11 at hw
    refine xr_iload_n C 1 dX5_keeps_11 rfl rfl ?_
    refine xr_sipush C dX5_keeps_12 (by decide +kernel) ?_
    obtain ⟨g9, hw⟩ := hw
    refine xr_icmp_ge C g9 ⟨by decide, by decide⟩ 39 dX5_keeps_15 (by decide) (fun c10 => ?_) (fun c10 => ?_)
    · have hw := hw.1 c10
      refine xr_aload_n C 0 dX5_keeps_39 rfl rfl ?_
      refine xr_dup C dX5_keeps_40 rfl ?_
      refine xr_get C hinX5 (N := 22) (ci := 5) (a := (ad 20)) 0 rfl rfl 3 (by decide) m0 rfl rfl dX5_keeps_41 ?_
      refine xr_iconst C dX5_keeps_44 ?_
      refine xr_isub C dX5_keeps_45 ?_
      refine xr_put C (r := 20) (x := ((σ0 20 3) - 1)) (ty := .int) hinX5 (N := 22) (ci := 5) tyX5 tyX5_ok nmX5 0 rfl rfl 3 (by decide) m0 rfl rfl (by decide +kernel) rfl rfl (Nat.le_of_ble_eq_true rfl) rfl (by decide) dX5_keeps_46 ?_
      refine xr_sig (fun σ11 e12 => ?_)
      have hw := hw σ11 e12
      refine xr_iconst C dX5_keeps_49 ?_
      refine xr_istore_n C [(0, .ref (ad 20)), (1, .int (i32 0))] dX5_keeps_50 rfl (by decide) rfl ?_
      exact L51 (0, σ11) hw
    · have hw := hw.2 c10
      refine xr_aload_n C 0 dX5_keeps_18 rfl rfl ?_
      refine xr_get C hinX5 (N := 22) (ci := 5) (a := (ad 20)) 0 rfl rfl 1 (by decide) m1 rfl rfl dX5_keeps_19 ?_
      refine xr_iload_n C 1 dX5_keeps_22 rfl rfl ?_
      refine xr_aload_n C 0 dX5_keeps_23 rfl rfl ?_
      refine xr_get C hinX5 (N := 22) (ci := 5) (a := (ad 20)) 0 rfl rfl 1 (by decide) m1 rfl rfl dX5_keeps_24 ?_
      refine xr_iload_n C 1 dX5_keeps_27 rfl rfl ?_
      refine xr_bipush C dX5_keeps_28 (by decide +kernel) ?_
      refine xr_iadd C dX5_keeps_30 ?_
      obtain ⟨g13, hw⟩ := hw
      refine xr_iald C (t0 := 0) 2 rfl rfl (by decide) (N := 512) rfl g13 dX5_keeps_31 ?_
      obtain ⟨g14, hw⟩ := hw
      refine xr_iast C (t0 := 0) (r := 22) 2 rfl rfl (by decide) (N := 512) rfl g14 wM_st22 (by decide) dX5_keeps_32 ?_
      refine xr_sig (fun σ15 e16 => ?_)
      have hw := hw σ15 e16
      refine xr_iinc C 1 [(0, .ref (ad 20)), (1, .int (i32 (x1 + 1)))] dX5_keeps_33 rfl (by decide) rfl ?_
      refine xr_goto C 11 dX5_keeps_36 (by decide) ?_
      exact hK11 ((x1 + 1), σ15) hw
  show xX p l e rmX5_keeps s m args below meth c D vwCl (va_A ((wM ad cI cJ cZ) σ) s.heap.size) (wM ad cI cJ cZ) [20, 21, 22, 23, 24, 25, 26, 27, 28, 29, 30, 31, 32, 33] σ 0 0 (MQ below (xQv D (wM ad cI cJ cZ) [20, 21, 22, 23, 24, 25, 26, 27, 28, 29, 30, 31, 32, 33] σ s.heap.size Q) args s 0 0 (va_A ((wM ad cI cJ cZ) σ) s.heap.size)) 2 σ 0 [(0, .ref (ad 20))] []
  unfold vX5_keeps at hw
  refine xr_aload_n C 0 dX5_keeps_0 rfl rfl ?_
  refine xr_get C hinX5 (N := 22) (ci := 5) (a := (ad 20)) 0 rfl rfl 3 (by decide) m0 rfl rfl dX5_keeps_1 ?_
  refine xr_bipush C dX5_keeps_4 (by decide +kernel) ?_
  obtain ⟨g17, hw⟩ := hw
  refine xr_icmp_ne C g17 ⟨by decide, by decide⟩ 49 dX5_keeps_6 (by decide) (fun c18 => ?_) (fun c18 => ?_)
  · have hw := hw.1 c18
    refine xr_iconst C dX5_keeps_49 ?_
    refine xr_istore_n C [(0, .ref (ad 20)), (1, .int (i32 0))] dX5_keeps_50 rfl (by decide) rfl ?_
    exact L51 (0, σ) hw
  · have hw := hw.2 c18
    refine xr_iconst C dX5_keeps_9 ?_
    refine xr_istore_n C [(0, .ref (ad 20)), (1, .int (i32 0))] dX5_keeps_10 rfl (by decide) rfl ?_
    exact L11 (0, σ) hw
abbrev rmX5_undo : Room := { frames := 0, cells := 0, slots := 0, locals := 64 }
set_option maxHeartbeats 8000000 in
set_option maxRecDepth 100000 in
theorem mX5_undo {l : Launch} {D : va_G} {ad : Nat → Nat} {cI cJ cZ : ClassId} (σ : xS) (Q : Int → xS → Prop) (hw : vX5_undo σ Q) : xMi False l yX5_undo wsX5_undo rmX5_undo D (xtys cI cJ cZ) (wM ad cI cJ cZ) [20, 21, 22, 23, 24, 25, 26, 27, 28, 29, 30, 31, 32, 33] σ [.ref (ad 20)] Q := by
  refine xenter (F := [20, 21, 22, 23, 24, 25, 26, 27, 28, 29, 30, 31, 32, 33]) (Qc := fun sz => xQi D (wM ad cI cJ cZ) [20, 21, 22, 23, 24, 25, 26, 27, 28, 29, 30, 31, 32, 33] σ sz Q) (own := RX5) (cc := cX5_undo) (maxL := 2) (ret := some .int) (by decide) rfl rfl (Nat.le_of_ble_eq_true rfl) ?_
  intro p e s m args below meth c hargs C hr hnm
  have hinX5 : ∀ w ∈ u_ws RX5 TX5 22, w ∈ wsX5_undo := fun _ h => List.mem_cons_of_mem _ (List.mem_append_right _ h)
  have m0 : (Cond.fieldLink RX5 59 "SandBenchModel" "undos" "I") ∈ wsX5_undo := by decide +kernel
  have m1 : (Cond.fieldLink RX5 7 "SandBenchModel" "m" "[I") ∈ wsX5_undo := by decide +kernel
  have m2 : (Cond.fieldLink RX5 13 "SandBenchModel" "past" "[I") ∈ wsX5_undo := by decide +kernel
  have L22 : ∀ a, mu (vX5_undo_22  Q) a → xX p l e rmX5_undo s m args below meth c D vwCl (va_A ((wM ad cI cJ cZ) σ) s.heap.size) (wM ad cI cJ cZ) [20, 21, 22, 23, 24, 25, 26, 27, 28, 29, 30, 31, 32, 33] σ 0 0 (MQ below (xQi D (wM ad cI cJ cZ) [20, 21, 22, 23, 24, 25, 26, 27, 28, 29, 30, 31, 32, 33] σ s.heap.size Q) args s 0 0 (va_A ((wM ad cI cJ cZ) σ) s.heap.size)) 2 (a.2) 22 [(0, .ref (ad 20)), (1, .int (i32 (a.1)))] [] := by
    refine mu_ind (fun K22 hK22 a hw => ?_)
    obtain ⟨x1, σ0⟩ := a
    show xX p l e rmX5_undo s m args below meth c D vwCl (va_A ((wM ad cI cJ cZ) σ) s.heap.size) (wM ad cI cJ cZ) [20, 21, 22, 23, 24, 25, 26, 27, 28, 29, 30, 31, 32, 33] σ 0 0 (MQ below (xQi D (wM ad cI cJ cZ) [20, 21, 22, 23, 24, 25, 26, 27, 28, 29, 30, 31, 32, 33] σ s.heap.size Q) args s 0 0 (va_A ((wM ad cI cJ cZ) σ) s.heap.size)) 2 σ0 22 [(0, .ref (ad 20)), (1, .int (i32 x1))] []
    unfold vX5_undo_22 at hw
    refine xr_iload_n C 1 dX5_undo_22 rfl rfl ?_
    refine xr_bipush C dX5_undo_23 (by decide +kernel) ?_
    obtain ⟨g1, hw⟩ := hw
    refine xr_icmp_ge C g1 ⟨by decide, by decide⟩ 54 dX5_undo_25 (by decide) (fun c2 => ?_) (fun c2 => ?_)
    · have hw := hw.1 c2
      refine xr_aload_n C 0 dX5_undo_54 rfl rfl ?_
      refine xr_get C hinX5 (N := 22) (ci := 5) (a := (ad 20)) 0 rfl rfl 3 (by decide) m0 rfl rfl dX5_undo_55 ?_
      exact xr_iret C hr hw dX5_undo_58
    · have hw := hw.2 c2
      refine xr_aload_n C 0 dX5_undo_28 rfl rfl ?_
      refine xr_get C hinX5 (N := 22) (ci := 5) (a := (ad 20)) 0 rfl rfl 0 (by decide) m1 rfl rfl dX5_undo_29 ?_
      refine xr_iload_n C 1 dX5_undo_32 rfl rfl ?_
      refine xr_aload_n C 0 dX5_undo_33 rfl rfl ?_
      refine xr_get C hinX5 (N := 22) (ci := 5) (a := (ad 20)) 0 rfl rfl 1 (by decide) m2 rfl rfl dX5_undo_34 ?_
      refine xr_bipush C dX5_undo_37 (by decide +kernel) ?_
      refine xr_aload_n C 0 dX5_undo_39 rfl rfl ?_
      refine xr_get C hinX5 (N := 22) (ci := 5) (a := (ad 20)) 0 rfl rfl 3 (by decide) m0 rfl rfl dX5_undo_40 ?_
      refine xr_imul C dX5_undo_43 ?_
      refine xr_iload_n C 1 dX5_undo_44 rfl rfl ?_
      refine xr_iadd C dX5_undo_45 ?_
      obtain ⟨g3, hw⟩ := hw
      refine xr_iald C (t0 := 0) 2 rfl rfl (by decide) (N := 512) rfl g3 dX5_undo_46 ?_
      refine xr_topi (fun t4 e5 => ?_)
      have hw := hw t4 e5
      obtain ⟨g6, hw⟩ := hw
      refine xr_iast C (t0 := 0) (r := 21) 1 rfl rfl (by decide) (N := 64) rfl g6 wM_st21 (by decide) dX5_undo_47 ?_
      refine xr_sig (fun σ7 e8 => ?_)
      have hw := hw σ7 e8
      refine xr_iinc C 1 [(0, .ref (ad 20)), (1, .int (i32 (x1 + 1)))] dX5_undo_48 rfl (by decide) rfl ?_
      refine xr_goto C 22 dX5_undo_51 (by decide) ?_
      exact hK22 ((x1 + 1), σ7) hw
  show xX p l e rmX5_undo s m args below meth c D vwCl (va_A ((wM ad cI cJ cZ) σ) s.heap.size) (wM ad cI cJ cZ) [20, 21, 22, 23, 24, 25, 26, 27, 28, 29, 30, 31, 32, 33] σ 0 0 (MQ below (xQi D (wM ad cI cJ cZ) [20, 21, 22, 23, 24, 25, 26, 27, 28, 29, 30, 31, 32, 33] σ s.heap.size Q) args s 0 0 (va_A ((wM ad cI cJ cZ) σ) s.heap.size)) 2 σ 0 [(0, .ref (ad 20))] []
  unfold vX5_undo at hw
  refine xr_aload_n C 0 dX5_undo_0 rfl rfl ?_
  refine xr_get C hinX5 (N := 22) (ci := 5) (a := (ad 20)) 0 rfl rfl 3 (by decide) m0 rfl rfl dX5_undo_1 ?_
  obtain ⟨g9, hw⟩ := hw
  refine xr_if_ne C g9 10 dX5_undo_4 (by decide) (fun c10 => ?_) (fun c10 => ?_)
  · have hw := hw.1 c10
    refine xr_aload_n C 0 dX5_undo_10 rfl rfl ?_
    refine xr_dup C dX5_undo_11 rfl ?_
    refine xr_get C hinX5 (N := 22) (ci := 5) (a := (ad 20)) 0 rfl rfl 3 (by decide) m0 rfl rfl dX5_undo_12 ?_
    refine xr_iconst C dX5_undo_15 ?_
    refine xr_isub C dX5_undo_16 ?_
    refine xr_put C (r := 20) (x := ((σ 20 3) - 1)) (ty := .int) hinX5 (N := 22) (ci := 5) tyX5 tyX5_ok nmX5 0 rfl rfl 3 (by decide) m0 rfl rfl (by decide +kernel) rfl rfl (Nat.le_of_ble_eq_true rfl) rfl (by decide) dX5_undo_17 ?_
    refine xr_sig (fun σ11 e12 => ?_)
    have hw := hw σ11 e12
    refine xr_iconst C dX5_undo_20 ?_
    refine xr_istore_n C [(0, .ref (ad 20)), (1, .int (i32 0))] dX5_undo_21 rfl (by decide) rfl ?_
    exact L22 (0, σ11) hw
  · have hw := hw.2 c10
    refine xr_bipush C dX5_undo_7 (by decide +kernel) ?_
    exact xr_iret C hr hw dX5_undo_9
abbrev rmX5_runs : Room := { frames := 1, cells := 0, slots := 0, locals := 86 }
set_option maxHeartbeats 8000000 in
set_option maxRecDepth 100000 in
theorem mX5_runs {l : Launch} {D : va_G} {ad : Nat → Nat} {cI cJ cZ : ClassId} (σ : xS) (a1 : Int) (Q : Int → xS → Prop) (hw : vX5_runs a1 σ Q) : xMi False l yX5_runs wsX5_runs rmX5_runs D (xtys cI cJ cZ) (wM ad cI cJ cZ) [20, 21, 22, 23, 24, 25, 26, 27, 28, 29, 30, 31, 32, 33] σ [.ref (ad 20), .int (i32 a1)] Q := by
  refine xenter (F := [20, 21, 22, 23, 24, 25, 26, 27, 28, 29, 30, 31, 32, 33]) (Qc := fun sz => xQi D (wM ad cI cJ cZ) [20, 21, 22, 23, 24, 25, 26, 27, 28, 29, 30, 31, 32, 33] σ sz Q) (own := RX5) (cc := cX5_runs) (maxL := 2) (ret := some .boolean) (by decide) rfl rfl (Nat.le_of_ble_eq_true rfl) ?_
  intro p e s m args below meth c hargs C hr hnm
  show xX p l e rmX5_runs s m args below meth c D vwCl (va_A ((wM ad cI cJ cZ) σ) s.heap.size) (wM ad cI cJ cZ) [20, 21, 22, 23, 24, 25, 26, 27, 28, 29, 30, 31, 32, 33] σ 0 0 (MQ below (xQi D (wM ad cI cJ cZ) [20, 21, 22, 23, 24, 25, 26, 27, 28, 29, 30, 31, 32, 33] σ s.heap.size Q) args s 0 0 (va_A ((wM ad cI cJ cZ) σ) s.heap.size)) 2 σ 0 [(0, .ref (ad 20)), (1, .int (i32 a1))] []
  unfold vX5_runs at hw
  refine xr_aload_n C 0 dX5_runs_0 rfl rfl ?_
  refine xr_iload_n C 1 dX5_runs_1 rfl rfl ?_
  refine xr_iconst C dX5_runs_2 ?_
  refine xr_callVi C (ci := 5) (q0 := 0) (As := [.int (i32 a1), .int (i32 1)]) (rest := []) (xSp_rf _ _) (by decide) (fun h => h) (mX5_of σ a1 1 _ hw) (cwV 2 C.2.2.2.2.1 gX5_runs_X5_of rfl rfl rfl (by decide +kernel) ⟨by decide, by decide⟩) rfl rfl rfl rfl (Nat.le_of_ble_eq_true rfl) ⟨by decide, by decide⟩ dX5_runs_3 (fun r1 σ2 hw => ?_)
  obtain ⟨g3, hw⟩ := hw
  refine xr_if_le C g3 32 dX5_runs_6 (by decide) (fun c4 => ?_) (fun c4 => ?_)
  · have hw := hw.1 c4
    refine xr_iconst C dX5_runs_32 ?_
    exact xr_zret C hr (Or.inl rfl) hw dX5_runs_33
  · have hw := hw.2 c4
    refine xr_aload_n C 0 dX5_runs_9 rfl rfl ?_
    refine xr_iload_n C 1 dX5_runs_10 rfl rfl ?_
    refine xr_iconst C dX5_runs_11 ?_
    refine xr_callVi C (ci := 5) (q0 := 0) (As := [.int (i32 a1), .int (i32 2)]) (rest := []) (xSp_rf _ _) (by decide) (fun h => h) (mX5_of σ2 a1 2 _ hw) (cwV 2 C.2.2.2.2.1 gX5_runs_X5_of rfl rfl rfl (by decide +kernel) ⟨by decide, by decide⟩) rfl rfl rfl rfl (Nat.le_of_ble_eq_true rfl) ⟨by decide, by decide⟩ dX5_runs_12 (fun r5 σ6 hw => ?_)
    refine xr_iconst C dX5_runs_15 ?_
    obtain ⟨g7, hw⟩ := hw
    refine xr_icmp_eq C g7 ⟨by decide, by decide⟩ 32 dX5_runs_16 (by decide) (fun c8 => ?_) (fun c8 => ?_)
    · have hw := hw.1 c8
      refine xr_iconst C dX5_runs_32 ?_
      exact xr_zret C hr (Or.inl rfl) hw dX5_runs_33
    · have hw := hw.2 c8
      refine xr_aload_n C 0 dX5_runs_19 rfl rfl ?_
      refine xr_iload_n C 1 dX5_runs_20 rfl rfl ?_
      refine xr_iconst C dX5_runs_21 ?_
      refine xr_callVi C (ci := 5) (q0 := 0) (As := [.int (i32 a1), .int (i32 4)]) (rest := []) (xSp_rf _ _) (by decide) (fun h => h) (mX5_of σ6 a1 4 _ hw) (cwV 2 C.2.2.2.2.1 gX5_runs_X5_of rfl rfl rfl (by decide +kernel) ⟨by decide, by decide⟩) rfl rfl rfl rfl (Nat.le_of_ble_eq_true rfl) ⟨by decide, by decide⟩ dX5_runs_22 (fun r9 σ10 hw => ?_)
      obtain ⟨g11, hw⟩ := hw
      refine xr_if_ne C g11 32 dX5_runs_25 (by decide) (fun c12 => ?_) (fun c12 => ?_)
      · have hw := hw.1 c12
        refine xr_iconst C dX5_runs_32 ?_
        exact xr_zret C hr (Or.inl rfl) hw dX5_runs_33
      · have hw := hw.2 c12
        refine xr_iconst C dX5_runs_28 ?_
        refine xr_goto C 33 dX5_runs_29 (by decide) ?_
        exact xr_zret C hr (Or.inr rfl) hw dX5_runs_33
abbrev rmX5_runsAny : Room := { frames := 2, cells := 0, slots := 0, locals := 107 }
set_option maxHeartbeats 8000000 in
set_option maxRecDepth 100000 in
theorem mX5_runsAny {l : Launch} {D : va_G} {ad : Nat → Nat} {cI cJ cZ : ClassId} (σ : xS) (Q : Int → xS → Prop) (hw : vX5_runsAny σ Q) : xMi False l yX5_runsAny wsX5_runsAny rmX5_runsAny D (xtys cI cJ cZ) (wM ad cI cJ cZ) [20, 21, 22, 23, 24, 25, 26, 27, 28, 29, 30, 31, 32, 33] σ [.ref (ad 20)] Q := by
  refine xenter (F := [20, 21, 22, 23, 24, 25, 26, 27, 28, 29, 30, 31, 32, 33]) (Qc := fun sz => xQi D (wM ad cI cJ cZ) [20, 21, 22, 23, 24, 25, 26, 27, 28, 29, 30, 31, 32, 33] σ sz Q) (own := RX5) (cc := cX5_runsAny) (maxL := 3) (ret := some .boolean) (by decide) rfl rfl (Nat.le_of_ble_eq_true rfl) ?_
  intro p e s m args below meth c hargs C hr hnm
  have hinX5 : ∀ w ∈ u_ws RX5 TX5 22, w ∈ wsX5_runsAny := fun _ h => List.mem_cons_of_mem _ (List.mem_append_right _ h)
  have m0 : (Cond.fieldLink RX5 7 "SandBenchModel" "m" "[I") ∈ wsX5_runsAny := by decide +kernel
  have L4 : ∀ a, mu (vX5_runsAny_4  Q) a → xX p l e rmX5_runsAny s m args below meth c D vwCl (va_A ((wM ad cI cJ cZ) σ) s.heap.size) (wM ad cI cJ cZ) [20, 21, 22, 23, 24, 25, 26, 27, 28, 29, 30, 31, 32, 33] σ 0 0 (MQ below (xQi D (wM ad cI cJ cZ) [20, 21, 22, 23, 24, 25, 26, 27, 28, 29, 30, 31, 32, 33] σ s.heap.size Q) args s 0 0 (va_A ((wM ad cI cJ cZ) σ) s.heap.size)) 3 (a.2.2) 4 [(0, .ref (ad 20)), (1, .int (i32 (a.1))), (2, .int (i32 (a.2.1)))] [] := by
    refine mu_ind (fun K4 hK4 a hw => ?_)
    obtain ⟨x1, x2, σ0⟩ := a
    show xX p l e rmX5_runsAny s m args below meth c D vwCl (va_A ((wM ad cI cJ cZ) σ) s.heap.size) (wM ad cI cJ cZ) [20, 21, 22, 23, 24, 25, 26, 27, 28, 29, 30, 31, 32, 33] σ 0 0 (MQ below (xQi D (wM ad cI cJ cZ) [20, 21, 22, 23, 24, 25, 26, 27, 28, 29, 30, 31, 32, 33] σ s.heap.size Q) args s 0 0 (va_A ((wM ad cI cJ cZ) σ) s.heap.size)) 3 σ0 4 [(0, .ref (ad 20)), (1, .int (i32 x1)), (2, .int (i32 x2))] []
    unfold vX5_runsAny_4 at hw
    refine xr_iload_n C 2 dX5_runsAny_4 rfl rfl ?_
    refine xr_aload_n C 0 dX5_runsAny_5 rfl rfl ?_
    refine xr_get C hinX5 (N := 22) (ci := 5) (a := (ad 20)) 0 rfl rfl 0 (by decide) m0 rfl rfl dX5_runsAny_6 ?_
    refine xr_bipush C dX5_runsAny_9 (by decide +kernel) ?_
    refine xr_iald C (t0 := 0) 1 rfl rfl (by decide) (N := 64) rfl ⟨by decide, by decide⟩ dX5_runsAny_11 ?_
    obtain ⟨g1, hw⟩ := hw
    obtain ⟨g2, hw⟩ := hw
    refine xr_icmp_ge C g1 g2 39 dX5_runsAny_12 (by decide) (fun c3 => ?_) (fun c3 => ?_)
    · have hw := hw.1 c3
      refine xr_iload_n C 1 dX5_runsAny_39 rfl rfl ?_
      exact xr_zret C hr hw.1 hw.2 dX5_runsAny_40
    · have hw := hw.2 c3
      refine xr_iload_n C 1 dX5_runsAny_15 rfl rfl ?_
      obtain ⟨g4, hw⟩ := hw
      refine xr_if_ne C g4 27 dX5_runsAny_16 (by decide) (fun c5 => ?_) (fun c5 => ?_)
      · have hw := hw.1 c5
        refine xr_iconst C dX5_runsAny_27 ?_
        refine xr_goto C 32 dX5_runsAny_28 (by decide) ?_
        refine xr_istore_n C [(0, .ref (ad 20)), (1, .int (i32 1)), (2, .int (i32 x2))] dX5_runsAny_32 rfl (by decide) rfl ?_
        refine xr_iinc C 2 [(0, .ref (ad 20)), (1, .int (i32 1)), (2, .int (i32 (x2 + 1)))] dX5_runsAny_33 rfl (by decide) rfl ?_
        refine xr_goto C 4 dX5_runsAny_36 (by decide) ?_
        exact hK4 (1, (x2 + 1), σ0) hw
      · have hw := hw.2 c5
        refine xr_aload_n C 0 dX5_runsAny_19 rfl rfl ?_
        refine xr_iload_n C 2 dX5_runsAny_20 rfl rfl ?_
        refine xr_callVi C (ci := 5) (q0 := 0) (As := [.int (i32 x2)]) (rest := []) (xSp_rf _ _) (by decide) (fun h => h) (mX5_runs σ0 x2 _ hw) (cwV 1 C.2.2.2.2.1 gX5_runsAny_X5_runs rfl rfl rfl (by decide +kernel) ⟨by decide, by decide⟩) rfl rfl rfl rfl (Nat.le_of_ble_eq_true rfl) ⟨by decide, by decide⟩ dX5_runsAny_21 (fun r6 σ7 hw => ?_)
        obtain ⟨g8, hw⟩ := hw
        refine xr_if_eq C g8 31 dX5_runsAny_24 (by decide) (fun c9 => ?_) (fun c9 => ?_)
        · have hw := hw.1 c9
          refine xr_iconst C dX5_runsAny_31 ?_
          refine xr_istore_n C [(0, .ref (ad 20)), (1, .int (i32 0)), (2, .int (i32 x2))] dX5_runsAny_32 rfl (by decide) rfl ?_
          refine xr_iinc C 2 [(0, .ref (ad 20)), (1, .int (i32 0)), (2, .int (i32 (x2 + 1)))] dX5_runsAny_33 rfl (by decide) rfl ?_
          refine xr_goto C 4 dX5_runsAny_36 (by decide) ?_
          exact hK4 (0, (x2 + 1), σ7) hw
        · have hw := hw.2 c9
          refine xr_iconst C dX5_runsAny_27 ?_
          refine xr_goto C 32 dX5_runsAny_28 (by decide) ?_
          refine xr_istore_n C [(0, .ref (ad 20)), (1, .int (i32 1)), (2, .int (i32 x2))] dX5_runsAny_32 rfl (by decide) rfl ?_
          refine xr_iinc C 2 [(0, .ref (ad 20)), (1, .int (i32 1)), (2, .int (i32 (x2 + 1)))] dX5_runsAny_33 rfl (by decide) rfl ?_
          refine xr_goto C 4 dX5_runsAny_36 (by decide) ?_
          exact hK4 (1, (x2 + 1), σ7) hw
  show xX p l e rmX5_runsAny s m args below meth c D vwCl (va_A ((wM ad cI cJ cZ) σ) s.heap.size) (wM ad cI cJ cZ) [20, 21, 22, 23, 24, 25, 26, 27, 28, 29, 30, 31, 32, 33] σ 0 0 (MQ below (xQi D (wM ad cI cJ cZ) [20, 21, 22, 23, 24, 25, 26, 27, 28, 29, 30, 31, 32, 33] σ s.heap.size Q) args s 0 0 (va_A ((wM ad cI cJ cZ) σ) s.heap.size)) 3 σ 0 [(0, .ref (ad 20))] []
  unfold vX5_runsAny at hw
  refine xr_iconst C dX5_runsAny_0 ?_
  refine xr_istore_n C [(0, .ref (ad 20)), (1, .int (i32 0))] dX5_runsAny_1 rfl (by decide) rfl ?_
  refine xr_iconst C dX5_runsAny_2 ?_
  refine xr_istore_n C [(0, .ref (ad 20)), (1, .int (i32 0)), (2, .int (i32 0))] dX5_runsAny_3 rfl (by decide) rfl ?_
  exact L4 (0, 0, σ) hw
abbrev rmX5_writes : Room := { frames := 0, cells := 0, slots := 0, locals := 64 }
set_option maxHeartbeats 8000000 in
set_option maxRecDepth 100000 in
theorem mX5_writes {l : Launch} {D : va_G} {ad : Nat → Nat} {cI cJ cZ : ClassId} (σ : xS) (a1 a2 : Int) (Q : xS → Prop) (hw : vX5_writes a1 a2 σ Q) : xMv False l yX5_writes wsX5_writes rmX5_writes D (xtys cI cJ cZ) (wM ad cI cJ cZ) [20, 21, 22, 23, 24, 25, 26, 27, 28, 29, 30, 31, 32, 33] σ [.ref (ad 20), .int (i32 a1), .int (i32 a2)] Q := by
  refine xenter (F := [20, 21, 22, 23, 24, 25, 26, 27, 28, 29, 30, 31, 32, 33]) (Qc := fun sz => xQv D (wM ad cI cJ cZ) [20, 21, 22, 23, 24, 25, 26, 27, 28, 29, 30, 31, 32, 33] σ sz Q) (own := RX5) (cc := cX5_writes) (maxL := 4) (ret := none) (by decide) rfl rfl (Nat.le_of_ble_eq_true rfl) ?_
  intro p e s m args below meth c hargs C hr hnm
  have hinX5 : ∀ w ∈ u_ws RX5 TX5 22, w ∈ wsX5_writes := fun _ h => List.mem_cons_of_mem _ (List.mem_append_right _ h)
  have m0 : (Cond.fieldLink RX5 7 "SandBenchModel" "m" "[I") ∈ wsX5_writes := by decide +kernel
  have B52 : ∀ (x1 x2 : Int) (σ0 : xS), vX5_writes_52  Q x1 x2 σ0 → xX p l e rmX5_writes s m args below meth c D vwCl (va_A ((wM ad cI cJ cZ) σ) s.heap.size) (wM ad cI cJ cZ) [20, 21, 22, 23, 24, 25, 26, 27, 28, 29, 30, 31, 32, 33] σ 0 0 (MQ below (xQv D (wM ad cI cJ cZ) [20, 21, 22, 23, 24, 25, 26, 27, 28, 29, 30, 31, 32, 33] σ s.heap.size Q) args s 0 0 (va_A ((wM ad cI cJ cZ) σ) s.heap.size)) 4 σ0 52 [(0, .ref (ad 20)), (1, .int (i32 x1)), (2, .int (i32 x2))] [] := by
    intro x1 x2 σ0 hw
    unfold vX5_writes_52 at hw
    refine xr_bipush C dX5_writes_52 (by decide +kernel) ?_
    refine xr_iconst C dX5_writes_54 ?_
    refine xr_aload_n C 0 dX5_writes_55 rfl rfl ?_
    refine xr_get C hinX5 (N := 22) (ci := 5) (a := (ad 20)) 0 rfl rfl 0 (by decide) m0 rfl rfl dX5_writes_56 ?_
    refine xr_bipush C dX5_writes_59 (by decide +kernel) ?_
    refine xr_iald C (t0 := 0) 1 rfl rfl (by decide) (N := 64) rfl ⟨by decide, by decide⟩ dX5_writes_61 ?_
    refine xr_imul C dX5_writes_62 ?_
    refine xr_iadd C dX5_writes_63 ?_
    refine xr_istore_n C [(0, .ref (ad 20)), (1, .int (i32 x1)), (2, .int (i32 x2)), (3, .int (i32 (28 + (3 * (σ0 21 27)))))] dX5_writes_64 rfl (by decide) rfl ?_
    refine xr_aload_n C 0 dX5_writes_65 rfl rfl ?_
    refine xr_get C hinX5 (N := 22) (ci := 5) (a := (ad 20)) 0 rfl rfl 0 (by decide) m0 rfl rfl dX5_writes_66 ?_
    refine xr_iload_n C 3 dX5_writes_69 rfl rfl ?_
    refine xr_aload_n C 0 dX5_writes_70 rfl rfl ?_
    refine xr_get C hinX5 (N := 22) (ci := 5) (a := (ad 20)) 0 rfl rfl 0 (by decide) m0 rfl rfl dX5_writes_71 ?_
    refine xr_bipush C dX5_writes_74 (by decide +kernel) ?_
    refine xr_iald C (t0 := 0) 1 rfl rfl (by decide) (N := 64) rfl ⟨by decide, by decide⟩ dX5_writes_76 ?_
    obtain ⟨g1, hw⟩ := hw
    refine xr_iast C (t0 := 0) (r := 21) 1 rfl rfl (by decide) (N := 64) rfl g1 wM_st21 (by decide) dX5_writes_77 ?_
    refine xr_sig (fun σ2 e3 => ?_)
    have hw := hw σ2 e3
    refine xr_aload_n C 0 dX5_writes_78 rfl rfl ?_
    refine xr_get C hinX5 (N := 22) (ci := 5) (a := (ad 20)) 0 rfl rfl 0 (by decide) m0 rfl rfl dX5_writes_79 ?_
    refine xr_iload_n C 3 dX5_writes_82 rfl rfl ?_
    refine xr_iconst C dX5_writes_83 ?_
    refine xr_iadd C dX5_writes_84 ?_
    refine xr_iload_n C 1 dX5_writes_85 rfl rfl ?_
    obtain ⟨g4, hw⟩ := hw
    refine xr_iast C (t0 := 0) (r := 21) 1 rfl rfl (by decide) (N := 64) rfl g4 wM_st21 (by decide) dX5_writes_86 ?_
    refine xr_sig (fun σ5 e6 => ?_)
    have hw := hw σ5 e6
    refine xr_aload_n C 0 dX5_writes_87 rfl rfl ?_
    refine xr_get C hinX5 (N := 22) (ci := 5) (a := (ad 20)) 0 rfl rfl 0 (by decide) m0 rfl rfl dX5_writes_88 ?_
    refine xr_iload_n C 3 dX5_writes_91 rfl rfl ?_
    refine xr_iconst C dX5_writes_92 ?_
    refine xr_iadd C dX5_writes_93 ?_
    refine xr_iload_n C 2 dX5_writes_94 rfl rfl ?_
    obtain ⟨g7, hw⟩ := hw
    refine xr_iast C (t0 := 0) (r := 21) 1 rfl rfl (by decide) (N := 64) rfl g7 wM_st21 (by decide) dX5_writes_95 ?_
    refine xr_sig (fun σ8 e9 => ?_)
    have hw := hw σ8 e9
    refine xr_aload_n C 0 dX5_writes_96 rfl rfl ?_
    refine xr_get C hinX5 (N := 22) (ci := 5) (a := (ad 20)) 0 rfl rfl 0 (by decide) m0 rfl rfl dX5_writes_97 ?_
    refine xr_bipush C dX5_writes_100 (by decide +kernel) ?_
    refine xr_dup2 C dX5_writes_102 rfl rfl ?_
    refine xr_iald C (t0 := 0) 1 rfl rfl (by decide) (N := 64) rfl ⟨by decide, by decide⟩ dX5_writes_103 ?_
    refine xr_iconst C dX5_writes_104 ?_
    refine xr_iadd C dX5_writes_105 ?_
    refine xr_iast C (t0 := 0) (r := 21) 1 rfl rfl (by decide) (N := 64) rfl ⟨by decide, by decide⟩ wM_st21 (by decide) dX5_writes_106 ?_
    refine xr_sig (fun σ10 e11 => ?_)
    have hw := hw σ10 e11
    refine xr_aload_n C 0 dX5_writes_107 rfl rfl ?_
    refine xr_get C hinX5 (N := 22) (ci := 5) (a := (ad 20)) 0 rfl rfl 0 (by decide) m0 rfl rfl dX5_writes_108 ?_
    refine xr_bipush C dX5_writes_111 (by decide +kernel) ?_
    refine xr_dup2 C dX5_writes_113 rfl rfl ?_
    refine xr_iald C (t0 := 0) 1 rfl rfl (by decide) (N := 64) rfl ⟨by decide, by decide⟩ dX5_writes_114 ?_
    refine xr_iconst C dX5_writes_115 ?_
    refine xr_iadd C dX5_writes_116 ?_
    refine xr_iast C (t0 := 0) (r := 21) 1 rfl rfl (by decide) (N := 64) rfl ⟨by decide, by decide⟩ wM_st21 (by decide) dX5_writes_117 ?_
    refine xr_sig (fun σ12 e13 => ?_)
    have hw := hw σ12 e13
    exact xr_vret C hr hw dX5_writes_118
  have L15 : ∀ a, mu (vX5_writes_15  Q) a → xX p l e rmX5_writes s m args below meth c D vwCl (va_A ((wM ad cI cJ cZ) σ) s.heap.size) (wM ad cI cJ cZ) [20, 21, 22, 23, 24, 25, 26, 27, 28, 29, 30, 31, 32, 33] σ 0 0 (MQ below (xQv D (wM ad cI cJ cZ) [20, 21, 22, 23, 24, 25, 26, 27, 28, 29, 30, 31, 32, 33] σ s.heap.size Q) args s 0 0 (va_A ((wM ad cI cJ cZ) σ) s.heap.size)) 4 (a.2.2.2) 15 [(0, .ref (ad 20)), (1, .int (i32 (a.1))), (2, .int (i32 (a.2.1))), (3, .int (i32 (a.2.2.1)))] [] := by
    refine mu_ind (fun K15 hK15 a hw => ?_)
    obtain ⟨x1, x2, x3, σ0⟩ := a
    show xX p l e rmX5_writes s m args below meth c D vwCl (va_A ((wM ad cI cJ cZ) σ) s.heap.size) (wM ad cI cJ cZ) [20, 21, 22, 23, 24, 25, 26, 27, 28, 29, 30, 31, 32, 33] σ 0 0 (MQ below (xQv D (wM ad cI cJ cZ) [20, 21, 22, 23, 24, 25, 26, 27, 28, 29, 30, 31, 32, 33] σ s.heap.size Q) args s 0 0 (va_A ((wM ad cI cJ cZ) σ) s.heap.size)) 4 σ0 15 [(0, .ref (ad 20)), (1, .int (i32 x1)), (2, .int (i32 x2)), (3, .int (i32 x3))] []
    unfold vX5_writes_15 at hw
    refine xr_iload_n C 3 dX5_writes_15 rfl rfl ?_
    refine xr_bipush C dX5_writes_16 (by decide +kernel) ?_
    obtain ⟨g14, hw⟩ := hw
    refine xr_icmp_ge C g14 ⟨by decide, by decide⟩ 41 dX5_writes_18 (by decide) (fun c15 => ?_) (fun c15 => ?_)
    · have hw := hw.1 c15
      refine xr_aload_n C 0 dX5_writes_41 rfl rfl ?_
      refine xr_get C hinX5 (N := 22) (ci := 5) (a := (ad 20)) 0 rfl rfl 0 (by decide) m0 rfl rfl dX5_writes_42 ?_
      refine xr_bipush C dX5_writes_45 (by decide +kernel) ?_
      refine xr_dup2 C dX5_writes_47 rfl rfl ?_
      refine xr_iald C (t0 := 0) 1 rfl rfl (by decide) (N := 64) rfl ⟨by decide, by decide⟩ dX5_writes_48 ?_
      refine xr_iconst C dX5_writes_49 ?_
      refine xr_isub C dX5_writes_50 ?_
      refine xr_iast C (t0 := 0) (r := 21) 1 rfl rfl (by decide) (N := 64) rfl ⟨by decide, by decide⟩ wM_st21 (by decide) dX5_writes_51 ?_
      refine xr_sig (fun σ16 e17 => ?_)
      have hw := hw σ16 e17
      refine xr_sub C [0, 1, 2] [(0, .ref (ad 20)), (1, .int (i32 x1)), (2, .int (i32 x2))] rfl ?_
      exact B52 x1 x2 σ16 hw
    · have hw := hw.2 c15
      refine xr_aload_n C 0 dX5_writes_21 rfl rfl ?_
      refine xr_get C hinX5 (N := 22) (ci := 5) (a := (ad 20)) 0 rfl rfl 0 (by decide) m0 rfl rfl dX5_writes_22 ?_
      refine xr_iload_n C 3 dX5_writes_25 rfl rfl ?_
      refine xr_aload_n C 0 dX5_writes_26 rfl rfl ?_
      refine xr_get C hinX5 (N := 22) (ci := 5) (a := (ad 20)) 0 rfl rfl 0 (by decide) m0 rfl rfl dX5_writes_27 ?_
      refine xr_iload_n C 3 dX5_writes_30 rfl rfl ?_
      refine xr_iconst C dX5_writes_31 ?_
      refine xr_iadd C dX5_writes_32 ?_
      obtain ⟨g18, hw⟩ := hw
      refine xr_iald C (t0 := 0) 1 rfl rfl (by decide) (N := 64) rfl g18 dX5_writes_33 ?_
      obtain ⟨g19, hw⟩ := hw
      refine xr_iast C (t0 := 0) (r := 21) 1 rfl rfl (by decide) (N := 64) rfl g19 wM_st21 (by decide) dX5_writes_34 ?_
      refine xr_sig (fun σ20 e21 => ?_)
      have hw := hw σ20 e21
      refine xr_iinc C 3 [(0, .ref (ad 20)), (1, .int (i32 x1)), (2, .int (i32 x2)), (3, .int (i32 (x3 + 1)))] dX5_writes_35 rfl (by decide) rfl ?_
      refine xr_goto C 15 dX5_writes_38 (by decide) ?_
      exact hK15 (x1, x2, (x3 + 1), σ20) hw
  show xX p l e rmX5_writes s m args below meth c D vwCl (va_A ((wM ad cI cJ cZ) σ) s.heap.size) (wM ad cI cJ cZ) [20, 21, 22, 23, 24, 25, 26, 27, 28, 29, 30, 31, 32, 33] σ 0 0 (MQ below (xQv D (wM ad cI cJ cZ) [20, 21, 22, 23, 24, 25, 26, 27, 28, 29, 30, 31, 32, 33] σ s.heap.size Q) args s 0 0 (va_A ((wM ad cI cJ cZ) σ) s.heap.size)) 4 σ 0 [(0, .ref (ad 20)), (1, .int (i32 a1)), (2, .int (i32 a2))] []
  unfold vX5_writes at hw
  refine xr_aload_n C 0 dX5_writes_0 rfl rfl ?_
  refine xr_get C hinX5 (N := 22) (ci := 5) (a := (ad 20)) 0 rfl rfl 0 (by decide) m0 rfl rfl dX5_writes_1 ?_
  refine xr_bipush C dX5_writes_4 (by decide +kernel) ?_
  refine xr_iald C (t0 := 0) 1 rfl rfl (by decide) (N := 64) rfl ⟨by decide, by decide⟩ dX5_writes_6 ?_
  refine xr_bipush C dX5_writes_7 (by decide +kernel) ?_
  obtain ⟨g22, hw⟩ := hw
  refine xr_icmp_ne C g22 ⟨by decide, by decide⟩ 52 dX5_writes_9 (by decide) (fun c23 => ?_) (fun c23 => ?_)
  · have hw := hw.1 c23
    exact B52 a1 a2 σ hw
  · have hw := hw.2 c23
    refine xr_bipush C dX5_writes_12 (by decide +kernel) ?_
    refine xr_istore_n C [(0, .ref (ad 20)), (1, .int (i32 a1)), (2, .int (i32 a2)), (3, .int (i32 28))] dX5_writes_14 rfl (by decide) rfl ?_
    exact L15 (a1, a2, 28, σ) hw
abbrev rmX5_second : Room := { frames := 2, cells := 0, slots := 0, locals := 107 }
set_option maxHeartbeats 8000000 in
set_option maxRecDepth 100000 in
theorem mX5_second {l : Launch} {D : va_G} {ad : Nat → Nat} {cI cJ cZ : ClassId} (σ : xS) (Q : Int → xS → Prop) (hw : vX5_second σ Q) : xMi False l yX5_second wsX5_second rmX5_second D (xtys cI cJ cZ) (wM ad cI cJ cZ) [20, 21, 22, 23, 24, 25, 26, 27, 28, 29, 30, 31, 32, 33] σ [.ref (ad 20)] Q := by
  refine xenter (F := [20, 21, 22, 23, 24, 25, 26, 27, 28, 29, 30, 31, 32, 33]) (Qc := fun sz => xQi D (wM ad cI cJ cZ) [20, 21, 22, 23, 24, 25, 26, 27, 28, 29, 30, 31, 32, 33] σ sz Q) (own := RX5) (cc := cX5_second) (maxL := 7) (ret := some .int) (by decide) rfl rfl (Nat.le_of_ble_eq_true rfl) ?_
  intro p e s m args below meth c hargs C hr hnm
  have hinX5 : ∀ w ∈ u_ws RX5 TX5 22, w ∈ wsX5_second := fun _ h => List.mem_cons_of_mem _ (List.mem_append_right _ h)
  have m0 : (Cond.fieldLink RX5 7 "SandBenchModel" "m" "[I") ∈ wsX5_second := by decide +kernel
  have B225 : ∀ (K92 : Int × Int × Int × xS → Prop) (hK92 : ∀ a, K92 a → xX p l e rmX5_second s m args below meth c D vwCl (va_A ((wM ad cI cJ cZ) σ) s.heap.size) (wM ad cI cJ cZ) [20, 21, 22, 23, 24, 25, 26, 27, 28, 29, 30, 31, 32, 33] σ 0 0 (MQ below (xQi D (wM ad cI cJ cZ) [20, 21, 22, 23, 24, 25, 26, 27, 28, 29, 30, 31, 32, 33] σ s.heap.size Q) args s 0 0 (va_A ((wM ad cI cJ cZ) σ) s.heap.size)) 7 (a.2.2.2) 92 [(0, .ref (ad 20)), (1, .int (i32 (a.1))), (2, .int (i32 (a.2.1))), (3, .int (i32 (a.2.2.1)))] []) (x1 x2 x3 y1 y2 : Int) (σ0 : xS), vX5_second_225 K92 Q x1 x2 x3 y1 y2 σ0 → xX p l e rmX5_second s m args below meth c D vwCl (va_A ((wM ad cI cJ cZ) σ) s.heap.size) (wM ad cI cJ cZ) [20, 21, 22, 23, 24, 25, 26, 27, 28, 29, 30, 31, 32, 33] σ 0 0 (MQ below (xQi D (wM ad cI cJ cZ) [20, 21, 22, 23, 24, 25, 26, 27, 28, 29, 30, 31, 32, 33] σ s.heap.size Q) args s 0 0 (va_A ((wM ad cI cJ cZ) σ) s.heap.size)) 7 σ0 225 [(0, .ref (ad 20)), (1, .int (i32 x1)), (2, .int (i32 x2)), (3, .int (i32 x3))] [.int (i32 y2), .int (i32 y1), .ref (ad 20)] := by
    intro K92 hK92 x1 x2 x3 y1 y2 σ0 hw
    unfold vX5_second_225 at hw
    refine xr_callVv C (ci := 5) (q0 := 0) (As := [.int (i32 y1), .int (i32 y2)]) (rest := []) (xSp_rf _ _) (by decide) (fun h => h) (mX5_writes σ0 y1 y2 _ hw) (cwV 2 C.2.2.2.2.1 gX5_second_X5_writes rfl rfl rfl (by decide +kernel) ⟨by decide, by decide⟩) rfl rfl rfl rfl (Nat.le_of_ble_eq_true rfl) ⟨by decide, by decide⟩ dX5_second_225 (fun σ2 hw => ?_)
    refine xr_iinc C 2 [(0, .ref (ad 20)), (1, .int (i32 x1)), (2, .int (i32 (x2 + 1))), (3, .int (i32 x3))] dX5_second_228 rfl (by decide) rfl ?_
    refine xr_iinc C 3 [(0, .ref (ad 20)), (1, .int (i32 x1)), (2, .int (i32 (x2 + 1))), (3, .int (i32 (x3 + 1)))] dX5_second_231 rfl (by decide) rfl ?_
    refine xr_goto C 92 dX5_second_234 (by decide) ?_
    exact hK92 (x1, (x2 + 1), (x3 + 1), σ2) hw
  have B213 : ∀ (K92 : Int × Int × Int × xS → Prop) (hK92 : ∀ a, K92 a → xX p l e rmX5_second s m args below meth c D vwCl (va_A ((wM ad cI cJ cZ) σ) s.heap.size) (wM ad cI cJ cZ) [20, 21, 22, 23, 24, 25, 26, 27, 28, 29, 30, 31, 32, 33] σ 0 0 (MQ below (xQi D (wM ad cI cJ cZ) [20, 21, 22, 23, 24, 25, 26, 27, 28, 29, 30, 31, 32, 33] σ s.heap.size Q) args s 0 0 (va_A ((wM ad cI cJ cZ) σ) s.heap.size)) 7 (a.2.2.2) 92 [(0, .ref (ad 20)), (1, .int (i32 (a.1))), (2, .int (i32 (a.2.1))), (3, .int (i32 (a.2.2.1)))] []) (x1 x2 x3 x5 : Int) (σ0 : xS), vX5_second_213 K92 Q x1 x2 x3 x5 σ0 → xX p l e rmX5_second s m args below meth c D vwCl (va_A ((wM ad cI cJ cZ) σ) s.heap.size) (wM ad cI cJ cZ) [20, 21, 22, 23, 24, 25, 26, 27, 28, 29, 30, 31, 32, 33] σ 0 0 (MQ below (xQi D (wM ad cI cJ cZ) [20, 21, 22, 23, 24, 25, 26, 27, 28, 29, 30, 31, 32, 33] σ s.heap.size Q) args s 0 0 (va_A ((wM ad cI cJ cZ) σ) s.heap.size)) 7 σ0 213 [(0, .ref (ad 20)), (1, .int (i32 x1)), (2, .int (i32 x2)), (3, .int (i32 x3)), (5, .int (i32 x5))] [] := by
    intro K92 hK92 x1 x2 x3 x5 σ0 hw
    unfold vX5_second_213 at hw
    refine xr_aload_n C 0 dX5_second_213 rfl rfl ?_
    refine xr_iload_n C 3 dX5_second_214 rfl rfl ?_
    refine xr_iload C 4 dX5_second_215 rfl ?_
    obtain ⟨g3, hw⟩ := hw
    refine xr_if_eq C g3 224 dX5_second_217 (by decide) (fun c4 => ?_) (fun c4 => ?_)
    · have hw := hw.1 c4
      refine xr_iconst C dX5_second_224 ?_
      refine xr_sub C [0, 1, 2, 3] [(0, .ref (ad 20)), (1, .int (i32 x1)), (2, .int (i32 x2)), (3, .int (i32 x3))] rfl ?_
      exact B225 K92 hK92 x1 x2 x3 x3 1 σ0 hw
    · have hw := hw.2 c4
      refine xr_iconst C dX5_second_220 ?_
      refine xr_goto C 225 dX5_second_221 (by decide) ?_
      refine xr_sub C [0, 1, 2, 3] [(0, .ref (ad 20)), (1, .int (i32 x1)), (2, .int (i32 x2)), (3, .int (i32 x3))] rfl ?_
      exact B225 K92 hK92 x1 x2 x3 x3 0 σ0 hw
  have B200 : ∀ (K92 : Int × Int × Int × xS → Prop) (hK92 : ∀ a, K92 a → xX p l e rmX5_second s m args below meth c D vwCl (va_A ((wM ad cI cJ cZ) σ) s.heap.size) (wM ad cI cJ cZ) [20, 21, 22, 23, 24, 25, 26, 27, 28, 29, 30, 31, 32, 33] σ 0 0 (MQ below (xQi D (wM ad cI cJ cZ) [20, 21, 22, 23, 24, 25, 26, 27, 28, 29, 30, 31, 32, 33] σ s.heap.size Q) args s 0 0 (va_A ((wM ad cI cJ cZ) σ) s.heap.size)) 7 (a.2.2.2) 92 [(0, .ref (ad 20)), (1, .int (i32 (a.1))), (2, .int (i32 (a.2.1))), (3, .int (i32 (a.2.2.1)))] []) (x1 x2 x3 x5 x6 y1 y2 y3 : Int) (σ0 : xS), vX5_second_200 K92 Q x1 x2 x3 x5 x6 y1 y2 y3 σ0 → xX p l e rmX5_second s m args below meth c D vwCl (va_A ((wM ad cI cJ cZ) σ) s.heap.size) (wM ad cI cJ cZ) [20, 21, 22, 23, 24, 25, 26, 27, 28, 29, 30, 31, 32, 33] σ 0 0 (MQ below (xQi D (wM ad cI cJ cZ) [20, 21, 22, 23, 24, 25, 26, 27, 28, 29, 30, 31, 32, 33] σ s.heap.size Q) args s 0 0 (va_A ((wM ad cI cJ cZ) σ) s.heap.size)) 7 σ0 200 [(0, .ref (ad 20)), (1, .int (i32 x1)), (2, .int (i32 x2)), (3, .int (i32 x3)), (5, .int (i32 x5)), (6, .int (i32 x6))] [.int (i32 y3), .int (i32 y2), .int (i32 y1), .ref (ad 20)] := by
    intro K92 hK92 x1 x2 x3 x5 x6 y1 y2 y3 σ0 hw
    unfold vX5_second_200 at hw
    refine xr_callVv C (ci := 5) (q0 := 0) (As := [.int (i32 y1), .int (i32 y2), .int (i32 y3)]) (rest := []) (xSp_rf _ _) (by decide) (fun h => h) (mX5_put σ0 y1 y2 y3 _ hw) (cwV 3 C.2.2.2.2.1 gX5_second_X5_put rfl rfl rfl (by decide +kernel) ⟨by decide, by decide⟩) rfl rfl rfl rfl (Nat.le_of_ble_eq_true rfl) ⟨by decide, by decide⟩ dX5_second_200 (fun σ6 hw => ?_)
    refine xr_iload C 4 dX5_second_203 rfl ?_
    obtain ⟨g7, hw⟩ := hw
    refine xr_if_ne C g7 213 dX5_second_205 (by decide) (fun c8 => ?_) (fun c8 => ?_)
    · have hw := hw.1 c8
      refine xr_sub C [0, 1, 2, 3, 4] [(0, .ref (ad 20)), (1, .int (i32 x1)), (2, .int (i32 x2)), (3, .int (i32 x3)), (5, .int (i32 x5))] rfl ?_
      exact B213 K92 hK92 x1 x2 x3 x5 σ6 hw
    · have hw := hw.2 c8
      refine xr_iload C 5 dX5_second_208 rfl ?_
      obtain ⟨g9, hw⟩ := hw
      refine xr_if_eq C g9 231 dX5_second_210 (by decide) (fun c10 => ?_) (fun c10 => ?_)
      · have hw := hw.1 c10
        refine xr_iinc C 3 [(0, .ref (ad 20)), (1, .int (i32 x1)), (2, .int (i32 x2)), (3, .int (i32 (x3 + 1))), (5, .int (i32 x5)), (6, .int (i32 x6))] dX5_second_231 rfl (by decide) rfl ?_
        refine xr_goto C 92 dX5_second_234 (by decide) ?_
        refine xr_sub C [0, 1, 2, 3] [(0, .ref (ad 20)), (1, .int (i32 x1)), (2, .int (i32 x2)), (3, .int (i32 (x3 + 1)))] rfl ?_
        exact hK92 (x1, x2, (x3 + 1), σ6) hw
      · have hw := hw.2 c10
        refine xr_sub C [0, 1, 2, 3, 4] [(0, .ref (ad 20)), (1, .int (i32 x1)), (2, .int (i32 x2)), (3, .int (i32 x3)), (5, .int (i32 x5))] rfl ?_
        exact B213 K92 hK92 x1 x2 x3 x5 σ6 hw
  have B180 : ∀ (K92 : Int × Int × Int × xS → Prop) (hK92 : ∀ a, K92 a → xX p l e rmX5_second s m args below meth c D vwCl (va_A ((wM ad cI cJ cZ) σ) s.heap.size) (wM ad cI cJ cZ) [20, 21, 22, 23, 24, 25, 26, 27, 28, 29, 30, 31, 32, 33] σ 0 0 (MQ below (xQi D (wM ad cI cJ cZ) [20, 21, 22, 23, 24, 25, 26, 27, 28, 29, 30, 31, 32, 33] σ s.heap.size Q) args s 0 0 (va_A ((wM ad cI cJ cZ) σ) s.heap.size)) 7 (a.2.2.2) 92 [(0, .ref (ad 20)), (1, .int (i32 (a.1))), (2, .int (i32 (a.2.1))), (3, .int (i32 (a.2.2.1)))] []) (x1 x2 x3 x5 y0 : Int) (σ0 : xS), vX5_second_180 K92 Q x1 x2 x3 x5 y0 σ0 → xX p l e rmX5_second s m args below meth c D vwCl (va_A ((wM ad cI cJ cZ) σ) s.heap.size) (wM ad cI cJ cZ) [20, 21, 22, 23, 24, 25, 26, 27, 28, 29, 30, 31, 32, 33] σ 0 0 (MQ below (xQi D (wM ad cI cJ cZ) [20, 21, 22, 23, 24, 25, 26, 27, 28, 29, 30, 31, 32, 33] σ s.heap.size Q) args s 0 0 (va_A ((wM ad cI cJ cZ) σ) s.heap.size)) 7 σ0 180 [(0, .ref (ad 20)), (1, .int (i32 x1)), (2, .int (i32 x2)), (3, .int (i32 x3)), (5, .int (i32 x5))] [.int (i32 y0)] := by
    intro K92 hK92 x1 x2 x3 x5 y0 σ0 hw
    unfold vX5_second_180 at hw
    refine xr_istore C [(0, .ref (ad 20)), (1, .int (i32 x1)), (2, .int (i32 x2)), (3, .int (i32 x3)), (5, .int (i32 x5)), (6, .int (i32 y0))] dX5_second_180 (by decide) rfl ?_
    refine xr_aload_n C 0 dX5_second_182 rfl rfl ?_
    refine xr_iload_n C 3 dX5_second_183 rfl rfl ?_
    refine xr_iconst C dX5_second_184 ?_
    refine xr_iload C 5 dX5_second_185 rfl ?_
    obtain ⟨g11, hw⟩ := hw
    refine xr_if_eq C g11 194 dX5_second_187 (by decide) (fun c12 => ?_) (fun c12 => ?_)
    · have hw := hw.1 c12
      refine xr_aload_n C 0 dX5_second_194 rfl rfl ?_
      refine xr_iload_n C 3 dX5_second_195 rfl rfl ?_
      refine xr_iconst C dX5_second_196 ?_
      refine xr_callVi C (ci := 5) (q0 := 0) (As := [.int (i32 x3), .int (i32 4)]) (rest := [.int (i32 4), .int (i32 x3), .ref (ad 20)]) (xSp_rf _ _) (by decide) (fun h => h) (mX5_of σ0 x3 4 _ hw) (cwV 2 C.2.2.2.2.1 gX5_second_X5_of rfl rfl rfl (by decide +kernel) ⟨by decide, by decide⟩) rfl rfl rfl rfl (Nat.le_of_ble_eq_true rfl) ⟨by decide, by decide⟩ dX5_second_197 (fun r13 σ14 hw => ?_)
      exact B200 K92 hK92 x1 x2 x3 x5 y0 x3 4 r13 σ14 hw
    · have hw := hw.2 c12
      refine xr_iconst C dX5_second_190 ?_
      refine xr_goto C 200 dX5_second_191 (by decide) ?_
      exact B200 K92 hK92 x1 x2 x3 x5 y0 x3 4 1 σ0 hw
  have B179 : ∀ (K92 : Int × Int × Int × xS → Prop) (hK92 : ∀ a, K92 a → xX p l e rmX5_second s m args below meth c D vwCl (va_A ((wM ad cI cJ cZ) σ) s.heap.size) (wM ad cI cJ cZ) [20, 21, 22, 23, 24, 25, 26, 27, 28, 29, 30, 31, 32, 33] σ 0 0 (MQ below (xQi D (wM ad cI cJ cZ) [20, 21, 22, 23, 24, 25, 26, 27, 28, 29, 30, 31, 32, 33] σ s.heap.size Q) args s 0 0 (va_A ((wM ad cI cJ cZ) σ) s.heap.size)) 7 (a.2.2.2) 92 [(0, .ref (ad 20)), (1, .int (i32 (a.1))), (2, .int (i32 (a.2.1))), (3, .int (i32 (a.2.2.1)))] []) (x1 x2 x3 x5 : Int) (σ0 : xS), vX5_second_179 K92 Q x1 x2 x3 x5 σ0 → xX p l e rmX5_second s m args below meth c D vwCl (va_A ((wM ad cI cJ cZ) σ) s.heap.size) (wM ad cI cJ cZ) [20, 21, 22, 23, 24, 25, 26, 27, 28, 29, 30, 31, 32, 33] σ 0 0 (MQ below (xQi D (wM ad cI cJ cZ) [20, 21, 22, 23, 24, 25, 26, 27, 28, 29, 30, 31, 32, 33] σ s.heap.size Q) args s 0 0 (va_A ((wM ad cI cJ cZ) σ) s.heap.size)) 7 σ0 179 [(0, .ref (ad 20)), (1, .int (i32 x1)), (2, .int (i32 x2)), (3, .int (i32 x3)), (5, .int (i32 x5))] [] := by
    intro K92 hK92 x1 x2 x3 x5 σ0 hw
    unfold vX5_second_179 at hw
    refine xr_iconst C dX5_second_179 ?_
    exact B180 K92 hK92 x1 x2 x3 x5 0 σ0 hw
  have B138 : ∀ (K92 : Int × Int × Int × xS → Prop) (hK92 : ∀ a, K92 a → xX p l e rmX5_second s m args below meth c D vwCl (va_A ((wM ad cI cJ cZ) σ) s.heap.size) (wM ad cI cJ cZ) [20, 21, 22, 23, 24, 25, 26, 27, 28, 29, 30, 31, 32, 33] σ 0 0 (MQ below (xQi D (wM ad cI cJ cZ) [20, 21, 22, 23, 24, 25, 26, 27, 28, 29, 30, 31, 32, 33] σ s.heap.size Q) args s 0 0 (va_A ((wM ad cI cJ cZ) σ) s.heap.size)) 7 (a.2.2.2) 92 [(0, .ref (ad 20)), (1, .int (i32 (a.1))), (2, .int (i32 (a.2.1))), (3, .int (i32 (a.2.2.1)))] []) (x1 x2 x3 x4 y0 : Int) (σ0 : xS), vX5_second_138 K92 Q x1 x2 x3 x4 y0 σ0 → xX p l e rmX5_second s m args below meth c D vwCl (va_A ((wM ad cI cJ cZ) σ) s.heap.size) (wM ad cI cJ cZ) [20, 21, 22, 23, 24, 25, 26, 27, 28, 29, 30, 31, 32, 33] σ 0 0 (MQ below (xQi D (wM ad cI cJ cZ) [20, 21, 22, 23, 24, 25, 26, 27, 28, 29, 30, 31, 32, 33] σ s.heap.size Q) args s 0 0 (va_A ((wM ad cI cJ cZ) σ) s.heap.size)) 7 σ0 138 [(0, .ref (ad 20)), (1, .int (i32 x1)), (2, .int (i32 x2)), (3, .int (i32 x3)), (4, .int (i32 x4))] [.int (i32 y0)] := by
    intro K92 hK92 x1 x2 x3 x4 y0 σ0 hw
    unfold vX5_second_138 at hw
    refine xr_istore C [(0, .ref (ad 20)), (1, .int (i32 x1)), (2, .int (i32 x2)), (3, .int (i32 x3)), (4, .int (i32 x4)), (5, .int (i32 y0))] dX5_second_138 (by decide) rfl ?_
    refine xr_iload C 4 dX5_second_140 rfl ?_
    obtain ⟨g15, hw⟩ := hw
    refine xr_if_eq C g15 179 dX5_second_142 (by decide) (fun c16 => ?_) (fun c16 => ?_)
    · have hw := hw.1 c16
      refine xr_sub C [0, 1, 2, 3, 5] [(0, .ref (ad 20)), (1, .int (i32 x1)), (2, .int (i32 x2)), (3, .int (i32 x3)), (5, .int (i32 y0))] rfl ?_
      exact B179 K92 hK92 x1 x2 x3 y0 σ0 hw
    · have hw := hw.2 c16
      refine xr_iload C 5 dX5_second_145 rfl ?_
      obtain ⟨g17, hw⟩ := hw
      refine xr_if_ne C g17 179 dX5_second_147 (by decide) (fun c18 => ?_) (fun c18 => ?_)
      · have hw := hw.1 c18
        refine xr_sub C [0, 1, 2, 3, 5] [(0, .ref (ad 20)), (1, .int (i32 x1)), (2, .int (i32 x2)), (3, .int (i32 x3)), (5, .int (i32 y0))] rfl ?_
        exact B179 K92 hK92 x1 x2 x3 y0 σ0 hw
      · have hw := hw.2 c18
        refine xr_aload_n C 0 dX5_second_150 rfl rfl ?_
        refine xr_iload_n C 3 dX5_second_151 rfl rfl ?_
        refine xr_iconst C dX5_second_152 ?_
        refine xr_callVi C (ci := 5) (q0 := 0) (As := [.int (i32 x3), .int (i32 2)]) (rest := []) (xSp_rf _ _) (by decide) (fun h => h) (mX5_of σ0 x3 2 _ hw) (cwV 2 C.2.2.2.2.1 gX5_second_X5_of rfl rfl rfl (by decide +kernel) ⟨by decide, by decide⟩) rfl rfl rfl rfl (Nat.le_of_ble_eq_true rfl) ⟨by decide, by decide⟩ dX5_second_153 (fun r19 σ20 hw => ?_)
        refine xr_iconst C dX5_second_156 ?_
        obtain ⟨g21, hw⟩ := hw
        refine xr_icmp_ne C g21 ⟨by decide, by decide⟩ 179 dX5_second_157 (by decide) (fun c22 => ?_) (fun c22 => ?_)
        · have hw := hw.1 c22
          refine xr_sub C [0, 1, 2, 3, 5] [(0, .ref (ad 20)), (1, .int (i32 x1)), (2, .int (i32 x2)), (3, .int (i32 x3)), (5, .int (i32 y0))] rfl ?_
          exact B179 K92 hK92 x1 x2 x3 y0 σ20 hw
        · have hw := hw.2 c22
          refine xr_aload_n C 0 dX5_second_160 rfl rfl ?_
          refine xr_iload_n C 3 dX5_second_161 rfl rfl ?_
          refine xr_iconst C dX5_second_162 ?_
          refine xr_callVi C (ci := 5) (q0 := 0) (As := [.int (i32 x3), .int (i32 5)]) (rest := []) (xSp_rf _ _) (by decide) (fun h => h) (mX5_of σ20 x3 5 _ hw) (cwV 2 C.2.2.2.2.1 gX5_second_X5_of rfl rfl rfl (by decide +kernel) ⟨by decide, by decide⟩) rfl rfl rfl rfl (Nat.le_of_ble_eq_true rfl) ⟨by decide, by decide⟩ dX5_second_163 (fun r23 σ24 hw => ?_)
          refine xr_aload_n C 0 dX5_second_166 rfl rfl ?_
          refine xr_iload_n C 3 dX5_second_167 rfl rfl ?_
          refine xr_iconst C dX5_second_168 ?_
          refine xr_callVi C (ci := 5) (q0 := 0) (As := [.int (i32 x3), .int (i32 3)]) (rest := [.int (i32 r23)]) (xSp_rf _ _) (by decide) (fun h => h) (mX5_of σ24 x3 3 _ hw) (cwV 2 C.2.2.2.2.1 gX5_second_X5_of rfl rfl rfl (by decide +kernel) ⟨by decide, by decide⟩) rfl rfl rfl rfl (Nat.le_of_ble_eq_true rfl) ⟨by decide, by decide⟩ dX5_second_169 (fun r25 σ26 hw => ?_)
          obtain ⟨g27, hw⟩ := hw
          obtain ⟨g28, hw⟩ := hw
          refine xr_icmp_lt C g27 g28 179 dX5_second_172 (by decide) (fun c29 => ?_) (fun c29 => ?_)
          · have hw := hw.1 c29
            refine xr_sub C [0, 1, 2, 3, 5] [(0, .ref (ad 20)), (1, .int (i32 x1)), (2, .int (i32 x2)), (3, .int (i32 x3)), (5, .int (i32 y0))] rfl ?_
            exact B179 K92 hK92 x1 x2 x3 y0 σ26 hw
          · have hw := hw.2 c29
            refine xr_iconst C dX5_second_175 ?_
            refine xr_goto C 180 dX5_second_176 (by decide) ?_
            refine xr_sub C [0, 1, 2, 3, 5] [(0, .ref (ad 20)), (1, .int (i32 x1)), (2, .int (i32 x2)), (3, .int (i32 x3)), (5, .int (i32 y0))] rfl ?_
            exact B180 K92 hK92 x1 x2 x3 y0 1 σ26 hw
  have B137 : ∀ (K92 : Int × Int × Int × xS → Prop) (hK92 : ∀ a, K92 a → xX p l e rmX5_second s m args below meth c D vwCl (va_A ((wM ad cI cJ cZ) σ) s.heap.size) (wM ad cI cJ cZ) [20, 21, 22, 23, 24, 25, 26, 27, 28, 29, 30, 31, 32, 33] σ 0 0 (MQ below (xQi D (wM ad cI cJ cZ) [20, 21, 22, 23, 24, 25, 26, 27, 28, 29, 30, 31, 32, 33] σ s.heap.size Q) args s 0 0 (va_A ((wM ad cI cJ cZ) σ) s.heap.size)) 7 (a.2.2.2) 92 [(0, .ref (ad 20)), (1, .int (i32 (a.1))), (2, .int (i32 (a.2.1))), (3, .int (i32 (a.2.2.1)))] []) (x1 x2 x3 x4 : Int) (σ0 : xS), vX5_second_137 K92 Q x1 x2 x3 x4 σ0 → xX p l e rmX5_second s m args below meth c D vwCl (va_A ((wM ad cI cJ cZ) σ) s.heap.size) (wM ad cI cJ cZ) [20, 21, 22, 23, 24, 25, 26, 27, 28, 29, 30, 31, 32, 33] σ 0 0 (MQ below (xQi D (wM ad cI cJ cZ) [20, 21, 22, 23, 24, 25, 26, 27, 28, 29, 30, 31, 32, 33] σ s.heap.size Q) args s 0 0 (va_A ((wM ad cI cJ cZ) σ) s.heap.size)) 7 σ0 137 [(0, .ref (ad 20)), (1, .int (i32 x1)), (2, .int (i32 x2)), (3, .int (i32 x3)), (4, .int (i32 x4))] [] := by
    intro K92 hK92 x1 x2 x3 x4 σ0 hw
    unfold vX5_second_137 at hw
    refine xr_iconst C dX5_second_137 ?_
    exact B138 K92 hK92 x1 x2 x3 x4 0 σ0 hw
  have B117 : ∀ (K92 : Int × Int × Int × xS → Prop) (hK92 : ∀ a, K92 a → xX p l e rmX5_second s m args below meth c D vwCl (va_A ((wM ad cI cJ cZ) σ) s.heap.size) (wM ad cI cJ cZ) [20, 21, 22, 23, 24, 25, 26, 27, 28, 29, 30, 31, 32, 33] σ 0 0 (MQ below (xQi D (wM ad cI cJ cZ) [20, 21, 22, 23, 24, 25, 26, 27, 28, 29, 30, 31, 32, 33] σ s.heap.size Q) args s 0 0 (va_A ((wM ad cI cJ cZ) σ) s.heap.size)) 7 (a.2.2.2) 92 [(0, .ref (ad 20)), (1, .int (i32 (a.1))), (2, .int (i32 (a.2.1))), (3, .int (i32 (a.2.2.1)))] []) (x1 x2 x3 y0 : Int) (σ0 : xS), vX5_second_117 K92 Q x1 x2 x3 y0 σ0 → xX p l e rmX5_second s m args below meth c D vwCl (va_A ((wM ad cI cJ cZ) σ) s.heap.size) (wM ad cI cJ cZ) [20, 21, 22, 23, 24, 25, 26, 27, 28, 29, 30, 31, 32, 33] σ 0 0 (MQ below (xQi D (wM ad cI cJ cZ) [20, 21, 22, 23, 24, 25, 26, 27, 28, 29, 30, 31, 32, 33] σ s.heap.size Q) args s 0 0 (va_A ((wM ad cI cJ cZ) σ) s.heap.size)) 7 σ0 117 [(0, .ref (ad 20)), (1, .int (i32 x1)), (2, .int (i32 x2)), (3, .int (i32 x3))] [.int (i32 y0)] := by
    intro K92 hK92 x1 x2 x3 y0 σ0 hw
    unfold vX5_second_117 at hw
    refine xr_istore C [(0, .ref (ad 20)), (1, .int (i32 x1)), (2, .int (i32 x2)), (3, .int (i32 x3)), (4, .int (i32 y0))] dX5_second_117 (by decide) rfl ?_
    refine xr_iload C 4 dX5_second_119 rfl ?_
    obtain ⟨g30, hw⟩ := hw
    refine xr_if_eq C g30 137 dX5_second_121 (by decide) (fun c31 => ?_) (fun c31 => ?_)
    · have hw := hw.1 c31
      exact B137 K92 hK92 x1 x2 x3 y0 σ0 hw
    · have hw := hw.2 c31
      refine xr_aload_n C 0 dX5_second_124 rfl rfl ?_
      refine xr_iload_n C 3 dX5_second_125 rfl rfl ?_
      refine xr_iconst C dX5_second_126 ?_
      refine xr_callVi C (ci := 5) (q0 := 0) (As := [.int (i32 x3), .int (i32 1)]) (rest := []) (xSp_rf _ _) (by decide) (fun h => h) (mX5_of σ0 x3 1 _ hw) (cwV 2 C.2.2.2.2.1 gX5_second_X5_of rfl rfl rfl (by decide +kernel) ⟨by decide, by decide⟩) rfl rfl rfl rfl (Nat.le_of_ble_eq_true rfl) ⟨by decide, by decide⟩ dX5_second_127 (fun r32 σ33 hw => ?_)
      obtain ⟨g34, hw⟩ := hw
      refine xr_if_ne C g34 137 dX5_second_130 (by decide) (fun c35 => ?_) (fun c35 => ?_)
      · have hw := hw.1 c35
        exact B137 K92 hK92 x1 x2 x3 y0 σ33 hw
      · have hw := hw.2 c35
        refine xr_iconst C dX5_second_133 ?_
        refine xr_goto C 138 dX5_second_134 (by decide) ?_
        exact B138 K92 hK92 x1 x2 x3 y0 1 σ33 hw
  have L92 : ∀ a, mu (vX5_second_92  Q) a → xX p l e rmX5_second s m args below meth c D vwCl (va_A ((wM ad cI cJ cZ) σ) s.heap.size) (wM ad cI cJ cZ) [20, 21, 22, 23, 24, 25, 26, 27, 28, 29, 30, 31, 32, 33] σ 0 0 (MQ below (xQi D (wM ad cI cJ cZ) [20, 21, 22, 23, 24, 25, 26, 27, 28, 29, 30, 31, 32, 33] σ s.heap.size Q) args s 0 0 (va_A ((wM ad cI cJ cZ) σ) s.heap.size)) 7 (a.2.2.2) 92 [(0, .ref (ad 20)), (1, .int (i32 (a.1))), (2, .int (i32 (a.2.1))), (3, .int (i32 (a.2.2.1)))] [] := by
    refine mu_ind (fun K92 hK92 a hw => ?_)
    obtain ⟨x1, x2, x3, σ0⟩ := a
    show xX p l e rmX5_second s m args below meth c D vwCl (va_A ((wM ad cI cJ cZ) σ) s.heap.size) (wM ad cI cJ cZ) [20, 21, 22, 23, 24, 25, 26, 27, 28, 29, 30, 31, 32, 33] σ 0 0 (MQ below (xQi D (wM ad cI cJ cZ) [20, 21, 22, 23, 24, 25, 26, 27, 28, 29, 30, 31, 32, 33] σ s.heap.size Q) args s 0 0 (va_A ((wM ad cI cJ cZ) σ) s.heap.size)) 7 σ0 92 [(0, .ref (ad 20)), (1, .int (i32 x1)), (2, .int (i32 x2)), (3, .int (i32 x3))] []
    unfold vX5_second_92 at hw
    refine xr_iload_n C 3 dX5_second_92 rfl rfl ?_
    refine xr_aload_n C 0 dX5_second_93 rfl rfl ?_
    refine xr_get C hinX5 (N := 22) (ci := 5) (a := (ad 20)) 0 rfl rfl 0 (by decide) m0 rfl rfl dX5_second_94 ?_
    refine xr_bipush C dX5_second_97 (by decide +kernel) ?_
    refine xr_iald C (t0 := 0) 1 rfl rfl (by decide) (N := 64) rfl ⟨by decide, by decide⟩ dX5_second_99 ?_
    obtain ⟨g36, hw⟩ := hw
    obtain ⟨g37, hw⟩ := hw
    refine xr_icmp_ge C g36 g37 237 dX5_second_100 (by decide) (fun c38 => ?_) (fun c38 => ?_)
    · have hw := hw.1 c38
      refine xr_iload_n C 2 dX5_second_237 rfl rfl ?_
      exact xr_iret C hr hw dX5_second_238
    · have hw := hw.2 c38
      refine xr_iload_n C 1 dX5_second_103 rfl rfl ?_
      refine xr_iload_n C 3 dX5_second_104 rfl rfl ?_
      refine xr_ishr C dX5_second_105 ?_
      refine xr_iconst C dX5_second_106 ?_
      refine xr_iand C dX5_second_107 ?_
      refine xr_iconst C dX5_second_108 ?_
      obtain ⟨g39, hw⟩ := hw
      refine xr_icmp_ne C g39 ⟨by decide, by decide⟩ 116 dX5_second_109 (by decide) (fun c40 => ?_) (fun c40 => ?_)
      · have hw := hw.1 c40
        refine xr_iconst C dX5_second_116 ?_
        exact B117 K92 hK92 x1 x2 x3 0 σ0 hw
      · have hw := hw.2 c40
        refine xr_iconst C dX5_second_112 ?_
        refine xr_goto C 117 dX5_second_113 (by decide) ?_
        exact B117 K92 hK92 x1 x2 x3 1 σ0 hw
  have B67 : ∀ (K4 : Int × Int × xS → Prop) (hK4 : ∀ a, K4 a → xX p l e rmX5_second s m args below meth c D vwCl (va_A ((wM ad cI cJ cZ) σ) s.heap.size) (wM ad cI cJ cZ) [20, 21, 22, 23, 24, 25, 26, 27, 28, 29, 30, 31, 32, 33] σ 0 0 (MQ below (xQi D (wM ad cI cJ cZ) [20, 21, 22, 23, 24, 25, 26, 27, 28, 29, 30, 31, 32, 33] σ s.heap.size Q) args s 0 0 (va_A ((wM ad cI cJ cZ) σ) s.heap.size)) 7 (a.2.2) 4 [(0, .ref (ad 20)), (1, .int (i32 (a.1))), (2, .int (i32 (a.2.1)))] []) (x1 x2 y1 y2 y3 y4 : Int) (σ0 : xS), vX5_second_67 K4 Q x1 x2 y1 y2 y3 y4 σ0 → xX p l e rmX5_second s m args below meth c D vwCl (va_A ((wM ad cI cJ cZ) σ) s.heap.size) (wM ad cI cJ cZ) [20, 21, 22, 23, 24, 25, 26, 27, 28, 29, 30, 31, 32, 33] σ 0 0 (MQ below (xQi D (wM ad cI cJ cZ) [20, 21, 22, 23, 24, 25, 26, 27, 28, 29, 30, 31, 32, 33] σ s.heap.size Q) args s 0 0 (va_A ((wM ad cI cJ cZ) σ) s.heap.size)) 7 σ0 67 [(0, .ref (ad 20)), (1, .int (i32 x1)), (2, .int (i32 x2))] [.int (i32 y4), .int (i32 y3), .int (i32 y2), .int (i32 y1), .ref (ad 20)] := by
    intro K4 hK4 x1 x2 y1 y2 y3 y4 σ0 hw
    unfold vX5_second_67 at hw
    refine xr_iadd C dX5_second_67 ?_
    refine xr_callVv C (ci := 5) (q0 := 0) (As := [.int (i32 y1), .int (i32 y2), .int (i32 (y3 + y4))]) (rest := []) (xSp_rf _ _) (by decide) (fun h => h) (mX5_put σ0 y1 y2 (y3 + y4) _ hw) (cwV 3 C.2.2.2.2.1 gX5_second_X5_put rfl rfl rfl (by decide +kernel) ⟨by decide, by decide⟩) rfl rfl rfl rfl (Nat.le_of_ble_eq_true rfl) ⟨by decide, by decide⟩ dX5_second_68 (fun σ42 hw => ?_)
    refine xr_iinc C 2 [(0, .ref (ad 20)), (1, .int (i32 x1)), (2, .int (i32 (x2 + 1)))] dX5_second_71 rfl (by decide) rfl ?_
    refine xr_goto C 4 dX5_second_74 (by decide) ?_
    exact hK4 (x1, (x2 + 1), σ42) hw
  have L4 : ∀ a, mu (vX5_second_4  Q) a → xX p l e rmX5_second s m args below meth c D vwCl (va_A ((wM ad cI cJ cZ) σ) s.heap.size) (wM ad cI cJ cZ) [20, 21, 22, 23, 24, 25, 26, 27, 28, 29, 30, 31, 32, 33] σ 0 0 (MQ below (xQi D (wM ad cI cJ cZ) [20, 21, 22, 23, 24, 25, 26, 27, 28, 29, 30, 31, 32, 33] σ s.heap.size Q) args s 0 0 (va_A ((wM ad cI cJ cZ) σ) s.heap.size)) 7 (a.2.2) 4 [(0, .ref (ad 20)), (1, .int (i32 (a.1))), (2, .int (i32 (a.2.1)))] [] := by
    refine mu_ind (fun K4 hK4 a hw => ?_)
    obtain ⟨x1, x2, σ0⟩ := a
    show xX p l e rmX5_second s m args below meth c D vwCl (va_A ((wM ad cI cJ cZ) σ) s.heap.size) (wM ad cI cJ cZ) [20, 21, 22, 23, 24, 25, 26, 27, 28, 29, 30, 31, 32, 33] σ 0 0 (MQ below (xQi D (wM ad cI cJ cZ) [20, 21, 22, 23, 24, 25, 26, 27, 28, 29, 30, 31, 32, 33] σ s.heap.size Q) args s 0 0 (va_A ((wM ad cI cJ cZ) σ) s.heap.size)) 7 σ0 4 [(0, .ref (ad 20)), (1, .int (i32 x1)), (2, .int (i32 x2))] []
    unfold vX5_second_4 at hw
    refine xr_iload_n C 2 dX5_second_4 rfl rfl ?_
    refine xr_aload_n C 0 dX5_second_5 rfl rfl ?_
    refine xr_get C hinX5 (N := 22) (ci := 5) (a := (ad 20)) 0 rfl rfl 0 (by decide) m0 rfl rfl dX5_second_6 ?_
    refine xr_bipush C dX5_second_9 (by decide +kernel) ?_
    refine xr_iald C (t0 := 0) 1 rfl rfl (by decide) (N := 64) rfl ⟨by decide, by decide⟩ dX5_second_11 ?_
    obtain ⟨g43, hw⟩ := hw
    obtain ⟨g44, hw⟩ := hw
    refine xr_icmp_ge C g43 g44 77 dX5_second_12 (by decide) (fun c45 => ?_) (fun c45 => ?_)
    · have hw := hw.1 c45
      refine xr_aload_n C 0 dX5_second_77 rfl rfl ?_
      refine xr_get C hinX5 (N := 22) (ci := 5) (a := (ad 20)) 0 rfl rfl 0 (by decide) m0 rfl rfl dX5_second_78 ?_
      refine xr_bipush C dX5_second_81 (by decide +kernel) ?_
      refine xr_dup2 C dX5_second_83 rfl rfl ?_
      refine xr_iald C (t0 := 0) 1 rfl rfl (by decide) (N := 64) rfl ⟨by decide, by decide⟩ dX5_second_84 ?_
      refine xr_iconst C dX5_second_85 ?_
      refine xr_iadd C dX5_second_86 ?_
      refine xr_iast C (t0 := 0) (r := 21) 1 rfl rfl (by decide) (N := 64) rfl ⟨by decide, by decide⟩ wM_st21 (by decide) dX5_second_87 ?_
      refine xr_sig (fun σ46 e47 => ?_)
      have hw := hw σ46 e47
      refine xr_iconst C dX5_second_88 ?_
      refine xr_istore_n C [(0, .ref (ad 20)), (1, .int (i32 x1)), (2, .int (i32 0))] dX5_second_89 rfl (by decide) rfl ?_
      refine xr_iconst C dX5_second_90 ?_
      refine xr_istore_n C [(0, .ref (ad 20)), (1, .int (i32 x1)), (2, .int (i32 0)), (3, .int (i32 0))] dX5_second_91 rfl (by decide) rfl ?_
      exact L92 (x1, 0, 0, σ46) hw
    · have hw := hw.2 c45
      refine xr_aload_n C 0 dX5_second_15 rfl rfl ?_
      refine xr_iload_n C 2 dX5_second_16 rfl rfl ?_
      refine xr_callVi C (ci := 5) (q0 := 0) (As := [.int (i32 x2)]) (rest := []) (xSp_rf _ _) (by decide) (fun h => h) (mX5_runs σ0 x2 _ hw) (cwV 1 C.2.2.2.2.1 gX5_second_X5_runs rfl rfl rfl (by decide +kernel) ⟨by decide, by decide⟩) rfl rfl rfl rfl (Nat.le_of_ble_eq_true rfl) ⟨by decide, by decide⟩ dX5_second_17 (fun r48 σ49 hw => ?_)
      obtain ⟨g50, hw⟩ := hw
      refine xr_if_eq C g50 71 dX5_second_20 (by decide) (fun c51 => ?_) (fun c51 => ?_)
      · have hw := hw.1 c51
        refine xr_iinc C 2 [(0, .ref (ad 20)), (1, .int (i32 x1)), (2, .int (i32 (x2 + 1)))] dX5_second_71 rfl (by decide) rfl ?_
        refine xr_goto C 4 dX5_second_74 (by decide) ?_
        exact hK4 (x1, (x2 + 1), σ49) hw
      · have hw := hw.2 c51
        refine xr_iload_n C 1 dX5_second_23 rfl rfl ?_
        refine xr_iconst C dX5_second_24 ?_
        refine xr_iload_n C 2 dX5_second_25 rfl rfl ?_
        refine xr_ishl C dX5_second_26 ?_
        refine xr_ior C dX5_second_27 ?_
        refine xr_istore_n C [(0, .ref (ad 20)), (1, .int (i32 (jor x1 (jshl 1 x2)))), (2, .int (i32 x2))] dX5_second_28 rfl (by decide) rfl ?_
        refine xr_aload_n C 0 dX5_second_29 rfl rfl ?_
        refine xr_iload_n C 2 dX5_second_30 rfl rfl ?_
        refine xr_iconst C dX5_second_31 ?_
        refine xr_aload_n C 0 dX5_second_32 rfl rfl ?_
        refine xr_iload_n C 2 dX5_second_33 rfl rfl ?_
        refine xr_iconst C dX5_second_34 ?_
        refine xr_callVi C (ci := 5) (q0 := 0) (As := [.int (i32 x2), .int (i32 1)]) (rest := [.int (i32 1), .int (i32 x2), .ref (ad 20)]) (xSp_rf _ _) (by decide) (fun h => h) (mX5_of σ49 x2 1 _ hw) (cwV 2 C.2.2.2.2.1 gX5_second_X5_of rfl rfl rfl (by decide +kernel) ⟨by decide, by decide⟩) rfl rfl rfl rfl (Nat.le_of_ble_eq_true rfl) ⟨by decide, by decide⟩ dX5_second_35 (fun r52 σ53 hw => ?_)
        refine xr_iconst C dX5_second_38 ?_
        refine xr_isub C dX5_second_39 ?_
        refine xr_callVv C (ci := 5) (q0 := 0) (As := [.int (i32 x2), .int (i32 1), .int (i32 (r52 - 1))]) (rest := []) (xSp_rf _ _) (by decide) (fun h => h) (mX5_put σ53 x2 1 (r52 - 1) _ hw) (cwV 3 C.2.2.2.2.1 gX5_second_X5_put rfl rfl rfl (by decide +kernel) ⟨by decide, by decide⟩) rfl rfl rfl rfl (Nat.le_of_ble_eq_true rfl) ⟨by decide, by decide⟩ dX5_second_40 (fun σ55 hw => ?_)
        refine xr_aload_n C 0 dX5_second_43 rfl rfl ?_
        refine xr_iload_n C 2 dX5_second_44 rfl rfl ?_
        refine xr_iconst C dX5_second_45 ?_
        refine xr_aload_n C 0 dX5_second_46 rfl rfl ?_
        refine xr_iload_n C 2 dX5_second_47 rfl rfl ?_
        refine xr_iconst C dX5_second_48 ?_
        refine xr_callVi C (ci := 5) (q0 := 0) (As := [.int (i32 x2), .int (i32 5)]) (rest := [.int (i32 5), .int (i32 x2), .ref (ad 20)]) (xSp_rf _ _) (by decide) (fun h => h) (mX5_of σ55 x2 5 _ hw) (cwV 2 C.2.2.2.2.1 gX5_second_X5_of rfl rfl rfl (by decide +kernel) ⟨by decide, by decide⟩) rfl rfl rfl rfl (Nat.le_of_ble_eq_true rfl) ⟨by decide, by decide⟩ dX5_second_49 (fun r56 σ57 hw => ?_)
        refine xr_aload_n C 0 dX5_second_52 rfl rfl ?_
        refine xr_iload_n C 2 dX5_second_53 rfl rfl ?_
        refine xr_iconst C dX5_second_54 ?_
        refine xr_callVi C (ci := 5) (q0 := 0) (As := [.int (i32 x2), .int (i32 2)]) (rest := [.int (i32 r56), .int (i32 5), .int (i32 x2), .ref (ad 20)]) (xSp_rf _ _) (by decide) (fun h => h) (mX5_of σ57 x2 2 _ hw) (cwV 2 C.2.2.2.2.1 gX5_second_X5_of rfl rfl rfl (by decide +kernel) ⟨by decide, by decide⟩) rfl rfl rfl rfl (Nat.le_of_ble_eq_true rfl) ⟨by decide, by decide⟩ dX5_second_55 (fun r58 σ59 hw => ?_)
        refine xr_iconst C dX5_second_58 ?_
        obtain ⟨g60, hw⟩ := hw
        refine xr_icmp_ne C g60 ⟨by decide, by decide⟩ 66 dX5_second_59 (by decide) (fun c61 => ?_) (fun c61 => ?_)
        · have hw := hw.1 c61
          refine xr_iconst C dX5_second_66 ?_
          exact B67 K4 hK4 (jor x1 (jshl 1 x2)) x2 x2 5 r56 0 σ59 hw
        · have hw := hw.2 c61
          refine xr_iconst C dX5_second_62 ?_
          refine xr_goto C 67 dX5_second_63 (by decide) ?_
          exact B67 K4 hK4 (jor x1 (jshl 1 x2)) x2 x2 5 r56 1 σ59 hw
  show xX p l e rmX5_second s m args below meth c D vwCl (va_A ((wM ad cI cJ cZ) σ) s.heap.size) (wM ad cI cJ cZ) [20, 21, 22, 23, 24, 25, 26, 27, 28, 29, 30, 31, 32, 33] σ 0 0 (MQ below (xQi D (wM ad cI cJ cZ) [20, 21, 22, 23, 24, 25, 26, 27, 28, 29, 30, 31, 32, 33] σ s.heap.size Q) args s 0 0 (va_A ((wM ad cI cJ cZ) σ) s.heap.size)) 7 σ 0 [(0, .ref (ad 20))] []
  unfold vX5_second at hw
  refine xr_iconst C dX5_second_0 ?_
  refine xr_istore_n C [(0, .ref (ad 20)), (1, .int (i32 0))] dX5_second_1 rfl (by decide) rfl ?_
  refine xr_iconst C dX5_second_2 ?_
  refine xr_istore_n C [(0, .ref (ad 20)), (1, .int (i32 0)), (2, .int (i32 0))] dX5_second_3 rfl (by decide) rfl ?_
  exact L4 (0, 0, σ) hw
