abbrev rmX2_hasRoom : Room := { frames := 0, cells := 0, slots := 0, locals := 64 }
set_option maxHeartbeats 8000000 in
set_option maxRecDepth 100000 in
theorem mX2_hasRoom {l : Launch} {D : va_G} {ad : Nat → Nat} {cI cJ cZ : ClassId} (σ : xS) (Q : Int → xS → Prop) (hw : vX2_hasRoom σ Q) : xMi False l yX2_hasRoom wsX2_hasRoom rmX2_hasRoom D (xtys cI cJ cZ) (wP ad cI cJ cZ) [9, 10, 11, 12, 13, 14] σ [.ref (ad 9)] Q := by
  refine xenter (F := [9, 10, 11, 12, 13, 14]) (Qc := fun sz => xQi D (wP ad cI cJ cZ) [9, 10, 11, 12, 13, 14] σ sz Q) (own := RX2) (cc := cX2_hasRoom) (maxL := 1) (ret := some .boolean) (by decide) rfl rfl (Nat.le_of_ble_eq_true rfl) ?_
  intro p e s m args below meth c hargs C hr hnm
  have hinX2 : ∀ w ∈ u_ws RX2 TX2 11, w ∈ wsX2_hasRoom := fun _ h => List.mem_cons_of_mem _ (List.mem_append_right _ h)
  have m0 : (Cond.fieldLink RX2 55 "SandBench$Planner" "costs" "I") ∈ wsX2_hasRoom := by decide +kernel
  have m1 : (Cond.fieldLink RX2 48 "SandBench$Planner" "moments" "I") ∈ wsX2_hasRoom := by decide +kernel
  have m2 : (Cond.fieldLink RX2 30 "SandBench$Planner" "spans" "[J") ∈ wsX2_hasRoom := by decide +kernel
  show xX p l e rmX2_hasRoom s m args below meth c D vwCl (va_A ((wP ad cI cJ cZ) σ) s.heap.size) (wP ad cI cJ cZ) [9, 10, 11, 12, 13, 14] σ 0 0 (MQ below (xQi D (wP ad cI cJ cZ) [9, 10, 11, 12, 13, 14] σ s.heap.size Q) args s 0 0 (va_A ((wP ad cI cJ cZ) σ) s.heap.size)) 1 σ 0 [(0, .ref (ad 9))] []
  unfold vX2_hasRoom at hw
  refine xr_aload_n C 0 dX2_hasRoom_0 rfl rfl ?_
  refine xr_get C hinX2 (N := 11) (ci := 2) (a := (ad 9)) 0 rfl rfl 9 (by decide) m0 rfl rfl dX2_hasRoom_1 ?_
  refine xr_iconst C dX2_hasRoom_4 ?_
  refine xr_iadd C dX2_hasRoom_5 ?_
  refine xr_aload_n C 0 dX2_hasRoom_6 rfl rfl ?_
  refine xr_get C hinX2 (N := 11) (ci := 2) (a := (ad 9)) 0 rfl rfl 6 (by decide) m1 rfl rfl dX2_hasRoom_7 ?_
  refine xr_imul C dX2_hasRoom_10 ?_
  refine xr_aload_n C 0 dX2_hasRoom_11 rfl rfl ?_
  refine xr_get C hinX2 (N := 11) (ci := 2) (a := (ad 9)) 0 rfl rfl 8 (by decide) m2 rfl rfl dX2_hasRoom_12 ?_
  refine xr_alen C (t0 := 1) 5 rfl rfl 11725 rfl dX2_hasRoom_15 ?_
  obtain ⟨g1, hw⟩ := hw
  refine xr_icmp_gt C g1 ⟨by decide, by decide⟩ 23 dX2_hasRoom_16 (by decide) (fun c2 => ?_) (fun c2 => ?_)
  · have hw := hw.1 c2
    refine xr_iconst C dX2_hasRoom_23 ?_
    exact xr_zret C hr (Or.inl rfl) hw dX2_hasRoom_24
  · have hw := hw.2 c2
    refine xr_iconst C dX2_hasRoom_19 ?_
    refine xr_goto C 24 dX2_hasRoom_20 (by decide) ?_
    exact xr_zret C hr (Or.inr rfl) hw dX2_hasRoom_24
abbrev rmX2_spansBy : Room := { frames := 0, cells := 0, slots := 0, locals := 64 }
set_option maxHeartbeats 8000000 in
set_option maxRecDepth 100000 in
theorem mX2_spansBy {l : Launch} {D : va_G} {ad : Nat → Nat} {cI cJ cZ : ClassId} (σ : xS) (a1 a2 : Int) (Q : Int → xS → Prop) (hw : vX2_spansBy a1 a2 σ Q) : xMl False l yX2_spansBy wsX2_spansBy rmX2_spansBy D (xtys cI cJ cZ) (wP ad cI cJ cZ) [9, 10, 11, 12, 13, 14] σ [.ref (ad 9), .int (i32 a1), .int (i32 a2)] Q := by
  refine xenter (F := [9, 10, 11, 12, 13, 14]) (Qc := fun sz => xQl D (wP ad cI cJ cZ) [9, 10, 11, 12, 13, 14] σ sz Q) (own := RX2) (cc := cX2_spansBy) (maxL := 3) (ret := some .long) (by decide) rfl rfl (Nat.le_of_ble_eq_true rfl) ?_
  intro p e s m args below meth c hargs C hr hnm
  have hinX2 : ∀ w ∈ u_ws RX2 TX2 11, w ∈ wsX2_spansBy := fun _ h => List.mem_cons_of_mem _ (List.mem_append_right _ h)
  have m0 : (Cond.fieldLink RX2 30 "SandBench$Planner" "spans" "[J") ∈ wsX2_spansBy := by decide +kernel
  have m1 : (Cond.fieldLink RX2 48 "SandBench$Planner" "moments" "I") ∈ wsX2_spansBy := by decide +kernel
  show xX p l e rmX2_spansBy s m args below meth c D vwCl (va_A ((wP ad cI cJ cZ) σ) s.heap.size) (wP ad cI cJ cZ) [9, 10, 11, 12, 13, 14] σ 0 0 (MQ below (xQl D (wP ad cI cJ cZ) [9, 10, 11, 12, 13, 14] σ s.heap.size Q) args s 0 0 (va_A ((wP ad cI cJ cZ) σ) s.heap.size)) 3 σ 0 [(0, .ref (ad 9)), (1, .int (i32 a1)), (2, .int (i32 a2))] []
  unfold vX2_spansBy at hw
  refine xr_iload_n C 1 dX2_spansBy_0 rfl rfl ?_
  obtain ⟨g1, hw⟩ := hw
  refine xr_if_eq C g1 8 dX2_spansBy_1 (by decide) (fun c2 => ?_) (fun c2 => ?_)
  · have hw := hw.1 c2
    refine xr_lconst C 0 dX2_spansBy_8 (by decide +kernel) ?_
    exact xr_lret C hr hw dX2_spansBy_9
  · have hw := hw.2 c2
    refine xr_iload_n C 2 dX2_spansBy_4 rfl rfl ?_
    obtain ⟨g3, hw⟩ := hw
    refine xr_if_ge C g3 10 dX2_spansBy_5 (by decide) (fun c4 => ?_) (fun c4 => ?_)
    · have hw := hw.1 c4
      refine xr_aload_n C 0 dX2_spansBy_10 rfl rfl ?_
      refine xr_get C hinX2 (N := 11) (ci := 2) (a := (ad 9)) 0 rfl rfl 8 (by decide) m0 rfl rfl dX2_spansBy_11 ?_
      refine xr_iload_n C 2 dX2_spansBy_14 rfl rfl ?_
      refine xr_aload_n C 0 dX2_spansBy_15 rfl rfl ?_
      refine xr_get C hinX2 (N := 11) (ci := 2) (a := (ad 9)) 0 rfl rfl 6 (by decide) m1 rfl rfl dX2_spansBy_16 ?_
      refine xr_imul C dX2_spansBy_19 ?_
      refine xr_iload_n C 1 dX2_spansBy_20 rfl rfl ?_
      refine xr_iconst C dX2_spansBy_21 ?_
      refine xr_ishr C dX2_spansBy_22 ?_
      refine xr_iadd C dX2_spansBy_23 ?_
      obtain ⟨g5, hw⟩ := hw
      refine xr_lald C (t0 := 1) 5 rfl rfl (by decide) (N := 11725) rfl g5 dX2_spansBy_24 ?_
      refine xr_lconst C 1 dX2_spansBy_25 (by decide +kernel) ?_
      refine xr_lor C dX2_spansBy_26 ?_
      refine xr_iload_n C 1 dX2_spansBy_27 rfl rfl ?_
      refine xr_bipush C dX2_spansBy_28 (by decide +kernel) ?_
      refine xr_iand C dX2_spansBy_30 ?_
      refine xr_lshl C dX2_spansBy_31 ?_
      exact xr_lret C hr hw dX2_spansBy_32
    · have hw := hw.2 c4
      refine xr_lconst C 0 dX2_spansBy_8 (by decide +kernel) ?_
      exact xr_lret C hr hw dX2_spansBy_9
abbrev rmX2_spansFrom : Room := { frames := 1, cells := 0, slots := 0, locals := 86 }
set_option maxHeartbeats 8000000 in
set_option maxRecDepth 100000 in
theorem mX2_spansFrom {l : Launch} {D : va_G} {ad : Nat → Nat} {cI cJ cZ : ClassId} (σ : xS) (a1 a2 : Int) (Q : Int → xS → Prop) (hw : vX2_spansFrom a1 a2 σ Q) : xMl True l yX2_spansFrom wsX2_spansFrom rmX2_spansFrom D (xtys cI cJ cZ) (wP ad cI cJ cZ) [9, 10, 11, 12, 13, 14] σ [.ref (ad 9), .int (i32 a1), .int (i32 a2)] Q := by
  refine xenter (F := [9, 10, 11, 12, 13, 14]) (Qc := fun sz => xQl D (wP ad cI cJ cZ) [9, 10, 11, 12, 13, 14] σ sz Q) (own := RX2) (cc := cX2_spansFrom) (maxL := 6) (ret := some .long) (by decide) rfl rfl (Nat.le_of_ble_eq_true rfl) ?_
  intro p e s m args below meth c hargs C hr hnm
  have hinX2 : ∀ w ∈ u_ws RX2 TX2 11, w ∈ wsX2_spansFrom := fun _ h => List.mem_cons_of_mem _ (List.mem_append_right _ h)
  have m0 : (Cond.constantLong RX2 90 2199023255550) ∈ wsX2_spansFrom := by decide +kernel
  have m1 : (Cond.fieldLink RX2 27 "SandBench$Planner" "ways" "[I") ∈ wsX2_spansFrom := by decide +kernel
  have m2 : (Cond.fieldLink RX2 84 "SandBench$Planner" "STACKS_IN" "[I") ∈ wsX2_spansFrom := by decide +kernel
  have L5 : ∀ a, mu (vX2_spansFrom_5  Q) a → xX p l e rmX2_spansFrom s m args below meth c D vwCl (va_A ((wP ad cI cJ cZ) σ) s.heap.size) (wP ad cI cJ cZ) [9, 10, 11, 12, 13, 14] σ 0 0 (MQ below (xQl D (wP ad cI cJ cZ) [9, 10, 11, 12, 13, 14] σ s.heap.size Q) args s 0 0 (va_A ((wP ad cI cJ cZ) σ) s.heap.size)) 6 (a.2.2.2.2) 5 [(0, .ref (ad 9)), (1, .int (i32 (a.1))), (2, .int (i32 (a.2.1))), (3, .long (i64 (a.2.2.1))), (5, .int (i32 (a.2.2.2.1)))] [] := by
    refine mu_ind (fun K5 hK5 a hw => ?_)
    obtain ⟨x1, x2, x3, x5, σ0⟩ := a
    show xX p l e rmX2_spansFrom s m args below meth c D vwCl (va_A ((wP ad cI cJ cZ) σ) s.heap.size) (wP ad cI cJ cZ) [9, 10, 11, 12, 13, 14] σ 0 0 (MQ below (xQl D (wP ad cI cJ cZ) [9, 10, 11, 12, 13, 14] σ s.heap.size Q) args s 0 0 (va_A ((wP ad cI cJ cZ) σ) s.heap.size)) 6 σ0 5 [(0, .ref (ad 9)), (1, .int (i32 x1)), (2, .int (i32 x2)), (3, .long (i64 x3)), (5, .int (i32 x5))] []
    unfold vX2_spansFrom_5 at hw
    refine xr_iload C 4 dX2_spansFrom_5 rfl ?_
    refine xr_bipush C dX2_spansFrom_7 (by decide +kernel) ?_
    obtain ⟨g1, hw⟩ := hw
    refine xr_icmp_ge C g1 ⟨by decide, by decide⟩ 45 dX2_spansFrom_9 (by decide) (fun c2 => ?_) (fun c2 => ?_)
    · have hw := hw.1 c2
      refine xr_lload_n C 3 dX2_spansFrom_45 rfl rfl ?_
      refine xr_ldc2 C 2199023255550 m0 (by decide +kernel) dX2_spansFrom_46 ?_
      refine xr_land C dX2_spansFrom_49 ?_
      exact xr_lret C hr hw dX2_spansFrom_50
    · have hw := hw.2 c2
      refine xr_lload_n C 3 dX2_spansFrom_12 rfl rfl ?_
      refine xr_aload_n C 0 dX2_spansFrom_13 rfl rfl ?_
      refine xr_aload_n C 0 dX2_spansFrom_14 rfl rfl ?_
      refine xr_get C hinX2 (N := 11) (ci := 2) (a := (ad 9)) 0 rfl rfl 7 (by decide) m1 rfl rfl dX2_spansFrom_15 ?_
      refine xr_iload_n C 1 dX2_spansFrom_18 rfl rfl ?_
      refine xr_bipush C dX2_spansFrom_19 (by decide +kernel) ?_
      refine xr_imul C dX2_spansFrom_21 ?_
      refine xr_iload C 4 dX2_spansFrom_22 rfl ?_
      refine xr_iadd C dX2_spansFrom_24 ?_
      obtain ⟨g3, hw⟩ := hw
      refine xr_iald C (t0 := 0) 4 rfl rfl (by decide) (N := 3760) rfl g3 dX2_spansFrom_25 ?_
      refine xr_iload_n C 2 dX2_spansFrom_26 rfl rfl ?_
      refine xr_getst C trivial m2 dX2_spansFrom_27 (fun tb4 ht5 => ?_)
      refine xr_iload C 4 dX2_spansFrom_30 rfl ?_
      obtain ⟨g6, hw⟩ := hw
      refine xr_ti C ht5 (by decide) (N1 := 8) rfl g6 dX2_spansFrom_32 ?_
      refine xr_isub C dX2_spansFrom_33 ?_
      refine xr_callVl C (ci := 2) (q0 := 0) (As := [.int (i32 (σ0 13 (((x1 * 8) + x5).toNat))), .int (i32 (x2 - (stk (x5.toNat))))]) (rest := [.long (i64 x3)]) (xSp_rf _ _) (by decide) (fun _ => trivial) (mX2_spansBy σ0 (σ0 13 (((x1 * 8) + x5).toNat)) (x2 - (stk (x5.toNat))) _ hw) (cwV 2 C.2.2.2.2.1 gX2_spansFrom_X2_spansBy rfl rfl rfl (by decide +kernel) ⟨by decide, by decide⟩) rfl rfl rfl rfl (Nat.le_of_ble_eq_true rfl) ⟨by decide, by decide⟩ dX2_spansFrom_34 (fun r7 σ8 hw => ?_)
      refine xr_lor C dX2_spansFrom_37 ?_
      refine xr_lstore_n C [(0, .ref (ad 9)), (1, .int (i32 x1)), (2, .int (i32 x2)), (3, .long (i64 (kor x3 r7))), (5, .int (i32 x5))] dX2_spansFrom_38 rfl (by decide) rfl ?_
      refine xr_iinc C 4 [(0, .ref (ad 9)), (1, .int (i32 x1)), (2, .int (i32 x2)), (3, .long (i64 (kor x3 r7))), (5, .int (i32 (x5 + 1)))] dX2_spansFrom_39 rfl (by decide) rfl ?_
      refine xr_goto C 5 dX2_spansFrom_42 (by decide) ?_
      exact hK5 (x1, x2, (kor x3 r7), (x5 + 1), σ8) hw
  show xX p l e rmX2_spansFrom s m args below meth c D vwCl (va_A ((wP ad cI cJ cZ) σ) s.heap.size) (wP ad cI cJ cZ) [9, 10, 11, 12, 13, 14] σ 0 0 (MQ below (xQl D (wP ad cI cJ cZ) [9, 10, 11, 12, 13, 14] σ s.heap.size Q) args s 0 0 (va_A ((wP ad cI cJ cZ) σ) s.heap.size)) 6 σ 0 [(0, .ref (ad 9)), (1, .int (i32 a1)), (2, .int (i32 a2))] []
  unfold vX2_spansFrom at hw
  refine xr_lconst C 0 dX2_spansFrom_0 (by decide +kernel) ?_
  refine xr_lstore_n C [(0, .ref (ad 9)), (1, .int (i32 a1)), (2, .int (i32 a2)), (3, .long (i64 0))] dX2_spansFrom_1 rfl (by decide) rfl ?_
  refine xr_iconst C dX2_spansFrom_2 ?_
  refine xr_istore C [(0, .ref (ad 9)), (1, .int (i32 a1)), (2, .int (i32 a2)), (3, .long (i64 0)), (5, .int (i32 0))] dX2_spansFrom_3 (by decide) rfl ?_
  exact L5 (a1, a2, 0, 0, σ) hw
abbrev rmX2_findSpans : Room := { frames := 2, cells := 0, slots := 0, locals := 111 }
set_option maxHeartbeats 8000000 in
set_option maxRecDepth 100000 in
theorem mX2_findSpans {l : Launch} {D : va_G} {ad : Nat → Nat} {cI cJ cZ : ClassId} (σ : xS) (a1 : Int) (Q : Int → xS → Prop) (hw : vX2_findSpans a1 σ Q) : xMi True l yX2_findSpans wsX2_findSpans rmX2_findSpans D (xtys cI cJ cZ) (wP ad cI cJ cZ) [9, 10, 11, 12, 13, 14] σ [.ref (ad 9), .int (i32 a1)] Q := by
  refine xenter (F := [9, 10, 11, 12, 13, 14]) (Qc := fun sz => xQi D (wP ad cI cJ cZ) [9, 10, 11, 12, 13, 14] σ sz Q) (own := RX2) (cc := cX2_findSpans) (maxL := 6) (ret := some .boolean) (by decide) rfl rfl (Nat.le_of_ble_eq_true rfl) ?_
  intro p e s m args below meth c hargs C hr hnm
  have hinX2 : ∀ w ∈ u_ws RX2 TX2 11, w ∈ wsX2_findSpans := fun _ h => List.mem_cons_of_mem _ (List.mem_append_right _ h)
  have m0 : (Cond.fieldLink RX2 48 "SandBench$Planner" "moments" "I") ∈ wsX2_findSpans := by decide +kernel
  have m1 : (Cond.fieldLink RX2 30 "SandBench$Planner" "spans" "[J") ∈ wsX2_findSpans := by decide +kernel
  have L12 : ∀ a, mu (vX2_findSpans_12  Q) a → xX p l e rmX2_findSpans s m args below meth c D vwCl (va_A ((wP ad cI cJ cZ) σ) s.heap.size) (wP ad cI cJ cZ) [9, 10, 11, 12, 13, 14] σ 0 0 (MQ below (xQi D (wP ad cI cJ cZ) [9, 10, 11, 12, 13, 14] σ s.heap.size Q) args s 0 0 (va_A ((wP ad cI cJ cZ) σ) s.heap.size)) 6 (a.2.2.2) 12 [(0, .ref (ad 9)), (1, .int (i32 (a.1))), (2, .int (i32 (a.2.1))), (3, .int (i32 (a.2.2.1)))] [] := by
    refine mu_ind (fun K12 hK12 a hw => ?_)
    obtain ⟨x1, x2, x3, σ0⟩ := a
    show xX p l e rmX2_findSpans s m args below meth c D vwCl (va_A ((wP ad cI cJ cZ) σ) s.heap.size) (wP ad cI cJ cZ) [9, 10, 11, 12, 13, 14] σ 0 0 (MQ below (xQi D (wP ad cI cJ cZ) [9, 10, 11, 12, 13, 14] σ s.heap.size Q) args s 0 0 (va_A ((wP ad cI cJ cZ) σ) s.heap.size)) 6 σ0 12 [(0, .ref (ad 9)), (1, .int (i32 x1)), (2, .int (i32 x2)), (3, .int (i32 x3))] []
    unfold vX2_findSpans_12 at hw
    refine xr_iload_n C 3 dX2_findSpans_12 rfl rfl ?_
    refine xr_aload_n C 0 dX2_findSpans_13 rfl rfl ?_
    refine xr_get C hinX2 (N := 11) (ci := 2) (a := (ad 9)) 0 rfl rfl 6 (by decide) m0 rfl rfl dX2_findSpans_14 ?_
    obtain ⟨g1, hw⟩ := hw
    obtain ⟨g2, hw⟩ := hw
    refine xr_icmp_ge C g1 g2 76 dX2_findSpans_17 (by decide) (fun c3 => ?_) (fun c3 => ?_)
    · have hw := hw.1 c3
      refine xr_iload_n C 2 dX2_findSpans_76 rfl rfl ?_
      exact xr_zret C hr hw.1 hw.2 dX2_findSpans_77
    · have hw := hw.2 c3
      refine xr_aload_n C 0 dX2_findSpans_20 rfl rfl ?_
      refine xr_iload_n C 3 dX2_findSpans_21 rfl rfl ?_
      refine xr_iload_n C 1 dX2_findSpans_22 rfl rfl ?_
      refine xr_callVl C (ci := 2) (q0 := 0) (As := [.int (i32 x3), .int (i32 x1)]) (rest := []) (xSp_rf _ _) (by decide) (fun _ => trivial) (mX2_spansFrom σ0 x3 x1 _ hw) (cwV 2 C.2.2.2.2.1 gX2_findSpans_X2_spansFrom rfl rfl rfl (by decide +kernel) ⟨by decide, by decide⟩) rfl rfl rfl rfl (Nat.le_of_ble_eq_true rfl) ⟨by decide, by decide⟩ dX2_findSpans_23 (fun r4 σ5 hw => ?_)
      refine xr_lstore C [(0, .ref (ad 9)), (1, .int (i32 x1)), (2, .int (i32 x2)), (3, .int (i32 x3)), (4, .long (i64 r4))] dX2_findSpans_26 (by decide) rfl ?_
      refine xr_aload_n C 0 dX2_findSpans_28 rfl rfl ?_
      refine xr_get C hinX2 (N := 11) (ci := 2) (a := (ad 9)) 0 rfl rfl 8 (by decide) m1 rfl rfl dX2_findSpans_29 ?_
      refine xr_iload_n C 1 dX2_findSpans_32 rfl rfl ?_
      refine xr_aload_n C 0 dX2_findSpans_33 rfl rfl ?_
      refine xr_get C hinX2 (N := 11) (ci := 2) (a := (ad 9)) 0 rfl rfl 6 (by decide) m0 rfl rfl dX2_findSpans_34 ?_
      refine xr_imul C dX2_findSpans_37 ?_
      refine xr_iload_n C 3 dX2_findSpans_38 rfl rfl ?_
      refine xr_iadd C dX2_findSpans_39 ?_
      refine xr_lload C 4 dX2_findSpans_40 rfl ?_
      obtain ⟨g6, hw⟩ := hw
      refine xr_last C (t0 := 1) (r := 14) 5 rfl rfl (by decide) (N := 11725) rfl g6 wP_st14 (by decide) dX2_findSpans_42 ?_
      refine xr_sig (fun σ7 e8 => ?_)
      have hw := hw σ7 e8
      refine xr_iload_n C 1 dX2_findSpans_43 rfl rfl ?_
      obtain ⟨g9, hw⟩ := hw
      refine xr_if_le C g9 70 dX2_findSpans_44 (by decide) (fun c10 => ?_) (fun c10 => ?_)
      · have hw := hw.1 c10
        refine xr_iinc C 3 [(0, .ref (ad 9)), (1, .int (i32 x1)), (2, .int (i32 x2)), (3, .int (i32 (x3 + 1))), (4, .long (i64 r4))] dX2_findSpans_70 rfl (by decide) rfl ?_
        refine xr_goto C 12 dX2_findSpans_73 (by decide) ?_
        refine xr_sub C [0, 1, 2, 3] [(0, .ref (ad 9)), (1, .int (i32 x1)), (2, .int (i32 x2)), (3, .int (i32 (x3 + 1)))] rfl ?_
        exact hK12 (x1, x2, (x3 + 1), σ7) hw
      · have hw := hw.2 c10
        refine xr_lload C 4 dX2_findSpans_47 rfl ?_
        refine xr_aload_n C 0 dX2_findSpans_49 rfl rfl ?_
        refine xr_get C hinX2 (N := 11) (ci := 2) (a := (ad 9)) 0 rfl rfl 8 (by decide) m1 rfl rfl dX2_findSpans_50 ?_
        refine xr_iload_n C 1 dX2_findSpans_53 rfl rfl ?_
        refine xr_iconst C dX2_findSpans_54 ?_
        refine xr_isub C dX2_findSpans_55 ?_
        refine xr_aload_n C 0 dX2_findSpans_56 rfl rfl ?_
        refine xr_get C hinX2 (N := 11) (ci := 2) (a := (ad 9)) 0 rfl rfl 6 (by decide) m0 rfl rfl dX2_findSpans_57 ?_
        refine xr_imul C dX2_findSpans_60 ?_
        refine xr_iload_n C 3 dX2_findSpans_61 rfl rfl ?_
        refine xr_iadd C dX2_findSpans_62 ?_
        obtain ⟨g11, hw⟩ := hw
        refine xr_lald C (t0 := 1) 5 rfl rfl (by decide) (N := 11725) rfl g11 dX2_findSpans_63 ?_
        refine xr_lcmp C dX2_findSpans_64 ?_
        obtain ⟨g12, hw⟩ := hw
        refine xr_if_eq C g12 70 dX2_findSpans_65 (by decide) (fun c13 => ?_) (fun c13 => ?_)
        · have hw := hw.1 c13
          refine xr_iinc C 3 [(0, .ref (ad 9)), (1, .int (i32 x1)), (2, .int (i32 x2)), (3, .int (i32 (x3 + 1))), (4, .long (i64 r4))] dX2_findSpans_70 rfl (by decide) rfl ?_
          refine xr_goto C 12 dX2_findSpans_73 (by decide) ?_
          refine xr_sub C [0, 1, 2, 3] [(0, .ref (ad 9)), (1, .int (i32 x1)), (2, .int (i32 x2)), (3, .int (i32 (x3 + 1)))] rfl ?_
          exact hK12 (x1, x2, (x3 + 1), σ7) hw
        · have hw := hw.2 c13
          refine xr_iconst C dX2_findSpans_68 ?_
          refine xr_istore_n C [(0, .ref (ad 9)), (1, .int (i32 x1)), (2, .int (i32 1)), (3, .int (i32 x3)), (4, .long (i64 r4))] dX2_findSpans_69 rfl (by decide) rfl ?_
          refine xr_iinc C 3 [(0, .ref (ad 9)), (1, .int (i32 x1)), (2, .int (i32 1)), (3, .int (i32 (x3 + 1))), (4, .long (i64 r4))] dX2_findSpans_70 rfl (by decide) rfl ?_
          refine xr_goto C 12 dX2_findSpans_73 (by decide) ?_
          refine xr_sub C [0, 1, 2, 3] [(0, .ref (ad 9)), (1, .int (i32 x1)), (2, .int (i32 1)), (3, .int (i32 (x3 + 1)))] rfl ?_
          exact hK12 (x1, 1, (x3 + 1), σ7) hw
  show xX p l e rmX2_findSpans s m args below meth c D vwCl (va_A ((wP ad cI cJ cZ) σ) s.heap.size) (wP ad cI cJ cZ) [9, 10, 11, 12, 13, 14] σ 0 0 (MQ below (xQi D (wP ad cI cJ cZ) [9, 10, 11, 12, 13, 14] σ s.heap.size Q) args s 0 0 (va_A ((wP ad cI cJ cZ) σ) s.heap.size)) 6 σ 0 [(0, .ref (ad 9)), (1, .int (i32 a1))] []
  unfold vX2_findSpans at hw
  refine xr_iload_n C 1 dX2_findSpans_0 rfl rfl ?_
  obtain ⟨g14, hw⟩ := hw
  refine xr_if_ne C g14 8 dX2_findSpans_1 (by decide) (fun c15 => ?_) (fun c15 => ?_)
  · have hw := hw.1 c15
    refine xr_iconst C dX2_findSpans_8 ?_
    refine xr_istore_n C [(0, .ref (ad 9)), (1, .int (i32 a1)), (2, .int (i32 0))] dX2_findSpans_9 rfl (by decide) rfl ?_
    refine xr_iconst C dX2_findSpans_10 ?_
    refine xr_istore_n C [(0, .ref (ad 9)), (1, .int (i32 a1)), (2, .int (i32 0)), (3, .int (i32 0))] dX2_findSpans_11 rfl (by decide) rfl ?_
    exact L12 (a1, 0, 0, σ) hw
  · have hw := hw.2 c15
    refine xr_iconst C dX2_findSpans_4 ?_
    refine xr_goto C 9 dX2_findSpans_5 (by decide) ?_
    refine xr_istore_n C [(0, .ref (ad 9)), (1, .int (i32 a1)), (2, .int (i32 1))] dX2_findSpans_9 rfl (by decide) rfl ?_
    refine xr_iconst C dX2_findSpans_10 ?_
    refine xr_istore_n C [(0, .ref (ad 9)), (1, .int (i32 a1)), (2, .int (i32 1)), (3, .int (i32 0))] dX2_findSpans_11 rfl (by decide) rfl ?_
    exact L12 (a1, 1, 0, σ) hw
abbrev rmX2_findUpTo : Room := { frames := 3, cells := 0, slots := 0, locals := 136 }
set_option maxHeartbeats 8000000 in
set_option maxRecDepth 100000 in
theorem mX2_findUpTo {l : Launch} {D : va_G} {ad : Nat → Nat} {cI cJ cZ : ClassId} (σ : xS) (a1 : Int) (Q : Int → xS → Prop) (hw : vX2_findUpTo a1 σ Q) : xMi True l yX2_findUpTo wsX2_findUpTo rmX2_findUpTo D (xtys cI cJ cZ) (wP ad cI cJ cZ) [9, 10, 11, 12, 13, 14] σ [.ref (ad 9), .int (i32 a1)] Q := by
  refine xenter (F := [9, 10, 11, 12, 13, 14]) (Qc := fun sz => xQi D (wP ad cI cJ cZ) [9, 10, 11, 12, 13, 14] σ sz Q) (own := RX2) (cc := cX2_findUpTo) (maxL := 2) (ret := some .boolean) (by decide) rfl rfl (Nat.le_of_ble_eq_true rfl) ?_
  intro p e s m args below meth c hargs C hr hnm
  have hinX2 : ∀ w ∈ u_ws RX2 TX2 11, w ∈ wsX2_findUpTo := fun _ h => List.mem_cons_of_mem _ (List.mem_append_right _ h)
  have m0 : (Cond.fieldLink RX2 55 "SandBench$Planner" "costs" "I") ∈ wsX2_findUpTo := by decide +kernel
  have m1 : (Cond.fieldLink RX2 58 "SandBench$Planner" "idleCosts" "I") ∈ wsX2_findUpTo := by decide +kernel
  have B61 : ∀ (x1 : Int) (σ0 : xS), vX2_findUpTo_61  Q x1 σ0 → xX p l e rmX2_findUpTo s m args below meth c D vwCl (va_A ((wP ad cI cJ cZ) σ) s.heap.size) (wP ad cI cJ cZ) [9, 10, 11, 12, 13, 14] σ 0 0 (MQ below (xQi D (wP ad cI cJ cZ) [9, 10, 11, 12, 13, 14] σ s.heap.size Q) args s 0 0 (va_A ((wP ad cI cJ cZ) σ) s.heap.size)) 2 σ0 61 [(0, .ref (ad 9)), (1, .int (i32 x1))] [] := by
    intro x1 σ0 hw
    unfold vX2_findUpTo_61 at hw
    refine xr_iload_n C 1 dX2_findUpTo_61 rfl rfl ?_
    refine xr_aload_n C 0 dX2_findUpTo_62 rfl rfl ?_
    refine xr_get C hinX2 (N := 11) (ci := 2) (a := (ad 9)) 0 rfl rfl 9 (by decide) m0 rfl rfl dX2_findUpTo_63 ?_
    obtain ⟨g1, hw⟩ := hw
    obtain ⟨g2, hw⟩ := hw
    refine xr_icmp_ge C g1 g2 73 dX2_findUpTo_66 (by decide) (fun c3 => ?_) (fun c3 => ?_)
    · have hw := hw.1 c3
      refine xr_iconst C dX2_findUpTo_73 ?_
      exact xr_zret C hr (Or.inl rfl) hw dX2_findUpTo_74
    · have hw := hw.2 c3
      refine xr_iconst C dX2_findUpTo_69 ?_
      refine xr_goto C 74 dX2_findUpTo_70 (by decide) ?_
      exact xr_zret C hr (Or.inr rfl) hw dX2_findUpTo_74
  have B45 : ∀ (K0 : Int × xS → Prop) (hK0 : ∀ a, K0 a → xX p l e rmX2_findUpTo s m args below meth c D vwCl (va_A ((wP ad cI cJ cZ) σ) s.heap.size) (wP ad cI cJ cZ) [9, 10, 11, 12, 13, 14] σ 0 0 (MQ below (xQi D (wP ad cI cJ cZ) [9, 10, 11, 12, 13, 14] σ s.heap.size Q) args s 0 0 (va_A ((wP ad cI cJ cZ) σ) s.heap.size)) 2 (a.2) 0 [(0, .ref (ad 9)), (1, .int (i32 (a.1)))] []) (x1 y1 : Int) (σ0 : xS), vX2_findUpTo_45 K0 Q x1 y1 σ0 → xX p l e rmX2_findUpTo s m args below meth c D vwCl (va_A ((wP ad cI cJ cZ) σ) s.heap.size) (wP ad cI cJ cZ) [9, 10, 11, 12, 13, 14] σ 0 0 (MQ below (xQi D (wP ad cI cJ cZ) [9, 10, 11, 12, 13, 14] σ s.heap.size Q) args s 0 0 (va_A ((wP ad cI cJ cZ) σ) s.heap.size)) 2 σ0 45 [(0, .ref (ad 9)), (1, .int (i32 x1))] [.int (i32 y1), .ref (ad 9)] := by
    intro K0 hK0 x1 y1 σ0 hw
    unfold vX2_findUpTo_45 at hw
    refine xr_put C (r := 9) (x := y1) (ty := .int) hinX2 (N := 11) (ci := 2) tyX2 tyX2_ok nmX2 0 rfl rfl 10 (by decide) m1 rfl rfl (by decide +kernel) rfl rfl (Nat.le_of_ble_eq_true rfl) rfl (by decide) dX2_findUpTo_45 ?_
    refine xr_sig (fun σ4 e5 => ?_)
    have hw := hw σ4 e5
    refine xr_aload_n C 0 dX2_findUpTo_48 rfl rfl ?_
    refine xr_dup C dX2_findUpTo_49 rfl ?_
    refine xr_get C hinX2 (N := 11) (ci := 2) (a := (ad 9)) 0 rfl rfl 9 (by decide) m0 rfl rfl dX2_findUpTo_50 ?_
    refine xr_iconst C dX2_findUpTo_53 ?_
    refine xr_iadd C dX2_findUpTo_54 ?_
    refine xr_put C (r := 9) (x := ((σ4 9 9) + 1)) (ty := .int) hinX2 (N := 11) (ci := 2) tyX2 tyX2_ok nmX2 0 rfl rfl 9 (by decide) m0 rfl rfl (by decide +kernel) rfl rfl (Nat.le_of_ble_eq_true rfl) rfl (by decide) dX2_findUpTo_55 ?_
    refine xr_sig (fun σ6 e7 => ?_)
    have hw := hw σ6 e7
    refine xr_goto C 0 dX2_findUpTo_58 (by decide) ?_
    exact hK0 (x1, σ6) hw
  have L0 : ∀ a, mu (vX2_findUpTo_0  Q) a → xX p l e rmX2_findUpTo s m args below meth c D vwCl (va_A ((wP ad cI cJ cZ) σ) s.heap.size) (wP ad cI cJ cZ) [9, 10, 11, 12, 13, 14] σ 0 0 (MQ below (xQi D (wP ad cI cJ cZ) [9, 10, 11, 12, 13, 14] σ s.heap.size Q) args s 0 0 (va_A ((wP ad cI cJ cZ) σ) s.heap.size)) 2 (a.2) 0 [(0, .ref (ad 9)), (1, .int (i32 (a.1)))] [] := by
    refine mu_ind (fun K0 hK0 a hw => ?_)
    obtain ⟨x1, σ0⟩ := a
    show xX p l e rmX2_findUpTo s m args below meth c D vwCl (va_A ((wP ad cI cJ cZ) σ) s.heap.size) (wP ad cI cJ cZ) [9, 10, 11, 12, 13, 14] σ 0 0 (MQ below (xQi D (wP ad cI cJ cZ) [9, 10, 11, 12, 13, 14] σ s.heap.size Q) args s 0 0 (va_A ((wP ad cI cJ cZ) σ) s.heap.size)) 2 σ0 0 [(0, .ref (ad 9)), (1, .int (i32 x1))] []
    unfold vX2_findUpTo_0 at hw
    refine xr_aload_n C 0 dX2_findUpTo_0 rfl rfl ?_
    refine xr_get C hinX2 (N := 11) (ci := 2) (a := (ad 9)) 0 rfl rfl 9 (by decide) m0 rfl rfl dX2_findUpTo_1 ?_
    refine xr_iload_n C 1 dX2_findUpTo_4 rfl rfl ?_
    obtain ⟨g8, hw⟩ := hw
    obtain ⟨g9, hw⟩ := hw
    refine xr_icmp_gt C g8 g9 61 dX2_findUpTo_5 (by decide) (fun c10 => ?_) (fun c10 => ?_)
    · have hw := hw.1 c10
      exact B61 x1 σ0 hw
    · have hw := hw.2 c10
      refine xr_aload_n C 0 dX2_findUpTo_8 rfl rfl ?_
      refine xr_get C hinX2 (N := 11) (ci := 2) (a := (ad 9)) 0 rfl rfl 10 (by decide) m1 rfl rfl dX2_findUpTo_9 ?_
      refine xr_iconst C dX2_findUpTo_12 ?_
      obtain ⟨g11, hw⟩ := hw
      refine xr_icmp_ge C g11 ⟨by decide, by decide⟩ 61 dX2_findUpTo_13 (by decide) (fun c12 => ?_) (fun c12 => ?_)
      · have hw := hw.1 c12
        exact B61 x1 σ0 hw
      · have hw := hw.2 c12
        refine xr_aload_n C 0 dX2_findUpTo_16 rfl rfl ?_
        refine xr_callVi C (ci := 2) (q0 := 0) (As := []) (rest := []) (xSp_rf _ _) (by decide) (fun _ => trivial) (mX2_hasRoom σ0 _ hw) (cwV 0 C.2.2.2.2.1 gX2_findUpTo_X2_hasRoom rfl rfl rfl (by decide +kernel) ⟨by decide, by decide⟩) rfl rfl rfl rfl (Nat.le_of_ble_eq_true rfl) ⟨by decide, by decide⟩ dX2_findUpTo_17 (fun r13 σ14 hw => ?_)
        obtain ⟨g15, hw⟩ := hw
        refine xr_if_eq C g15 61 dX2_findUpTo_20 (by decide) (fun c16 => ?_) (fun c16 => ?_)
        · have hw := hw.1 c16
          exact B61 x1 σ14 hw
        · have hw := hw.2 c16
          refine xr_aload_n C 0 dX2_findUpTo_23 rfl rfl ?_
          refine xr_aload_n C 0 dX2_findUpTo_24 rfl rfl ?_
          refine xr_aload_n C 0 dX2_findUpTo_25 rfl rfl ?_
          refine xr_get C hinX2 (N := 11) (ci := 2) (a := (ad 9)) 0 rfl rfl 9 (by decide) m0 rfl rfl dX2_findUpTo_26 ?_
          refine xr_callVi C (ci := 2) (q0 := 0) (As := [.int (i32 (σ14 9 9))]) (rest := [.ref (ad 9)]) (xSp_rf _ _) (by decide) (fun _ => trivial) (mX2_findSpans σ14 (σ14 9 9) _ hw) (cwV 1 C.2.2.2.2.1 gX2_findUpTo_X2_findSpans rfl rfl rfl (by decide +kernel) ⟨by decide, by decide⟩) rfl rfl rfl rfl (Nat.le_of_ble_eq_true rfl) ⟨by decide, by decide⟩ dX2_findUpTo_29 (fun r17 σ18 hw => ?_)
          obtain ⟨g19, hw⟩ := hw
          refine xr_if_eq C g19 39 dX2_findUpTo_32 (by decide) (fun c20 => ?_) (fun c20 => ?_)
          · have hw := hw.1 c20
            refine xr_aload_n C 0 dX2_findUpTo_39 rfl rfl ?_
            refine xr_get C hinX2 (N := 11) (ci := 2) (a := (ad 9)) 0 rfl rfl 10 (by decide) m1 rfl rfl dX2_findUpTo_40 ?_
            refine xr_iconst C dX2_findUpTo_43 ?_
            refine xr_iadd C dX2_findUpTo_44 ?_
            exact B45 K0 hK0 x1 ((σ18 9 10) + 1) σ18 hw
          · have hw := hw.2 c20
            refine xr_iconst C dX2_findUpTo_35 ?_
            refine xr_goto C 45 dX2_findUpTo_36 (by decide) ?_
            exact B45 K0 hK0 x1 0 σ18 hw
  show xX p l e rmX2_findUpTo s m args below meth c D vwCl (va_A ((wP ad cI cJ cZ) σ) s.heap.size) (wP ad cI cJ cZ) [9, 10, 11, 12, 13, 14] σ 0 0 (MQ below (xQi D (wP ad cI cJ cZ) [9, 10, 11, 12, 13, 14] σ s.heap.size Q) args s 0 0 (va_A ((wP ad cI cJ cZ) σ) s.heap.size)) 2 σ 0 [(0, .ref (ad 9)), (1, .int (i32 a1))] []
  unfold vX2_findUpTo at hw
  exact L0 (a1, σ) hw
abbrev rmX2_isIn : Room := { frames := 0, cells := 0, slots := 0, locals := 64 }
set_option maxHeartbeats 8000000 in
set_option maxRecDepth 100000 in
theorem mX2_isIn {l : Launch} {D : va_G} {cI cJ cZ : ClassId} (σ : xS) (a0 a2 : Int) (Q : Int → xS → Prop) (hw : vX2_isIn a0 a2 σ Q) : xMi False l yX2_isIn wsX2_isIn rmX2_isIn D (xtys cI cJ cZ) wN [] σ [.long (i64 a0), .int (i32 a2)] Q := by
  refine xenter (F := []) (Qc := fun sz => xQi D wN [] σ sz Q) (own := RX2) (cc := cX2_isIn) (maxL := 3) (ret := some .boolean) (by decide) rfl rfl (Nat.le_of_ble_eq_true rfl) ?_
  intro p e s m args below meth c hargs C hr hnm
  show xX p l e rmX2_isIn s m args below meth c D vwCl (va_A (wN σ) s.heap.size) wN [] σ 0 0 (MQ below (xQi D wN [] σ s.heap.size Q) args s 0 0 (va_A (wN σ) s.heap.size)) 3 σ 0 [(0, .long (i64 a0)), (2, .int (i32 a2))] []
  unfold vX2_isIn at hw
  refine xr_lload_n C 0 dX2_isIn_0 rfl rfl ?_
  refine xr_iload_n C 1 dX2_isIn_1 rfl rfl ?_
  refine xr_lshr C dX2_isIn_2 ?_
  refine xr_lconst C 1 dX2_isIn_3 (by decide +kernel) ?_
  refine xr_land C dX2_isIn_4 ?_
  refine xr_lconst C 1 dX2_isIn_5 (by decide +kernel) ?_
  refine xr_lcmp C dX2_isIn_6 ?_
  obtain ⟨g1, hw⟩ := hw
  refine xr_if_ne C g1 14 dX2_isIn_7 (by decide) (fun c2 => ?_) (fun c2 => ?_)
  · have hw := hw.1 c2
    refine xr_iconst C dX2_isIn_14 ?_
    exact xr_zret C hr (Or.inl rfl) hw dX2_isIn_15
  · have hw := hw.2 c2
    refine xr_iconst C dX2_isIn_10 ?_
    refine xr_goto C 15 dX2_isIn_11 (by decide) ?_
    exact xr_zret C hr (Or.inr rfl) hw dX2_isIn_15
abbrev rmX2_leastCost : Room := { frames := 4, cells := 0, slots := 0, locals := 157 }
set_option maxHeartbeats 8000000 in
set_option maxRecDepth 100000 in
theorem mX2_leastCost {l : Launch} {D : va_G} {ad : Nat → Nat} {cI cJ cZ : ClassId} (σ : xS) (a1 : Int) (Q : Int → xS → Prop) (hw : vX2_leastCost a1 σ Q) : xMi True l yX2_leastCost wsX2_leastCost rmX2_leastCost D (xtys cI cJ cZ) (wP ad cI cJ cZ) [9, 10, 11, 12, 13, 14] σ [.ref (ad 9), .int (i32 a1)] Q := by
  refine xenter (F := [9, 10, 11, 12, 13, 14]) (Qc := fun sz => xQi D (wP ad cI cJ cZ) [9, 10, 11, 12, 13, 14] σ sz Q) (own := RX2) (cc := cX2_leastCost) (maxL := 3) (ret := some .int) (by decide) rfl rfl (Nat.le_of_ble_eq_true rfl) ?_
  intro p e s m args below meth c hargs C hr hnm
  have L2 : ∀ a, mu (vX2_leastCost_2  Q) a → xX p l e rmX2_leastCost s m args below meth c D vwCl (va_A ((wP ad cI cJ cZ) σ) s.heap.size) (wP ad cI cJ cZ) [9, 10, 11, 12, 13, 14] σ 0 0 (MQ below (xQi D (wP ad cI cJ cZ) [9, 10, 11, 12, 13, 14] σ s.heap.size Q) args s 0 0 (va_A ((wP ad cI cJ cZ) σ) s.heap.size)) 3 (a.2.2) 2 [(0, .ref (ad 9)), (1, .int (i32 (a.1))), (2, .int (i32 (a.2.1)))] [] := by
    refine mu_ind (fun K2 hK2 a hw => ?_)
    obtain ⟨x1, x2, σ0⟩ := a
    show xX p l e rmX2_leastCost s m args below meth c D vwCl (va_A ((wP ad cI cJ cZ) σ) s.heap.size) (wP ad cI cJ cZ) [9, 10, 11, 12, 13, 14] σ 0 0 (MQ below (xQi D (wP ad cI cJ cZ) [9, 10, 11, 12, 13, 14] σ s.heap.size Q) args s 0 0 (va_A ((wP ad cI cJ cZ) σ) s.heap.size)) 3 σ0 2 [(0, .ref (ad 9)), (1, .int (i32 x1)), (2, .int (i32 x2))] []
    unfold vX2_leastCost_2 at hw
    refine xr_iload_n C 2 dX2_leastCost_2 rfl rfl ?_
    refine xr_bipush C dX2_leastCost_3 (by decide +kernel) ?_
    obtain ⟨g1, hw⟩ := hw
    refine xr_icmp_gt C g1 ⟨by decide, by decide⟩ 39 dX2_leastCost_5 (by decide) (fun c2 => ?_) (fun c2 => ?_)
    · have hw := hw.1 c2
      refine xr_iconst C dX2_leastCost_39 ?_
      exact xr_iret C hr hw dX2_leastCost_40
    · have hw := hw.2 c2
      refine xr_aload_n C 0 dX2_leastCost_8 rfl rfl ?_
      refine xr_iload_n C 2 dX2_leastCost_9 rfl rfl ?_
      refine xr_callVi C (ci := 2) (q0 := 0) (As := [.int (i32 x2)]) (rest := []) (xSp_rf _ _) (by decide) (fun _ => trivial) (mX2_findUpTo σ0 x2 _ hw) (cwV 1 C.2.2.2.2.1 gX2_leastCost_X2_findUpTo rfl rfl rfl (by decide +kernel) ⟨by decide, by decide⟩) rfl rfl rfl rfl (Nat.le_of_ble_eq_true rfl) ⟨by decide, by decide⟩ dX2_leastCost_10 (fun r3 σ4 hw => ?_)
      obtain ⟨g5, hw⟩ := hw
      refine xr_if_eq C g5 39 dX2_leastCost_13 (by decide) (fun c6 => ?_) (fun c6 => ?_)
      · have hw := hw.1 c6
        refine xr_iconst C dX2_leastCost_39 ?_
        exact xr_iret C hr hw dX2_leastCost_40
      · have hw := hw.2 c6
        refine xr_aload_n C 0 dX2_leastCost_16 rfl rfl ?_
        refine xr_sipush C dX2_leastCost_17 (by decide +kernel) ?_
        refine xr_iload_n C 2 dX2_leastCost_20 rfl rfl ?_
        refine xr_callVl C (ci := 2) (q0 := 0) (As := [.int (i32 469), .int (i32 x2)]) (rest := []) (xSp_rf _ _) (by decide) (fun _ => trivial) (mX2_spansFrom σ4 469 x2 _ hw) (cwV 2 C.2.2.2.2.1 gX2_leastCost_X2_spansFrom rfl rfl rfl (by decide +kernel) ⟨by decide, by decide⟩) rfl rfl rfl rfl (Nat.le_of_ble_eq_true rfl) ⟨by decide, by decide⟩ dX2_leastCost_21 (fun r7 σ8 hw => ?_)
        refine xr_iload_n C 1 dX2_leastCost_24 rfl rfl ?_
        refine xr_callSi C (As := [.long (i64 r7), .int (i32 x1)]) (rest := []) (xSp_nil _) (by decide) (fun _ => trivial) (mX2_isIn σ8 r7 x1 _ hw) (va_cwS 2 C.2.2.2.2.1 gX2_leastCost_X2_isIn rfl rfl rfl (by decide +kernel) ⟨by decide, by decide⟩) rfl rfl (Nat.le_of_ble_eq_true rfl) ⟨by decide, by decide⟩ dX2_leastCost_25 (fun r9 σ10 hw => ?_)
        obtain ⟨g11, hw⟩ := hw
        refine xr_if_eq C g11 33 dX2_leastCost_28 (by decide) (fun c12 => ?_) (fun c12 => ?_)
        · have hw := hw.1 c12
          refine xr_iinc C 2 [(0, .ref (ad 9)), (1, .int (i32 x1)), (2, .int (i32 (x2 + 1)))] dX2_leastCost_33 rfl (by decide) rfl ?_
          refine xr_goto C 2 dX2_leastCost_36 (by decide) ?_
          exact hK2 (x1, (x2 + 1), σ10) hw
        · have hw := hw.2 c12
          refine xr_iload_n C 2 dX2_leastCost_31 rfl rfl ?_
          exact xr_iret C hr hw dX2_leastCost_32
  show xX p l e rmX2_leastCost s m args below meth c D vwCl (va_A ((wP ad cI cJ cZ) σ) s.heap.size) (wP ad cI cJ cZ) [9, 10, 11, 12, 13, 14] σ 0 0 (MQ below (xQi D (wP ad cI cJ cZ) [9, 10, 11, 12, 13, 14] σ s.heap.size Q) args s 0 0 (va_A ((wP ad cI cJ cZ) σ) s.heap.size)) 3 σ 0 [(0, .ref (ad 9)), (1, .int (i32 a1))] []
  unfold vX2_leastCost at hw
  refine xr_iconst C dX2_leastCost_0 ?_
  refine xr_istore_n C [(0, .ref (ad 9)), (1, .int (i32 a1)), (2, .int (i32 0))] dX2_leastCost_1 rfl (by decide) rfl ?_
  exact L2 (a1, 0, σ) hw
abbrev rmX2_spansWithin : Room := { frames := 4, cells := 0, slots := 0, locals := 157 }
set_option maxHeartbeats 8000000 in
set_option maxRecDepth 100000 in
theorem mX2_spansWithin {l : Launch} {D : va_G} {ad : Nat → Nat} {cI cJ cZ : ClassId} (σ : xS) (a1 : Int) (Q : Int → xS → Prop) (hw : vX2_spansWithin a1 σ Q) : xMl True l yX2_spansWithin wsX2_spansWithin rmX2_spansWithin D (xtys cI cJ cZ) (wP ad cI cJ cZ) [9, 10, 11, 12, 13, 14] σ [.ref (ad 9), .int (i32 a1)] Q := by
  refine xenter (F := [9, 10, 11, 12, 13, 14]) (Qc := fun sz => xQl D (wP ad cI cJ cZ) [9, 10, 11, 12, 13, 14] σ sz Q) (own := RX2) (cc := cX2_spansWithin) (maxL := 2) (ret := some .long) (by decide) rfl rfl (Nat.le_of_ble_eq_true rfl) ?_
  intro p e s m args below meth c hargs C hr hnm
  have hinX2 : ∀ w ∈ u_ws RX2 TX2 11, w ∈ wsX2_spansWithin := fun _ h => List.mem_cons_of_mem _ (List.mem_append_right _ h)
  have m0 : (Cond.fieldLink RX2 55 "SandBench$Planner" "costs" "I") ∈ wsX2_spansWithin := by decide +kernel
  have B22 : ∀ (y1 y2 : Int) (σ0 : xS), vX2_spansWithin_22  Q y1 y2 σ0 → xX p l e rmX2_spansWithin s m args below meth c D vwCl (va_A ((wP ad cI cJ cZ) σ) s.heap.size) (wP ad cI cJ cZ) [9, 10, 11, 12, 13, 14] σ 0 0 (MQ below (xQl D (wP ad cI cJ cZ) [9, 10, 11, 12, 13, 14] σ s.heap.size Q) args s 0 0 (va_A ((wP ad cI cJ cZ) σ) s.heap.size)) 2 σ0 22 [(0, .ref (ad 9))] [.int (i32 y2), .int (i32 y1), .ref (ad 9)] := by
    intro y1 y2 σ0 hw
    unfold vX2_spansWithin_22 at hw
    refine xr_callVl C (ci := 2) (q0 := 0) (As := [.int (i32 y1), .int (i32 y2)]) (rest := []) (xSp_rf _ _) (by decide) (fun _ => trivial) (mX2_spansFrom σ0 y1 y2 _ hw) (cwV 2 C.2.2.2.2.1 gX2_spansWithin_X2_spansFrom rfl rfl rfl (by decide +kernel) ⟨by decide, by decide⟩) rfl rfl rfl rfl (Nat.le_of_ble_eq_true rfl) ⟨by decide, by decide⟩ dX2_spansWithin_22 (fun r1 σ2 hw => ?_)
    exact xr_lret C hr hw dX2_spansWithin_25
  show xX p l e rmX2_spansWithin s m args below meth c D vwCl (va_A ((wP ad cI cJ cZ) σ) s.heap.size) (wP ad cI cJ cZ) [9, 10, 11, 12, 13, 14] σ 0 0 (MQ below (xQl D (wP ad cI cJ cZ) [9, 10, 11, 12, 13, 14] σ s.heap.size Q) args s 0 0 (va_A ((wP ad cI cJ cZ) σ) s.heap.size)) 2 σ 0 [(0, .ref (ad 9)), (1, .int (i32 a1))] []
  unfold vX2_spansWithin at hw
  refine xr_aload_n C 0 dX2_spansWithin_0 rfl rfl ?_
  refine xr_sipush C dX2_spansWithin_1 (by decide +kernel) ?_
  refine xr_aload_n C 0 dX2_spansWithin_4 rfl rfl ?_
  refine xr_iload_n C 1 dX2_spansWithin_5 rfl rfl ?_
  refine xr_callVi C (ci := 2) (q0 := 0) (As := [.int (i32 a1)]) (rest := [.int (i32 469), .ref (ad 9)]) (xSp_rf _ _) (by decide) (fun _ => trivial) (mX2_findUpTo σ a1 _ hw) (cwV 1 C.2.2.2.2.1 gX2_spansWithin_X2_findUpTo rfl rfl rfl (by decide +kernel) ⟨by decide, by decide⟩) rfl rfl rfl rfl (Nat.le_of_ble_eq_true rfl) ⟨by decide, by decide⟩ dX2_spansWithin_6 (fun r3 σ4 hw => ?_)
  obtain ⟨g5, hw⟩ := hw
  refine xr_if_eq C g5 16 dX2_spansWithin_9 (by decide) (fun c6 => ?_) (fun c6 => ?_)
  · have hw := hw.1 c6
    refine xr_aload_n C 0 dX2_spansWithin_16 rfl rfl ?_
    refine xr_get C hinX2 (N := 11) (ci := 2) (a := (ad 9)) 0 rfl rfl 9 (by decide) m0 rfl rfl dX2_spansWithin_17 ?_
    refine xr_iconst C dX2_spansWithin_20 ?_
    refine xr_isub C dX2_spansWithin_21 ?_
    refine xr_sub C [0] [(0, .ref (ad 9))] rfl ?_
    exact B22 469 ((σ4 9 9) - 1) σ4 hw
  · have hw := hw.2 c6
    refine xr_iload_n C 1 dX2_spansWithin_12 rfl rfl ?_
    refine xr_goto C 22 dX2_spansWithin_13 (by decide) ?_
    refine xr_sub C [0] [(0, .ref (ad 9))] rfl ?_
    exact B22 469 a1 σ4 hw
abbrev rmX2_leastSet : Room := { frames := 1, cells := 0, slots := 0, locals := 86 }
set_option maxHeartbeats 8000000 in
set_option maxRecDepth 100000 in
theorem mX2_leastSet {l : Launch} {D : va_G} {ad : Nat → Nat} {cI cJ cZ : ClassId} (σ : xS) (a1 a2 a3 : Int) (Q : Int → xS → Prop) (hw : vX2_leastSet a1 a2 a3 σ Q) : xMi True l yX2_leastSet wsX2_leastSet rmX2_leastSet D (xtys cI cJ cZ) (wP ad cI cJ cZ) [9, 10, 11, 12, 13, 14] σ [.ref (ad 9), .int (i32 a1), .int (i32 a2), .int (i32 a3)] Q := by
  refine xenter (F := [9, 10, 11, 12, 13, 14]) (Qc := fun sz => xQi D (wP ad cI cJ cZ) [9, 10, 11, 12, 13, 14] σ sz Q) (own := RX2) (cc := cX2_leastSet) (maxL := 5) (ret := some .int) (by decide) rfl rfl (Nat.le_of_ble_eq_true rfl) ?_
  intro p e s m args below meth c hargs C hr hnm
  have hinX2 : ∀ w ∈ u_ws RX2 TX2 11, w ∈ wsX2_leastSet := fun _ h => List.mem_cons_of_mem _ (List.mem_append_right _ h)
  have m0 : (Cond.fieldLink RX2 27 "SandBench$Planner" "ways" "[I") ∈ wsX2_leastSet := by decide +kernel
  have m1 : (Cond.fieldLink RX2 84 "SandBench$Planner" "STACKS_IN" "[I") ∈ wsX2_leastSet := by decide +kernel
  have L3 : ∀ a, mu (vX2_leastSet_3  Q) a → xX p l e rmX2_leastSet s m args below meth c D vwCl (va_A ((wP ad cI cJ cZ) σ) s.heap.size) (wP ad cI cJ cZ) [9, 10, 11, 12, 13, 14] σ 0 0 (MQ below (xQi D (wP ad cI cJ cZ) [9, 10, 11, 12, 13, 14] σ s.heap.size Q) args s 0 0 (va_A ((wP ad cI cJ cZ) σ) s.heap.size)) 5 (a.2.2.2.2) 3 [(0, .ref (ad 9)), (1, .int (i32 (a.1))), (2, .int (i32 (a.2.1))), (3, .int (i32 (a.2.2.1))), (4, .int (i32 (a.2.2.2.1)))] [] := by
    refine mu_ind (fun K3 hK3 a hw => ?_)
    obtain ⟨x1, x2, x3, x4, σ0⟩ := a
    show xX p l e rmX2_leastSet s m args below meth c D vwCl (va_A ((wP ad cI cJ cZ) σ) s.heap.size) (wP ad cI cJ cZ) [9, 10, 11, 12, 13, 14] σ 0 0 (MQ below (xQi D (wP ad cI cJ cZ) [9, 10, 11, 12, 13, 14] σ s.heap.size Q) args s 0 0 (va_A ((wP ad cI cJ cZ) σ) s.heap.size)) 5 σ0 3 [(0, .ref (ad 9)), (1, .int (i32 x1)), (2, .int (i32 x2)), (3, .int (i32 x3)), (4, .int (i32 x4))] []
    unfold vX2_leastSet_3 at hw
    refine xr_iload C 4 dX2_leastSet_3 rfl ?_
    refine xr_bipush C dX2_leastSet_5 (by decide +kernel) ?_
    obtain ⟨g1, hw⟩ := hw
    refine xr_icmp_ge C g1 ⟨by decide, by decide⟩ 50 dX2_leastSet_7 (by decide) (fun c2 => ?_) (fun c2 => ?_)
    · have hw := hw.1 c2
      refine xr_iconst C dX2_leastSet_50 ?_
      exact xr_iret C hr hw dX2_leastSet_51
    · have hw := hw.2 c2
      refine xr_aload_n C 0 dX2_leastSet_10 rfl rfl ?_
      refine xr_aload_n C 0 dX2_leastSet_11 rfl rfl ?_
      refine xr_get C hinX2 (N := 11) (ci := 2) (a := (ad 9)) 0 rfl rfl 7 (by decide) m0 rfl rfl dX2_leastSet_12 ?_
      refine xr_iload_n C 1 dX2_leastSet_15 rfl rfl ?_
      refine xr_bipush C dX2_leastSet_16 (by decide +kernel) ?_
      refine xr_imul C dX2_leastSet_18 ?_
      refine xr_iload C 4 dX2_leastSet_19 rfl ?_
      refine xr_iadd C dX2_leastSet_21 ?_
      obtain ⟨g3, hw⟩ := hw
      refine xr_iald C (t0 := 0) 4 rfl rfl (by decide) (N := 3760) rfl g3 dX2_leastSet_22 ?_
      refine xr_iload_n C 3 dX2_leastSet_23 rfl rfl ?_
      refine xr_getst C trivial m1 dX2_leastSet_24 (fun tb4 ht5 => ?_)
      refine xr_iload C 4 dX2_leastSet_27 rfl ?_
      obtain ⟨g6, hw⟩ := hw
      refine xr_ti C ht5 (by decide) (N1 := 8) rfl g6 dX2_leastSet_29 ?_
      refine xr_isub C dX2_leastSet_30 ?_
      refine xr_callVl C (ci := 2) (q0 := 0) (As := [.int (i32 (σ0 13 (((x1 * 8) + x4).toNat))), .int (i32 (x3 - (stk (x4.toNat))))]) (rest := []) (xSp_rf _ _) (by decide) (fun _ => trivial) (mX2_spansBy σ0 (σ0 13 (((x1 * 8) + x4).toNat)) (x3 - (stk (x4.toNat))) _ hw) (cwV 2 C.2.2.2.2.1 gX2_leastSet_X2_spansBy rfl rfl rfl (by decide +kernel) ⟨by decide, by decide⟩) rfl rfl rfl rfl (Nat.le_of_ble_eq_true rfl) ⟨by decide, by decide⟩ dX2_leastSet_31 (fun r7 σ8 hw => ?_)
      refine xr_iload_n C 2 dX2_leastSet_34 rfl rfl ?_
      refine xr_callSi C (As := [.long (i64 r7), .int (i32 x2)]) (rest := []) (xSp_nil _) (by decide) (fun _ => trivial) (mX2_isIn σ8 r7 x2 _ hw) (va_cwS 2 C.2.2.2.2.1 gX2_leastSet_X2_isIn rfl rfl rfl (by decide +kernel) ⟨by decide, by decide⟩) rfl rfl (Nat.le_of_ble_eq_true rfl) ⟨by decide, by decide⟩ dX2_leastSet_35 (fun r9 σ10 hw => ?_)
      obtain ⟨g11, hw⟩ := hw
      refine xr_if_eq C g11 44 dX2_leastSet_38 (by decide) (fun c12 => ?_) (fun c12 => ?_)
      · have hw := hw.1 c12
        refine xr_iinc C 4 [(0, .ref (ad 9)), (1, .int (i32 x1)), (2, .int (i32 x2)), (3, .int (i32 x3)), (4, .int (i32 (x4 + 1)))] dX2_leastSet_44 rfl (by decide) rfl ?_
        refine xr_goto C 3 dX2_leastSet_47 (by decide) ?_
        exact hK3 (x1, x2, x3, (x4 + 1), σ10) hw
      · have hw := hw.2 c12
        refine xr_iload C 4 dX2_leastSet_41 rfl ?_
        exact xr_iret C hr hw dX2_leastSet_43
  show xX p l e rmX2_leastSet s m args below meth c D vwCl (va_A ((wP ad cI cJ cZ) σ) s.heap.size) (wP ad cI cJ cZ) [9, 10, 11, 12, 13, 14] σ 0 0 (MQ below (xQi D (wP ad cI cJ cZ) [9, 10, 11, 12, 13, 14] σ s.heap.size Q) args s 0 0 (va_A ((wP ad cI cJ cZ) σ) s.heap.size)) 5 σ 0 [(0, .ref (ad 9)), (1, .int (i32 a1)), (2, .int (i32 a2)), (3, .int (i32 a3))] []
  unfold vX2_leastSet at hw
  refine xr_iconst C dX2_leastSet_0 ?_
  refine xr_istore C [(0, .ref (ad 9)), (1, .int (i32 a1)), (2, .int (i32 a2)), (3, .int (i32 a3)), (4, .int (i32 0))] dX2_leastSet_1 (by decide) rfl ?_
  exact L3 (a1, a2, a3, 0, σ) hw
abbrev rmX2_stepOf : Room := { frames := 5, cells := 0, slots := 0, locals := 179 }
set_option maxHeartbeats 8000000 in
set_option maxRecDepth 100000 in
theorem mX2_stepOf {l : Launch} {D : va_G} {ad : Nat → Nat} {cI cJ cZ : ClassId} (σ : xS) (a1 a2 a3 : Int) (Q : Int → xS → Prop) (hw : vX2_stepOf a1 a2 a3 σ Q) : xMi True l yX2_stepOf wsX2_stepOf rmX2_stepOf D (xtys cI cJ cZ) (wP ad cI cJ cZ) [9, 10, 11, 12, 13, 14] σ [.ref (ad 9), .int (i32 a1), .int (i32 a2), .int (i32 a3)] Q := by
  refine xenter (F := [9, 10, 11, 12, 13, 14]) (Qc := fun sz => xQi D (wP ad cI cJ cZ) [9, 10, 11, 12, 13, 14] σ sz Q) (own := RX2) (cc := cX2_stepOf) (maxL := 10) (ret := some .int) (by decide) rfl rfl (Nat.le_of_ble_eq_true rfl) ?_
  intro p e s m args below meth c hargs C hr hnm
  have hinX2 : ∀ w ∈ u_ws RX2 TX2 11, w ∈ wsX2_stepOf := fun _ h => List.mem_cons_of_mem _ (List.mem_append_right _ h)
  have m0 : (Cond.fieldLink RX2 27 "SandBench$Planner" "ways" "[I") ∈ wsX2_stepOf := by decide +kernel
  have m1 : (Cond.fieldLink RX2 84 "SandBench$Planner" "STACKS_IN" "[I") ∈ wsX2_stepOf := by decide +kernel
  have L18 : ∀ a, mu (vX2_stepOf_18  Q) a → xX p l e rmX2_stepOf s m args below meth c D vwCl (va_A ((wP ad cI cJ cZ) σ) s.heap.size) (wP ad cI cJ cZ) [9, 10, 11, 12, 13, 14] σ 0 0 (MQ below (xQi D (wP ad cI cJ cZ) [9, 10, 11, 12, 13, 14] σ s.heap.size Q) args s 0 0 (va_A ((wP ad cI cJ cZ) σ) s.heap.size)) 10 (a.2.2.2.2.2.2.2) 18 [(0, .ref (ad 9)), (1, .int (i32 (a.1))), (2, .int (i32 (a.2.1))), (3, .int (i32 (a.2.2.1))), (4, .int (i32 (a.2.2.2.1))), (5, .int (i32 (a.2.2.2.2.1))), (6, .int (i32 (a.2.2.2.2.2.1))), (7, .int (i32 (a.2.2.2.2.2.2.1)))] [] := by
    refine mu_ind (fun K18 hK18 a hw => ?_)
    obtain ⟨x1, x2, x3, x4, x5, x6, x7, σ0⟩ := a
    show xX p l e rmX2_stepOf s m args below meth c D vwCl (va_A ((wP ad cI cJ cZ) σ) s.heap.size) (wP ad cI cJ cZ) [9, 10, 11, 12, 13, 14] σ 0 0 (MQ below (xQi D (wP ad cI cJ cZ) [9, 10, 11, 12, 13, 14] σ s.heap.size Q) args s 0 0 (va_A ((wP ad cI cJ cZ) σ) s.heap.size)) 10 σ0 18 [(0, .ref (ad 9)), (1, .int (i32 x1)), (2, .int (i32 x2)), (3, .int (i32 x3)), (4, .int (i32 x4)), (5, .int (i32 x5)), (6, .int (i32 x6)), (7, .int (i32 x7))] []
    unfold vX2_stepOf_18 at hw
    refine xr_iload C 7 dX2_stepOf_18 rfl ?_
    refine xr_iload_n C 1 dX2_stepOf_20 rfl rfl ?_
    obtain ⟨g1, hw⟩ := hw
    obtain ⟨g2, hw⟩ := hw
    refine xr_icmp_ge C g1 g2 122 dX2_stepOf_21 (by decide) (fun c3 => ?_) (fun c3 => ?_)
    · have hw := hw.1 c3
      refine xr_iconst C dX2_stepOf_122 ?_
      exact xr_iret C hr hw dX2_stepOf_123
    · have hw := hw.2 c3
      refine xr_iload C 5 dX2_stepOf_24 rfl ?_
      obtain ⟨g4, hw⟩ := hw
      refine xr_if_le C g4 122 dX2_stepOf_26 (by decide) (fun c5 => ?_) (fun c5 => ?_)
      · have hw := hw.1 c5
        refine xr_iconst C dX2_stepOf_122 ?_
        exact xr_iret C hr hw dX2_stepOf_123
      · have hw := hw.2 c5
        refine xr_iload C 6 dX2_stepOf_29 rfl ?_
        obtain ⟨g6, hw⟩ := hw
        refine xr_if_lt C g6 122 dX2_stepOf_31 (by decide) (fun c7 => ?_) (fun c7 => ?_)
        · have hw := hw.1 c7
          refine xr_iconst C dX2_stepOf_122 ?_
          exact xr_iret C hr hw dX2_stepOf_123
        · have hw := hw.2 c7
          refine xr_aload_n C 0 dX2_stepOf_34 rfl rfl ?_
          refine xr_iload C 4 dX2_stepOf_35 rfl ?_
          refine xr_iload C 5 dX2_stepOf_37 rfl ?_
          refine xr_iload C 6 dX2_stepOf_39 rfl ?_
          refine xr_callVi C (ci := 2) (q0 := 0) (As := [.int (i32 x4), .int (i32 x5), .int (i32 x6)]) (rest := []) (xSp_rf _ _) (by decide) (fun _ => trivial) (mX2_leastSet σ0 x4 x5 x6 _ hw) (cwV 3 C.2.2.2.2.1 gX2_stepOf_X2_leastSet rfl rfl rfl (by decide +kernel) ⟨by decide, by decide⟩) rfl rfl rfl rfl (Nat.le_of_ble_eq_true rfl) ⟨by decide, by decide⟩ dX2_stepOf_41 (fun r8 σ9 hw => ?_)
          refine xr_istore C [(0, .ref (ad 9)), (1, .int (i32 x1)), (2, .int (i32 x2)), (3, .int (i32 x3)), (4, .int (i32 x4)), (5, .int (i32 x5)), (6, .int (i32 x6)), (7, .int (i32 x7)), (8, .int (i32 r8))] dX2_stepOf_44 (by decide) rfl ?_
          refine xr_iload C 8 dX2_stepOf_46 rfl ?_
          refine xr_iconst C dX2_stepOf_48 ?_
          obtain ⟨g10, hw⟩ := hw
          refine xr_icmp_ne C g10 ⟨by decide, by decide⟩ 54 dX2_stepOf_49 (by decide) (fun c11 => ?_) (fun c11 => ?_)
          · have hw := hw.1 c11
            refine xr_iload C 7 dX2_stepOf_54 rfl ?_
            refine xr_iload_n C 2 dX2_stepOf_56 rfl rfl ?_
            obtain ⟨g12, hw⟩ := hw
            refine xr_icmp_ne C g1 g12 74 dX2_stepOf_57 (by decide) (fun c13 => ?_) (fun c13 => ?_)
            · have hw := hw.1 c13
              refine xr_aload_n C 0 dX2_stepOf_74 rfl rfl ?_
              refine xr_get C hinX2 (N := 11) (ci := 2) (a := (ad 9)) 0 rfl rfl 7 (by decide) m0 rfl rfl dX2_stepOf_75 ?_
              refine xr_iload C 4 dX2_stepOf_78 rfl ?_
              refine xr_bipush C dX2_stepOf_80 (by decide +kernel) ?_
              refine xr_imul C dX2_stepOf_82 ?_
              refine xr_iload C 8 dX2_stepOf_83 rfl ?_
              refine xr_iadd C dX2_stepOf_85 ?_
              obtain ⟨g14, hw⟩ := hw
              refine xr_iald C (t0 := 0) 4 rfl rfl (by decide) (N := 3760) rfl g14 dX2_stepOf_86 ?_
              refine xr_topi (fun t15 e16 => ?_)
              have hw := hw t15 e16
              refine xr_istore C [(0, .ref (ad 9)), (1, .int (i32 x1)), (2, .int (i32 x2)), (3, .int (i32 x3)), (4, .int (i32 x4)), (5, .int (i32 x5)), (6, .int (i32 x6)), (7, .int (i32 x7)), (8, .int (i32 r8)), (9, .int (i32 t15))] dX2_stepOf_87 (by decide) rfl ?_
              refine xr_iload C 9 dX2_stepOf_89 rfl ?_
              refine xr_iconst C dX2_stepOf_91 ?_
              refine xr_ishr C dX2_stepOf_92 ?_
              refine xr_istore C [(0, .ref (ad 9)), (1, .int (i32 x1)), (2, .int (i32 x2)), (3, .int (i32 x3)), (4, .int (i32 (jshr t15 4))), (5, .int (i32 x5)), (6, .int (i32 x6)), (7, .int (i32 x7)), (8, .int (i32 r8)), (9, .int (i32 t15))] dX2_stepOf_93 (by decide) rfl ?_
              refine xr_iload C 5 dX2_stepOf_95 rfl ?_
              refine xr_iload C 9 dX2_stepOf_97 rfl ?_
              refine xr_bipush C dX2_stepOf_99 (by decide +kernel) ?_
              refine xr_iand C dX2_stepOf_101 ?_
              refine xr_isub C dX2_stepOf_102 ?_
              refine xr_istore C [(0, .ref (ad 9)), (1, .int (i32 x1)), (2, .int (i32 x2)), (3, .int (i32 x3)), (4, .int (i32 (jshr t15 4))), (5, .int (i32 (x5 - (jand t15 15)))), (6, .int (i32 x6)), (7, .int (i32 x7)), (8, .int (i32 r8)), (9, .int (i32 t15))] dX2_stepOf_103 (by decide) rfl ?_
              refine xr_iload C 6 dX2_stepOf_105 rfl ?_
              refine xr_getst C trivial m1 dX2_stepOf_107 (fun tb17 ht18 => ?_)
              refine xr_iload C 8 dX2_stepOf_110 rfl ?_
              obtain ⟨g19, hw⟩ := hw
              refine xr_ti C ht18 (by decide) (N1 := 8) rfl g19 dX2_stepOf_112 ?_
              refine xr_isub C dX2_stepOf_113 ?_
              refine xr_istore C [(0, .ref (ad 9)), (1, .int (i32 x1)), (2, .int (i32 x2)), (3, .int (i32 x3)), (4, .int (i32 (jshr t15 4))), (5, .int (i32 (x5 - (jand t15 15)))), (6, .int (i32 (x6 - (stk (r8.toNat))))), (7, .int (i32 x7)), (8, .int (i32 r8)), (9, .int (i32 t15))] dX2_stepOf_114 (by decide) rfl ?_
              refine xr_iinc C 7 [(0, .ref (ad 9)), (1, .int (i32 x1)), (2, .int (i32 x2)), (3, .int (i32 x3)), (4, .int (i32 (jshr t15 4))), (5, .int (i32 (x5 - (jand t15 15)))), (6, .int (i32 (x6 - (stk (r8.toNat))))), (7, .int (i32 (x7 + 1))), (8, .int (i32 r8)), (9, .int (i32 t15))] dX2_stepOf_116 rfl (by decide) rfl ?_
              refine xr_goto C 18 dX2_stepOf_119 (by decide) ?_
              refine xr_sub C [0, 1, 2, 3, 4, 5, 6, 7] [(0, .ref (ad 9)), (1, .int (i32 x1)), (2, .int (i32 x2)), (3, .int (i32 x3)), (4, .int (i32 (jshr t15 4))), (5, .int (i32 (x5 - (jand t15 15)))), (6, .int (i32 (x6 - (stk (r8.toNat))))), (7, .int (i32 (x7 + 1)))] rfl ?_
              exact hK18 (x1, x2, x3, (jshr t15 4), (x5 - (jand t15 15)), (x6 - (stk (r8.toNat))), (x7 + 1), σ9) hw
            · have hw := hw.2 c13
              refine xr_iload_n C 3 dX2_stepOf_60 rfl rfl ?_
              obtain ⟨g20, hw⟩ := hw
              refine xr_if_eq C g20 69 dX2_stepOf_61 (by decide) (fun c21 => ?_) (fun c21 => ?_)
              · have hw := hw.1 c21
                refine xr_iload_n C 1 dX2_stepOf_69 rfl rfl ?_
                refine xr_iload C 5 dX2_stepOf_70 rfl ?_
                refine xr_isub C dX2_stepOf_72 ?_
                exact xr_iret C hr hw dX2_stepOf_73
              · have hw := hw.2 c21
                refine xr_iload C 8 dX2_stepOf_64 rfl ?_
                refine xr_goto C 73 dX2_stepOf_66 (by decide) ?_
                exact xr_iret C hr hw dX2_stepOf_73
          · have hw := hw.2 c11
            refine xr_iconst C dX2_stepOf_52 ?_
            exact xr_iret C hr hw dX2_stepOf_53
  show xX p l e rmX2_stepOf s m args below meth c D vwCl (va_A ((wP ad cI cJ cZ) σ) s.heap.size) (wP ad cI cJ cZ) [9, 10, 11, 12, 13, 14] σ 0 0 (MQ below (xQi D (wP ad cI cJ cZ) [9, 10, 11, 12, 13, 14] σ s.heap.size Q) args s 0 0 (va_A ((wP ad cI cJ cZ) σ) s.heap.size)) 10 σ 0 [(0, .ref (ad 9)), (1, .int (i32 a1)), (2, .int (i32 a2)), (3, .int (i32 a3))] []
  unfold vX2_stepOf at hw
  refine xr_sipush C dX2_stepOf_0 (by decide +kernel) ?_
  refine xr_istore C [(0, .ref (ad 9)), (1, .int (i32 a1)), (2, .int (i32 a2)), (3, .int (i32 a3)), (4, .int (i32 469))] dX2_stepOf_3 (by decide) rfl ?_
  refine xr_iload_n C 1 dX2_stepOf_5 rfl rfl ?_
  refine xr_istore C [(0, .ref (ad 9)), (1, .int (i32 a1)), (2, .int (i32 a2)), (3, .int (i32 a3)), (4, .int (i32 469)), (5, .int (i32 a1))] dX2_stepOf_6 (by decide) rfl ?_
  refine xr_aload_n C 0 dX2_stepOf_8 rfl rfl ?_
  refine xr_iload_n C 1 dX2_stepOf_9 rfl rfl ?_
  refine xr_callVi C (ci := 2) (q0 := 0) (As := [.int (i32 a1)]) (rest := []) (xSp_rf _ _) (by decide) (fun _ => trivial) (mX2_leastCost σ a1 _ hw) (cwV 1 C.2.2.2.2.1 gX2_stepOf_X2_leastCost rfl rfl rfl (by decide +kernel) ⟨by decide, by decide⟩) rfl rfl rfl rfl (Nat.le_of_ble_eq_true rfl) ⟨by decide, by decide⟩ dX2_stepOf_10 (fun r22 σ23 hw => ?_)
  refine xr_istore C [(0, .ref (ad 9)), (1, .int (i32 a1)), (2, .int (i32 a2)), (3, .int (i32 a3)), (4, .int (i32 469)), (5, .int (i32 a1)), (6, .int (i32 r22))] dX2_stepOf_13 (by decide) rfl ?_
  refine xr_iconst C dX2_stepOf_15 ?_
  refine xr_istore C [(0, .ref (ad 9)), (1, .int (i32 a1)), (2, .int (i32 a2)), (3, .int (i32 a3)), (4, .int (i32 469)), (5, .int (i32 a1)), (6, .int (i32 r22)), (7, .int (i32 0))] dX2_stepOf_16 (by decide) rfl ?_
  exact L18 (a1, a2, a3, 469, a1, r22, 0, σ23) hw
