abbrev rmJ7_fill_53178 : Room := { frames := 0, cells := 0, slots := 0, locals := 64 }
set_option maxHeartbeats 8000000 in
set_option maxRecDepth 100000 in
theorem mJ7_fill_53178 {l : Launch} {D : va_G} {ad : Nat → Nat} {cI cJ cZ : ClassId} (σ : xS) (a1 : Int) (Q : xS → Prop) (hw : vJ7_fill_53178 a1 σ Q) : xMv False l yJ7_fill_53178 wsJ7_fill_53178 rmJ7_fill_53178 D (xtys cI cJ cZ) (wF ad cI cJ cZ) [10] σ [.ref (ad 10), .int (i32 a1)] Q := by
  refine xenter (F := [10]) (Qc := fun sz => xQv D (wF ad cI cJ cZ) [10] σ sz Q) (own := RJ7) (cc := cJ7_fill_53178) (maxL := 4) (ret := none) (by decide) rfl rfl (Nat.le_of_ble_eq_true rfl) ?_
  intro p e s m args below meth c hargs C hr hnm
  have L5 : ∀ a, mu (vJ7_fill_53178_5  Q) a → xX p l e rmJ7_fill_53178 s m args below meth c D vwCl (va_A ((wF ad cI cJ cZ) σ) s.heap.size) (wF ad cI cJ cZ) [10] σ 0 0 (MQ below (xQv D (wF ad cI cJ cZ) [10] σ s.heap.size Q) args s 0 0 (va_A ((wF ad cI cJ cZ) σ) s.heap.size)) 4 (a.2.2.2) 5 [(0, .ref (ad 10)), (1, .int (i32 (a.1))), (2, .int (i32 (a.2.1))), (3, .int (i32 (a.2.2.1)))] [] := by
    refine mu_ind (fun K5 hK5 a hw => ?_)
    obtain ⟨x1, x2, x3, σ0⟩ := a
    show xX p l e rmJ7_fill_53178 s m args below meth c D vwCl (va_A ((wF ad cI cJ cZ) σ) s.heap.size) (wF ad cI cJ cZ) [10] σ 0 0 (MQ below (xQv D (wF ad cI cJ cZ) [10] σ s.heap.size Q) args s 0 0 (va_A ((wF ad cI cJ cZ) σ) s.heap.size)) 4 σ0 5 [(0, .ref (ad 10)), (1, .int (i32 x1)), (2, .int (i32 x2)), (3, .int (i32 x3))] []
    unfold vJ7_fill_53178_5 at hw
    refine xr_iload_n C 2 dJ7_fill_53178_5 rfl rfl ?_
    refine xr_iload_n C 3 dJ7_fill_53178_6 rfl rfl ?_
    obtain ⟨g1, hw⟩ := hw
    obtain ⟨g2, hw⟩ := hw
    refine xr_icmp_ge C g1 g2 20 dJ7_fill_53178_7 (by decide) (fun c3 => ?_) (fun c3 => ?_)
    · have hw := hw.1 c3
      exact xr_vret C hr hw dJ7_fill_53178_20
    · have hw := hw.2 c3
      refine xr_aload_n C 0 dJ7_fill_53178_10 rfl rfl ?_
      refine xr_iload_n C 2 dJ7_fill_53178_11 rfl rfl ?_
      refine xr_iload_n C 1 dJ7_fill_53178_12 rfl rfl ?_
      obtain ⟨g4, hw⟩ := hw
      refine xr_iast C (t0 := 0) (r := 10) 0 rfl rfl (by decide) (N := 8) rfl g4 wF_st10 (by decide) dJ7_fill_53178_13 ?_
      refine xr_sig (fun σ5 e6 => ?_)
      have hw := hw σ5 e6
      refine xr_iinc C 2 [(0, .ref (ad 10)), (1, .int (i32 x1)), (2, .int (i32 (x2 + 1))), (3, .int (i32 x3))] dJ7_fill_53178_14 rfl (by decide) rfl ?_
      refine xr_goto C 5 dJ7_fill_53178_17 (by decide) ?_
      exact hK5 (x1, (x2 + 1), x3, σ5) hw
  show xX p l e rmJ7_fill_53178 s m args below meth c D vwCl (va_A ((wF ad cI cJ cZ) σ) s.heap.size) (wF ad cI cJ cZ) [10] σ 0 0 (MQ below (xQv D (wF ad cI cJ cZ) [10] σ s.heap.size Q) args s 0 0 (va_A ((wF ad cI cJ cZ) σ) s.heap.size)) 4 σ 0 [(0, .ref (ad 10)), (1, .int (i32 a1))] []
  unfold vJ7_fill_53178 at hw
  refine xr_iconst C dJ7_fill_53178_0 ?_
  refine xr_istore_n C [(0, .ref (ad 10)), (1, .int (i32 a1)), (2, .int (i32 0))] dJ7_fill_53178_1 rfl (by decide) rfl ?_
  refine xr_aload_n C 0 dJ7_fill_53178_2 rfl rfl ?_
  refine xr_alen C (t0 := 0) 0 rfl rfl 8 rfl dJ7_fill_53178_3 ?_
  refine xr_istore_n C [(0, .ref (ad 10)), (1, .int (i32 a1)), (2, .int (i32 0)), (3, .int (i32 8))] dJ7_fill_53178_4 rfl (by decide) rfl ?_
  exact L5 (a1, 0, 8, σ) hw
abbrev rmJ13_bitCount_95d88 : Room := { frames := 0, cells := 0, slots := 0, locals := 64 }
set_option maxHeartbeats 8000000 in
set_option maxRecDepth 100000 in
theorem mJ13_bitCount_95d88 {l : Launch} {D : va_G} {cI cJ cZ : ClassId} (σ : xS) (a0 : Int) (Q : Int → xS → Prop) (hw : vJ13_bitCount_95d88 a0 σ Q) : xMi False l yJ13_bitCount_95d88 wsJ13_bitCount_95d88 rmJ13_bitCount_95d88 D (xtys cI cJ cZ) wN [] σ [.long (i64 a0)] Q := by
  refine xenter (F := []) (Qc := fun sz => xQi D wN [] σ sz Q) (own := RJ13) (cc := cJ13_bitCount_95d88) (maxL := 2) (ret := some .int) (by decide) rfl rfl (Nat.le_of_ble_eq_true rfl) ?_
  intro p e s m args below meth c hargs C hr hnm
  have m0 : (Cond.constantLong RJ13 314 6148914691236517205) ∈ wsJ13_bitCount_95d88 := by decide +kernel
  have m1 : (Cond.constantLong RJ13 316 3689348814741910323) ∈ wsJ13_bitCount_95d88 := by decide +kernel
  have m2 : (Cond.constantLong RJ13 318 1085102592571150095) ∈ wsJ13_bitCount_95d88 := by decide +kernel
  show xX p l e rmJ13_bitCount_95d88 s m args below meth c D vwCl (va_A (wN σ) s.heap.size) wN [] σ 0 0 (MQ below (xQi D wN [] σ s.heap.size Q) args s 0 0 (va_A (wN σ) s.heap.size)) 2 σ 0 [(0, .long (i64 a0))] []
  unfold vJ13_bitCount_95d88 at hw
  refine xr_lload_n C 0 dJ13_bitCount_95d88_0 rfl rfl ?_
  refine xr_lload_n C 0 dJ13_bitCount_95d88_1 rfl rfl ?_
  refine xr_iconst C dJ13_bitCount_95d88_2 ?_
  refine xr_lushr C dJ13_bitCount_95d88_3 ?_
  refine xr_ldc2 C 6148914691236517205 m0 (by decide +kernel) dJ13_bitCount_95d88_4 ?_
  refine xr_land C dJ13_bitCount_95d88_7 ?_
  refine xr_lsub C dJ13_bitCount_95d88_8 ?_
  refine xr_topl (fun t1 e2 => ?_)
  have hw := hw t1 e2
  refine xr_lstore_n C [(0, .long (i64 t1))] dJ13_bitCount_95d88_9 rfl (by decide) rfl ?_
  refine xr_lload_n C 0 dJ13_bitCount_95d88_10 rfl rfl ?_
  refine xr_ldc2 C 3689348814741910323 m1 (by decide +kernel) dJ13_bitCount_95d88_11 ?_
  refine xr_land C dJ13_bitCount_95d88_14 ?_
  refine xr_lload_n C 0 dJ13_bitCount_95d88_15 rfl rfl ?_
  refine xr_iconst C dJ13_bitCount_95d88_16 ?_
  refine xr_lushr C dJ13_bitCount_95d88_17 ?_
  refine xr_ldc2 C 3689348814741910323 m1 (by decide +kernel) dJ13_bitCount_95d88_18 ?_
  refine xr_land C dJ13_bitCount_95d88_21 ?_
  refine xr_ladd C dJ13_bitCount_95d88_22 ?_
  refine xr_topl (fun t3 e4 => ?_)
  have hw := hw t3 e4
  refine xr_lstore_n C [(0, .long (i64 t3))] dJ13_bitCount_95d88_23 rfl (by decide) rfl ?_
  refine xr_lload_n C 0 dJ13_bitCount_95d88_24 rfl rfl ?_
  refine xr_lload_n C 0 dJ13_bitCount_95d88_25 rfl rfl ?_
  refine xr_iconst C dJ13_bitCount_95d88_26 ?_
  refine xr_lushr C dJ13_bitCount_95d88_27 ?_
  refine xr_ladd C dJ13_bitCount_95d88_28 ?_
  refine xr_ldc2 C 1085102592571150095 m2 (by decide +kernel) dJ13_bitCount_95d88_29 ?_
  refine xr_land C dJ13_bitCount_95d88_32 ?_
  refine xr_topl (fun t5 e6 => ?_)
  have hw := hw t5 e6
  refine xr_lstore_n C [(0, .long (i64 t5))] dJ13_bitCount_95d88_33 rfl (by decide) rfl ?_
  refine xr_lload_n C 0 dJ13_bitCount_95d88_34 rfl rfl ?_
  refine xr_lload_n C 0 dJ13_bitCount_95d88_35 rfl rfl ?_
  refine xr_bipush C dJ13_bitCount_95d88_36 (by decide +kernel) ?_
  refine xr_lushr C dJ13_bitCount_95d88_38 ?_
  refine xr_ladd C dJ13_bitCount_95d88_39 ?_
  refine xr_lstore_n C [(0, .long (i64 (t5 + (kushr t5 8))))] dJ13_bitCount_95d88_40 rfl (by decide) rfl ?_
  refine xr_lload_n C 0 dJ13_bitCount_95d88_41 rfl rfl ?_
  refine xr_lload_n C 0 dJ13_bitCount_95d88_42 rfl rfl ?_
  refine xr_bipush C dJ13_bitCount_95d88_43 (by decide +kernel) ?_
  refine xr_lushr C dJ13_bitCount_95d88_45 ?_
  refine xr_ladd C dJ13_bitCount_95d88_46 ?_
  refine xr_topl (fun t7 e8 => ?_)
  have hw := hw t7 e8
  refine xr_lstore_n C [(0, .long (i64 t7))] dJ13_bitCount_95d88_47 rfl (by decide) rfl ?_
  refine xr_lload_n C 0 dJ13_bitCount_95d88_48 rfl rfl ?_
  refine xr_lload_n C 0 dJ13_bitCount_95d88_49 rfl rfl ?_
  refine xr_bipush C dJ13_bitCount_95d88_50 (by decide +kernel) ?_
  refine xr_lushr C dJ13_bitCount_95d88_52 ?_
  refine xr_ladd C dJ13_bitCount_95d88_53 ?_
  refine xr_lstore_n C [(0, .long (i64 (t7 + (kushr t7 32))))] dJ13_bitCount_95d88_54 rfl (by decide) rfl ?_
  refine xr_lload_n C 0 dJ13_bitCount_95d88_55 rfl rfl ?_
  refine xr_l2i C dJ13_bitCount_95d88_56 ?_
  refine xr_bipush C dJ13_bitCount_95d88_57 (by decide +kernel) ?_
  refine xr_iand C dJ13_bitCount_95d88_59 ?_
  exact xr_iret C hr hw dJ13_bitCount_95d88_60
