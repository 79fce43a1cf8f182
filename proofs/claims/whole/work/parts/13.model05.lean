abbrev rmX5_isStacks : Room := { frames := 1, cells := 0, slots := 0, locals := 86 }
set_option maxHeartbeats 8000000 in
set_option maxRecDepth 100000 in
theorem mX5_isStacks {l : Launch} {D : va_G} {ad : Nat → Nat} {cI cJ cZ : ClassId} (σ : xS) (a1 : Int) (Q : Int → xS → Prop) (hw : vX5_isStacks a1 σ Q) : xMi False l yX5_isStacks wsX5_isStacks rmX5_isStacks D (xtys cI cJ cZ) (wM ad cI cJ cZ) [20, 21, 22, 23, 24, 25, 26, 27, 28, 29, 30, 31, 32, 33] σ [.ref (ad 20), .int (i32 a1)] Q := by
  refine xenter (F := [20, 21, 22, 23, 24, 25, 26, 27, 28, 29, 30, 31, 32, 33]) (Qc := fun sz => xQi D (wM ad cI cJ cZ) [20, 21, 22, 23, 24, 25, 26, 27, 28, 29, 30, 31, 32, 33] σ sz Q) (own := RX5) (cc := cX5_isStacks) (maxL := 4) (ret := some .boolean) (by decide) rfl rfl (Nat.le_of_ble_eq_true rfl) ?_
  intro p e s m args below meth c hargs C hr hnm
  have hinX5 : ∀ w ∈ u_ws RX5 TX5 22, w ∈ wsX5_isStacks := fun _ h => List.mem_cons_of_mem _ (List.mem_append_right _ h)
  have m0 : (Cond.fieldLink RX5 7 "SandBenchModel" "m" "[I") ∈ wsX5_isStacks := by decide +kernel
  have L4 : ∀ a, mu (vX5_isStacks_4  Q) a → xX p l e rmX5_isStacks s m args below meth c D vwCl (va_A ((wM ad cI cJ cZ) σ) s.heap.size) (wM ad cI cJ cZ) [20, 21, 22, 23, 24, 25, 26, 27, 28, 29, 30, 31, 32, 33] σ 0 0 (MQ below (xQi D (wM ad cI cJ cZ) [20, 21, 22, 23, 24, 25, 26, 27, 28, 29, 30, 31, 32, 33] σ s.heap.size Q) args s 0 0 (va_A ((wM ad cI cJ cZ) σ) s.heap.size)) 4 (a.2.2.2) 4 [(0, .ref (ad 20)), (1, .int (i32 (a.1))), (2, .int (i32 (a.2.1))), (3, .int (i32 (a.2.2.1)))] [] := by
    refine mu_ind (fun K4 hK4 a hw => ?_)
    obtain ⟨x1, x2, x3, σ0⟩ := a
    show xX p l e rmX5_isStacks s m args below meth c D vwCl (va_A ((wM ad cI cJ cZ) σ) s.heap.size) (wM ad cI cJ cZ) [20, 21, 22, 23, 24, 25, 26, 27, 28, 29, 30, 31, 32, 33] σ 0 0 (MQ below (xQi D (wM ad cI cJ cZ) [20, 21, 22, 23, 24, 25, 26, 27, 28, 29, 30, 31, 32, 33] σ s.heap.size Q) args s 0 0 (va_A ((wM ad cI cJ cZ) σ) s.heap.size)) 4 σ0 4 [(0, .ref (ad 20)), (1, .int (i32 x1)), (2, .int (i32 x2)), (3, .int (i32 x3))] []
    unfold vX5_isStacks_4 at hw
    refine xr_iload_n C 3 dX5_isStacks_4 rfl rfl ?_
    refine xr_iconst C dX5_isStacks_5 ?_
    obtain ⟨g1, hw⟩ := hw
    refine xr_icmp_ge C g1 ⟨by decide, by decide⟩ 55 dX5_isStacks_6 (by decide) (fun c2 => ?_) (fun c2 => ?_)
    · have hw := hw.1 c2
      refine xr_iload_n C 2 dX5_isStacks_55 rfl rfl ?_
      exact xr_zret C hr hw.1 hw.2 dX5_isStacks_56
    · have hw := hw.2 c2
      refine xr_iload_n C 2 dX5_isStacks_9 rfl rfl ?_
      obtain ⟨g3, hw⟩ := hw
      refine xr_if_eq C g3 47 dX5_isStacks_10 (by decide) (fun c4 => ?_) (fun c4 => ?_)
      · have hw := hw.1 c4
        refine xr_iconst C dX5_isStacks_47 ?_
        refine xr_istore_n C [(0, .ref (ad 20)), (1, .int (i32 x1)), (2, .int (i32 0)), (3, .int (i32 x3))] dX5_isStacks_48 rfl (by decide) rfl ?_
        refine xr_iinc C 3 [(0, .ref (ad 20)), (1, .int (i32 x1)), (2, .int (i32 0)), (3, .int (i32 (x3 + 1)))] dX5_isStacks_49 rfl (by decide) rfl ?_
        refine xr_goto C 4 dX5_isStacks_52 (by decide) ?_
        exact hK4 (x1, 0, (x3 + 1), σ0) hw
      · have hw := hw.2 c4
        refine xr_iload_n C 1 dX5_isStacks_13 rfl rfl ?_
        refine xr_iload_n C 3 dX5_isStacks_14 rfl rfl ?_
        refine xr_ishr C dX5_isStacks_15 ?_
        refine xr_iconst C dX5_isStacks_16 ?_
        refine xr_iand C dX5_isStacks_17 ?_
        obtain ⟨g5, hw⟩ := hw
        refine xr_if_eq C g5 43 dX5_isStacks_18 (by decide) (fun c6 => ?_) (fun c6 => ?_)
        · have hw := hw.1 c6
          refine xr_iconst C dX5_isStacks_43 ?_
          refine xr_goto C 48 dX5_isStacks_44 (by decide) ?_
          refine xr_istore_n C [(0, .ref (ad 20)), (1, .int (i32 x1)), (2, .int (i32 1)), (3, .int (i32 x3))] dX5_isStacks_48 rfl (by decide) rfl ?_
          refine xr_iinc C 3 [(0, .ref (ad 20)), (1, .int (i32 x1)), (2, .int (i32 1)), (3, .int (i32 (x3 + 1)))] dX5_isStacks_49 rfl (by decide) rfl ?_
          refine xr_goto C 4 dX5_isStacks_52 (by decide) ?_
          exact hK4 (x1, 1, (x3 + 1), σ0) hw
        · have hw := hw.2 c6
          refine xr_iload_n C 3 dX5_isStacks_21 rfl rfl ?_
          refine xr_aload_n C 0 dX5_isStacks_22 rfl rfl ?_
          refine xr_get C hinX5 (N := 22) (ci := 5) (a := (ad 20)) 0 rfl rfl 0 (by decide) m0 rfl rfl dX5_isStacks_23 ?_
          refine xr_bipush C dX5_isStacks_26 (by decide +kernel) ?_
          refine xr_iald C (t0 := 0) 1 rfl rfl (by decide) (N := 64) rfl ⟨by decide, by decide⟩ dX5_isStacks_28 ?_
          obtain ⟨g7, hw⟩ := hw
          refine xr_icmp_ge C g1 g7 47 dX5_isStacks_29 (by decide) (fun c8 => ?_) (fun c8 => ?_)
          · have hw := hw.1 c8
            refine xr_iconst C dX5_isStacks_47 ?_
            refine xr_istore_n C [(0, .ref (ad 20)), (1, .int (i32 x1)), (2, .int (i32 0)), (3, .int (i32 x3))] dX5_isStacks_48 rfl (by decide) rfl ?_
            refine xr_iinc C 3 [(0, .ref (ad 20)), (1, .int (i32 x1)), (2, .int (i32 0)), (3, .int (i32 (x3 + 1)))] dX5_isStacks_49 rfl (by decide) rfl ?_
            refine xr_goto C 4 dX5_isStacks_52 (by decide) ?_
            exact hK4 (x1, 0, (x3 + 1), σ0) hw
          · have hw := hw.2 c8
            refine xr_aload_n C 0 dX5_isStacks_32 rfl rfl ?_
            refine xr_iload_n C 3 dX5_isStacks_33 rfl rfl ?_
            refine xr_bipush C dX5_isStacks_34 (by decide +kernel) ?_
            refine xr_callVi C (ci := 5) (q0 := 0) (As := [.int (i32 x3), .int (i32 6)]) (rest := []) (xSp_rf _ _) (by decide) (fun h => h) (mX5_of σ0 x3 6 _ hw) (cwV 2 C.2.2.2.2.1 gX5_isStacks_X5_of rfl rfl rfl (by decide +kernel) ⟨by decide, by decide⟩) rfl rfl rfl rfl (Nat.le_of_ble_eq_true rfl) ⟨by decide, by decide⟩ dX5_isStacks_36 (fun r9 σ10 hw => ?_)
            refine xr_iload_n C 3 dX5_isStacks_39 rfl rfl ?_
            obtain ⟨g11, hw⟩ := hw
            refine xr_icmp_ne C g11 g1 47 dX5_isStacks_40 (by decide) (fun c12 => ?_) (fun c12 => ?_)
            · have hw := hw.1 c12
              refine xr_iconst C dX5_isStacks_47 ?_
              refine xr_istore_n C [(0, .ref (ad 20)), (1, .int (i32 x1)), (2, .int (i32 0)), (3, .int (i32 x3))] dX5_isStacks_48 rfl (by decide) rfl ?_
              refine xr_iinc C 3 [(0, .ref (ad 20)), (1, .int (i32 x1)), (2, .int (i32 0)), (3, .int (i32 (x3 + 1)))] dX5_isStacks_49 rfl (by decide) rfl ?_
              refine xr_goto C 4 dX5_isStacks_52 (by decide) ?_
              exact hK4 (x1, 0, (x3 + 1), σ10) hw
            · have hw := hw.2 c12
              refine xr_iconst C dX5_isStacks_43 ?_
              refine xr_goto C 48 dX5_isStacks_44 (by decide) ?_
              refine xr_istore_n C [(0, .ref (ad 20)), (1, .int (i32 x1)), (2, .int (i32 1)), (3, .int (i32 x3))] dX5_isStacks_48 rfl (by decide) rfl ?_
              refine xr_iinc C 3 [(0, .ref (ad 20)), (1, .int (i32 x1)), (2, .int (i32 1)), (3, .int (i32 (x3 + 1)))] dX5_isStacks_49 rfl (by decide) rfl ?_
              refine xr_goto C 4 dX5_isStacks_52 (by decide) ?_
              exact hK4 (x1, 1, (x3 + 1), σ10) hw
  show xX p l e rmX5_isStacks s m args below meth c D vwCl (va_A ((wM ad cI cJ cZ) σ) s.heap.size) (wM ad cI cJ cZ) [20, 21, 22, 23, 24, 25, 26, 27, 28, 29, 30, 31, 32, 33] σ 0 0 (MQ below (xQi D (wM ad cI cJ cZ) [20, 21, 22, 23, 24, 25, 26, 27, 28, 29, 30, 31, 32, 33] σ s.heap.size Q) args s 0 0 (va_A ((wM ad cI cJ cZ) σ) s.heap.size)) 4 σ 0 [(0, .ref (ad 20)), (1, .int (i32 a1))] []
  unfold vX5_isStacks at hw
  refine xr_iconst C dX5_isStacks_0 ?_
  refine xr_istore_n C [(0, .ref (ad 20)), (1, .int (i32 a1)), (2, .int (i32 1))] dX5_isStacks_1 rfl (by decide) rfl ?_
  refine xr_iconst C dX5_isStacks_2 ?_
  refine xr_istore_n C [(0, .ref (ad 20)), (1, .int (i32 a1)), (2, .int (i32 1)), (3, .int (i32 0))] dX5_isStacks_3 rfl (by decide) rfl ?_
  exact L4 (a1, 1, 0, σ) hw
abbrev rmX5_chooses : Room := { frames := 1, cells := 0, slots := 0, locals := 86 }
set_option maxHeartbeats 8000000 in
set_option maxRecDepth 100000 in
theorem mX5_chooses {l : Launch} {D : va_G} {ad : Nat → Nat} {cI cJ cZ : ClassId} (σ : xS) (a1 a2 a3 a4 : Int) (Q : xS → Prop) (hw : vX5_chooses a1 a2 a3 a4 σ Q) : xMv False l yX5_chooses wsX5_chooses rmX5_chooses D (xtys cI cJ cZ) (wM ad cI cJ cZ) [20, 21, 22, 23, 24, 25, 26, 27, 28, 29, 30, 31, 32, 33] σ [.ref (ad 20), .int (i32 a1), .int (i32 a2), .int (i32 a3), .int (i32 a4)] Q := by
  refine xenter (F := [20, 21, 22, 23, 24, 25, 26, 27, 28, 29, 30, 31, 32, 33]) (Qc := fun sz => xQv D (wM ad cI cJ cZ) [20, 21, 22, 23, 24, 25, 26, 27, 28, 29, 30, 31, 32, 33] σ sz Q) (own := RX5) (cc := cX5_chooses) (maxL := 6) (ret := none) (by decide) rfl rfl (Nat.le_of_ble_eq_true rfl) ?_
  intro p e s m args below meth c hargs C hr hnm
  have hinX5 : ∀ w ∈ u_ws RX5 TX5 22, w ∈ wsX5_chooses := fun _ h => List.mem_cons_of_mem _ (List.mem_append_right _ h)
  have m0 : (Cond.fieldLink RX5 48 "SandBenchModel" "then" "[I") ∈ wsX5_chooses := by decide +kernel
  have m1 : (Cond.fieldLink RX5 44 "SandBenchModel" "lies" "[Z") ∈ wsX5_chooses := by decide +kernel
  have m2 : (Cond.fieldLink RX5 162 "SandBenchModel" "seconds" "I") ∈ wsX5_chooses := by decide +kernel
  have m3 : (Cond.fieldLink RX5 7 "SandBenchModel" "m" "[I") ∈ wsX5_chooses := by decide +kernel
  have m4 : (Cond.fieldLink RX5 41 "SandBenchModel" "amount" "[I") ∈ wsX5_chooses := by decide +kernel
  have B207 : ∀ (K165 : Int × xS → Prop) (hK165 : ∀ a, K165 a → xX p l e rmX5_chooses s m args below meth c D vwCl (va_A ((wM ad cI cJ cZ) σ) s.heap.size) (wM ad cI cJ cZ) [20, 21, 22, 23, 24, 25, 26, 27, 28, 29, 30, 31, 32, 33] σ 0 0 (MQ below (xQv D (wM ad cI cJ cZ) [20, 21, 22, 23, 24, 25, 26, 27, 28, 29, 30, 31, 32, 33] σ s.heap.size Q) args s 0 0 (va_A ((wM ad cI cJ cZ) σ) s.heap.size)) 6 (a.2) 165 [(0, .ref (ad 20)), (5, .int (i32 (a.1)))] []) (x5 y1 y2 y3 : Int) (σ0 : xS), vX5_chooses_207 K165 Q x5 y1 y2 y3 σ0 → xX p l e rmX5_chooses s m args below meth c D vwCl (va_A ((wM ad cI cJ cZ) σ) s.heap.size) (wM ad cI cJ cZ) [20, 21, 22, 23, 24, 25, 26, 27, 28, 29, 30, 31, 32, 33] σ 0 0 (MQ below (xQv D (wM ad cI cJ cZ) [20, 21, 22, 23, 24, 25, 26, 27, 28, 29, 30, 31, 32, 33] σ s.heap.size Q) args s 0 0 (va_A ((wM ad cI cJ cZ) σ) s.heap.size)) 6 σ0 207 [(0, .ref (ad 20)), (5, .int (i32 x5))] [.int (i32 y3), .int (i32 y2), .int (i32 y1), .ref (ad 33)] := by
    intro K165 hK165 x5 y1 y2 y3 σ0 hw
    unfold vX5_chooses_207 at hw
    refine xr_isub C dX5_chooses_207 ?_
    obtain ⟨g1, hw⟩ := hw
    refine xr_iast C (t0 := 0) (r := 33) 13 rfl rfl (by decide) (N := 3) rfl g1 wM_st33 (by decide) dX5_chooses_208 ?_
    refine xr_sig (fun σ2 e3 => ?_)
    have hw := hw σ2 e3
    refine xr_iinc C 1 [(0, .ref (ad 20)), (5, .int (i32 (x5 + 1)))] dX5_chooses_209 rfl (by decide) rfl ?_
    refine xr_goto C 165 dX5_chooses_212 (by decide) ?_
    exact hK165 ((x5 + 1), σ2) hw
  have B206 : ∀ (K165 : Int × xS → Prop) (hK165 : ∀ a, K165 a → xX p l e rmX5_chooses s m args below meth c D vwCl (va_A ((wM ad cI cJ cZ) σ) s.heap.size) (wM ad cI cJ cZ) [20, 21, 22, 23, 24, 25, 26, 27, 28, 29, 30, 31, 32, 33] σ 0 0 (MQ below (xQv D (wM ad cI cJ cZ) [20, 21, 22, 23, 24, 25, 26, 27, 28, 29, 30, 31, 32, 33] σ s.heap.size Q) args s 0 0 (va_A ((wM ad cI cJ cZ) σ) s.heap.size)) 6 (a.2) 165 [(0, .ref (ad 20)), (5, .int (i32 (a.1)))] []) (x5 y1 y2 : Int) (σ0 : xS), vX5_chooses_206 K165 Q x5 y1 y2 σ0 → xX p l e rmX5_chooses s m args below meth c D vwCl (va_A ((wM ad cI cJ cZ) σ) s.heap.size) (wM ad cI cJ cZ) [20, 21, 22, 23, 24, 25, 26, 27, 28, 29, 30, 31, 32, 33] σ 0 0 (MQ below (xQv D (wM ad cI cJ cZ) [20, 21, 22, 23, 24, 25, 26, 27, 28, 29, 30, 31, 32, 33] σ s.heap.size Q) args s 0 0 (va_A ((wM ad cI cJ cZ) σ) s.heap.size)) 6 σ0 206 [(0, .ref (ad 20)), (5, .int (i32 x5))] [.int (i32 y2), .int (i32 y1), .ref (ad 33)] := by
    intro K165 hK165 x5 y1 y2 σ0 hw
    unfold vX5_chooses_206 at hw
    refine xr_iconst C dX5_chooses_206 ?_
    exact B207 K165 hK165 x5 y1 y2 0 σ0 hw
  have L165 : ∀ a, mu (vX5_chooses_165  Q) a → xX p l e rmX5_chooses s m args below meth c D vwCl (va_A ((wM ad cI cJ cZ) σ) s.heap.size) (wM ad cI cJ cZ) [20, 21, 22, 23, 24, 25, 26, 27, 28, 29, 30, 31, 32, 33] σ 0 0 (MQ below (xQv D (wM ad cI cJ cZ) [20, 21, 22, 23, 24, 25, 26, 27, 28, 29, 30, 31, 32, 33] σ s.heap.size Q) args s 0 0 (va_A ((wM ad cI cJ cZ) σ) s.heap.size)) 6 (a.2) 165 [(0, .ref (ad 20)), (5, .int (i32 (a.1)))] [] := by
    refine mu_ind (fun K165 hK165 a hw => ?_)
    obtain ⟨x5, σ0⟩ := a
    show xX p l e rmX5_chooses s m args below meth c D vwCl (va_A ((wM ad cI cJ cZ) σ) s.heap.size) (wM ad cI cJ cZ) [20, 21, 22, 23, 24, 25, 26, 27, 28, 29, 30, 31, 32, 33] σ 0 0 (MQ below (xQv D (wM ad cI cJ cZ) [20, 21, 22, 23, 24, 25, 26, 27, 28, 29, 30, 31, 32, 33] σ s.heap.size Q) args s 0 0 (va_A ((wM ad cI cJ cZ) σ) s.heap.size)) 6 σ0 165 [(0, .ref (ad 20)), (5, .int (i32 x5))] []
    unfold vX5_chooses_165 at hw
    refine xr_iload C 1 dX5_chooses_165 rfl ?_
    refine xr_iconst C dX5_chooses_167 ?_
    obtain ⟨g4, hw⟩ := hw
    refine xr_icmp_ge C g4 ⟨by decide, by decide⟩ 215 dX5_chooses_168 (by decide) (fun c5 => ?_) (fun c5 => ?_)
    · have hw := hw.1 c5
      exact xr_vret C hr hw dX5_chooses_215
    · have hw := hw.2 c5
      refine xr_aload_n C 0 dX5_chooses_171 rfl rfl ?_
      refine xr_get C hinX5 (N := 22) (ci := 5) (a := (ad 20)) 0 rfl rfl 19 (by decide) m0 rfl rfl dX5_chooses_172 ?_
      refine xr_iload C 1 dX5_chooses_175 rfl ?_
      refine xr_dup2 C dX5_chooses_177 rfl rfl ?_
      obtain ⟨g6, hw⟩ := hw
      refine xr_iald C (t0 := 0) 13 rfl rfl (by decide) (N := 3) rfl g6 dX5_chooses_178 ?_
      refine xr_aload_n C 0 dX5_chooses_179 rfl rfl ?_
      refine xr_get C hinX5 (N := 22) (ci := 5) (a := (ad 20)) 0 rfl rfl 18 (by decide) m1 rfl rfl dX5_chooses_180 ?_
      refine xr_iload C 1 dX5_chooses_183 rfl ?_
      refine xr_zald C (t0 := 2) 12 rfl rfl (by decide) (N := 3) rfl g6 dX5_chooses_185 ?_
      obtain ⟨g7, hw⟩ := hw
      refine xr_if_ne C g7 206 dX5_chooses_186 (by decide) (fun c8 => ?_) (fun c8 => ?_)
      · have hw := hw.1 c8
        exact B206 K165 hK165 x5 x5 (σ0 33 (x5.toNat)) σ0 hw
      · have hw := hw.2 c8
        refine xr_aload_n C 0 dX5_chooses_189 rfl rfl ?_
        refine xr_get C hinX5 (N := 22) (ci := 5) (a := (ad 20)) 0 rfl rfl 19 (by decide) m0 rfl rfl dX5_chooses_190 ?_
        refine xr_iload C 1 dX5_chooses_193 rfl ?_
        refine xr_iald C (t0 := 0) 13 rfl rfl (by decide) (N := 3) rfl g6 dX5_chooses_195 ?_
        obtain ⟨g9, hw⟩ := hw
        refine xr_if_le C g9 206 dX5_chooses_196 (by decide) (fun c10 => ?_) (fun c10 => ?_)
        · have hw := hw.1 c10
          exact B206 K165 hK165 x5 x5 (σ0 33 (x5.toNat)) σ0 hw
        · have hw := hw.2 c10
          refine xr_aload_n C 0 dX5_chooses_199 rfl rfl ?_
          refine xr_get C hinX5 (N := 22) (ci := 5) (a := (ad 20)) 0 rfl rfl 20 (by decide) m2 rfl rfl dX5_chooses_200 ?_
          refine xr_goto C 207 dX5_chooses_203 (by decide) ?_
          exact B207 K165 hK165 x5 x5 (σ0 33 (x5.toNat)) (σ0 20 20) σ0 hw
  have B153 : ∀ (K30 : Int × Int × xS → Prop) (hK30 : ∀ a, K30 a → xX p l e rmX5_chooses s m args below meth c D vwCl (va_A ((wM ad cI cJ cZ) σ) s.heap.size) (wM ad cI cJ cZ) [20, 21, 22, 23, 24, 25, 26, 27, 28, 29, 30, 31, 32, 33] σ 0 0 (MQ below (xQv D (wM ad cI cJ cZ) [20, 21, 22, 23, 24, 25, 26, 27, 28, 29, 30, 31, 32, 33] σ s.heap.size Q) args s 0 0 (va_A ((wM ad cI cJ cZ) σ) s.heap.size)) 6 (a.2.2) 30 [(0, .ref (ad 20)), (1, .int (i32 (a.1))), (5, .int (i32 (a.2.1)))] []) (x1 x5 y1 : Int) (σ0 : xS), vX5_chooses_153 K30 Q x1 x5 y1 σ0 → xX p l e rmX5_chooses s m args below meth c D vwCl (va_A ((wM ad cI cJ cZ) σ) s.heap.size) (wM ad cI cJ cZ) [20, 21, 22, 23, 24, 25, 26, 27, 28, 29, 30, 31, 32, 33] σ 0 0 (MQ below (xQv D (wM ad cI cJ cZ) [20, 21, 22, 23, 24, 25, 26, 27, 28, 29, 30, 31, 32, 33] σ s.heap.size Q) args s 0 0 (va_A ((wM ad cI cJ cZ) σ) s.heap.size)) 6 σ0 153 [(0, .ref (ad 20)), (1, .int (i32 x1)), (5, .int (i32 x5))] [.int (i32 y1), .ref (ad 20)] := by
    intro K30 hK30 x1 x5 y1 σ0 hw
    unfold vX5_chooses_153 at hw
    refine xr_put C (r := 20) (x := y1) (ty := .int) hinX5 (N := 22) (ci := 5) tyX5 tyX5_ok nmX5 0 rfl rfl 20 (by decide) m2 rfl rfl (by decide +kernel) rfl rfl (Nat.le_of_ble_eq_true rfl) rfl (by decide) dX5_chooses_153 ?_
    refine xr_sig (fun σ11 e12 => ?_)
    have hw := hw σ11 e12
    refine xr_iinc C 2 [(0, .ref (ad 20)), (1, .int (i32 x1)), (5, .int (i32 (x5 + 1)))] dX5_chooses_156 rfl (by decide) rfl ?_
    refine xr_goto C 30 dX5_chooses_159 (by decide) ?_
    exact hK30 (x1, (x5 + 1), σ11) hw
  have B149 : ∀ (K30 : Int × Int × xS → Prop) (hK30 : ∀ a, K30 a → xX p l e rmX5_chooses s m args below meth c D vwCl (va_A ((wM ad cI cJ cZ) σ) s.heap.size) (wM ad cI cJ cZ) [20, 21, 22, 23, 24, 25, 26, 27, 28, 29, 30, 31, 32, 33] σ 0 0 (MQ below (xQv D (wM ad cI cJ cZ) [20, 21, 22, 23, 24, 25, 26, 27, 28, 29, 30, 31, 32, 33] σ s.heap.size Q) args s 0 0 (va_A ((wM ad cI cJ cZ) σ) s.heap.size)) 6 (a.2.2) 30 [(0, .ref (ad 20)), (1, .int (i32 (a.1))), (5, .int (i32 (a.2.1)))] []) (x1 x5 : Int) (σ0 : xS), vX5_chooses_149 K30 Q x1 x5 σ0 → xX p l e rmX5_chooses s m args below meth c D vwCl (va_A ((wM ad cI cJ cZ) σ) s.heap.size) (wM ad cI cJ cZ) [20, 21, 22, 23, 24, 25, 26, 27, 28, 29, 30, 31, 32, 33] σ 0 0 (MQ below (xQv D (wM ad cI cJ cZ) [20, 21, 22, 23, 24, 25, 26, 27, 28, 29, 30, 31, 32, 33] σ s.heap.size Q) args s 0 0 (va_A ((wM ad cI cJ cZ) σ) s.heap.size)) 6 σ0 149 [(0, .ref (ad 20)), (1, .int (i32 x1)), (5, .int (i32 x5))] [.ref (ad 20)] := by
    intro K30 hK30 x1 x5 σ0 hw
    unfold vX5_chooses_149 at hw
    refine xr_aload_n C 0 dX5_chooses_149 rfl rfl ?_
    refine xr_get C hinX5 (N := 22) (ci := 5) (a := (ad 20)) 0 rfl rfl 20 (by decide) m2 rfl rfl dX5_chooses_150 ?_
    exact B153 K30 hK30 x1 x5 (σ0 20 20) σ0 hw
  have B95 : ∀ (K30 : Int × Int × xS → Prop) (hK30 : ∀ a, K30 a → xX p l e rmX5_chooses s m args below meth c D vwCl (va_A ((wM ad cI cJ cZ) σ) s.heap.size) (wM ad cI cJ cZ) [20, 21, 22, 23, 24, 25, 26, 27, 28, 29, 30, 31, 32, 33] σ 0 0 (MQ below (xQv D (wM ad cI cJ cZ) [20, 21, 22, 23, 24, 25, 26, 27, 28, 29, 30, 31, 32, 33] σ s.heap.size Q) args s 0 0 (va_A ((wM ad cI cJ cZ) σ) s.heap.size)) 6 (a.2.2) 30 [(0, .ref (ad 20)), (1, .int (i32 (a.1))), (5, .int (i32 (a.2.1)))] []) (x1 x5 y1 y2 : Int) (σ0 : xS), vX5_chooses_95 K30 Q x1 x5 y1 y2 σ0 → xX p l e rmX5_chooses s m args below meth c D vwCl (va_A ((wM ad cI cJ cZ) σ) s.heap.size) (wM ad cI cJ cZ) [20, 21, 22, 23, 24, 25, 26, 27, 28, 29, 30, 31, 32, 33] σ 0 0 (MQ below (xQv D (wM ad cI cJ cZ) [20, 21, 22, 23, 24, 25, 26, 27, 28, 29, 30, 31, 32, 33] σ s.heap.size Q) args s 0 0 (va_A ((wM ad cI cJ cZ) σ) s.heap.size)) 6 σ0 95 [(0, .ref (ad 20)), (1, .int (i32 x1)), (5, .int (i32 x5))] [.int (i32 y2), .int (i32 y1), .ref (ad 33)] := by
    intro K30 hK30 x1 x5 y1 y2 σ0 hw
    unfold vX5_chooses_95 at hw
    obtain ⟨g13, hw⟩ := hw
    refine xr_iast C (t0 := 0) (r := 33) 13 rfl rfl (by decide) (N := 3) rfl g13 wM_st33 (by decide) dX5_chooses_95 ?_
    refine xr_sig (fun σ14 e15 => ?_)
    have hw := hw σ14 e15
    refine xr_aload_n C 0 dX5_chooses_96 rfl rfl ?_
    refine xr_aload_n C 0 dX5_chooses_97 rfl rfl ?_
    refine xr_get C hinX5 (N := 22) (ci := 5) (a := (ad 20)) 0 rfl rfl 18 (by decide) m1 rfl rfl dX5_chooses_98 ?_
    refine xr_iload C 2 dX5_chooses_101 rfl ?_
    obtain ⟨g16, hw⟩ := hw
    refine xr_zald C (t0 := 2) 12 rfl rfl (by decide) (N := 3) rfl g16 dX5_chooses_103 ?_
    obtain ⟨g17, hw⟩ := hw
    refine xr_if_ne C g17 149 dX5_chooses_104 (by decide) (fun c18 => ?_) (fun c18 => ?_)
    · have hw := hw.1 c18
      exact B149 K30 hK30 x1 x5 σ14 hw
    · have hw := hw.2 c18
      refine xr_aload_n C 0 dX5_chooses_107 rfl rfl ?_
      refine xr_get C hinX5 (N := 22) (ci := 5) (a := (ad 20)) 0 rfl rfl 19 (by decide) m0 rfl rfl dX5_chooses_108 ?_
      refine xr_iload C 2 dX5_chooses_111 rfl ?_
      refine xr_iald C (t0 := 0) 13 rfl rfl (by decide) (N := 3) rfl g16 dX5_chooses_113 ?_
      obtain ⟨g19, hw⟩ := hw
      refine xr_if_le C g19 149 dX5_chooses_114 (by decide) (fun c20 => ?_) (fun c20 => ?_)
      · have hw := hw.1 c20
        exact B149 K30 hK30 x1 x5 σ14 hw
      · have hw := hw.2 c20
        refine xr_aload_n C 0 dX5_chooses_117 rfl rfl ?_
        refine xr_get C hinX5 (N := 22) (ci := 5) (a := (ad 20)) 0 rfl rfl 20 (by decide) m2 rfl rfl dX5_chooses_118 ?_
        refine xr_iconst C dX5_chooses_121 ?_
        obtain ⟨g21, hw⟩ := hw
        refine xr_icmp_eq C g21 ⟨by decide, by decide⟩ 139 dX5_chooses_122 (by decide) (fun c22 => ?_) (fun c22 => ?_)
        · have hw := hw.1 c22
          refine xr_aload_n C 0 dX5_chooses_139 rfl rfl ?_
          refine xr_get C hinX5 (N := 22) (ci := 5) (a := (ad 20)) 0 rfl rfl 19 (by decide) m0 rfl rfl dX5_chooses_140 ?_
          refine xr_iload C 2 dX5_chooses_143 rfl ?_
          refine xr_iald C (t0 := 0) 13 rfl rfl (by decide) (N := 3) rfl g16 dX5_chooses_145 ?_
          refine xr_goto C 153 dX5_chooses_146 (by decide) ?_
          exact B153 K30 hK30 x1 x5 (σ14 33 (x5.toNat)) σ14 hw
        · have hw := hw.2 c22
          refine xr_aload_n C 0 dX5_chooses_125 rfl rfl ?_
          refine xr_get C hinX5 (N := 22) (ci := 5) (a := (ad 20)) 0 rfl rfl 19 (by decide) m0 rfl rfl dX5_chooses_126 ?_
          refine xr_iload C 2 dX5_chooses_129 rfl ?_
          refine xr_iald C (t0 := 0) 13 rfl rfl (by decide) (N := 3) rfl g16 dX5_chooses_131 ?_
          refine xr_aload_n C 0 dX5_chooses_132 rfl rfl ?_
          refine xr_get C hinX5 (N := 22) (ci := 5) (a := (ad 20)) 0 rfl rfl 20 (by decide) m2 rfl rfl dX5_chooses_133 ?_
          refine xr_icmp_ge C g19 g21 149 dX5_chooses_136 (by decide) (fun c23 => ?_) (fun c23 => ?_)
          · have hw := hw.1 c23
            exact B149 K30 hK30 x1 x5 σ14 hw
          · have hw := hw.2 c23
            refine xr_aload_n C 0 dX5_chooses_139 rfl rfl ?_
            refine xr_get C hinX5 (N := 22) (ci := 5) (a := (ad 20)) 0 rfl rfl 19 (by decide) m0 rfl rfl dX5_chooses_140 ?_
            refine xr_iload C 2 dX5_chooses_143 rfl ?_
            refine xr_iald C (t0 := 0) 13 rfl rfl (by decide) (N := 3) rfl g16 dX5_chooses_145 ?_
            refine xr_goto C 153 dX5_chooses_146 (by decide) ?_
            exact B153 K30 hK30 x1 x5 (σ14 33 (x5.toNat)) σ14 hw
  have B88 : ∀ (K30 : Int × Int × xS → Prop) (hK30 : ∀ a, K30 a → xX p l e rmX5_chooses s m args below meth c D vwCl (va_A ((wM ad cI cJ cZ) σ) s.heap.size) (wM ad cI cJ cZ) [20, 21, 22, 23, 24, 25, 26, 27, 28, 29, 30, 31, 32, 33] σ 0 0 (MQ below (xQv D (wM ad cI cJ cZ) [20, 21, 22, 23, 24, 25, 26, 27, 28, 29, 30, 31, 32, 33] σ s.heap.size Q) args s 0 0 (va_A ((wM ad cI cJ cZ) σ) s.heap.size)) 6 (a.2.2) 30 [(0, .ref (ad 20)), (1, .int (i32 (a.1))), (5, .int (i32 (a.2.1)))] []) (x1 x5 y1 : Int) (σ0 : xS), vX5_chooses_88 K30 Q x1 x5 y1 σ0 → xX p l e rmX5_chooses s m args below meth c D vwCl (va_A ((wM ad cI cJ cZ) σ) s.heap.size) (wM ad cI cJ cZ) [20, 21, 22, 23, 24, 25, 26, 27, 28, 29, 30, 31, 32, 33] σ 0 0 (MQ below (xQv D (wM ad cI cJ cZ) [20, 21, 22, 23, 24, 25, 26, 27, 28, 29, 30, 31, 32, 33] σ s.heap.size Q) args s 0 0 (va_A ((wM ad cI cJ cZ) σ) s.heap.size)) 6 σ0 88 [(0, .ref (ad 20)), (1, .int (i32 x1)), (5, .int (i32 x5))] [.int (i32 y1), .ref (ad 33)] := by
    intro K30 hK30 x1 x5 y1 σ0 hw
    unfold vX5_chooses_88 at hw
    refine xr_aload_n C 0 dX5_chooses_88 rfl rfl ?_
    refine xr_get C hinX5 (N := 22) (ci := 5) (a := (ad 20)) 0 rfl rfl 19 (by decide) m0 rfl rfl dX5_chooses_89 ?_
    refine xr_iload C 2 dX5_chooses_92 rfl ?_
    obtain ⟨g24, hw⟩ := hw
    refine xr_iald C (t0 := 0) 13 rfl rfl (by decide) (N := 3) rfl g24 dX5_chooses_94 ?_
    exact B95 K30 hK30 x1 x5 y1 (σ0 33 (x5.toNat)) σ0 hw
  have L30 : ∀ a, mu (vX5_chooses_30  Q) a → xX p l e rmX5_chooses s m args below meth c D vwCl (va_A ((wM ad cI cJ cZ) σ) s.heap.size) (wM ad cI cJ cZ) [20, 21, 22, 23, 24, 25, 26, 27, 28, 29, 30, 31, 32, 33] σ 0 0 (MQ below (xQv D (wM ad cI cJ cZ) [20, 21, 22, 23, 24, 25, 26, 27, 28, 29, 30, 31, 32, 33] σ s.heap.size Q) args s 0 0 (va_A ((wM ad cI cJ cZ) σ) s.heap.size)) 6 (a.2.2) 30 [(0, .ref (ad 20)), (1, .int (i32 (a.1))), (5, .int (i32 (a.2.1)))] [] := by
    refine mu_ind (fun K30 hK30 a hw => ?_)
    obtain ⟨x1, x5, σ0⟩ := a
    show xX p l e rmX5_chooses s m args below meth c D vwCl (va_A ((wM ad cI cJ cZ) σ) s.heap.size) (wM ad cI cJ cZ) [20, 21, 22, 23, 24, 25, 26, 27, 28, 29, 30, 31, 32, 33] σ 0 0 (MQ below (xQv D (wM ad cI cJ cZ) [20, 21, 22, 23, 24, 25, 26, 27, 28, 29, 30, 31, 32, 33] σ s.heap.size Q) args s 0 0 (va_A ((wM ad cI cJ cZ) σ) s.heap.size)) 6 σ0 30 [(0, .ref (ad 20)), (1, .int (i32 x1)), (5, .int (i32 x5))] []
    unfold vX5_chooses_30 at hw
    refine xr_iload C 2 dX5_chooses_30 rfl ?_
    refine xr_iconst C dX5_chooses_32 ?_
    obtain ⟨g25, hw⟩ := hw
    refine xr_icmp_ge C g25 ⟨by decide, by decide⟩ 162 dX5_chooses_33 (by decide) (fun c26 => ?_) (fun c26 => ?_)
    · have hw := hw.1 c26
      refine xr_iconst C dX5_chooses_162 ?_
      refine xr_istore C [(0, .ref (ad 20)), (1, .int (i32 x1)), (5, .int (i32 0))] dX5_chooses_163 (by decide) rfl ?_
      refine xr_sub C [0, 2] [(0, .ref (ad 20)), (5, .int (i32 0))] rfl ?_
      exact L165 (0, σ0) hw
    · have hw := hw.2 c26
      refine xr_aload_n C 0 dX5_chooses_36 rfl rfl ?_
      refine xr_get C hinX5 (N := 22) (ci := 5) (a := (ad 20)) 0 rfl rfl 19 (by decide) m0 rfl rfl dX5_chooses_37 ?_
      refine xr_iload C 2 dX5_chooses_40 rfl ?_
      refine xr_iload_n C 1 dX5_chooses_42 rfl rfl ?_
      refine xr_aload_n C 0 dX5_chooses_43 rfl rfl ?_
      refine xr_iload C 2 dX5_chooses_44 rfl ?_
      refine xr_bipush C dX5_chooses_46 (by decide +kernel) ?_
      refine xr_callVi C (ci := 5) (q0 := 0) (As := [.int (i32 x5), .int (i32 6)]) (rest := [.int (i32 x1), .int (i32 x5), .ref (ad 33)]) (xSp_rf _ _) (by decide) (fun h => h) (mX5_of σ0 x5 6 _ hw) (cwV 2 C.2.2.2.2.1 gX5_chooses_X5_of rfl rfl rfl (by decide +kernel) ⟨by decide, by decide⟩) rfl rfl rfl rfl (Nat.le_of_ble_eq_true rfl) ⟨by decide, by decide⟩ dX5_chooses_48 (fun r27 σ28 hw => ?_)
      refine xr_ishr C dX5_chooses_51 ?_
      refine xr_iconst C dX5_chooses_52 ?_
      refine xr_iand C dX5_chooses_53 ?_
      refine xr_iconst C dX5_chooses_54 ?_
      obtain ⟨g29, hw⟩ := hw
      refine xr_icmp_ne C g29 ⟨by decide, by decide⟩ 88 dX5_chooses_55 (by decide) (fun c30 => ?_) (fun c30 => ?_)
      · have hw := hw.1 c30
        exact B88 K30 hK30 x1 x5 x5 σ28 hw
      · have hw := hw.2 c30
        refine xr_iload C 2 dX5_chooses_58 rfl ?_
        refine xr_aload_n C 0 dX5_chooses_60 rfl rfl ?_
        refine xr_get C hinX5 (N := 22) (ci := 5) (a := (ad 20)) 0 rfl rfl 0 (by decide) m3 rfl rfl dX5_chooses_61 ?_
        refine xr_bipush C dX5_chooses_64 (by decide +kernel) ?_
        refine xr_iald C (t0 := 0) 1 rfl rfl (by decide) (N := 64) rfl ⟨by decide, by decide⟩ dX5_chooses_66 ?_
        obtain ⟨g31, hw⟩ := hw
        refine xr_icmp_ge C g25 g31 88 dX5_chooses_67 (by decide) (fun c32 => ?_) (fun c32 => ?_)
        · have hw := hw.1 c32
          exact B88 K30 hK30 x1 x5 x5 σ28 hw
        · have hw := hw.2 c32
          refine xr_aload_n C 0 dX5_chooses_70 rfl rfl ?_
          refine xr_get C hinX5 (N := 22) (ci := 5) (a := (ad 20)) 0 rfl rfl 17 (by decide) m4 rfl rfl dX5_chooses_71 ?_
          refine xr_iload C 2 dX5_chooses_74 rfl ?_
          obtain ⟨g33, hw⟩ := hw
          refine xr_iald C (t0 := 0) 11 rfl rfl (by decide) (N := 3) rfl g33 dX5_chooses_76 ?_
          refine xr_aload_n C 0 dX5_chooses_77 rfl rfl ?_
          refine xr_get C hinX5 (N := 22) (ci := 5) (a := (ad 20)) 0 rfl rfl 19 (by decide) m0 rfl rfl dX5_chooses_78 ?_
          refine xr_iload C 2 dX5_chooses_81 rfl ?_
          refine xr_iald C (t0 := 0) 13 rfl rfl (by decide) (N := 3) rfl g33 dX5_chooses_83 ?_
          refine xr_isub C dX5_chooses_84 ?_
          refine xr_goto C 95 dX5_chooses_85 (by decide) ?_
          exact B95 K30 hK30 x1 x5 x5 ((σ28 31 (x5.toNat)) - (σ28 33 (x5.toNat))) σ28 hw
  show xX p l e rmX5_chooses s m args below meth c D vwCl (va_A ((wM ad cI cJ cZ) σ) s.heap.size) (wM ad cI cJ cZ) [20, 21, 22, 23, 24, 25, 26, 27, 28, 29, 30, 31, 32, 33] σ 0 0 (MQ below (xQv D (wM ad cI cJ cZ) [20, 21, 22, 23, 24, 25, 26, 27, 28, 29, 30, 31, 32, 33] σ s.heap.size Q) args s 0 0 (va_A ((wM ad cI cJ cZ) σ) s.heap.size)) 6 σ 0 [(0, .ref (ad 20)), (1, .int (i32 a1)), (2, .int (i32 a2)), (3, .int (i32 a3)), (4, .int (i32 a4))] []
  unfold vX5_chooses at hw
  refine xr_aload_n C 0 dX5_chooses_0 rfl rfl ?_
  refine xr_get C hinX5 (N := 22) (ci := 5) (a := (ad 20)) 0 rfl rfl 19 (by decide) m0 rfl rfl dX5_chooses_1 ?_
  refine xr_iconst C dX5_chooses_4 ?_
  refine xr_iload_n C 2 dX5_chooses_5 rfl rfl ?_
  refine xr_iast C (t0 := 0) (r := 33) 13 rfl rfl (by decide) (N := 3) rfl ⟨by decide, by decide⟩ wM_st33 (by decide) dX5_chooses_6 ?_
  refine xr_sig (fun σ34 e35 => ?_)
  have hw := hw σ34 e35
  refine xr_aload_n C 0 dX5_chooses_7 rfl rfl ?_
  refine xr_get C hinX5 (N := 22) (ci := 5) (a := (ad 20)) 0 rfl rfl 19 (by decide) m0 rfl rfl dX5_chooses_8 ?_
  refine xr_iconst C dX5_chooses_11 ?_
  refine xr_iload_n C 3 dX5_chooses_12 rfl rfl ?_
  refine xr_iast C (t0 := 0) (r := 33) 13 rfl rfl (by decide) (N := 3) rfl ⟨by decide, by decide⟩ wM_st33 (by decide) dX5_chooses_13 ?_
  refine xr_sig (fun σ36 e37 => ?_)
  have hw := hw σ36 e37
  refine xr_aload_n C 0 dX5_chooses_14 rfl rfl ?_
  refine xr_get C hinX5 (N := 22) (ci := 5) (a := (ad 20)) 0 rfl rfl 19 (by decide) m0 rfl rfl dX5_chooses_15 ?_
  refine xr_iconst C dX5_chooses_18 ?_
  refine xr_iload C 4 dX5_chooses_19 rfl ?_
  refine xr_iast C (t0 := 0) (r := 33) 13 rfl rfl (by decide) (N := 3) rfl ⟨by decide, by decide⟩ wM_st33 (by decide) dX5_chooses_21 ?_
  refine xr_sig (fun σ38 e39 => ?_)
  have hw := hw σ38 e39
  refine xr_aload_n C 0 dX5_chooses_22 rfl rfl ?_
  refine xr_iconst C dX5_chooses_23 ?_
  refine xr_put C (r := 20) (x := (-1)) (ty := .int) hinX5 (N := 22) (ci := 5) tyX5 tyX5_ok nmX5 0 rfl rfl 20 (by decide) m2 rfl rfl (by decide +kernel) rfl rfl (Nat.le_of_ble_eq_true rfl) rfl (by decide) dX5_chooses_24 ?_
  refine xr_sig (fun σ40 e41 => ?_)
  have hw := hw σ40 e41
  refine xr_iconst C dX5_chooses_27 ?_
  refine xr_istore C [(0, .ref (ad 20)), (1, .int (i32 a1)), (2, .int (i32 a2)), (3, .int (i32 a3)), (4, .int (i32 a4)), (5, .int (i32 0))] dX5_chooses_28 (by decide) rfl ?_
  refine xr_sub C [0, 1, 5] [(0, .ref (ad 20)), (1, .int (i32 a1)), (5, .int (i32 0))] rfl ?_
  exact L30 (a1, 0, σ40) hw
abbrev rmX5_bits : Room := { frames := 0, cells := 0, slots := 0, locals := 64 }
set_option maxHeartbeats 8000000 in
set_option maxRecDepth 100000 in
theorem mX5_bits {l : Launch} {D : va_G} {cI cJ cZ : ClassId} (σ : xS) (a0 : Int) (Q : Int → xS → Prop) (hw : vX5_bits a0 σ Q) : xMi False l yX5_bits wsX5_bits rmX5_bits D (xtys cI cJ cZ) wN [] σ [.int (i32 a0)] Q := by
  refine xenter (F := []) (Qc := fun sz => xQi D wN [] σ sz Q) (own := RX5) (cc := cX5_bits) (maxL := 1) (ret := some .int) (by decide) rfl rfl (Nat.le_of_ble_eq_true rfl) ?_
  intro p e s m args below meth c hargs C hr hnm
  show xX p l e rmX5_bits s m args below meth c D vwCl (va_A (wN σ) s.heap.size) wN [] σ 0 0 (MQ below (xQi D wN [] σ s.heap.size Q) args s 0 0 (va_A (wN σ) s.heap.size)) 1 σ 0 [(0, .int (i32 a0))] []
  unfold vX5_bits at hw
  refine xr_iload_n C 0 dX5_bits_0 rfl rfl ?_
  refine xr_iconst C dX5_bits_1 ?_
  refine xr_iand C dX5_bits_2 ?_
  refine xr_iload_n C 0 dX5_bits_3 rfl rfl ?_
  refine xr_iconst C dX5_bits_4 ?_
  refine xr_ishr C dX5_bits_5 ?_
  refine xr_iconst C dX5_bits_6 ?_
  refine xr_iand C dX5_bits_7 ?_
  refine xr_iadd C dX5_bits_8 ?_
  refine xr_iload_n C 0 dX5_bits_9 rfl rfl ?_
  refine xr_iconst C dX5_bits_10 ?_
  refine xr_ishr C dX5_bits_11 ?_
  refine xr_iconst C dX5_bits_12 ?_
  refine xr_iand C dX5_bits_13 ?_
  refine xr_iadd C dX5_bits_14 ?_
  exact xr_iret C hr hw dX5_bits_15
abbrev rmX5_costWith : Room := { frames := 2, cells := 0, slots := 0, locals := 111 }
set_option maxHeartbeats 8000000 in
set_option maxRecDepth 100000 in
theorem mX5_costWith {l : Launch} {D : va_G} {ad : Nat → Nat} {cI cJ cZ : ClassId} (σ : xS) (a1 a2 a3 a4 a5 : Int) (Q : Int → xS → Prop) (hw : vX5_costWith a1 a2 a3 a4 a5 σ Q) : xMi False l yX5_costWith wsX5_costWith rmX5_costWith D (xtys cI cJ cZ) (wM ad cI cJ cZ) [20, 21, 22, 23, 24, 25, 26, 27, 28, 29, 30, 31, 32, 33] σ [.ref (ad 20), .int (i32 a1), .int (i32 a2), .int (i32 a3), .int (i32 a4), .int (i32 a5)] Q := by
  refine xenter (F := [20, 21, 22, 23, 24, 25, 26, 27, 28, 29, 30, 31, 32, 33]) (Qc := fun sz => xQi D (wM ad cI cJ cZ) [20, 21, 22, 23, 24, 25, 26, 27, 28, 29, 30, 31, 32, 33] σ sz Q) (own := RX5) (cc := cX5_costWith) (maxL := 6) (ret := some .int) (by decide) rfl rfl (Nat.le_of_ble_eq_true rfl) ?_
  intro p e s m args below meth c hargs C hr hnm
  have hinX5 : ∀ w ∈ u_ws RX5 TX5 22, w ∈ wsX5_costWith := fun _ h => List.mem_cons_of_mem _ (List.mem_append_right _ h)
  have m0 : (Cond.fieldLink RX5 162 "SandBenchModel" "seconds" "I") ∈ wsX5_costWith := by decide +kernel
  have m1 : (Cond.fieldLink RX5 35 "SandBenchModel" "cost" "[I") ∈ wsX5_costWith := by decide +kernel
  have m2 : (Cond.fieldLink RX5 48 "SandBenchModel" "then" "[I") ∈ wsX5_costWith := by decide +kernel
  show xX p l e rmX5_costWith s m args below meth c D vwCl (va_A ((wM ad cI cJ cZ) σ) s.heap.size) (wM ad cI cJ cZ) [20, 21, 22, 23, 24, 25, 26, 27, 28, 29, 30, 31, 32, 33] σ 0 0 (MQ below (xQi D (wM ad cI cJ cZ) [20, 21, 22, 23, 24, 25, 26, 27, 28, 29, 30, 31, 32, 33] σ s.heap.size Q) args s 0 0 (va_A ((wM ad cI cJ cZ) σ) s.heap.size)) 6 σ 0 [(0, .ref (ad 20)), (1, .int (i32 a1)), (2, .int (i32 a2)), (3, .int (i32 a3)), (4, .int (i32 a4)), (5, .int (i32 a5))] []
  unfold vX5_costWith at hw
  refine xr_aload_n C 0 dX5_costWith_0 rfl rfl ?_
  refine xr_iload_n C 1 dX5_costWith_1 rfl rfl ?_
  refine xr_iload_n C 3 dX5_costWith_2 rfl rfl ?_
  refine xr_iload C 4 dX5_costWith_3 rfl ?_
  refine xr_iload C 5 dX5_costWith_5 rfl ?_
  refine xr_callVv C (ci := 5) (q0 := 0) (As := [.int (i32 a1), .int (i32 a3), .int (i32 a4), .int (i32 a5)]) (rest := []) (xSp_rf _ _) (by decide) (fun h => h) (mX5_chooses σ a1 a3 a4 a5 _ hw) (cwV 4 C.2.2.2.2.1 gX5_costWith_X5_chooses rfl rfl rfl (by decide +kernel) ⟨by decide, by decide⟩) rfl rfl rfl rfl (Nat.le_of_ble_eq_true rfl) ⟨by decide, by decide⟩ dX5_costWith_7 (fun σ2 hw => ?_)
  refine xr_aload_n C 0 dX5_costWith_10 rfl rfl ?_
  refine xr_get C hinX5 (N := 22) (ci := 5) (a := (ad 20)) 0 rfl rfl 20 (by decide) m0 rfl rfl dX5_costWith_11 ?_
  refine xr_iconst C dX5_costWith_14 ?_
  obtain ⟨g3, hw⟩ := hw
  refine xr_icmp_eq C g3 ⟨by decide, by decide⟩ 26 dX5_costWith_15 (by decide) (fun c4 => ?_) (fun c4 => ?_)
  · have hw := hw.1 c4
    refine xr_sipush C dX5_costWith_26 (by decide +kernel) ?_
    exact xr_iret C hr hw dX5_costWith_29
  · have hw := hw.2 c4
    refine xr_aload_n C 0 dX5_costWith_18 rfl rfl ?_
    refine xr_get C hinX5 (N := 22) (ci := 5) (a := (ad 20)) 0 rfl rfl 20 (by decide) m0 rfl rfl dX5_costWith_19 ?_
    refine xr_iload_n C 2 dX5_costWith_22 rfl rfl ?_
    obtain ⟨g5, hw⟩ := hw
    refine xr_icmp_le C g3 g5 30 dX5_costWith_23 (by decide) (fun c6 => ?_) (fun c6 => ?_)
    · have hw := hw.1 c6
      refine xr_iload_n C 1 dX5_costWith_30 rfl rfl ?_
      refine xr_callSi C (As := [.int (i32 a1)]) (rest := []) (xSp_nil _) (by decide) (fun h => h) (mX5_bits σ2 a1 _ hw) (va_cwS 1 C.2.2.2.2.1 gX5_costWith_X5_bits rfl rfl rfl (by decide +kernel) ⟨by decide, by decide⟩) rfl rfl (Nat.le_of_ble_eq_true rfl) ⟨by decide, by decide⟩ dX5_costWith_31 (fun r7 σ8 hw => ?_)
      refine xr_aload_n C 0 dX5_costWith_34 rfl rfl ?_
      refine xr_get C hinX5 (N := 22) (ci := 5) (a := (ad 20)) 0 rfl rfl 20 (by decide) m0 rfl rfl dX5_costWith_35 ?_
      refine xr_iload_n C 2 dX5_costWith_38 rfl rfl ?_
      obtain ⟨g9, hw⟩ := hw
      refine xr_icmp_ne C g9 g5 46 dX5_costWith_39 (by decide) (fun c10 => ?_) (fun c10 => ?_)
      · have hw := hw.1 c10
        refine xr_aload_n C 0 dX5_costWith_46 rfl rfl ?_
        refine xr_get C hinX5 (N := 22) (ci := 5) (a := (ad 20)) 0 rfl rfl 14 (by decide) m1 rfl rfl dX5_costWith_47 ?_
        refine xr_iload_n C 2 dX5_costWith_50 rfl rfl ?_
        refine xr_aload_n C 0 dX5_costWith_51 rfl rfl ?_
        refine xr_get C hinX5 (N := 22) (ci := 5) (a := (ad 20)) 0 rfl rfl 20 (by decide) m0 rfl rfl dX5_costWith_52 ?_
        refine xr_isub C dX5_costWith_55 ?_
        refine xr_aload_n C 0 dX5_costWith_56 rfl rfl ?_
        refine xr_get C hinX5 (N := 22) (ci := 5) (a := (ad 20)) 0 rfl rfl 19 (by decide) m2 rfl rfl dX5_costWith_57 ?_
        refine xr_iconst C dX5_costWith_60 ?_
        refine xr_iald C (t0 := 0) 13 rfl rfl (by decide) (N := 3) rfl ⟨by decide, by decide⟩ dX5_costWith_61 ?_
        refine xr_aload_n C 0 dX5_costWith_62 rfl rfl ?_
        refine xr_get C hinX5 (N := 22) (ci := 5) (a := (ad 20)) 0 rfl rfl 19 (by decide) m2 rfl rfl dX5_costWith_63 ?_
        refine xr_iconst C dX5_costWith_66 ?_
        refine xr_iald C (t0 := 0) 13 rfl rfl (by decide) (N := 3) rfl ⟨by decide, by decide⟩ dX5_costWith_67 ?_
        refine xr_aload_n C 0 dX5_costWith_68 rfl rfl ?_
        refine xr_get C hinX5 (N := 22) (ci := 5) (a := (ad 20)) 0 rfl rfl 19 (by decide) m2 rfl rfl dX5_costWith_69 ?_
        refine xr_iconst C dX5_costWith_72 ?_
        refine xr_iald C (t0 := 0) 13 rfl rfl (by decide) (N := 3) rfl ⟨by decide, by decide⟩ dX5_costWith_73 ?_
        refine xr_callSi C (As := [.int (i32 (a2 - (σ8 20 20))), .int (i32 (σ8 33 0)), .int (i32 (σ8 33 1)), .int (i32 (σ8 33 2))]) (rest := [.ref (ad 29), .int (i32 r7)]) (xSp_nil _) (by decide) (fun h => h) (mX5_place σ8 (a2 - (σ8 20 20)) (σ8 33 0) (σ8 33 1) (σ8 33 2) _ hw) (va_cwS 4 C.2.2.2.2.1 gX5_costWith_X5_place rfl rfl rfl (by decide +kernel) ⟨by decide, by decide⟩) rfl rfl (Nat.le_of_ble_eq_true rfl) ⟨by decide, by decide⟩ dX5_costWith_74 (fun r11 σ12 hw => ?_)
        obtain ⟨g13, hw⟩ := hw
        refine xr_iald C (t0 := 0) 9 rfl rfl (by decide) (N := 90077) rfl g13 dX5_costWith_77 ?_
        refine xr_iadd C dX5_costWith_78 ?_
        exact xr_iret C hr hw dX5_costWith_79
      · have hw := hw.2 c10
        refine xr_iconst C dX5_costWith_42 ?_
        refine xr_goto C 78 dX5_costWith_43 (by decide) ?_
        refine xr_iadd C dX5_costWith_78 ?_
        exact xr_iret C hr hw dX5_costWith_79
    · have hw := hw.2 c6
      refine xr_sipush C dX5_costWith_26 (by decide +kernel) ?_
      exact xr_iret C hr hw dX5_costWith_29
abbrev rmX5_best : Room := { frames := 3, cells := 0, slots := 0, locals := 136 }
set_option maxHeartbeats 8000000 in
set_option maxRecDepth 100000 in
theorem mX5_best {l : Launch} {D : va_G} {ad : Nat → Nat} {cI cJ cZ : ClassId} (σ : xS) (a1 a2 a3 a4 : Int) (Q : Int → xS → Prop) (hw : vX5_best a1 a2 a3 a4 σ Q) : xMi False l yX5_best wsX5_best rmX5_best D (xtys cI cJ cZ) (wM ad cI cJ cZ) [20, 21, 22, 23, 24, 25, 26, 27, 28, 29, 30, 31, 32, 33] σ [.ref (ad 20), .int (i32 a1), .int (i32 a2), .int (i32 a3), .int (i32 a4)] Q := by
  refine xenter (F := [20, 21, 22, 23, 24, 25, 26, 27, 28, 29, 30, 31, 32, 33]) (Qc := fun sz => xQi D (wM ad cI cJ cZ) [20, 21, 22, 23, 24, 25, 26, 27, 28, 29, 30, 31, 32, 33] σ sz Q) (own := RX5) (cc := cX5_best) (maxL := 8) (ret := some .int) (by decide) rfl rfl (Nat.le_of_ble_eq_true rfl) ?_
  intro p e s m args below meth c hargs C hr hnm
  have B41 : ∀ (K8 : Int × Int × Int × Int × Int × Int × xS → Prop) (hK8 : ∀ a, K8 a → xX p l e rmX5_best s m args below meth c D vwCl (va_A ((wM ad cI cJ cZ) σ) s.heap.size) (wM ad cI cJ cZ) [20, 21, 22, 23, 24, 25, 26, 27, 28, 29, 30, 31, 32, 33] σ 0 0 (MQ below (xQi D (wM ad cI cJ cZ) [20, 21, 22, 23, 24, 25, 26, 27, 28, 29, 30, 31, 32, 33] σ s.heap.size Q) args s 0 0 (va_A ((wM ad cI cJ cZ) σ) s.heap.size)) 8 (a.2.2.2.2.2.2) 8 [(0, .ref (ad 20)), (1, .int (i32 (a.1))), (2, .int (i32 (a.2.1))), (3, .int (i32 (a.2.2.1))), (4, .int (i32 (a.2.2.2.1))), (5, .int (i32 (a.2.2.2.2.1))), (6, .int (i32 (a.2.2.2.2.2.1)))] []) (x1 x2 x3 x4 x5 x6 y0 : Int) (σ0 : xS), vX5_best_41 K8 Q x1 x2 x3 x4 x5 x6 y0 σ0 → xX p l e rmX5_best s m args below meth c D vwCl (va_A ((wM ad cI cJ cZ) σ) s.heap.size) (wM ad cI cJ cZ) [20, 21, 22, 23, 24, 25, 26, 27, 28, 29, 30, 31, 32, 33] σ 0 0 (MQ below (xQi D (wM ad cI cJ cZ) [20, 21, 22, 23, 24, 25, 26, 27, 28, 29, 30, 31, 32, 33] σ s.heap.size Q) args s 0 0 (va_A ((wM ad cI cJ cZ) σ) s.heap.size)) 8 σ0 41 [(0, .ref (ad 20)), (1, .int (i32 x1)), (2, .int (i32 x2)), (3, .int (i32 x3)), (4, .int (i32 x4)), (5, .int (i32 x5)), (6, .int (i32 x6))] [.int (i32 y0)] := by
    intro K8 hK8 x1 x2 x3 x4 x5 x6 y0 σ0 hw
    unfold vX5_best_41 at hw
    refine xr_istore C [(0, .ref (ad 20)), (1, .int (i32 x1)), (2, .int (i32 x2)), (3, .int (i32 x3)), (4, .int (i32 x4)), (5, .int (i32 x5)), (6, .int (i32 x6)), (7, .int (i32 y0))] dX5_best_41 (by decide) rfl ?_
    refine xr_iload C 7 dX5_best_43 rfl ?_
    refine xr_iload C 5 dX5_best_45 rfl ?_
    obtain ⟨g1, hw⟩ := hw
    obtain ⟨g2, hw⟩ := hw
    refine xr_icmp_ge C g1 g2 55 dX5_best_47 (by decide) (fun c3 => ?_) (fun c3 => ?_)
    · have hw := hw.1 c3
      refine xr_iload C 5 dX5_best_55 rfl ?_
      refine xr_istore C [(0, .ref (ad 20)), (1, .int (i32 x1)), (2, .int (i32 x2)), (3, .int (i32 x3)), (4, .int (i32 x4)), (5, .int (i32 x5)), (6, .int (i32 x6)), (7, .int (i32 y0))] dX5_best_57 (by decide) rfl ?_
      refine xr_iinc C 6 [(0, .ref (ad 20)), (1, .int (i32 x1)), (2, .int (i32 x2)), (3, .int (i32 x3)), (4, .int (i32 x4)), (5, .int (i32 x5)), (6, .int (i32 (x6 + 1))), (7, .int (i32 y0))] dX5_best_59 rfl (by decide) rfl ?_
      refine xr_goto C 8 dX5_best_62 (by decide) ?_
      refine xr_sub C [0, 1, 2, 3, 4, 5, 6] [(0, .ref (ad 20)), (1, .int (i32 x1)), (2, .int (i32 x2)), (3, .int (i32 x3)), (4, .int (i32 x4)), (5, .int (i32 x5)), (6, .int (i32 (x6 + 1)))] rfl ?_
      exact hK8 (x1, x2, x3, x4, x5, (x6 + 1), σ0) hw
    · have hw := hw.2 c3
      refine xr_iload C 7 dX5_best_50 rfl ?_
      refine xr_goto C 57 dX5_best_52 (by decide) ?_
      refine xr_istore C [(0, .ref (ad 20)), (1, .int (i32 x1)), (2, .int (i32 x2)), (3, .int (i32 x3)), (4, .int (i32 x4)), (5, .int (i32 y0)), (6, .int (i32 x6)), (7, .int (i32 y0))] dX5_best_57 (by decide) rfl ?_
      refine xr_iinc C 6 [(0, .ref (ad 20)), (1, .int (i32 x1)), (2, .int (i32 x2)), (3, .int (i32 x3)), (4, .int (i32 x4)), (5, .int (i32 y0)), (6, .int (i32 (x6 + 1))), (7, .int (i32 y0))] dX5_best_59 rfl (by decide) rfl ?_
      refine xr_goto C 8 dX5_best_62 (by decide) ?_
      refine xr_sub C [0, 1, 2, 3, 4, 5, 6] [(0, .ref (ad 20)), (1, .int (i32 x1)), (2, .int (i32 x2)), (3, .int (i32 x3)), (4, .int (i32 x4)), (5, .int (i32 y0)), (6, .int (i32 (x6 + 1)))] rfl ?_
      exact hK8 (x1, x2, x3, x4, y0, (x6 + 1), σ0) hw
  have L8 : ∀ a, mu (vX5_best_8  Q) a → xX p l e rmX5_best s m args below meth c D vwCl (va_A ((wM ad cI cJ cZ) σ) s.heap.size) (wM ad cI cJ cZ) [20, 21, 22, 23, 24, 25, 26, 27, 28, 29, 30, 31, 32, 33] σ 0 0 (MQ below (xQi D (wM ad cI cJ cZ) [20, 21, 22, 23, 24, 25, 26, 27, 28, 29, 30, 31, 32, 33] σ s.heap.size Q) args s 0 0 (va_A ((wM ad cI cJ cZ) σ) s.heap.size)) 8 (a.2.2.2.2.2.2) 8 [(0, .ref (ad 20)), (1, .int (i32 (a.1))), (2, .int (i32 (a.2.1))), (3, .int (i32 (a.2.2.1))), (4, .int (i32 (a.2.2.2.1))), (5, .int (i32 (a.2.2.2.2.1))), (6, .int (i32 (a.2.2.2.2.2.1)))] [] := by
    refine mu_ind (fun K8 hK8 a hw => ?_)
    obtain ⟨x1, x2, x3, x4, x5, x6, σ0⟩ := a
    show xX p l e rmX5_best s m args below meth c D vwCl (va_A ((wM ad cI cJ cZ) σ) s.heap.size) (wM ad cI cJ cZ) [20, 21, 22, 23, 24, 25, 26, 27, 28, 29, 30, 31, 32, 33] σ 0 0 (MQ below (xQi D (wM ad cI cJ cZ) [20, 21, 22, 23, 24, 25, 26, 27, 28, 29, 30, 31, 32, 33] σ s.heap.size Q) args s 0 0 (va_A ((wM ad cI cJ cZ) σ) s.heap.size)) 8 σ0 8 [(0, .ref (ad 20)), (1, .int (i32 x1)), (2, .int (i32 x2)), (3, .int (i32 x3)), (4, .int (i32 x4)), (5, .int (i32 x5)), (6, .int (i32 x6))] []
    unfold vX5_best_8 at hw
    refine xr_iload C 6 dX5_best_8 rfl ?_
    refine xr_bipush C dX5_best_10 (by decide +kernel) ?_
    obtain ⟨g4, hw⟩ := hw
    refine xr_icmp_ge C g4 ⟨by decide, by decide⟩ 65 dX5_best_12 (by decide) (fun c5 => ?_) (fun c5 => ?_)
    · have hw := hw.1 c5
      refine xr_iload C 5 dX5_best_65 rfl ?_
      exact xr_iret C hr hw dX5_best_67
    · have hw := hw.2 c5
      refine xr_aload_n C 0 dX5_best_15 rfl rfl ?_
      refine xr_iload C 6 dX5_best_16 rfl ?_
      refine xr_callVi C (ci := 5) (q0 := 0) (As := [.int (i32 x6)]) (rest := []) (xSp_rf _ _) (by decide) (fun h => h) (mX5_isStacks σ0 x6 _ hw) (cwV 1 C.2.2.2.2.1 gX5_best_X5_isStacks rfl rfl rfl (by decide +kernel) ⟨by decide, by decide⟩) rfl rfl rfl rfl (Nat.le_of_ble_eq_true rfl) ⟨by decide, by decide⟩ dX5_best_18 (fun r6 σ7 hw => ?_)
      obtain ⟨g8, hw⟩ := hw
      refine xr_if_eq C g8 38 dX5_best_21 (by decide) (fun c9 => ?_) (fun c9 => ?_)
      · have hw := hw.1 c9
        refine xr_sipush C dX5_best_38 (by decide +kernel) ?_
        exact B41 K8 hK8 x1 x2 x3 x4 x5 x6 1000 σ7 hw
      · have hw := hw.2 c9
        refine xr_aload_n C 0 dX5_best_24 rfl rfl ?_
        refine xr_iload C 6 dX5_best_25 rfl ?_
        refine xr_iload_n C 1 dX5_best_27 rfl rfl ?_
        refine xr_iload_n C 2 dX5_best_28 rfl rfl ?_
        refine xr_iload_n C 3 dX5_best_29 rfl rfl ?_
        refine xr_iload C 4 dX5_best_30 rfl ?_
        refine xr_callVi C (ci := 5) (q0 := 0) (As := [.int (i32 x6), .int (i32 x1), .int (i32 x2), .int (i32 x3), .int (i32 x4)]) (rest := []) (xSp_rf _ _) (by decide) (fun h => h) (mX5_costWith σ7 x6 x1 x2 x3 x4 _ hw) (cwV 5 C.2.2.2.2.1 gX5_best_X5_costWith rfl rfl rfl (by decide +kernel) ⟨by decide, by decide⟩) rfl rfl rfl rfl (Nat.le_of_ble_eq_true rfl) ⟨by decide, by decide⟩ dX5_best_32 (fun r10 σ11 hw => ?_)
        refine xr_goto C 41 dX5_best_35 (by decide) ?_
        exact B41 K8 hK8 x1 x2 x3 x4 x5 x6 r10 σ11 hw
  show xX p l e rmX5_best s m args below meth c D vwCl (va_A ((wM ad cI cJ cZ) σ) s.heap.size) (wM ad cI cJ cZ) [20, 21, 22, 23, 24, 25, 26, 27, 28, 29, 30, 31, 32, 33] σ 0 0 (MQ below (xQi D (wM ad cI cJ cZ) [20, 21, 22, 23, 24, 25, 26, 27, 28, 29, 30, 31, 32, 33] σ s.heap.size Q) args s 0 0 (va_A ((wM ad cI cJ cZ) σ) s.heap.size)) 8 σ 0 [(0, .ref (ad 20)), (1, .int (i32 a1)), (2, .int (i32 a2)), (3, .int (i32 a3)), (4, .int (i32 a4))] []
  unfold vX5_best at hw
  refine xr_sipush C dX5_best_0 (by decide +kernel) ?_
  refine xr_istore C [(0, .ref (ad 20)), (1, .int (i32 a1)), (2, .int (i32 a2)), (3, .int (i32 a3)), (4, .int (i32 a4)), (5, .int (i32 1000))] dX5_best_3 (by decide) rfl ?_
  refine xr_iconst C dX5_best_5 ?_
  refine xr_istore C [(0, .ref (ad 20)), (1, .int (i32 a1)), (2, .int (i32 a2)), (3, .int (i32 a3)), (4, .int (i32 a4)), (5, .int (i32 1000)), (6, .int (i32 0))] dX5_best_6 (by decide) rfl ?_
  exact L8 (a1, a2, a3, a4, 1000, 0, σ) hw
abbrev rmX5_fills : Room := { frames := 4, cells := 0, slots := 0, locals := 163 }
set_option maxHeartbeats 8000000 in
set_option maxRecDepth 100000 in
theorem mX5_fills {l : Launch} {D : va_G} {ad : Nat → Nat} {cI cJ cZ : ClassId} (σ : xS) (Q : xS → Prop) (hw : vX5_fills σ Q) : xMv False l yX5_fills wsX5_fills rmX5_fills D (xtys cI cJ cZ) (wM ad cI cJ cZ) [20, 21, 22, 23, 24, 25, 26, 27, 28, 29, 30, 31, 32, 33] σ [.ref (ad 20)] Q := by
  refine xenter (F := [20, 21, 22, 23, 24, 25, 26, 27, 28, 29, 30, 31, 32, 33]) (Qc := fun sz => xQv D (wM ad cI cJ cZ) [20, 21, 22, 23, 24, 25, 26, 27, 28, 29, 30, 31, 32, 33] σ sz Q) (own := RX5) (cc := cX5_fills) (maxL := 5) (ret := none) (by decide) rfl rfl (Nat.le_of_ble_eq_true rfl) ?_
  intro p e s m args below meth c hargs C hr hnm
  have hinX5 : ∀ w ∈ u_ws RX5 TX5 22, w ∈ wsX5_fills := fun _ h => List.mem_cons_of_mem _ (List.mem_append_right _ h)
  have m0 : (Cond.fieldLink RX5 41 "SandBenchModel" "amount" "[I") ∈ wsX5_fills := by decide +kernel
  have m1 : (Cond.fieldLink RX5 35 "SandBenchModel" "cost" "[I") ∈ wsX5_fills := by decide +kernel
  have L43 : ∀ (K10 : Int × xS → Prop) (K18 : Int × Int × xS → Prop) (K30 : Int × Int × Int × xS → Prop) (hK10 : ∀ a, K10 a → xX p l e rmX5_fills s m args below meth c D vwCl (va_A ((wM ad cI cJ cZ) σ) s.heap.size) (wM ad cI cJ cZ) [20, 21, 22, 23, 24, 25, 26, 27, 28, 29, 30, 31, 32, 33] σ 0 0 (MQ below (xQv D (wM ad cI cJ cZ) [20, 21, 22, 23, 24, 25, 26, 27, 28, 29, 30, 31, 32, 33] σ s.heap.size Q) args s 0 0 (va_A ((wM ad cI cJ cZ) σ) s.heap.size)) 5 (a.2) 10 [(0, .ref (ad 20)), (1, .int (i32 (a.1)))] []) (hK18 : ∀ a, K18 a → xX p l e rmX5_fills s m args below meth c D vwCl (va_A ((wM ad cI cJ cZ) σ) s.heap.size) (wM ad cI cJ cZ) [20, 21, 22, 23, 24, 25, 26, 27, 28, 29, 30, 31, 32, 33] σ 0 0 (MQ below (xQv D (wM ad cI cJ cZ) [20, 21, 22, 23, 24, 25, 26, 27, 28, 29, 30, 31, 32, 33] σ s.heap.size Q) args s 0 0 (va_A ((wM ad cI cJ cZ) σ) s.heap.size)) 5 (a.2.2) 18 [(0, .ref (ad 20)), (1, .int (i32 (a.1))), (2, .int (i32 (a.2.1)))] []) (hK30 : ∀ a, K30 a → xX p l e rmX5_fills s m args below meth c D vwCl (va_A ((wM ad cI cJ cZ) σ) s.heap.size) (wM ad cI cJ cZ) [20, 21, 22, 23, 24, 25, 26, 27, 28, 29, 30, 31, 32, 33] σ 0 0 (MQ below (xQv D (wM ad cI cJ cZ) [20, 21, 22, 23, 24, 25, 26, 27, 28, 29, 30, 31, 32, 33] σ s.heap.size Q) args s 0 0 (va_A ((wM ad cI cJ cZ) σ) s.heap.size)) 5 (a.2.2.2) 30 [(0, .ref (ad 20)), (1, .int (i32 (a.1))), (2, .int (i32 (a.2.1))), (3, .int (i32 (a.2.2.1)))] []), ∀ a, mu (vX5_fills_43 K10 K18 K30 Q) a → xX p l e rmX5_fills s m args below meth c D vwCl (va_A ((wM ad cI cJ cZ) σ) s.heap.size) (wM ad cI cJ cZ) [20, 21, 22, 23, 24, 25, 26, 27, 28, 29, 30, 31, 32, 33] σ 0 0 (MQ below (xQv D (wM ad cI cJ cZ) [20, 21, 22, 23, 24, 25, 26, 27, 28, 29, 30, 31, 32, 33] σ s.heap.size Q) args s 0 0 (va_A ((wM ad cI cJ cZ) σ) s.heap.size)) 5 (a.2.2.2.2) 43 [(0, .ref (ad 20)), (1, .int (i32 (a.1))), (2, .int (i32 (a.2.1))), (3, .int (i32 (a.2.2.1))), (4, .int (i32 (a.2.2.2.1)))] [] := by
    intro K10 K18 K30 hK10 hK18 hK30
    refine mu_ind (fun K43 hK43 a hw => ?_)
    obtain ⟨x1, x2, x3, x4, σ0⟩ := a
    show xX p l e rmX5_fills s m args below meth c D vwCl (va_A ((wM ad cI cJ cZ) σ) s.heap.size) (wM ad cI cJ cZ) [20, 21, 22, 23, 24, 25, 26, 27, 28, 29, 30, 31, 32, 33] σ 0 0 (MQ below (xQv D (wM ad cI cJ cZ) [20, 21, 22, 23, 24, 25, 26, 27, 28, 29, 30, 31, 32, 33] σ s.heap.size Q) args s 0 0 (va_A ((wM ad cI cJ cZ) σ) s.heap.size)) 5 σ0 43 [(0, .ref (ad 20)), (1, .int (i32 x1)), (2, .int (i32 x2)), (3, .int (i32 x3)), (4, .int (i32 x4))] []
    unfold vX5_fills_43 at hw
    refine xr_iload C 4 dX5_fills_43 rfl ?_
    refine xr_aload_n C 0 dX5_fills_45 rfl rfl ?_
    refine xr_get C hinX5 (N := 22) (ci := 5) (a := (ad 20)) 0 rfl rfl 17 (by decide) m0 rfl rfl dX5_fills_46 ?_
    refine xr_iconst C dX5_fills_49 ?_
    refine xr_iald C (t0 := 0) 11 rfl rfl (by decide) (N := 3) rfl ⟨by decide, by decide⟩ dX5_fills_50 ?_
    obtain ⟨g1, hw⟩ := hw
    obtain ⟨g2, hw⟩ := hw
    refine xr_icmp_gt C g1 g2 82 dX5_fills_51 (by decide) (fun c3 => ?_) (fun c3 => ?_)
    · have hw := hw.1 c3
      refine xr_iinc C 3 [(0, .ref (ad 20)), (1, .int (i32 x1)), (2, .int (i32 x2)), (3, .int (i32 (x3 + 1))), (4, .int (i32 x4))] dX5_fills_82 rfl (by decide) rfl ?_
      refine xr_goto C 30 dX5_fills_85 (by decide) ?_
      refine xr_sub C [0, 1, 2, 3] [(0, .ref (ad 20)), (1, .int (i32 x1)), (2, .int (i32 x2)), (3, .int (i32 (x3 + 1)))] rfl ?_
      exact hK30 (x1, x2, (x3 + 1), σ0) hw
    · have hw := hw.2 c3
      refine xr_aload_n C 0 dX5_fills_54 rfl rfl ?_
      refine xr_get C hinX5 (N := 22) (ci := 5) (a := (ad 20)) 0 rfl rfl 14 (by decide) m1 rfl rfl dX5_fills_55 ?_
      refine xr_iload_n C 1 dX5_fills_58 rfl rfl ?_
      refine xr_iload_n C 2 dX5_fills_59 rfl rfl ?_
      refine xr_iload_n C 3 dX5_fills_60 rfl rfl ?_
      refine xr_iload C 4 dX5_fills_61 rfl ?_
      refine xr_callSi C (As := [.int (i32 x1), .int (i32 x2), .int (i32 x3), .int (i32 x4)]) (rest := [.ref (ad 29)]) (xSp_nil _) (by decide) (fun h => h) (mX5_place σ0 x1 x2 x3 x4 _ hw) (va_cwS 4 C.2.2.2.2.1 gX5_fills_X5_place rfl rfl rfl (by decide +kernel) ⟨by decide, by decide⟩) rfl rfl (Nat.le_of_ble_eq_true rfl) ⟨by decide, by decide⟩ dX5_fills_63 (fun r4 σ5 hw => ?_)
      refine xr_aload_n C 0 dX5_fills_66 rfl rfl ?_
      refine xr_iload_n C 1 dX5_fills_67 rfl rfl ?_
      refine xr_iload_n C 2 dX5_fills_68 rfl rfl ?_
      refine xr_iload_n C 3 dX5_fills_69 rfl rfl ?_
      refine xr_iload C 4 dX5_fills_70 rfl ?_
      refine xr_callVi C (ci := 5) (q0 := 0) (As := [.int (i32 x1), .int (i32 x2), .int (i32 x3), .int (i32 x4)]) (rest := [.int (i32 r4), .ref (ad 29)]) (xSp_rf _ _) (by decide) (fun h => h) (mX5_best σ5 x1 x2 x3 x4 _ hw) (cwV 4 C.2.2.2.2.1 gX5_fills_X5_best rfl rfl rfl (by decide +kernel) ⟨by decide, by decide⟩) rfl rfl rfl rfl (Nat.le_of_ble_eq_true rfl) ⟨by decide, by decide⟩ dX5_fills_72 (fun r6 σ7 hw => ?_)
      obtain ⟨g8, hw⟩ := hw
      refine xr_iast C (t0 := 0) (r := 29) 9 rfl rfl (by decide) (N := 90077) rfl g8 wM_st29 (by decide) dX5_fills_75 ?_
      refine xr_sig (fun σ9 e10 => ?_)
      have hw := hw σ9 e10
      refine xr_iinc C 4 [(0, .ref (ad 20)), (1, .int (i32 x1)), (2, .int (i32 x2)), (3, .int (i32 x3)), (4, .int (i32 (x4 + 1)))] dX5_fills_76 rfl (by decide) rfl ?_
      refine xr_goto C 43 dX5_fills_79 (by decide) ?_
      exact hK43 (x1, x2, x3, (x4 + 1), σ9) hw
  have L30 : ∀ (K10 : Int × xS → Prop) (K18 : Int × Int × xS → Prop) (hK10 : ∀ a, K10 a → xX p l e rmX5_fills s m args below meth c D vwCl (va_A ((wM ad cI cJ cZ) σ) s.heap.size) (wM ad cI cJ cZ) [20, 21, 22, 23, 24, 25, 26, 27, 28, 29, 30, 31, 32, 33] σ 0 0 (MQ below (xQv D (wM ad cI cJ cZ) [20, 21, 22, 23, 24, 25, 26, 27, 28, 29, 30, 31, 32, 33] σ s.heap.size Q) args s 0 0 (va_A ((wM ad cI cJ cZ) σ) s.heap.size)) 5 (a.2) 10 [(0, .ref (ad 20)), (1, .int (i32 (a.1)))] []) (hK18 : ∀ a, K18 a → xX p l e rmX5_fills s m args below meth c D vwCl (va_A ((wM ad cI cJ cZ) σ) s.heap.size) (wM ad cI cJ cZ) [20, 21, 22, 23, 24, 25, 26, 27, 28, 29, 30, 31, 32, 33] σ 0 0 (MQ below (xQv D (wM ad cI cJ cZ) [20, 21, 22, 23, 24, 25, 26, 27, 28, 29, 30, 31, 32, 33] σ s.heap.size Q) args s 0 0 (va_A ((wM ad cI cJ cZ) σ) s.heap.size)) 5 (a.2.2) 18 [(0, .ref (ad 20)), (1, .int (i32 (a.1))), (2, .int (i32 (a.2.1)))] []), ∀ a, mu (vX5_fills_30 K10 K18 Q) a → xX p l e rmX5_fills s m args below meth c D vwCl (va_A ((wM ad cI cJ cZ) σ) s.heap.size) (wM ad cI cJ cZ) [20, 21, 22, 23, 24, 25, 26, 27, 28, 29, 30, 31, 32, 33] σ 0 0 (MQ below (xQv D (wM ad cI cJ cZ) [20, 21, 22, 23, 24, 25, 26, 27, 28, 29, 30, 31, 32, 33] σ s.heap.size Q) args s 0 0 (va_A ((wM ad cI cJ cZ) σ) s.heap.size)) 5 (a.2.2.2) 30 [(0, .ref (ad 20)), (1, .int (i32 (a.1))), (2, .int (i32 (a.2.1))), (3, .int (i32 (a.2.2.1)))] [] := by
    intro K10 K18 hK10 hK18
    refine mu_ind (fun K30 hK30 a hw => ?_)
    obtain ⟨x1, x2, x3, σ0⟩ := a
    show xX p l e rmX5_fills s m args below meth c D vwCl (va_A ((wM ad cI cJ cZ) σ) s.heap.size) (wM ad cI cJ cZ) [20, 21, 22, 23, 24, 25, 26, 27, 28, 29, 30, 31, 32, 33] σ 0 0 (MQ below (xQv D (wM ad cI cJ cZ) [20, 21, 22, 23, 24, 25, 26, 27, 28, 29, 30, 31, 32, 33] σ s.heap.size Q) args s 0 0 (va_A ((wM ad cI cJ cZ) σ) s.heap.size)) 5 σ0 30 [(0, .ref (ad 20)), (1, .int (i32 x1)), (2, .int (i32 x2)), (3, .int (i32 x3))] []
    unfold vX5_fills_30 at hw
    refine xr_iload_n C 3 dX5_fills_30 rfl rfl ?_
    refine xr_aload_n C 0 dX5_fills_31 rfl rfl ?_
    refine xr_get C hinX5 (N := 22) (ci := 5) (a := (ad 20)) 0 rfl rfl 17 (by decide) m0 rfl rfl dX5_fills_32 ?_
    refine xr_iconst C dX5_fills_35 ?_
    refine xr_iald C (t0 := 0) 11 rfl rfl (by decide) (N := 3) rfl ⟨by decide, by decide⟩ dX5_fills_36 ?_
    obtain ⟨g11, hw⟩ := hw
    obtain ⟨g12, hw⟩ := hw
    refine xr_icmp_gt C g11 g12 88 dX5_fills_37 (by decide) (fun c13 => ?_) (fun c13 => ?_)
    · have hw := hw.1 c13
      refine xr_iinc C 2 [(0, .ref (ad 20)), (1, .int (i32 x1)), (2, .int (i32 (x2 + 1))), (3, .int (i32 x3))] dX5_fills_88 rfl (by decide) rfl ?_
      refine xr_goto C 18 dX5_fills_91 (by decide) ?_
      refine xr_sub C [0, 1, 2] [(0, .ref (ad 20)), (1, .int (i32 x1)), (2, .int (i32 (x2 + 1)))] rfl ?_
      exact hK18 (x1, (x2 + 1), σ0) hw
    · have hw := hw.2 c13
      refine xr_iconst C dX5_fills_40 ?_
      refine xr_istore C [(0, .ref (ad 20)), (1, .int (i32 x1)), (2, .int (i32 x2)), (3, .int (i32 x3)), (4, .int (i32 0))] dX5_fills_41 (by decide) rfl ?_
      exact L43 K10 K18 K30 hK10 hK18 hK30 (x1, x2, x3, 0, σ0) hw
  have L18 : ∀ (K10 : Int × xS → Prop) (hK10 : ∀ a, K10 a → xX p l e rmX5_fills s m args below meth c D vwCl (va_A ((wM ad cI cJ cZ) σ) s.heap.size) (wM ad cI cJ cZ) [20, 21, 22, 23, 24, 25, 26, 27, 28, 29, 30, 31, 32, 33] σ 0 0 (MQ below (xQv D (wM ad cI cJ cZ) [20, 21, 22, 23, 24, 25, 26, 27, 28, 29, 30, 31, 32, 33] σ s.heap.size Q) args s 0 0 (va_A ((wM ad cI cJ cZ) σ) s.heap.size)) 5 (a.2) 10 [(0, .ref (ad 20)), (1, .int (i32 (a.1)))] []), ∀ a, mu (vX5_fills_18 K10 Q) a → xX p l e rmX5_fills s m args below meth c D vwCl (va_A ((wM ad cI cJ cZ) σ) s.heap.size) (wM ad cI cJ cZ) [20, 21, 22, 23, 24, 25, 26, 27, 28, 29, 30, 31, 32, 33] σ 0 0 (MQ below (xQv D (wM ad cI cJ cZ) [20, 21, 22, 23, 24, 25, 26, 27, 28, 29, 30, 31, 32, 33] σ s.heap.size Q) args s 0 0 (va_A ((wM ad cI cJ cZ) σ) s.heap.size)) 5 (a.2.2) 18 [(0, .ref (ad 20)), (1, .int (i32 (a.1))), (2, .int (i32 (a.2.1)))] [] := by
    intro K10 hK10
    refine mu_ind (fun K18 hK18 a hw => ?_)
    obtain ⟨x1, x2, σ0⟩ := a
    show xX p l e rmX5_fills s m args below meth c D vwCl (va_A ((wM ad cI cJ cZ) σ) s.heap.size) (wM ad cI cJ cZ) [20, 21, 22, 23, 24, 25, 26, 27, 28, 29, 30, 31, 32, 33] σ 0 0 (MQ below (xQv D (wM ad cI cJ cZ) [20, 21, 22, 23, 24, 25, 26, 27, 28, 29, 30, 31, 32, 33] σ s.heap.size Q) args s 0 0 (va_A ((wM ad cI cJ cZ) σ) s.heap.size)) 5 σ0 18 [(0, .ref (ad 20)), (1, .int (i32 x1)), (2, .int (i32 x2))] []
    unfold vX5_fills_18 at hw
    refine xr_iload_n C 2 dX5_fills_18 rfl rfl ?_
    refine xr_aload_n C 0 dX5_fills_19 rfl rfl ?_
    refine xr_get C hinX5 (N := 22) (ci := 5) (a := (ad 20)) 0 rfl rfl 17 (by decide) m0 rfl rfl dX5_fills_20 ?_
    refine xr_iconst C dX5_fills_23 ?_
    refine xr_iald C (t0 := 0) 11 rfl rfl (by decide) (N := 3) rfl ⟨by decide, by decide⟩ dX5_fills_24 ?_
    obtain ⟨g14, hw⟩ := hw
    obtain ⟨g15, hw⟩ := hw
    refine xr_icmp_gt C g14 g15 94 dX5_fills_25 (by decide) (fun c16 => ?_) (fun c16 => ?_)
    · have hw := hw.1 c16
      refine xr_iinc C 1 [(0, .ref (ad 20)), (1, .int (i32 (x1 + 1))), (2, .int (i32 x2))] dX5_fills_94 rfl (by decide) rfl ?_
      refine xr_goto C 10 dX5_fills_97 (by decide) ?_
      refine xr_sub C [0, 1] [(0, .ref (ad 20)), (1, .int (i32 (x1 + 1)))] rfl ?_
      exact hK10 ((x1 + 1), σ0) hw
    · have hw := hw.2 c16
      refine xr_iconst C dX5_fills_28 ?_
      refine xr_istore_n C [(0, .ref (ad 20)), (1, .int (i32 x1)), (2, .int (i32 x2)), (3, .int (i32 0))] dX5_fills_29 rfl (by decide) rfl ?_
      exact L30 K10 K18 hK10 hK18 (x1, x2, 0, σ0) hw
  have L10 : ∀ a, mu (vX5_fills_10  Q) a → xX p l e rmX5_fills s m args below meth c D vwCl (va_A ((wM ad cI cJ cZ) σ) s.heap.size) (wM ad cI cJ cZ) [20, 21, 22, 23, 24, 25, 26, 27, 28, 29, 30, 31, 32, 33] σ 0 0 (MQ below (xQv D (wM ad cI cJ cZ) [20, 21, 22, 23, 24, 25, 26, 27, 28, 29, 30, 31, 32, 33] σ s.heap.size Q) args s 0 0 (va_A ((wM ad cI cJ cZ) σ) s.heap.size)) 5 (a.2) 10 [(0, .ref (ad 20)), (1, .int (i32 (a.1)))] [] := by
    refine mu_ind (fun K10 hK10 a hw => ?_)
    obtain ⟨x1, σ0⟩ := a
    show xX p l e rmX5_fills s m args below meth c D vwCl (va_A ((wM ad cI cJ cZ) σ) s.heap.size) (wM ad cI cJ cZ) [20, 21, 22, 23, 24, 25, 26, 27, 28, 29, 30, 31, 32, 33] σ 0 0 (MQ below (xQv D (wM ad cI cJ cZ) [20, 21, 22, 23, 24, 25, 26, 27, 28, 29, 30, 31, 32, 33] σ s.heap.size Q) args s 0 0 (va_A ((wM ad cI cJ cZ) σ) s.heap.size)) 5 σ0 10 [(0, .ref (ad 20)), (1, .int (i32 x1))] []
    unfold vX5_fills_10 at hw
    refine xr_iload_n C 1 dX5_fills_10 rfl rfl ?_
    refine xr_bipush C dX5_fills_11 (by decide +kernel) ?_
    obtain ⟨g17, hw⟩ := hw
    refine xr_icmp_gt C g17 ⟨by decide, by decide⟩ 100 dX5_fills_13 (by decide) (fun c18 => ?_) (fun c18 => ?_)
    · have hw := hw.1 c18
      exact xr_vret C hr hw dX5_fills_100
    · have hw := hw.2 c18
      refine xr_iconst C dX5_fills_16 ?_
      refine xr_istore_n C [(0, .ref (ad 20)), (1, .int (i32 x1)), (2, .int (i32 0))] dX5_fills_17 rfl (by decide) rfl ?_
      exact L18 K10 hK10 (x1, 0, σ0) hw
  show xX p l e rmX5_fills s m args below meth c D vwCl (va_A ((wM ad cI cJ cZ) σ) s.heap.size) (wM ad cI cJ cZ) [20, 21, 22, 23, 24, 25, 26, 27, 28, 29, 30, 31, 32, 33] σ 0 0 (MQ below (xQv D (wM ad cI cJ cZ) [20, 21, 22, 23, 24, 25, 26, 27, 28, 29, 30, 31, 32, 33] σ s.heap.size Q) args s 0 0 (va_A ((wM ad cI cJ cZ) σ) s.heap.size)) 5 σ 0 [(0, .ref (ad 20))] []
  unfold vX5_fills at hw
  refine xr_aload_n C 0 dX5_fills_0 rfl rfl ?_
  refine xr_callVi C (ci := 5) (q0 := 0) (As := []) (rest := []) (xSp_rf _ _) (by decide) (fun h => h) (mX5_isTable σ _ hw) (cwV 0 C.2.2.2.2.1 gX5_fills_X5_isTable rfl rfl rfl (by decide +kernel) ⟨by decide, by decide⟩) rfl rfl rfl rfl (Nat.le_of_ble_eq_true rfl) ⟨by decide, by decide⟩ dX5_fills_1 (fun r19 σ20 hw => ?_)
  obtain ⟨g21, hw⟩ := hw
  refine xr_if_eq C g21 8 dX5_fills_4 (by decide) (fun c22 => ?_) (fun c22 => ?_)
  · have hw := hw.1 c22
    refine xr_iconst C dX5_fills_8 ?_
    refine xr_istore_n C [(0, .ref (ad 20)), (1, .int (i32 1))] dX5_fills_9 rfl (by decide) rfl ?_
    exact L10 (1, σ20) hw
  · have hw := hw.2 c22
    exact xr_vret C hr hw dX5_fills_7
abbrev rmX5_above : Room := { frames := 1, cells := 0, slots := 0, locals := 86 }
set_option maxHeartbeats 8000000 in
set_option maxRecDepth 100000 in
theorem mX5_above {l : Launch} {D : va_G} {ad : Nat → Nat} {cI cJ cZ : ClassId} (σ : xS) (a1 : Int) (Q : Int → xS → Prop) (hw : vX5_above a1 σ Q) : xMi False l yX5_above wsX5_above rmX5_above D (xtys cI cJ cZ) (wM ad cI cJ cZ) [20, 21, 22, 23, 24, 25, 26, 27, 28, 29, 30, 31, 32, 33] σ [.ref (ad 20), .int (i32 a1)] Q := by
  refine xenter (F := [20, 21, 22, 23, 24, 25, 26, 27, 28, 29, 30, 31, 32, 33]) (Qc := fun sz => xQi D (wM ad cI cJ cZ) [20, 21, 22, 23, 24, 25, 26, 27, 28, 29, 30, 31, 32, 33] σ sz Q) (own := RX5) (cc := cX5_above) (maxL := 2) (ret := some .int) (by decide) rfl rfl (Nat.le_of_ble_eq_true rfl) ?_
  intro p e s m args below meth c hargs C hr hnm
  have hinX5 : ∀ w ∈ u_ws RX5 TX5 22, w ∈ wsX5_above := fun _ h => List.mem_cons_of_mem _ (List.mem_append_right _ h)
  have m0 : (Cond.fieldLink RX5 7 "SandBenchModel" "m" "[I") ∈ wsX5_above := by decide +kernel
  show xX p l e rmX5_above s m args below meth c D vwCl (va_A ((wM ad cI cJ cZ) σ) s.heap.size) (wM ad cI cJ cZ) [20, 21, 22, 23, 24, 25, 26, 27, 28, 29, 30, 31, 32, 33] σ 0 0 (MQ below (xQi D (wM ad cI cJ cZ) [20, 21, 22, 23, 24, 25, 26, 27, 28, 29, 30, 31, 32, 33] σ s.heap.size Q) args s 0 0 (va_A ((wM ad cI cJ cZ) σ) s.heap.size)) 2 σ 0 [(0, .ref (ad 20)), (1, .int (i32 a1))] []
  unfold vX5_above at hw
  refine xr_iload_n C 1 dX5_above_0 rfl rfl ?_
  refine xr_aload_n C 0 dX5_above_1 rfl rfl ?_
  refine xr_get C hinX5 (N := 22) (ci := 5) (a := (ad 20)) 0 rfl rfl 0 (by decide) m0 rfl rfl dX5_above_2 ?_
  refine xr_bipush C dX5_above_5 (by decide +kernel) ?_
  refine xr_iald C (t0 := 0) 1 rfl rfl (by decide) (N := 64) rfl ⟨by decide, by decide⟩ dX5_above_7 ?_
  obtain ⟨g1, hw⟩ := hw
  obtain ⟨g2, hw⟩ := hw
  refine xr_icmp_ge C g1 g2 20 dX5_above_8 (by decide) (fun c3 => ?_) (fun c3 => ?_)
  · have hw := hw.1 c3
    refine xr_iconst C dX5_above_20 ?_
    exact xr_iret C hr hw dX5_above_21
  · have hw := hw.2 c3
    refine xr_aload_n C 0 dX5_above_11 rfl rfl ?_
    refine xr_iload_n C 1 dX5_above_12 rfl rfl ?_
    refine xr_iconst C dX5_above_13 ?_
    refine xr_callVi C (ci := 5) (q0 := 0) (As := [.int (i32 a1), .int (i32 1)]) (rest := []) (xSp_rf _ _) (by decide) (fun h => h) (mX5_of σ a1 1 _ hw) (cwV 2 C.2.2.2.2.1 gX5_above_X5_of rfl rfl rfl (by decide +kernel) ⟨by decide, by decide⟩) rfl rfl rfl rfl (Nat.le_of_ble_eq_true rfl) ⟨by decide, by decide⟩ dX5_above_14 (fun r4 σ5 hw => ?_)
    refine xr_goto C 21 dX5_above_17 (by decide) ?_
    exact xr_iret C hr hw dX5_above_21
abbrev rmX5_costOf : Room := { frames := 5, cells := 0, slots := 0, locals := 187 }
set_option maxHeartbeats 8000000 in
set_option maxRecDepth 100000 in
theorem mX5_costOf {l : Launch} {D : va_G} {ad : Nat → Nat} {cI cJ cZ : ClassId} (σ : xS) (a1 : Int) (Q : Int → xS → Prop) (hw : vX5_costOf a1 σ Q) : xMi False l yX5_costOf wsX5_costOf rmX5_costOf D (xtys cI cJ cZ) (wM ad cI cJ cZ) [20, 21, 22, 23, 24, 25, 26, 27, 28, 29, 30, 31, 32, 33] σ [.ref (ad 20), .int (i32 a1)] Q := by
  refine xenter (F := [20, 21, 22, 23, 24, 25, 26, 27, 28, 29, 30, 31, 32, 33]) (Qc := fun sz => xQi D (wM ad cI cJ cZ) [20, 21, 22, 23, 24, 25, 26, 27, 28, 29, 30, 31, 32, 33] σ sz Q) (own := RX5) (cc := cX5_costOf) (maxL := 3) (ret := some .int) (by decide) rfl rfl (Nat.le_of_ble_eq_true rfl) ?_
  intro p e s m args below meth c hargs C hr hnm
  have hinX5 : ∀ w ∈ u_ws RX5 TX5 22, w ∈ wsX5_costOf := fun _ h => List.mem_cons_of_mem _ (List.mem_append_right _ h)
  have m0 : (Cond.fieldLink RX5 35 "SandBenchModel" "cost" "[I") ∈ wsX5_costOf := by decide +kernel
  show xX p l e rmX5_costOf s m args below meth c D vwCl (va_A ((wM ad cI cJ cZ) σ) s.heap.size) (wM ad cI cJ cZ) [20, 21, 22, 23, 24, 25, 26, 27, 28, 29, 30, 31, 32, 33] σ 0 0 (MQ below (xQi D (wM ad cI cJ cZ) [20, 21, 22, 23, 24, 25, 26, 27, 28, 29, 30, 31, 32, 33] σ s.heap.size Q) args s 0 0 (va_A ((wM ad cI cJ cZ) σ) s.heap.size)) 3 σ 0 [(0, .ref (ad 20)), (1, .int (i32 a1))] []
  unfold vX5_costOf at hw
  refine xr_aload_n C 0 dX5_costOf_0 rfl rfl ?_
  refine xr_callVv C (ci := 5) (q0 := 0) (As := []) (rest := []) (xSp_rf _ _) (by decide) (fun h => h) (mX5_fills σ _ hw) (cwV 0 C.2.2.2.2.1 gX5_costOf_X5_fills rfl rfl rfl (by decide +kernel) ⟨by decide, by decide⟩) rfl rfl rfl rfl (Nat.le_of_ble_eq_true rfl) ⟨by decide, by decide⟩ dX5_costOf_1 (fun σ2 hw => ?_)
  refine xr_aload_n C 0 dX5_costOf_4 rfl rfl ?_
  refine xr_get C hinX5 (N := 22) (ci := 5) (a := (ad 20)) 0 rfl rfl 14 (by decide) m0 rfl rfl dX5_costOf_5 ?_
  refine xr_iload_n C 1 dX5_costOf_8 rfl rfl ?_
  refine xr_aload_n C 0 dX5_costOf_9 rfl rfl ?_
  refine xr_iconst C dX5_costOf_10 ?_
  refine xr_callVi C (ci := 5) (q0 := 0) (As := [.int (i32 0)]) (rest := [.int (i32 a1), .ref (ad 29)]) (xSp_rf _ _) (by decide) (fun h => h) (mX5_above σ2 0 _ hw) (cwV 1 C.2.2.2.2.1 gX5_costOf_X5_above rfl rfl rfl (by decide +kernel) ⟨by decide, by decide⟩) rfl rfl rfl rfl (Nat.le_of_ble_eq_true rfl) ⟨by decide, by decide⟩ dX5_costOf_11 (fun r3 σ4 hw => ?_)
  refine xr_aload_n C 0 dX5_costOf_14 rfl rfl ?_
  refine xr_iconst C dX5_costOf_15 ?_
  refine xr_callVi C (ci := 5) (q0 := 0) (As := [.int (i32 1)]) (rest := [.int (i32 r3), .int (i32 a1), .ref (ad 29)]) (xSp_rf _ _) (by decide) (fun h => h) (mX5_above σ4 1 _ hw) (cwV 1 C.2.2.2.2.1 gX5_costOf_X5_above rfl rfl rfl (by decide +kernel) ⟨by decide, by decide⟩) rfl rfl rfl rfl (Nat.le_of_ble_eq_true rfl) ⟨by decide, by decide⟩ dX5_costOf_16 (fun r5 σ6 hw => ?_)
  refine xr_aload_n C 0 dX5_costOf_19 rfl rfl ?_
  refine xr_iconst C dX5_costOf_20 ?_
  refine xr_callVi C (ci := 5) (q0 := 0) (As := [.int (i32 2)]) (rest := [.int (i32 r5), .int (i32 r3), .int (i32 a1), .ref (ad 29)]) (xSp_rf _ _) (by decide) (fun h => h) (mX5_above σ6 2 _ hw) (cwV 1 C.2.2.2.2.1 gX5_costOf_X5_above rfl rfl rfl (by decide +kernel) ⟨by decide, by decide⟩) rfl rfl rfl rfl (Nat.le_of_ble_eq_true rfl) ⟨by decide, by decide⟩ dX5_costOf_21 (fun r7 σ8 hw => ?_)
  refine xr_callSi C (As := [.int (i32 a1), .int (i32 r3), .int (i32 r5), .int (i32 r7)]) (rest := [.ref (ad 29)]) (xSp_nil _) (by decide) (fun h => h) (mX5_place σ8 a1 r3 r5 r7 _ hw) (va_cwS 4 C.2.2.2.2.1 gX5_costOf_X5_place rfl rfl rfl (by decide +kernel) ⟨by decide, by decide⟩) rfl rfl (Nat.le_of_ble_eq_true rfl) ⟨by decide, by decide⟩ dX5_costOf_24 (fun r9 σ10 hw => ?_)
  obtain ⟨g11, hw⟩ := hw
  refine xr_iald C (t0 := 0) 9 rfl rfl (by decide) (N := 90077) rfl g11 dX5_costOf_27 ?_
  refine xr_istore_n C [(0, .ref (ad 20)), (1, .int (i32 a1)), (2, .int (i32 (σ10 29 (r9.toNat))))] dX5_costOf_28 rfl (by decide) rfl ?_
  refine xr_iload_n C 2 dX5_costOf_29 rfl rfl ?_
  refine xr_sipush C dX5_costOf_30 (by decide +kernel) ?_
  obtain ⟨g12, hw⟩ := hw
  refine xr_icmp_lt C g12 ⟨by decide, by decide⟩ 40 dX5_costOf_33 (by decide) (fun c13 => ?_) (fun c13 => ?_)
  · have hw := hw.1 c13
    refine xr_iload_n C 2 dX5_costOf_40 rfl rfl ?_
    exact xr_iret C hr hw dX5_costOf_41
  · have hw := hw.2 c13
    refine xr_iconst C dX5_costOf_36 ?_
    refine xr_goto C 41 dX5_costOf_37 (by decide) ?_
    exact xr_iret C hr hw dX5_costOf_41
abbrev rmX5_cost : Room := { frames := 6, cells := 0, slots := 0, locals := 209 }
set_option maxHeartbeats 8000000 in
set_option maxRecDepth 100000 in
theorem mX5_cost {l : Launch} {D : va_G} {ad : Nat → Nat} {cI cJ cZ : ClassId} (σ : xS) (a1 : Int) (Q : Int → xS → Prop) (hw : vX5_cost a1 σ Q) : xMi False l yX5_cost wsX5_cost rmX5_cost D (xtys cI cJ cZ) (wM ad cI cJ cZ) [20, 21, 22, 23, 24, 25, 26, 27, 28, 29, 30, 31, 32, 33] σ [.ref (ad 20), .int (i32 a1)] Q := by
  refine xenter (F := [20, 21, 22, 23, 24, 25, 26, 27, 28, 29, 30, 31, 32, 33]) (Qc := fun sz => xQi D (wM ad cI cJ cZ) [20, 21, 22, 23, 24, 25, 26, 27, 28, 29, 30, 31, 32, 33] σ sz Q) (own := RX5) (cc := cX5_cost) (maxL := 2) (ret := some .int) (by decide) rfl rfl (Nat.le_of_ble_eq_true rfl) ?_
  intro p e s m args below meth c hargs C hr hnm
  show xX p l e rmX5_cost s m args below meth c D vwCl (va_A ((wM ad cI cJ cZ) σ) s.heap.size) (wM ad cI cJ cZ) [20, 21, 22, 23, 24, 25, 26, 27, 28, 29, 30, 31, 32, 33] σ 0 0 (MQ below (xQi D (wM ad cI cJ cZ) [20, 21, 22, 23, 24, 25, 26, 27, 28, 29, 30, 31, 32, 33] σ s.heap.size Q) args s 0 0 (va_A ((wM ad cI cJ cZ) σ) s.heap.size)) 2 σ 0 [(0, .ref (ad 20)), (1, .int (i32 a1))] []
  unfold vX5_cost at hw
  refine xr_iload_n C 1 dX5_cost_0 rfl rfl ?_
  refine xr_iconst C dX5_cost_1 ?_
  refine xr_bipush C dX5_cost_2 (by decide +kernel) ?_
  refine xr_callSi C (As := [.int (i32 a1), .int (i32 1), .int (i32 40)]) (rest := []) (xSp_nil _) (by decide) (fun h => h) (mX5_in σ a1 1 40 _ hw) (va_cwS 3 C.2.2.2.2.1 gX5_cost_X5_in rfl rfl rfl (by decide +kernel) ⟨by decide, by decide⟩) rfl rfl (Nat.le_of_ble_eq_true rfl) ⟨by decide, by decide⟩ dX5_cost_4 (fun r1 σ2 hw => ?_)
  obtain ⟨g3, hw⟩ := hw
  refine xr_if_eq C g3 18 dX5_cost_7 (by decide) (fun c4 => ?_) (fun c4 => ?_)
  · have hw := hw.1 c4
    refine xr_bipush C dX5_cost_18 (by decide +kernel) ?_
    exact xr_iret C hr hw dX5_cost_20
  · have hw := hw.2 c4
    refine xr_aload_n C 0 dX5_cost_10 rfl rfl ?_
    refine xr_iload_n C 1 dX5_cost_11 rfl rfl ?_
    refine xr_callVi C (ci := 5) (q0 := 0) (As := [.int (i32 a1)]) (rest := []) (xSp_rf _ _) (by decide) (fun h => h) (mX5_costOf σ2 a1 _ hw) (cwV 1 C.2.2.2.2.1 gX5_cost_X5_costOf rfl rfl rfl (by decide +kernel) ⟨by decide, by decide⟩) rfl rfl rfl rfl (Nat.le_of_ble_eq_true rfl) ⟨by decide, by decide⟩ dX5_cost_12 (fun r5 σ6 hw => ?_)
    refine xr_goto C 20 dX5_cost_15 (by decide) ?_
    exact xr_iret C hr hw dX5_cost_20
abbrev rmX5_plannedStep : Room := { frames := 3, cells := 0, slots := 0, locals := 136 }
set_option maxHeartbeats 8000000 in
set_option maxRecDepth 100000 in
theorem mX5_plannedStep {l : Launch} {D : va_G} {ad : Nat → Nat} {cI cJ cZ : ClassId} (σ : xS) (a1 a2 a3 a4 : Int) (Q : Int → xS → Prop) (hw : vX5_plannedStep a1 a2 a3 a4 σ Q) : xMi False l yX5_plannedStep wsX5_plannedStep rmX5_plannedStep D (xtys cI cJ cZ) (wM ad cI cJ cZ) [20, 21, 22, 23, 24, 25, 26, 27, 28, 29, 30, 31, 32, 33] σ [.ref (ad 20), .int (i32 a1), .int (i32 a2), .int (i32 a3), .int (i32 a4)] Q := by
  refine xenter (F := [20, 21, 22, 23, 24, 25, 26, 27, 28, 29, 30, 31, 32, 33]) (Qc := fun sz => xQi D (wM ad cI cJ cZ) [20, 21, 22, 23, 24, 25, 26, 27, 28, 29, 30, 31, 32, 33] σ sz Q) (own := RX5) (cc := cX5_plannedStep) (maxL := 12) (ret := some .int) (by decide) rfl rfl (Nat.le_of_ble_eq_true rfl) ?_
  intro p e s m args below meth c hargs C hr hnm
  have hinX5 : ∀ w ∈ u_ws RX5 TX5 22, w ∈ wsX5_plannedStep := fun _ h => List.mem_cons_of_mem _ (List.mem_append_right _ h)
  have m0 : (Cond.fieldLink RX5 162 "SandBenchModel" "seconds" "I") ∈ wsX5_plannedStep := by decide +kernel
  have m1 : (Cond.fieldLink RX5 48 "SandBenchModel" "then" "[I") ∈ wsX5_plannedStep := by decide +kernel
  have L39 : ∀ (K31 : Int × Int × Int × Int × Int × Int × Int × Int × Int × xS → Prop) (hK31 : ∀ a, K31 a → xX p l e rmX5_plannedStep s m args below meth c D vwCl (va_A ((wM ad cI cJ cZ) σ) s.heap.size) (wM ad cI cJ cZ) [20, 21, 22, 23, 24, 25, 26, 27, 28, 29, 30, 31, 32, 33] σ 0 0 (MQ below (xQi D (wM ad cI cJ cZ) [20, 21, 22, 23, 24, 25, 26, 27, 28, 29, 30, 31, 32, 33] σ s.heap.size Q) args s 0 0 (va_A ((wM ad cI cJ cZ) σ) s.heap.size)) 12 (a.2.2.2.2.2.2.2.2.2) 31 [(0, .ref (ad 20)), (1, .int (i32 (a.1))), (2, .int (i32 (a.2.1))), (3, .int (i32 (a.2.2.1))), (5, .int (i32 (a.2.2.2.1))), (6, .int (i32 (a.2.2.2.2.1))), (7, .int (i32 (a.2.2.2.2.2.1))), (8, .int (i32 (a.2.2.2.2.2.2.1))), (9, .int (i32 (a.2.2.2.2.2.2.2.1))), (10, .int (i32 (a.2.2.2.2.2.2.2.2.1)))] []), ∀ a, mu (vX5_plannedStep_39 K31 Q) a → xX p l e rmX5_plannedStep s m args below meth c D vwCl (va_A ((wM ad cI cJ cZ) σ) s.heap.size) (wM ad cI cJ cZ) [20, 21, 22, 23, 24, 25, 26, 27, 28, 29, 30, 31, 32, 33] σ 0 0 (MQ below (xQi D (wM ad cI cJ cZ) [20, 21, 22, 23, 24, 25, 26, 27, 28, 29, 30, 31, 32, 33] σ s.heap.size Q) args s 0 0 (va_A ((wM ad cI cJ cZ) σ) s.heap.size)) 12 (a.2.2.2.2.2.2.2.2.2.2) 39 [(0, .ref (ad 20)), (1, .int (i32 (a.1))), (2, .int (i32 (a.2.1))), (3, .int (i32 (a.2.2.1))), (5, .int (i32 (a.2.2.2.1))), (6, .int (i32 (a.2.2.2.2.1))), (7, .int (i32 (a.2.2.2.2.2.1))), (8, .int (i32 (a.2.2.2.2.2.2.1))), (9, .int (i32 (a.2.2.2.2.2.2.2.1))), (10, .int (i32 (a.2.2.2.2.2.2.2.2.1))), (11, .int (i32 (a.2.2.2.2.2.2.2.2.2.1)))] [] := by
    intro K31 hK31
    refine mu_ind (fun K39 hK39 a hw => ?_)
    obtain ⟨x1, x2, x3, x5, x6, x7, x8, x9, x10, x11, σ0⟩ := a
    show xX p l e rmX5_plannedStep s m args below meth c D vwCl (va_A ((wM ad cI cJ cZ) σ) s.heap.size) (wM ad cI cJ cZ) [20, 21, 22, 23, 24, 25, 26, 27, 28, 29, 30, 31, 32, 33] σ 0 0 (MQ below (xQi D (wM ad cI cJ cZ) [20, 21, 22, 23, 24, 25, 26, 27, 28, 29, 30, 31, 32, 33] σ s.heap.size Q) args s 0 0 (va_A ((wM ad cI cJ cZ) σ) s.heap.size)) 12 σ0 39 [(0, .ref (ad 20)), (1, .int (i32 x1)), (2, .int (i32 x2)), (3, .int (i32 x3)), (5, .int (i32 x5)), (6, .int (i32 x6)), (7, .int (i32 x7)), (8, .int (i32 x8)), (9, .int (i32 x9)), (10, .int (i32 x10)), (11, .int (i32 x11))] []
    unfold vX5_plannedStep_39 at hw
    refine xr_aload_n C 0 dX5_plannedStep_39 rfl rfl ?_
    refine xr_iload C 10 dX5_plannedStep_40 rfl ?_
    refine xr_callVi C (ci := 5) (q0 := 0) (As := [.int (i32 x11)]) (rest := []) (xSp_rf _ _) (by decide) (fun h => h) (mX5_isStacks σ0 x11 _ hw) (cwV 1 C.2.2.2.2.1 gX5_plannedStep_X5_isStacks rfl rfl rfl (by decide +kernel) ⟨by decide, by decide⟩) rfl rfl rfl rfl (Nat.le_of_ble_eq_true rfl) ⟨by decide, by decide⟩ dX5_plannedStep_42 (fun r1 σ2 hw => ?_)
    obtain ⟨g3, hw⟩ := hw
    refine xr_if_eq C g3 67 dX5_plannedStep_45 (by decide) (fun c4 => ?_) (fun c4 => ?_)
    · have hw := hw.1 c4
      refine xr_iinc C 10 [(0, .ref (ad 20)), (1, .int (i32 x1)), (2, .int (i32 x2)), (3, .int (i32 x3)), (5, .int (i32 x5)), (6, .int (i32 x6)), (7, .int (i32 x7)), (8, .int (i32 x8)), (9, .int (i32 x9)), (10, .int (i32 x10)), (11, .int (i32 (x11 + 1)))] dX5_plannedStep_67 rfl (by decide) rfl ?_
      refine xr_goto C 39 dX5_plannedStep_70 (by decide) ?_
      exact hK39 (x1, x2, x3, x5, x6, x7, x8, x9, x10, (x11 + 1), σ2) hw
    · have hw := hw.2 c4
      refine xr_aload_n C 0 dX5_plannedStep_48 rfl rfl ?_
      refine xr_iload C 10 dX5_plannedStep_49 rfl ?_
      refine xr_iload C 4 dX5_plannedStep_51 rfl ?_
      refine xr_iload C 6 dX5_plannedStep_53 rfl ?_
      refine xr_iload C 7 dX5_plannedStep_55 rfl ?_
      refine xr_iload C 8 dX5_plannedStep_57 rfl ?_
      refine xr_callVi C (ci := 5) (q0 := 0) (As := [.int (i32 x11), .int (i32 x5), .int (i32 x7), .int (i32 x8), .int (i32 x9)]) (rest := []) (xSp_rf _ _) (by decide) (fun h => h) (mX5_costWith σ2 x11 x5 x7 x8 x9 _ hw) (cwV 5 C.2.2.2.2.1 gX5_plannedStep_X5_costWith rfl rfl rfl (by decide +kernel) ⟨by decide, by decide⟩) rfl rfl rfl rfl (Nat.le_of_ble_eq_true rfl) ⟨by decide, by decide⟩ dX5_plannedStep_59 (fun r5 σ6 hw => ?_)
      refine xr_iload C 5 dX5_plannedStep_62 rfl ?_
      obtain ⟨g7, hw⟩ := hw
      obtain ⟨g8, hw⟩ := hw
      refine xr_icmp_eq C g7 g8 73 dX5_plannedStep_64 (by decide) (fun c9 => ?_) (fun c9 => ?_)
      · have hw := hw.1 c9
        refine xr_iload C 9 dX5_plannedStep_73 rfl ?_
        refine xr_iload_n C 2 dX5_plannedStep_75 rfl rfl ?_
        obtain ⟨g10, hw⟩ := hw
        obtain ⟨g11, hw⟩ := hw
        refine xr_icmp_ne C g10 g11 93 dX5_plannedStep_76 (by decide) (fun c12 => ?_) (fun c12 => ?_)
        · have hw := hw.1 c12
          refine xr_aload_n C 0 dX5_plannedStep_93 rfl rfl ?_
          refine xr_iload C 10 dX5_plannedStep_94 rfl ?_
          refine xr_iload C 6 dX5_plannedStep_96 rfl ?_
          refine xr_iload C 7 dX5_plannedStep_98 rfl ?_
          refine xr_iload C 8 dX5_plannedStep_100 rfl ?_
          refine xr_callVv C (ci := 5) (q0 := 0) (As := [.int (i32 x11), .int (i32 x7), .int (i32 x8), .int (i32 x9)]) (rest := []) (xSp_rf _ _) (by decide) (fun h => h) (mX5_chooses σ6 x11 x7 x8 x9 _ hw) (cwV 4 C.2.2.2.2.1 gX5_plannedStep_X5_chooses rfl rfl rfl (by decide +kernel) ⟨by decide, by decide⟩) rfl rfl rfl rfl (Nat.le_of_ble_eq_true rfl) ⟨by decide, by decide⟩ dX5_plannedStep_102 (fun σ14 hw => ?_)
          refine xr_iload C 5 dX5_plannedStep_105 rfl ?_
          refine xr_iload C 10 dX5_plannedStep_107 rfl ?_
          refine xr_callSi C (As := [.int (i32 x11)]) (rest := [.int (i32 x6)]) (xSp_nil _) (by decide) (fun h => h) (mX5_bits σ14 x11 _ hw) (va_cwS 1 C.2.2.2.2.1 gX5_plannedStep_X5_bits rfl rfl rfl (by decide +kernel) ⟨by decide, by decide⟩) rfl rfl (Nat.le_of_ble_eq_true rfl) ⟨by decide, by decide⟩ dX5_plannedStep_109 (fun r15 σ16 hw => ?_)
          refine xr_isub C dX5_plannedStep_112 ?_
          refine xr_istore C [(0, .ref (ad 20)), (1, .int (i32 x1)), (2, .int (i32 x2)), (3, .int (i32 x3)), (5, .int (i32 x5)), (6, .int (i32 (x6 - r15))), (7, .int (i32 x7)), (8, .int (i32 x8)), (9, .int (i32 x9)), (10, .int (i32 x10)), (11, .int (i32 x11))] dX5_plannedStep_113 (by decide) rfl ?_
          refine xr_iload C 4 dX5_plannedStep_115 rfl ?_
          refine xr_aload_n C 0 dX5_plannedStep_117 rfl rfl ?_
          refine xr_get C hinX5 (N := 22) (ci := 5) (a := (ad 20)) 0 rfl rfl 20 (by decide) m0 rfl rfl dX5_plannedStep_118 ?_
          refine xr_isub C dX5_plannedStep_121 ?_
          refine xr_istore C [(0, .ref (ad 20)), (1, .int (i32 x1)), (2, .int (i32 x2)), (3, .int (i32 x3)), (5, .int (i32 (x5 - (σ16 20 20)))), (6, .int (i32 (x6 - r15))), (7, .int (i32 x7)), (8, .int (i32 x8)), (9, .int (i32 x9)), (10, .int (i32 x10)), (11, .int (i32 x11))] dX5_plannedStep_122 (by decide) rfl ?_
          refine xr_aload_n C 0 dX5_plannedStep_124 rfl rfl ?_
          refine xr_get C hinX5 (N := 22) (ci := 5) (a := (ad 20)) 0 rfl rfl 19 (by decide) m1 rfl rfl dX5_plannedStep_125 ?_
          refine xr_iconst C dX5_plannedStep_128 ?_
          refine xr_iald C (t0 := 0) 13 rfl rfl (by decide) (N := 3) rfl ⟨by decide, by decide⟩ dX5_plannedStep_129 ?_
          refine xr_istore C [(0, .ref (ad 20)), (1, .int (i32 x1)), (2, .int (i32 x2)), (3, .int (i32 x3)), (5, .int (i32 (x5 - (σ16 20 20)))), (6, .int (i32 (x6 - r15))), (7, .int (i32 (σ16 33 0))), (8, .int (i32 x8)), (9, .int (i32 x9)), (10, .int (i32 x10)), (11, .int (i32 x11))] dX5_plannedStep_130 (by decide) rfl ?_
          refine xr_aload_n C 0 dX5_plannedStep_132 rfl rfl ?_
          refine xr_get C hinX5 (N := 22) (ci := 5) (a := (ad 20)) 0 rfl rfl 19 (by decide) m1 rfl rfl dX5_plannedStep_133 ?_
          refine xr_iconst C dX5_plannedStep_136 ?_
          refine xr_iald C (t0 := 0) 13 rfl rfl (by decide) (N := 3) rfl ⟨by decide, by decide⟩ dX5_plannedStep_137 ?_
          refine xr_istore C [(0, .ref (ad 20)), (1, .int (i32 x1)), (2, .int (i32 x2)), (3, .int (i32 x3)), (5, .int (i32 (x5 - (σ16 20 20)))), (6, .int (i32 (x6 - r15))), (7, .int (i32 (σ16 33 0))), (8, .int (i32 (σ16 33 1))), (9, .int (i32 x9)), (10, .int (i32 x10)), (11, .int (i32 x11))] dX5_plannedStep_138 (by decide) rfl ?_
          refine xr_aload_n C 0 dX5_plannedStep_140 rfl rfl ?_
          refine xr_get C hinX5 (N := 22) (ci := 5) (a := (ad 20)) 0 rfl rfl 19 (by decide) m1 rfl rfl dX5_plannedStep_141 ?_
          refine xr_iconst C dX5_plannedStep_144 ?_
          refine xr_iald C (t0 := 0) 13 rfl rfl (by decide) (N := 3) rfl ⟨by decide, by decide⟩ dX5_plannedStep_145 ?_
          refine xr_istore C [(0, .ref (ad 20)), (1, .int (i32 x1)), (2, .int (i32 x2)), (3, .int (i32 x3)), (5, .int (i32 (x5 - (σ16 20 20)))), (6, .int (i32 (x6 - r15))), (7, .int (i32 (σ16 33 0))), (8, .int (i32 (σ16 33 1))), (9, .int (i32 (σ16 33 2))), (10, .int (i32 x10)), (11, .int (i32 x11))] dX5_plannedStep_146 (by decide) rfl ?_
          refine xr_iinc C 9 [(0, .ref (ad 20)), (1, .int (i32 x1)), (2, .int (i32 x2)), (3, .int (i32 x3)), (5, .int (i32 (x5 - (σ16 20 20)))), (6, .int (i32 (x6 - r15))), (7, .int (i32 (σ16 33 0))), (8, .int (i32 (σ16 33 1))), (9, .int (i32 (σ16 33 2))), (10, .int (i32 (x10 + 1))), (11, .int (i32 x11))] dX5_plannedStep_148 rfl (by decide) rfl ?_
          refine xr_goto C 31 dX5_plannedStep_151 (by decide) ?_
          refine xr_sub C [0, 1, 2, 3, 4, 5, 6, 7, 8, 9] [(0, .ref (ad 20)), (1, .int (i32 x1)), (2, .int (i32 x2)), (3, .int (i32 x3)), (5, .int (i32 (x5 - (σ16 20 20)))), (6, .int (i32 (x6 - r15))), (7, .int (i32 (σ16 33 0))), (8, .int (i32 (σ16 33 1))), (9, .int (i32 (σ16 33 2))), (10, .int (i32 (x10 + 1)))] rfl ?_
          exact hK31 (x1, x2, x3, (x5 - (σ16 20 20)), (x6 - r15), (σ16 33 0), (σ16 33 1), (σ16 33 2), (x10 + 1), σ16) hw
        · have hw := hw.2 c12
          refine xr_iload_n C 3 dX5_plannedStep_79 rfl rfl ?_
          obtain ⟨g17, hw⟩ := hw
          refine xr_if_eq C g17 88 dX5_plannedStep_80 (by decide) (fun c18 => ?_) (fun c18 => ?_)
          · have hw := hw.1 c18
            refine xr_iload_n C 1 dX5_plannedStep_88 rfl rfl ?_
            refine xr_iload C 4 dX5_plannedStep_89 rfl ?_
            refine xr_isub C dX5_plannedStep_91 ?_
            exact xr_iret C hr hw dX5_plannedStep_92
          · have hw := hw.2 c18
            refine xr_iload C 10 dX5_plannedStep_83 rfl ?_
            refine xr_goto C 92 dX5_plannedStep_85 (by decide) ?_
            exact xr_iret C hr hw dX5_plannedStep_92
      · have hw := hw.2 c9
        refine xr_iinc C 10 [(0, .ref (ad 20)), (1, .int (i32 x1)), (2, .int (i32 x2)), (3, .int (i32 x3)), (5, .int (i32 x5)), (6, .int (i32 x6)), (7, .int (i32 x7)), (8, .int (i32 x8)), (9, .int (i32 x9)), (10, .int (i32 x10)), (11, .int (i32 (x11 + 1)))] dX5_plannedStep_67 rfl (by decide) rfl ?_
        refine xr_goto C 39 dX5_plannedStep_70 (by decide) ?_
        exact hK39 (x1, x2, x3, x5, x6, x7, x8, x9, x10, (x11 + 1), σ6) hw
  have L31 : ∀ a, mu (vX5_plannedStep_31  Q) a → xX p l e rmX5_plannedStep s m args below meth c D vwCl (va_A ((wM ad cI cJ cZ) σ) s.heap.size) (wM ad cI cJ cZ) [20, 21, 22, 23, 24, 25, 26, 27, 28, 29, 30, 31, 32, 33] σ 0 0 (MQ below (xQi D (wM ad cI cJ cZ) [20, 21, 22, 23, 24, 25, 26, 27, 28, 29, 30, 31, 32, 33] σ s.heap.size Q) args s 0 0 (va_A ((wM ad cI cJ cZ) σ) s.heap.size)) 12 (a.2.2.2.2.2.2.2.2.2) 31 [(0, .ref (ad 20)), (1, .int (i32 (a.1))), (2, .int (i32 (a.2.1))), (3, .int (i32 (a.2.2.1))), (5, .int (i32 (a.2.2.2.1))), (6, .int (i32 (a.2.2.2.2.1))), (7, .int (i32 (a.2.2.2.2.2.1))), (8, .int (i32 (a.2.2.2.2.2.2.1))), (9, .int (i32 (a.2.2.2.2.2.2.2.1))), (10, .int (i32 (a.2.2.2.2.2.2.2.2.1)))] [] := by
    refine mu_ind (fun K31 hK31 a hw => ?_)
    obtain ⟨x1, x2, x3, x5, x6, x7, x8, x9, x10, σ0⟩ := a
    show xX p l e rmX5_plannedStep s m args below meth c D vwCl (va_A ((wM ad cI cJ cZ) σ) s.heap.size) (wM ad cI cJ cZ) [20, 21, 22, 23, 24, 25, 26, 27, 28, 29, 30, 31, 32, 33] σ 0 0 (MQ below (xQi D (wM ad cI cJ cZ) [20, 21, 22, 23, 24, 25, 26, 27, 28, 29, 30, 31, 32, 33] σ s.heap.size Q) args s 0 0 (va_A ((wM ad cI cJ cZ) σ) s.heap.size)) 12 σ0 31 [(0, .ref (ad 20)), (1, .int (i32 x1)), (2, .int (i32 x2)), (3, .int (i32 x3)), (5, .int (i32 x5)), (6, .int (i32 x6)), (7, .int (i32 x7)), (8, .int (i32 x8)), (9, .int (i32 x9)), (10, .int (i32 x10))] []
    unfold vX5_plannedStep_31 at hw
    refine xr_iload C 4 dX5_plannedStep_31 rfl ?_
    obtain ⟨g19, hw⟩ := hw
    refine xr_if_le C g19 154 dX5_plannedStep_33 (by decide) (fun c20 => ?_) (fun c20 => ?_)
    · have hw := hw.1 c20
      refine xr_iconst C dX5_plannedStep_154 ?_
      exact xr_iret C hr hw dX5_plannedStep_155
    · have hw := hw.2 c20
      refine xr_iconst C dX5_plannedStep_36 ?_
      refine xr_istore C [(0, .ref (ad 20)), (1, .int (i32 x1)), (2, .int (i32 x2)), (3, .int (i32 x3)), (5, .int (i32 x5)), (6, .int (i32 x6)), (7, .int (i32 x7)), (8, .int (i32 x8)), (9, .int (i32 x9)), (10, .int (i32 x10)), (11, .int (i32 0))] dX5_plannedStep_37 (by decide) rfl ?_
      exact L39 K31 hK31 (x1, x2, x3, x5, x6, x7, x8, x9, x10, 0, σ0) hw
  show xX p l e rmX5_plannedStep s m args below meth c D vwCl (va_A ((wM ad cI cJ cZ) σ) s.heap.size) (wM ad cI cJ cZ) [20, 21, 22, 23, 24, 25, 26, 27, 28, 29, 30, 31, 32, 33] σ 0 0 (MQ below (xQi D (wM ad cI cJ cZ) [20, 21, 22, 23, 24, 25, 26, 27, 28, 29, 30, 31, 32, 33] σ s.heap.size Q) args s 0 0 (va_A ((wM ad cI cJ cZ) σ) s.heap.size)) 12 σ 0 [(0, .ref (ad 20)), (1, .int (i32 a1)), (2, .int (i32 a2)), (3, .int (i32 a3)), (4, .int (i32 a4))] []
  unfold vX5_plannedStep at hw
  refine xr_iload_n C 1 dX5_plannedStep_0 rfl rfl ?_
  refine xr_istore C [(0, .ref (ad 20)), (1, .int (i32 a1)), (2, .int (i32 a2)), (3, .int (i32 a3)), (4, .int (i32 a4)), (5, .int (i32 a1))] dX5_plannedStep_1 (by decide) rfl ?_
  refine xr_iload C 4 dX5_plannedStep_3 rfl ?_
  refine xr_istore C [(0, .ref (ad 20)), (1, .int (i32 a1)), (2, .int (i32 a2)), (3, .int (i32 a3)), (4, .int (i32 a4)), (5, .int (i32 a1)), (6, .int (i32 a4))] dX5_plannedStep_5 (by decide) rfl ?_
  refine xr_aload_n C 0 dX5_plannedStep_7 rfl rfl ?_
  refine xr_iconst C dX5_plannedStep_8 ?_
  refine xr_callVi C (ci := 5) (q0 := 0) (As := [.int (i32 0)]) (rest := []) (xSp_rf _ _) (by decide) (fun h => h) (mX5_above σ 0 _ hw) (cwV 1 C.2.2.2.2.1 gX5_plannedStep_X5_above rfl rfl rfl (by decide +kernel) ⟨by decide, by decide⟩) rfl rfl rfl rfl (Nat.le_of_ble_eq_true rfl) ⟨by decide, by decide⟩ dX5_plannedStep_9 (fun r21 σ22 hw => ?_)
  refine xr_istore C [(0, .ref (ad 20)), (1, .int (i32 a1)), (2, .int (i32 a2)), (3, .int (i32 a3)), (4, .int (i32 a4)), (5, .int (i32 a1)), (6, .int (i32 a4)), (7, .int (i32 r21))] dX5_plannedStep_12 (by decide) rfl ?_
  refine xr_aload_n C 0 dX5_plannedStep_14 rfl rfl ?_
  refine xr_iconst C dX5_plannedStep_15 ?_
  refine xr_callVi C (ci := 5) (q0 := 0) (As := [.int (i32 1)]) (rest := []) (xSp_rf _ _) (by decide) (fun h => h) (mX5_above σ22 1 _ hw) (cwV 1 C.2.2.2.2.1 gX5_plannedStep_X5_above rfl rfl rfl (by decide +kernel) ⟨by decide, by decide⟩) rfl rfl rfl rfl (Nat.le_of_ble_eq_true rfl) ⟨by decide, by decide⟩ dX5_plannedStep_16 (fun r23 σ24 hw => ?_)
  refine xr_istore C [(0, .ref (ad 20)), (1, .int (i32 a1)), (2, .int (i32 a2)), (3, .int (i32 a3)), (4, .int (i32 a4)), (5, .int (i32 a1)), (6, .int (i32 a4)), (7, .int (i32 r21)), (8, .int (i32 r23))] dX5_plannedStep_19 (by decide) rfl ?_
  refine xr_aload_n C 0 dX5_plannedStep_21 rfl rfl ?_
  refine xr_iconst C dX5_plannedStep_22 ?_
  refine xr_callVi C (ci := 5) (q0 := 0) (As := [.int (i32 2)]) (rest := []) (xSp_rf _ _) (by decide) (fun h => h) (mX5_above σ24 2 _ hw) (cwV 1 C.2.2.2.2.1 gX5_plannedStep_X5_above rfl rfl rfl (by decide +kernel) ⟨by decide, by decide⟩) rfl rfl rfl rfl (Nat.le_of_ble_eq_true rfl) ⟨by decide, by decide⟩ dX5_plannedStep_23 (fun r25 σ26 hw => ?_)
  refine xr_istore C [(0, .ref (ad 20)), (1, .int (i32 a1)), (2, .int (i32 a2)), (3, .int (i32 a3)), (4, .int (i32 a4)), (5, .int (i32 a1)), (6, .int (i32 a4)), (7, .int (i32 r21)), (8, .int (i32 r23)), (9, .int (i32 r25))] dX5_plannedStep_26 (by decide) rfl ?_
  refine xr_iconst C dX5_plannedStep_28 ?_
  refine xr_istore C [(0, .ref (ad 20)), (1, .int (i32 a1)), (2, .int (i32 a2)), (3, .int (i32 a3)), (4, .int (i32 a4)), (5, .int (i32 a1)), (6, .int (i32 a4)), (7, .int (i32 r21)), (8, .int (i32 r23)), (9, .int (i32 r25)), (10, .int (i32 0))] dX5_plannedStep_29 (by decide) rfl ?_
  refine xr_sub C [0, 1, 2, 3, 5, 6, 7, 8, 9, 10] [(0, .ref (ad 20)), (1, .int (i32 a1)), (2, .int (i32 a2)), (3, .int (i32 a3)), (5, .int (i32 a1)), (6, .int (i32 a4)), (7, .int (i32 r21)), (8, .int (i32 r23)), (9, .int (i32 r25)), (10, .int (i32 0))] rfl ?_
  exact L31 (a1, a2, a3, a1, a4, r21, r23, r25, 0, σ26) hw
