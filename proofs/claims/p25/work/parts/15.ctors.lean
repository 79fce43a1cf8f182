def wH (ad : Nat → Nat) (cI cJ cZ : ClassId) (σ : xS) : va_W := [(ad 5, .inr (1, [.ref (ad 6), .int (i32 (σ 5 1)), .int (i32 (σ 5 2))])), (ad 6, .inl (cI, 504, .inl (fun j => i32 (σ 6 j))))]
def vX0_init (σ : xS) (Q : xS → Prop) : Prop := ∀ s1 : xS, s1 = xset σ 8 (fun _ => 0) → (∀ σ1 : xS, σ1 = xup s1 8 59 (-1) → (vX0_renew 3 σ1 (fun σ4 => vX0_fill 0 3 σ4 (fun σ6 => vX0_fill 1 5 σ6 (fun σ8 => vX0_fill 2 8 σ8 (fun σ10 => Q σ10))))))
def adX0 (h0 q8 : Nat) : Nat → Nat := fun k => if k = 7 then h0 else q8
abbrev rmX0_init : Room := { frames := 4, cells := 1, slots := 63, locals := 154 }
set_option maxHeartbeats 8000000 in
set_option maxRecDepth 200000 in
theorem kX0_init {l : Launch} {D : va_G} {cI cJ cZ : ClassId} (h0 : Nat) (σ : xS) (Q : xS → Prop) (hw : vX0_init σ Q) : xMc False l yX0_init wsX0_init rmX0_init D (xtys cI cJ cZ) (fun u : xS => [(h0, .inr (0, [.null]))]) (fun ad2 => wB ad2 cI cJ cZ) [7, 8] σ [.ref h0] 1 63 (fun ad2 u => ad2 7 = h0 ∧ Q u) := by
  refine xenter (F := [7, 8]) (Qc := fun sz => xQc D (fun ad2 => wB ad2 cI cJ cZ) [7, 8] σ sz (fun u : xS => [(h0, .inr (0, [.null]))]) (fun ad2 u => ad2 7 = h0 ∧ Q u)) (own := RX0) (cc := cX0_init) (maxL := 1) (ret := none) (mc := 1) (ms := 63) (by decide) rfl rfl (Nat.le_of_ble_eq_true rfl) ?_
  intro p e s m args below meth c hargs C hr hnm
  have hinX0 : ∀ w ∈ u_ws RX0 TX0 1, w ∈ wsX0_init := fun _ h => List.mem_cons_of_mem _ (List.mem_append_right _ h)
  have m0 : (Cond.methodLink RX0 5 Lib.objectInit) ∈ wsX0_init := by decide +kernel
  have m1 : (Cond.instanceMethod Lib.objectInit) ∈ wsX0_init := by decide +kernel
  have m2 : (Cond.code Lib.objectInit ⟨#[0xb1]⟩ 1 none) ∈ wsX0_init := by decide +kernel
  have m3 : (Cond.arrayClass .int) ∈ wsX0_init := by decide +kernel
  have m4 : (Cond.fieldLink RX0 11 "SandBench$Bench" "cells" "[I") ∈ wsX0_init := by decide +kernel
  show xX p l e rmX0_init s m args below meth c D vwCl (va_A ((fun u : xS => [(h0, .inr (0, [.null]))]) σ) s.heap.size) (fun u : xS => [(h0, .inr (0, [.null]))]) [7, 8] σ 0 0 (MQ below (xQc D (fun ad2 => wB ad2 cI cJ cZ) [7, 8] σ s.heap.size (fun u : xS => [(h0, .inr (0, [.null]))]) (fun ad2 u => ad2 7 = h0 ∧ Q u)) args s 1 63 (va_A ((fun u : xS => [(h0, .inr (0, [.null]))]) σ) s.heap.size)) 1 σ 0 [(0, .ref h0)] []
  unfold vX0_init at hw
  refine xr_aload_n C 0 dX0_init_0 rfl rfl ?_
  refine xr_objinit C m0 m1 m2 (by decide) (Nat.le_of_ble_eq_true rfl) dX0_init_1 ?_
  refine xr_aload_n C 0 dX0_init_4 rfl rfl ?_
  refine xr_bipush C dX0_init_5 (by decide +kernel) ?_
  refine xr_newi C 8 (N := 63) rfl (by decide) m3 (fun u f => rfl) (by decide) (Nat.le_of_ble_eq_true rfl) (Nat.le_of_ble_eq_true rfl) dX0_init_7 (fun q8 => ?_)
  refine xr_world (fun u : xS => [(h0, .inr (0, [.null])), (q8, .inl (cI, 63, .inl (fun j => i32 (u 8 j))))]) (fun _ => rfl) ?_
  refine xr_sig (fun s1 es1 => ?_)
  have hw := hw s1 es1
  refine xr_putF C (fun u : xS => [(h0, .inr (0, [.ref q8])), (q8, .inl (cI, 63, .inl (fun j => i32 (u 8 j))))]) hinX0 (N := 1) (ci := 0) (ty := (.array .int)) tyX0 tyX0_ok nmX0 0 rfl rfl 0 (by decide) m4 rfl rfl hnm rfl (by decide +kernel) rfl rfl (Nat.le_of_ble_eq_true rfl) rfl dX0_init_9 ?_
  refine xr_world (wB (adX0 h0 q8) cI cJ cZ) (fun _ => rfl) ?_
  refine xr_aload_n C 0 dX0_init_12 rfl rfl ?_
  refine xr_get C hinX0 (N := 1) (ci := 0) (a := h0) 0 rfl rfl 0 (by decide) m4 rfl rfl dX0_init_13 ?_
  refine xr_bipush C dX0_init_16 (by decide +kernel) ?_
  refine xr_iconst C dX0_init_18 ?_
  refine xr_iast C (t0 := 0) (r := 8) 1 rfl rfl (by decide) (N := 63) rfl ⟨by decide, by decide⟩ wB_st8 (by decide) dX0_init_19 ?_
  refine xr_sig (fun σ1 e2 => ?_)
  have hw := hw σ1 e2
  refine xr_aload_n C 0 dX0_init_20 rfl rfl ?_
  refine xr_iconst C dX0_init_21 ?_
  refine xr_callVv C (ci := 0) (q0 := 0) (As := [.int (i32 3)]) (rest := []) (xSp_rf _ _) (by decide) (fun h => h) (mX0_renew σ1 3 _ hw) (cwV 1 C.2.2.2.2.1 gX0_init_X0_renew rfl rfl rfl (by decide +kernel) ⟨by decide, by decide⟩) rfl rfl rfl rfl (Nat.le_of_ble_eq_true rfl) ⟨by decide, by decide⟩ dX0_init_22 (fun σ4 hw => ?_)
  refine xr_aload_n C 0 dX0_init_25 rfl rfl ?_
  refine xr_iconst C dX0_init_26 ?_
  refine xr_iconst C dX0_init_27 ?_
  refine xr_callVv C (ci := 0) (q0 := 0) (As := [.int (i32 0), .int (i32 3)]) (rest := []) (xSp_rf _ _) (by decide) (fun h => h) (mX0_fill σ4 0 3 _ hw) (cwV 2 C.2.2.2.2.1 gX0_init_X0_fill rfl rfl rfl (by decide +kernel) ⟨by decide, by decide⟩) rfl rfl rfl rfl (Nat.le_of_ble_eq_true rfl) ⟨by decide, by decide⟩ dX0_init_28 (fun σ6 hw => ?_)
  refine xr_aload_n C 0 dX0_init_31 rfl rfl ?_
  refine xr_iconst C dX0_init_32 ?_
  refine xr_iconst C dX0_init_33 ?_
  refine xr_callVv C (ci := 0) (q0 := 0) (As := [.int (i32 1), .int (i32 5)]) (rest := []) (xSp_rf _ _) (by decide) (fun h => h) (mX0_fill σ6 1 5 _ hw) (cwV 2 C.2.2.2.2.1 gX0_init_X0_fill rfl rfl rfl (by decide +kernel) ⟨by decide, by decide⟩) rfl rfl rfl rfl (Nat.le_of_ble_eq_true rfl) ⟨by decide, by decide⟩ dX0_init_34 (fun σ8 hw => ?_)
  refine xr_aload_n C 0 dX0_init_37 rfl rfl ?_
  refine xr_iconst C dX0_init_38 ?_
  refine xr_bipush C dX0_init_39 (by decide +kernel) ?_
  refine xr_callVv C (ci := 0) (q0 := 0) (As := [.int (i32 2), .int (i32 8)]) (rest := []) (xSp_rf _ _) (by decide) (fun h => h) (mX0_fill σ8 2 8 _ hw) (cwV 2 C.2.2.2.2.1 gX0_init_X0_fill rfl rfl rfl (by decide +kernel) ⟨by decide, by decide⟩) rfl rfl rfl rfl (Nat.le_of_ble_eq_true rfl) ⟨by decide, by decide⟩ dX0_init_41 (fun σ10 hw => ?_)
  exact xr_cret (w0 := (fun u : xS => [(h0, .inr (0, [.null]))])) (W' := (fun ad2 => wB ad2 cI cJ cZ)) (Q := (fun ad2 u => ad2 7 = h0 ∧ Q u)) (σ0 := σ) C hr (adX0 h0 q8) (fun _ => rfl) ⟨rfl, hw⟩ (Nat.le_refl _) (Nat.le_refl _) dX0_init_44
def vX1_init (σ : xS) (Q : xS → Prop) : Prop := ∀ s1 : xS, s1 = xset σ 6 (fun _ => 0) → (Q s1)
def adX1 (h0 q6 : Nat) : Nat → Nat := fun k => if k = 5 then h0 else q6
abbrev rmX1_init : Room := { frames := 1, cells := 1, slots := 504, locals := 64 }
set_option maxHeartbeats 8000000 in
set_option maxRecDepth 200000 in
theorem kX1_init {l : Launch} {D : va_G} {cI cJ cZ : ClassId} (h0 : Nat) (σ : xS) (Q : xS → Prop) (hw : vX1_init σ Q) : xMc False l yX1_init wsX1_init rmX1_init D (xtys cI cJ cZ) (fun u : xS => [(h0, .inr (1, [.null, .int (i32 (u 5 1)), .int (i32 (u 5 2))]))]) (fun ad2 => wH ad2 cI cJ cZ) [5, 6] σ [.ref h0] 1 504 (fun ad2 u => ad2 5 = h0 ∧ Q u) := by
  refine xenter (F := [5, 6]) (Qc := fun sz => xQc D (fun ad2 => wH ad2 cI cJ cZ) [5, 6] σ sz (fun u : xS => [(h0, .inr (1, [.null, .int (i32 (u 5 1)), .int (i32 (u 5 2))]))]) (fun ad2 u => ad2 5 = h0 ∧ Q u)) (own := RX1) (cc := cX1_init) (maxL := 1) (ret := none) (mc := 1) (ms := 504) (by decide) rfl rfl (Nat.le_of_ble_eq_true rfl) ?_
  intro p e s m args below meth c hargs C hr hnm
  have hinX1 : ∀ w ∈ u_ws RX1 TX1 3, w ∈ wsX1_init := fun _ h => List.mem_cons_of_mem _ (List.mem_append_right _ h)
  have m0 : (Cond.methodLink RX1 1 Lib.objectInit) ∈ wsX1_init := by decide +kernel
  have m1 : (Cond.instanceMethod Lib.objectInit) ∈ wsX1_init := by decide +kernel
  have m2 : (Cond.code Lib.objectInit ⟨#[0xb1]⟩ 1 none) ∈ wsX1_init := by decide +kernel
  have m3 : (Cond.arrayClass .int) ∈ wsX1_init := by decide +kernel
  have m4 : (Cond.fieldLink RX1 11 "SandBench$History" "rows" "[I") ∈ wsX1_init := by decide +kernel
  show xX p l e rmX1_init s m args below meth c D vwCl (va_A ((fun u : xS => [(h0, .inr (1, [.null, .int (i32 (u 5 1)), .int (i32 (u 5 2))]))]) σ) s.heap.size) (fun u : xS => [(h0, .inr (1, [.null, .int (i32 (u 5 1)), .int (i32 (u 5 2))]))]) [5, 6] σ 0 0 (MQ below (xQc D (fun ad2 => wH ad2 cI cJ cZ) [5, 6] σ s.heap.size (fun u : xS => [(h0, .inr (1, [.null, .int (i32 (u 5 1)), .int (i32 (u 5 2))]))]) (fun ad2 u => ad2 5 = h0 ∧ Q u)) args s 1 504 (va_A ((fun u : xS => [(h0, .inr (1, [.null, .int (i32 (u 5 1)), .int (i32 (u 5 2))]))]) σ) s.heap.size)) 1 σ 0 [(0, .ref h0)] []
  unfold vX1_init at hw
  refine xr_aload_n C 0 dX1_init_0 rfl rfl ?_
  refine xr_objinit C m0 m1 m2 (by decide) (Nat.le_of_ble_eq_true rfl) dX1_init_1 ?_
  refine xr_aload_n C 0 dX1_init_4 rfl rfl ?_
  refine xr_sipush C dX1_init_5 (by decide +kernel) ?_
  refine xr_newi C 6 (N := 504) rfl (by decide) m3 (fun u f => rfl) (by decide) (Nat.le_of_ble_eq_true rfl) (Nat.le_of_ble_eq_true rfl) dX1_init_8 (fun q6 => ?_)
  refine xr_world (fun u : xS => [(h0, .inr (1, [.null, .int (i32 (u 5 1)), .int (i32 (u 5 2))])), (q6, .inl (cI, 504, .inl (fun j => i32 (u 6 j))))]) (fun _ => rfl) ?_
  refine xr_sig (fun s1 es1 => ?_)
  have hw := hw s1 es1
  refine xr_putF C (fun u : xS => [(h0, .inr (1, [.ref q6, .int (i32 (u 5 1)), .int (i32 (u 5 2))])), (q6, .inl (cI, 504, .inl (fun j => i32 (u 6 j))))]) hinX1 (N := 3) (ci := 1) (ty := (.array .int)) tyX1 tyX1_ok nmX1 0 rfl rfl 0 (by decide) m4 rfl rfl hnm rfl (by decide +kernel) rfl rfl (Nat.le_of_ble_eq_true rfl) rfl dX1_init_10 ?_
  refine xr_world (wH (adX1 h0 q6) cI cJ cZ) (fun _ => rfl) ?_
  exact xr_cret (w0 := (fun u : xS => [(h0, .inr (1, [.null, .int (i32 (u 5 1)), .int (i32 (u 5 2))]))])) (W' := (fun ad2 => wH ad2 cI cJ cZ)) (Q := (fun ad2 u => ad2 5 = h0 ∧ Q u)) (σ0 := σ) C hr (adX1 h0 q6) (fun _ => rfl) ⟨rfl, hw⟩ (Nat.le_refl _) (Nat.le_refl _) dX1_init_13
def vX3_init (σ : xS) (Q : xS → Prop) : Prop := ∀ s1 : xS, s1 = xset σ 2 (fun _ => 0) → (∀ s2 : xS, s2 = xset s1 3 (fun _ => 0) → (∀ s3 : xS, s3 = xset s2 4 (fun _ => 0) → (Q s3)))
def adX3 (h0 q2 q3 q4 : Nat) : Nat → Nat := fun k => if k = 1 then h0 else if k = 2 then q2 else if k = 3 then q3 else q4
abbrev rmX3_init : Room := { frames := 1, cells := 3, slots := 260, locals := 64 }
set_option maxHeartbeats 8000000 in
set_option maxRecDepth 200000 in
theorem kX3_init {l : Launch} {D : va_G} {cI cJ cZ : ClassId} (h0 : Nat) (σ : xS) (Q : xS → Prop) (hw : vX3_init σ Q) : xMc False l yX3_init wsX3_init rmX3_init D (xtys cI cJ cZ) (fun u : xS => [(h0, .inr (2, [.null, .int (i32 (u 1 1)), .null, .null, .int (i32 (u 1 4)), .int (i32 (u 1 5)), .int (i32 (u 1 6)), .int (i32 (u 1 7))]))]) (fun ad2 => wS ad2 cI cJ cZ) [1, 2, 3, 4] σ [.ref h0] 3 260 (fun ad2 u => ad2 1 = h0 ∧ Q u) := by
  refine xenter (F := [1, 2, 3, 4]) (Qc := fun sz => xQc D (fun ad2 => wS ad2 cI cJ cZ) [1, 2, 3, 4] σ sz (fun u : xS => [(h0, .inr (2, [.null, .int (i32 (u 1 1)), .null, .null, .int (i32 (u 1 4)), .int (i32 (u 1 5)), .int (i32 (u 1 6)), .int (i32 (u 1 7))]))]) (fun ad2 u => ad2 1 = h0 ∧ Q u)) (own := RX3) (cc := cX3_init) (maxL := 1) (ret := none) (mc := 3) (ms := 260) (by decide) rfl rfl (Nat.le_of_ble_eq_true rfl) ?_
  intro p e s m args below meth c hargs C hr hnm
  have hinX3 : ∀ w ∈ u_ws RX3 TX3 8, w ∈ wsX3_init := fun _ h => List.mem_cons_of_mem _ (List.mem_append_right _ h)
  have m0 : (Cond.methodLink RX3 3 Lib.objectInit) ∈ wsX3_init := by decide +kernel
  have m1 : (Cond.instanceMethod Lib.objectInit) ∈ wsX3_init := by decide +kernel
  have m2 : (Cond.code Lib.objectInit ⟨#[0xb1]⟩ 1 none) ∈ wsX3_init := by decide +kernel
  have m3 : (Cond.arrayClass .int) ∈ wsX3_init := by decide +kernel
  have m4 : (Cond.fieldLink RX3 11 "SandBench$Script" "bytes" "[I") ∈ wsX3_init := by decide +kernel
  have m5 : (Cond.fieldLink RX3 15 "SandBench$Script" "letters" "[I") ∈ wsX3_init := by decide +kernel
  have m6 : (Cond.fieldLink RX3 18 "SandBench$Script" "numbers" "[I") ∈ wsX3_init := by decide +kernel
  show xX p l e rmX3_init s m args below meth c D vwCl (va_A ((fun u : xS => [(h0, .inr (2, [.null, .int (i32 (u 1 1)), .null, .null, .int (i32 (u 1 4)), .int (i32 (u 1 5)), .int (i32 (u 1 6)), .int (i32 (u 1 7))]))]) σ) s.heap.size) (fun u : xS => [(h0, .inr (2, [.null, .int (i32 (u 1 1)), .null, .null, .int (i32 (u 1 4)), .int (i32 (u 1 5)), .int (i32 (u 1 6)), .int (i32 (u 1 7))]))]) [1, 2, 3, 4] σ 0 0 (MQ below (xQc D (fun ad2 => wS ad2 cI cJ cZ) [1, 2, 3, 4] σ s.heap.size (fun u : xS => [(h0, .inr (2, [.null, .int (i32 (u 1 1)), .null, .null, .int (i32 (u 1 4)), .int (i32 (u 1 5)), .int (i32 (u 1 6)), .int (i32 (u 1 7))]))]) (fun ad2 u => ad2 1 = h0 ∧ Q u)) args s 3 260 (va_A ((fun u : xS => [(h0, .inr (2, [.null, .int (i32 (u 1 1)), .null, .null, .int (i32 (u 1 4)), .int (i32 (u 1 5)), .int (i32 (u 1 6)), .int (i32 (u 1 7))]))]) σ) s.heap.size)) 1 σ 0 [(0, .ref h0)] []
  unfold vX3_init at hw
  refine xr_aload_n C 0 dX3_init_0 rfl rfl ?_
  refine xr_objinit C m0 m1 m2 (by decide) (Nat.le_of_ble_eq_true rfl) dX3_init_1 ?_
  refine xr_aload_n C 0 dX3_init_4 rfl rfl ?_
  refine xr_bipush C dX3_init_5 (by decide +kernel) ?_
  refine xr_newi C 2 (N := 60) rfl (by decide) m3 (fun u f => rfl) (by decide) (Nat.le_of_ble_eq_true rfl) (Nat.le_of_ble_eq_true rfl) dX3_init_7 (fun q2 => ?_)
  refine xr_world (fun u : xS => [(h0, .inr (2, [.null, .int (i32 (u 1 1)), .null, .null, .int (i32 (u 1 4)), .int (i32 (u 1 5)), .int (i32 (u 1 6)), .int (i32 (u 1 7))])), (q2, .inl (cI, 60, .inl (fun j => i32 (u 2 j))))]) (fun _ => rfl) ?_
  refine xr_sig (fun s1 es1 => ?_)
  have hw := hw s1 es1
  refine xr_putF C (fun u : xS => [(h0, .inr (2, [.ref q2, .int (i32 (u 1 1)), .null, .null, .int (i32 (u 1 4)), .int (i32 (u 1 5)), .int (i32 (u 1 6)), .int (i32 (u 1 7))])), (q2, .inl (cI, 60, .inl (fun j => i32 (u 2 j))))]) hinX3 (N := 8) (ci := 2) (ty := (.array .int)) tyX3 tyX3_ok nmX3 0 rfl rfl 0 (by decide) m4 rfl rfl hnm rfl (by decide +kernel) rfl rfl (Nat.le_of_ble_eq_true rfl) rfl dX3_init_9 ?_
  refine xr_aload_n C 0 dX3_init_12 rfl rfl ?_
  refine xr_bipush C dX3_init_13 (by decide +kernel) ?_
  refine xr_newi C 3 (N := 100) rfl (by decide) m3 (fun u f => rfl) (by decide) (Nat.le_of_ble_eq_true rfl) (Nat.le_of_ble_eq_true rfl) dX3_init_15 (fun q3 => ?_)
  refine xr_world (fun u : xS => [(h0, .inr (2, [.ref q2, .int (i32 (u 1 1)), .null, .null, .int (i32 (u 1 4)), .int (i32 (u 1 5)), .int (i32 (u 1 6)), .int (i32 (u 1 7))])), (q2, .inl (cI, 60, .inl (fun j => i32 (u 2 j)))), (q3, .inl (cI, 100, .inl (fun j => i32 (u 3 j))))]) (fun _ => rfl) ?_
  refine xr_sig (fun s2 es2 => ?_)
  have hw := hw s2 es2
  refine xr_putF C (fun u : xS => [(h0, .inr (2, [.ref q2, .int (i32 (u 1 1)), .ref q3, .null, .int (i32 (u 1 4)), .int (i32 (u 1 5)), .int (i32 (u 1 6)), .int (i32 (u 1 7))])), (q2, .inl (cI, 60, .inl (fun j => i32 (u 2 j)))), (q3, .inl (cI, 100, .inl (fun j => i32 (u 3 j))))]) hinX3 (N := 8) (ci := 2) (ty := (.array .int)) tyX3 tyX3_ok nmX3 0 rfl rfl 2 (by decide) m5 rfl rfl hnm rfl (by decide +kernel) rfl rfl (Nat.le_of_ble_eq_true rfl) rfl dX3_init_17 ?_
  refine xr_aload_n C 0 dX3_init_20 rfl rfl ?_
  refine xr_bipush C dX3_init_21 (by decide +kernel) ?_
  refine xr_newi C 4 (N := 100) rfl (by decide) m3 (fun u f => rfl) (by decide) (Nat.le_of_ble_eq_true rfl) (Nat.le_of_ble_eq_true rfl) dX3_init_23 (fun q4 => ?_)
  refine xr_world (fun u : xS => [(h0, .inr (2, [.ref q2, .int (i32 (u 1 1)), .ref q3, .null, .int (i32 (u 1 4)), .int (i32 (u 1 5)), .int (i32 (u 1 6)), .int (i32 (u 1 7))])), (q2, .inl (cI, 60, .inl (fun j => i32 (u 2 j)))), (q3, .inl (cI, 100, .inl (fun j => i32 (u 3 j)))), (q4, .inl (cI, 100, .inl (fun j => i32 (u 4 j))))]) (fun _ => rfl) ?_
  refine xr_sig (fun s3 es3 => ?_)
  have hw := hw s3 es3
  refine xr_putF C (fun u : xS => [(h0, .inr (2, [.ref q2, .int (i32 (u 1 1)), .ref q3, .ref q4, .int (i32 (u 1 4)), .int (i32 (u 1 5)), .int (i32 (u 1 6)), .int (i32 (u 1 7))])), (q2, .inl (cI, 60, .inl (fun j => i32 (u 2 j)))), (q3, .inl (cI, 100, .inl (fun j => i32 (u 3 j)))), (q4, .inl (cI, 100, .inl (fun j => i32 (u 4 j))))]) hinX3 (N := 8) (ci := 2) (ty := (.array .int)) tyX3 tyX3_ok nmX3 0 rfl rfl 3 (by decide) m6 rfl rfl hnm rfl (by decide +kernel) rfl rfl (Nat.le_of_ble_eq_true rfl) rfl dX3_init_25 ?_
  refine xr_world (wS (adX3 h0 q2 q3 q4) cI cJ cZ) (fun _ => rfl) ?_
  exact xr_cret (w0 := (fun u : xS => [(h0, .inr (2, [.null, .int (i32 (u 1 1)), .null, .null, .int (i32 (u 1 4)), .int (i32 (u 1 5)), .int (i32 (u 1 6)), .int (i32 (u 1 7))]))])) (W' := (fun ad2 => wS ad2 cI cJ cZ)) (Q := (fun ad2 u => ad2 1 = h0 ∧ Q u)) (σ0 := σ) C hr (adX3 h0 q2 q3 q4) (fun _ => rfl) ⟨rfl, hw⟩ (Nat.le_refl _) (Nat.le_refl _) dX3_init_28
