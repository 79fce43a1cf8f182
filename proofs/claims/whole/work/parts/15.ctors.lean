def wH (ad : Nat → Nat) (cI cJ cZ : ClassId) (σ : xS) : va_W := [(ad 5, .inr (1, [.ref (ad 6), .int (i32 (σ 5 1)), .int (i32 (σ 5 2))])), (ad 6, .inl (cI, 504, .inl (fun j => i32 (σ 6 j))))]
def vX0_init (σ : xS) (Q : xS → Prop) : Prop := ∀ s1 : xS, s1 = xset σ 8 (fun _ => 0) → (∀ σ1 : xS, σ1 = xup s1 8 59 (-1) → (vX0_renew 3 σ1 (fun σ4 => vX0_fill 0 3 σ4 (fun σ6 => vX0_fill 1 5 σ6 (fun σ8 => vX0_fill 2 8 σ8 (fun σ10 => Q σ10))))))
def adX0 (h0 q8 : Nat) : Nat → Nat := fun k => if k = 7 then h0 else q8
abbrev rmX0_init : Room := { frames := 4, cells := 1, slots := 63, locals := 154 }
set_option maxHeartbeats 8000000 in
set_option maxRecDepth 200000 in
theorem kX0_init {l : Launch} {D : va_G} {cI cJ cZ : ClassId} (h0 : Nat) (σ : xS) (Q : xS → Prop) (hw : vX0_init σ Q) : xMc False l yX0_init wsX0_init rmX0_init D (xtys cI cJ cZ) (fun u : xS => [(h0, .inr (0, [.null]))]) (fun ad2 => wB ad2 cI cJ cZ) [7, 8] σ [.ref h0] 1 63 (fun ad2 u => ad2 7 = h0 ∧ Q u) := by
  refine xenter (F := [7, 8]) (Qc := fun sz => xQc D (fun ad2 => wB ad2 cI cJ cZ) [7, 8] σ sz (fun u : xS => [(h0, .inr (0, [.null]))]) (fun ad2 u => ad2 7 = h0 ∧ Q u)) (own := RX0) (cc := cX0_init) (maxL := 1) (ret := none) (mc := 1) (ms := 63) (by decide) rfl rfl (Nat.le_of_ble_eq_true rfl) ?_
  intro p e s m args below meth c hargs C hr hnm
  have hinX0 : ∀ w ∈ u_ws RX0 TX0 1, w ∈ wsX0_init := fun _ h => List.mem_cons_of_mem _ (List.mem_append_right _ h)
  have m0 : (Cond.methodLink RX0 5 Lib.objectInit) ∈ wsX0_init := by decide +kernel
  have m1 : (Cond.instanceMethod Lib.objectInit) ∈ wsX0_init := by decide +kernel
  have m2 : (Cond.code Lib.objectInit ⟨#[0xb1]⟩ 1 none) ∈ wsX0_init := by decide +kernel
  have m3 : (Cond.arrayClass .int) ∈ wsX0_init := by decide +kernel
  have m4 : (Cond.fieldLink RX0 11 "SandBench$Bench" "cells" "[I") ∈ wsX0_init := by decide +kernel
  show xX p l e rmX0_init s m args below meth c D vwCl (va_A ((fun u : xS => [(h0, .inr (0, [.null]))]) σ) s.heap.size) (fun u : xS => [(h0, .inr (0, [.null]))]) [7, 8] σ 0 0 (MQ below (xQc D (fun ad2 => wB ad2 cI cJ cZ) [7, 8] σ s.heap.size (fun u : xS => [(h0, .inr (0, [.null]))]) (fun ad2 u => ad2 7 = h0 ∧ Q u)) args s 1 63 (va_A ((fun u : xS => [(h0, .inr (0, [.null]))]) σ) s.heap.size)) 1 σ 0 [(0, .ref h0)] []
  unfold vX0_init at hw
  refine xr_aload_n C 0 dX0_init_0 rfl rfl ?_
  refine xr_objinit C m0 m1 m2 (by decide) (Nat.le_of_ble_eq_true rfl) dX0_init_1 ?_
  refine xr_aload_n C 0 dX0_init_4 rfl rfl ?_
  refine xr_bipush C dX0_init_5 (by decide +kernel) ?_
  refine xr_newi C 8 (N := 63) rfl (by decide) m3 (fun u f => rfl) (by decide) (Nat.le_of_ble_eq_true rfl) (Nat.le_of_ble_eq_true rfl) dX0_init_7 (fun q8 => ?_)
  refine xr_world (fun u : xS => [(h0, .inr (0, [.null])), (q8, .inl (cI, 63, .inl (fun j => i32 (u 8 j))))]) (fun _ => rfl) ?_
  refine xr_sig (fun s1 es1 => ?_)
  have hw := hw s1 es1
  refine xr_putF C (fun u : xS => [(h0, .inr (0, [.ref q8])), (q8, .inl (cI, 63, .inl (fun j => i32 (u 8 j))))]) hinX0 (N := 1) (ci := 0) (ty := (.array .int)) tyX0 tyX0_ok nmX0 0 rfl rfl 0 (by decide) m4 rfl rfl hnm rfl (by decide +kernel) rfl rfl (Nat.le_of_ble_eq_true rfl) rfl dX0_init_9 ?_
  refine xr_world (wB (adX0 h0 q8) cI cJ cZ) (fun _ => rfl) ?_
  refine xr_aload_n C 0 dX0_init_12 rfl rfl ?_
  refine xr_get C hinX0 (N := 1) (ci := 0) (a := h0) 0 rfl rfl 0 (by decide) m4 rfl rfl dX0_init_13 ?_
  refine xr_bipush C dX0_init_16 (by decide +kernel) ?_
  refine xr_iconst C dX0_init_18 ?_
  refine xr_iast C (t0 := 0) (r := 8) 1 rfl rfl (by decide) (N := 63) rfl ⟨by decide, by decide⟩ wB_st8 (by decide) dX0_init_19 ?_
  refine xr_sig (fun σ1 e2 => ?_)
  have hw := hw σ1 e2
  refine xr_aload_n C 0 dX0_init_20 rfl rfl ?_
  refine xr_iconst C dX0_init_21 ?_
  refine xr_callVv C (ci := 0) (q0 := 0) (As := [.int (i32 3)]) (rest := []) (xSp_rf _ _) (by decide) (fun h => h) (mX0_renew σ1 3 _ hw) (cwV 1 C.2.2.2.2.1 gX0_init_X0_renew rfl rfl rfl (by decide +kernel) ⟨by decide, by decide⟩) rfl rfl rfl rfl (Nat.le_of_ble_eq_true rfl) ⟨by decide, by decide⟩ dX0_init_22 (fun σ4 hw => ?_)
  refine xr_aload_n C 0 dX0_init_25 rfl rfl ?_
  refine xr_iconst C dX0_init_26 ?_
  refine xr_iconst C dX0_init_27 ?_
  refine xr_callVv C (ci := 0) (q0 := 0) (As := [.int (i32 0), .int (i32 3)]) (rest := []) (xSp_rf _ _) (by decide) (fun h => h) (mX0_fill σ4 0 3 _ hw) (cwV 2 C.2.2.2.2.1 gX0_init_X0_fill rfl rfl rfl (by decide +kernel) ⟨by decide, by decide⟩) rfl rfl rfl rfl (Nat.le_of_ble_eq_true rfl) ⟨by decide, by decide⟩ dX0_init_28 (fun σ6 hw => ?_)
  refine xr_aload_n C 0 dX0_init_31 rfl rfl ?_
  refine xr_iconst C dX0_init_32 ?_
  refine xr_iconst C dX0_init_33 ?_
  refine xr_callVv C (ci := 0) (q0 := 0) (As := [.int (i32 1), .int (i32 5)]) (rest := []) (xSp_rf _ _) (by decide) (fun h => h) (mX0_fill σ6 1 5 _ hw) (cwV 2 C.2.2.2.2.1 gX0_init_X0_fill rfl rfl rfl (by decide +kernel) ⟨by decide, by decide⟩) rfl rfl rfl rfl (Nat.le_of_ble_eq_true rfl) ⟨by decide, by decide⟩ dX0_init_34 (fun σ8 hw => ?_)
  refine xr_aload_n C 0 dX0_init_37 rfl rfl ?_
  refine xr_iconst C dX0_init_38 ?_
  refine xr_bipush C dX0_init_39 (by decide +kernel) ?_
  refine xr_callVv C (ci := 0) (q0 := 0) (As := [.int (i32 2), .int (i32 8)]) (rest := []) (xSp_rf _ _) (by decide) (fun h => h) (mX0_fill σ8 2 8 _ hw) (cwV 2 C.2.2.2.2.1 gX0_init_X0_fill rfl rfl rfl (by decide +kernel) ⟨by decide, by decide⟩) rfl rfl rfl rfl (Nat.le_of_ble_eq_true rfl) ⟨by decide, by decide⟩ dX0_init_41 (fun σ10 hw => ?_)
  exact xr_cret (w0 := (fun u : xS => [(h0, .inr (0, [.null]))])) (W' := (fun ad2 => wB ad2 cI cJ cZ)) (Q := (fun ad2 u => ad2 7 = h0 ∧ Q u)) (σ0 := σ) C hr (adX0 h0 q8) (fun _ => rfl) ⟨rfl, hw⟩ (Nat.le_refl _) (Nat.le_refl _) dX0_init_44
def vX1_init (σ : xS) (Q : xS → Prop) : Prop := ∀ s1 : xS, s1 = xset σ 6 (fun _ => 0) → (Q s1)
def adX1 (h0 q6 : Nat) : Nat → Nat := fun k => if k = 5 then h0 else q6
abbrev rmX1_init : Room := { frames := 1, cells := 1, slots := 504, locals := 64 }
set_option maxHeartbeats 8000000 in
set_option maxRecDepth 200000 in
theorem kX1_init {l : Launch} {D : va_G} {cI cJ cZ : ClassId} (h0 : Nat) (σ : xS) (Q : xS → Prop) (hw : vX1_init σ Q) : xMc False l yX1_init wsX1_init rmX1_init D (xtys cI cJ cZ) (fun u : xS => [(h0, .inr (1, [.null, .int (i32 (u 5 1)), .int (i32 (u 5 2))]))]) (fun ad2 => wH ad2 cI cJ cZ) [5, 6] σ [.ref h0] 1 504 (fun ad2 u => ad2 5 = h0 ∧ Q u) := by
  refine xenter (F := [5, 6]) (Qc := fun sz => xQc D (fun ad2 => wH ad2 cI cJ cZ) [5, 6] σ sz (fun u : xS => [(h0, .inr (1, [.null, .int (i32 (u 5 1)), .int (i32 (u 5 2))]))]) (fun ad2 u => ad2 5 = h0 ∧ Q u)) (own := RX1) (cc := cX1_init) (maxL := 1) (ret := none) (mc := 1) (ms := 504) (by decide) rfl rfl (Nat.le_of_ble_eq_true rfl) ?_
  intro p e s m args below meth c hargs C hr hnm
  have hinX1 : ∀ w ∈ u_ws RX1 TX1 3, w ∈ wsX1_init := fun _ h => List.mem_cons_of_mem _ (List.mem_append_right _ h)
  have m0 : (Cond.methodLink RX1 1 Lib.objectInit) ∈ wsX1_init := by decide +kernel
  have m1 : (Cond.instanceMethod Lib.objectInit) ∈ wsX1_init := by decide +kernel
  have m2 : (Cond.code Lib.objectInit ⟨#[0xb1]⟩ 1 none) ∈ wsX1_init := by decide +kernel
  have m3 : (Cond.arrayClass .int) ∈ wsX1_init := by decide +kernel
  have m4 : (Cond.fieldLink RX1 11 "SandBench$History" "rows" "[I") ∈ wsX1_init := by decide +kernel
  show xX p l e rmX1_init s m args below meth c D vwCl (va_A ((fun u : xS => [(h0, .inr (1, [.null, .int (i32 (u 5 1)), .int (i32 (u 5 2))]))]) σ) s.heap.size) (fun u : xS => [(h0, .inr (1, [.null, .int (i32 (u 5 1)), .int (i32 (u 5 2))]))]) [5, 6] σ 0 0 (MQ below (xQc D (fun ad2 => wH ad2 cI cJ cZ) [5, 6] σ s.heap.size (fun u : xS => [(h0, .inr (1, [.null, .int (i32 (u 5 1)), .int (i32 (u 5 2))]))]) (fun ad2 u => ad2 5 = h0 ∧ Q u)) args s 1 504 (va_A ((fun u : xS => [(h0, .inr (1, [.null, .int (i32 (u 5 1)), .int (i32 (u 5 2))]))]) σ) s.heap.size)) 1 σ 0 [(0, .ref h0)] []
  unfold vX1_init at hw
  refine xr_aload_n C 0 dX1_init_0 rfl rfl ?_
  refine xr_objinit C m0 m1 m2 (by decide) (Nat.le_of_ble_eq_true rfl) dX1_init_1 ?_
  refine xr_aload_n C 0 dX1_init_4 rfl rfl ?_
  refine xr_sipush C dX1_init_5 (by decide +kernel) ?_
  refine xr_newi C 6 (N := 504) rfl (by decide) m3 (fun u f => rfl) (by decide) (Nat.le_of_ble_eq_true rfl) (Nat.le_of_ble_eq_true rfl) dX1_init_8 (fun q6 => ?_)
  refine xr_world (fun u : xS => [(h0, .inr (1, [.null, .int (i32 (u 5 1)), .int (i32 (u 5 2))])), (q6, .inl (cI, 504, .inl (fun j => i32 (u 6 j))))]) (fun _ => rfl) ?_
  refine xr_sig (fun s1 es1 => ?_)
  have hw := hw s1 es1
  refine xr_putF C (fun u : xS => [(h0, .inr (1, [.ref q6, .int (i32 (u 5 1)), .int (i32 (u 5 2))])), (q6, .inl (cI, 504, .inl (fun j => i32 (u 6 j))))]) hinX1 (N := 3) (ci := 1) (ty := (.array .int)) tyX1 tyX1_ok nmX1 0 rfl rfl 0 (by decide) m4 rfl rfl hnm rfl (by decide +kernel) rfl rfl (Nat.le_of_ble_eq_true rfl) rfl dX1_init_10 ?_
  refine xr_world (wH (adX1 h0 q6) cI cJ cZ) (fun _ => rfl) ?_
  exact xr_cret (w0 := (fun u : xS => [(h0, .inr (1, [.null, .int (i32 (u 5 1)), .int (i32 (u 5 2))]))])) (W' := (fun ad2 => wH ad2 cI cJ cZ)) (Q := (fun ad2 u => ad2 5 = h0 ∧ Q u)) (σ0 := σ) C hr (adX1 h0 q6) (fun _ => rfl) ⟨rfl, hw⟩ (Nat.le_refl _) (Nat.le_refl _) dX1_init_13
def vX3_init (σ : xS) (Q : xS → Prop) : Prop := ∀ s1 : xS, s1 = xset σ 2 (fun _ => 0) → (∀ s2 : xS, s2 = xset s1 3 (fun _ => 0) → (∀ s3 : xS, s3 = xset s2 4 (fun _ => 0) → (Q s3)))
def adX3 (h0 q2 q3 q4 : Nat) : Nat → Nat := fun k => if k = 1 then h0 else if k = 2 then q2 else if k = 3 then q3 else q4
abbrev rmX3_init : Room := { frames := 1, cells := 3, slots := 260, locals := 64 }
set_option maxHeartbeats 8000000 in
set_option maxRecDepth 200000 in
theorem kX3_init {l : Launch} {D : va_G} {cI cJ cZ : ClassId} (h0 : Nat) (σ : xS) (Q : xS → Prop) (hw : vX3_init σ Q) : xMc False l yX3_init wsX3_init rmX3_init D (xtys cI cJ cZ) (fun u : xS => [(h0, .inr (3, [.null, .int (i32 (u 1 1)), .null, .null, .int (i32 (u 1 4)), .int (i32 (u 1 5)), .int (i32 (u 1 6)), .int (i32 (u 1 7))]))]) (fun ad2 => wS ad2 cI cJ cZ) [1, 2, 3, 4] σ [.ref h0] 3 260 (fun ad2 u => ad2 1 = h0 ∧ Q u) := by
  refine xenter (F := [1, 2, 3, 4]) (Qc := fun sz => xQc D (fun ad2 => wS ad2 cI cJ cZ) [1, 2, 3, 4] σ sz (fun u : xS => [(h0, .inr (3, [.null, .int (i32 (u 1 1)), .null, .null, .int (i32 (u 1 4)), .int (i32 (u 1 5)), .int (i32 (u 1 6)), .int (i32 (u 1 7))]))]) (fun ad2 u => ad2 1 = h0 ∧ Q u)) (own := RX3) (cc := cX3_init) (maxL := 1) (ret := none) (mc := 3) (ms := 260) (by decide) rfl rfl (Nat.le_of_ble_eq_true rfl) ?_
  intro p e s m args below meth c hargs C hr hnm
  have hinX3 : ∀ w ∈ u_ws RX3 TX3 8, w ∈ wsX3_init := fun _ h => List.mem_cons_of_mem _ (List.mem_append_right _ h)
  have m0 : (Cond.methodLink RX3 3 Lib.objectInit) ∈ wsX3_init := by decide +kernel
  have m1 : (Cond.instanceMethod Lib.objectInit) ∈ wsX3_init := by decide +kernel
  have m2 : (Cond.code Lib.objectInit ⟨#[0xb1]⟩ 1 none) ∈ wsX3_init := by decide +kernel
  have m3 : (Cond.arrayClass .int) ∈ wsX3_init := by decide +kernel
  have m4 : (Cond.fieldLink RX3 11 "SandBench$Script" "bytes" "[I") ∈ wsX3_init := by decide +kernel
  have m5 : (Cond.fieldLink RX3 15 "SandBench$Script" "letters" "[I") ∈ wsX3_init := by decide +kernel
  have m6 : (Cond.fieldLink RX3 18 "SandBench$Script" "numbers" "[I") ∈ wsX3_init := by decide +kernel
  show xX p l e rmX3_init s m args below meth c D vwCl (va_A ((fun u : xS => [(h0, .inr (3, [.null, .int (i32 (u 1 1)), .null, .null, .int (i32 (u 1 4)), .int (i32 (u 1 5)), .int (i32 (u 1 6)), .int (i32 (u 1 7))]))]) σ) s.heap.size) (fun u : xS => [(h0, .inr (3, [.null, .int (i32 (u 1 1)), .null, .null, .int (i32 (u 1 4)), .int (i32 (u 1 5)), .int (i32 (u 1 6)), .int (i32 (u 1 7))]))]) [1, 2, 3, 4] σ 0 0 (MQ below (xQc D (fun ad2 => wS ad2 cI cJ cZ) [1, 2, 3, 4] σ s.heap.size (fun u : xS => [(h0, .inr (3, [.null, .int (i32 (u 1 1)), .null, .null, .int (i32 (u 1 4)), .int (i32 (u 1 5)), .int (i32 (u 1 6)), .int (i32 (u 1 7))]))]) (fun ad2 u => ad2 1 = h0 ∧ Q u)) args s 3 260 (va_A ((fun u : xS => [(h0, .inr (3, [.null, .int (i32 (u 1 1)), .null, .null, .int (i32 (u 1 4)), .int (i32 (u 1 5)), .int (i32 (u 1 6)), .int (i32 (u 1 7))]))]) σ) s.heap.size)) 1 σ 0 [(0, .ref h0)] []
  unfold vX3_init at hw
  refine xr_aload_n C 0 dX3_init_0 rfl rfl ?_
  refine xr_objinit C m0 m1 m2 (by decide) (Nat.le_of_ble_eq_true rfl) dX3_init_1 ?_
  refine xr_aload_n C 0 dX3_init_4 rfl rfl ?_
  refine xr_bipush C dX3_init_5 (by decide +kernel) ?_
  refine xr_newi C 2 (N := 60) rfl (by decide) m3 (fun u f => rfl) (by decide) (Nat.le_of_ble_eq_true rfl) (Nat.le_of_ble_eq_true rfl) dX3_init_7 (fun q2 => ?_)
  refine xr_world (fun u : xS => [(h0, .inr (3, [.null, .int (i32 (u 1 1)), .null, .null, .int (i32 (u 1 4)), .int (i32 (u 1 5)), .int (i32 (u 1 6)), .int (i32 (u 1 7))])), (q2, .inl (cI, 60, .inl (fun j => i32 (u 2 j))))]) (fun _ => rfl) ?_
  refine xr_sig (fun s1 es1 => ?_)
  have hw := hw s1 es1
  refine xr_putF C (fun u : xS => [(h0, .inr (3, [.ref q2, .int (i32 (u 1 1)), .null, .null, .int (i32 (u 1 4)), .int (i32 (u 1 5)), .int (i32 (u 1 6)), .int (i32 (u 1 7))])), (q2, .inl (cI, 60, .inl (fun j => i32 (u 2 j))))]) hinX3 (N := 8) (ci := 3) (ty := (.array .int)) tyX3 tyX3_ok nmX3 0 rfl rfl 0 (by decide) m4 rfl rfl hnm rfl (by decide +kernel) rfl rfl (Nat.le_of_ble_eq_true rfl) rfl dX3_init_9 ?_
  refine xr_aload_n C 0 dX3_init_12 rfl rfl ?_
  refine xr_bipush C dX3_init_13 (by decide +kernel) ?_
  refine xr_newi C 3 (N := 100) rfl (by decide) m3 (fun u f => rfl) (by decide) (Nat.le_of_ble_eq_true rfl) (Nat.le_of_ble_eq_true rfl) dX3_init_15 (fun q3 => ?_)
  refine xr_world (fun u : xS => [(h0, .inr (3, [.ref q2, .int (i32 (u 1 1)), .null, .null, .int (i32 (u 1 4)), .int (i32 (u 1 5)), .int (i32 (u 1 6)), .int (i32 (u 1 7))])), (q2, .inl (cI, 60, .inl (fun j => i32 (u 2 j)))), (q3, .inl (cI, 100, .inl (fun j => i32 (u 3 j))))]) (fun _ => rfl) ?_
  refine xr_sig (fun s2 es2 => ?_)
  have hw := hw s2 es2
  refine xr_putF C (fun u : xS => [(h0, .inr (3, [.ref q2, .int (i32 (u 1 1)), .ref q3, .null, .int (i32 (u 1 4)), .int (i32 (u 1 5)), .int (i32 (u 1 6)), .int (i32 (u 1 7))])), (q2, .inl (cI, 60, .inl (fun j => i32 (u 2 j)))), (q3, .inl (cI, 100, .inl (fun j => i32 (u 3 j))))]) hinX3 (N := 8) (ci := 3) (ty := (.array .int)) tyX3 tyX3_ok nmX3 0 rfl rfl 2 (by decide) m5 rfl rfl hnm rfl (by decide +kernel) rfl rfl (Nat.le_of_ble_eq_true rfl) rfl dX3_init_17 ?_
  refine xr_aload_n C 0 dX3_init_20 rfl rfl ?_
  refine xr_bipush C dX3_init_21 (by decide +kernel) ?_
  refine xr_newi C 4 (N := 100) rfl (by decide) m3 (fun u f => rfl) (by decide) (Nat.le_of_ble_eq_true rfl) (Nat.le_of_ble_eq_true rfl) dX3_init_23 (fun q4 => ?_)
  refine xr_world (fun u : xS => [(h0, .inr (3, [.ref q2, .int (i32 (u 1 1)), .ref q3, .null, .int (i32 (u 1 4)), .int (i32 (u 1 5)), .int (i32 (u 1 6)), .int (i32 (u 1 7))])), (q2, .inl (cI, 60, .inl (fun j => i32 (u 2 j)))), (q3, .inl (cI, 100, .inl (fun j => i32 (u 3 j)))), (q4, .inl (cI, 100, .inl (fun j => i32 (u 4 j))))]) (fun _ => rfl) ?_
  refine xr_sig (fun s3 es3 => ?_)
  have hw := hw s3 es3
  refine xr_putF C (fun u : xS => [(h0, .inr (3, [.ref q2, .int (i32 (u 1 1)), .ref q3, .ref q4, .int (i32 (u 1 4)), .int (i32 (u 1 5)), .int (i32 (u 1 6)), .int (i32 (u 1 7))])), (q2, .inl (cI, 60, .inl (fun j => i32 (u 2 j)))), (q3, .inl (cI, 100, .inl (fun j => i32 (u 3 j)))), (q4, .inl (cI, 100, .inl (fun j => i32 (u 4 j))))]) hinX3 (N := 8) (ci := 3) (ty := (.array .int)) tyX3 tyX3_ok nmX3 0 rfl rfl 3 (by decide) m6 rfl rfl hnm rfl (by decide +kernel) rfl rfl (Nat.le_of_ble_eq_true rfl) rfl dX3_init_25 ?_
  refine xr_world (wS (adX3 h0 q2 q3 q4) cI cJ cZ) (fun _ => rfl) ?_
  exact xr_cret (w0 := (fun u : xS => [(h0, .inr (3, [.null, .int (i32 (u 1 1)), .null, .null, .int (i32 (u 1 4)), .int (i32 (u 1 5)), .int (i32 (u 1 6)), .int (i32 (u 1 7))]))])) (W' := (fun ad2 => wS ad2 cI cJ cZ)) (Q := (fun ad2 u => ad2 1 = h0 ∧ Q u)) (σ0 := σ) C hr (adX3 h0 q2 q3 q4) (fun _ => rfl) ⟨rfl, hw⟩ (Nat.le_refl _) (Nat.le_refl _) dX3_init_28
def vX2_init (σ : xS) (Q : xS → Prop) : Prop := ∀ s1 : xS, s1 = xup σ 9 0 (-1) → (∀ s2 : xS, s2 = xset s1 10 (fun _ => 0) → (∀ s3 : xS, s3 = xset s2 11 (fun _ => 0) → (∀ s4 : xS, s4 = xset s3 12 (fun _ => 0) → (∀ s5 : xS, s5 = xset s4 13 (fun _ => 0) → (∀ s6 : xS, s6 = xset s5 14 (fun _ => 0) → (Q s6))))))
def adX2 (h0 q10 q11 q12 q13 q14 : Nat) : Nat → Nat := fun k => if k = 9 then h0 else if k = 10 then q10 else if k = 11 then q11 else if k = 12 then q12 else if k = 13 then q13 else q14
abbrev rmX2_init : Room := { frames := 1, cells := 5, slots := 20058, locals := 64 }
set_option maxHeartbeats 8000000 in
set_option maxRecDepth 200000 in
theorem kX2_init {l : Launch} {D : va_G} {cI cJ cZ : ClassId} (h0 : Nat) (σ : xS) (Q : xS → Prop) (hw : vX2_init σ Q) : xMc False l yX2_init wsX2_init rmX2_init D (xtys cI cJ cZ) (fun u : xS => [(h0, .inr (2, [.int (i32 (u 9 0)), .int (i32 (u 9 1)), .null, .int (i32 (u 9 3)), .null, .null, .int (i32 (u 9 6)), .null, .null, .int (i32 (u 9 9)), .int (i32 (u 9 10))]))]) (fun ad2 => wP ad2 cI cJ cZ) [9, 10, 11, 12, 13, 14] σ [.ref h0] 5 20058 (fun ad2 u => ad2 9 = h0 ∧ Q u) := by
  refine xenter (F := [9, 10, 11, 12, 13, 14]) (Qc := fun sz => xQc D (fun ad2 => wP ad2 cI cJ cZ) [9, 10, 11, 12, 13, 14] σ sz (fun u : xS => [(h0, .inr (2, [.int (i32 (u 9 0)), .int (i32 (u 9 1)), .null, .int (i32 (u 9 3)), .null, .null, .int (i32 (u 9 6)), .null, .null, .int (i32 (u 9 9)), .int (i32 (u 9 10))]))]) (fun ad2 u => ad2 9 = h0 ∧ Q u)) (own := RX2) (cc := cX2_init) (maxL := 1) (ret := none) (mc := 5) (ms := 20058) (by decide) rfl rfl (Nat.le_of_ble_eq_true rfl) ?_
  intro p e s m args below meth c hargs C hr hnm
  have hinX2 : ∀ w ∈ u_ws RX2 TX2 11, w ∈ wsX2_init := fun _ h => List.mem_cons_of_mem _ (List.mem_append_right _ h)
  have m0 : (Cond.methodLink RX2 7 Lib.objectInit) ∈ wsX2_init := by decide +kernel
  have m1 : (Cond.instanceMethod Lib.objectInit) ∈ wsX2_init := by decide +kernel
  have m2 : (Cond.code Lib.objectInit ⟨#[0xb1]⟩ 1 none) ∈ wsX2_init := by decide +kernel
  have m3 : (Cond.fieldLink RX2 13 "SandBench$Planner" "shape" "I") ∈ wsX2_init := by decide +kernel
  have m4 : (Cond.arrayClass .int) ∈ wsX2_init := by decide +kernel
  have m5 : (Cond.fieldLink RX2 17 "SandBench$Planner" "turned" "[I") ∈ wsX2_init := by decide +kernel
  have m6 : (Cond.fieldLink RX2 21 "SandBench$Planner" "sandOf" "[I") ∈ wsX2_init := by decide +kernel
  have m7 : (Cond.fieldLink RX2 24 "SandBench$Planner" "momentOf" "[I") ∈ wsX2_init := by decide +kernel
  have m8 : (Cond.fieldLink RX2 27 "SandBench$Planner" "ways" "[I") ∈ wsX2_init := by decide +kernel
  have m9 : (Cond.arrayClass .long) ∈ wsX2_init := by decide +kernel
  have m10 : (Cond.fieldLink RX2 30 "SandBench$Planner" "spans" "[J") ∈ wsX2_init := by decide +kernel
  show xX p l e rmX2_init s m args below meth c D vwCl (va_A ((fun u : xS => [(h0, .inr (2, [.int (i32 (u 9 0)), .int (i32 (u 9 1)), .null, .int (i32 (u 9 3)), .null, .null, .int (i32 (u 9 6)), .null, .null, .int (i32 (u 9 9)), .int (i32 (u 9 10))]))]) σ) s.heap.size) (fun u : xS => [(h0, .inr (2, [.int (i32 (u 9 0)), .int (i32 (u 9 1)), .null, .int (i32 (u 9 3)), .null, .null, .int (i32 (u 9 6)), .null, .null, .int (i32 (u 9 9)), .int (i32 (u 9 10))]))]) [9, 10, 11, 12, 13, 14] σ 0 0 (MQ below (xQc D (fun ad2 => wP ad2 cI cJ cZ) [9, 10, 11, 12, 13, 14] σ s.heap.size (fun u : xS => [(h0, .inr (2, [.int (i32 (u 9 0)), .int (i32 (u 9 1)), .null, .int (i32 (u 9 3)), .null, .null, .int (i32 (u 9 6)), .null, .null, .int (i32 (u 9 9)), .int (i32 (u 9 10))]))]) (fun ad2 u => ad2 9 = h0 ∧ Q u)) args s 5 20058 (va_A ((fun u : xS => [(h0, .inr (2, [.int (i32 (u 9 0)), .int (i32 (u 9 1)), .null, .int (i32 (u 9 3)), .null, .null, .int (i32 (u 9 6)), .null, .null, .int (i32 (u 9 9)), .int (i32 (u 9 10))]))]) σ) s.heap.size)) 1 σ 0 [(0, .ref h0)] []
  unfold vX2_init at hw
  refine xr_aload_n C 0 dX2_init_0 rfl rfl ?_
  refine xr_objinit C m0 m1 m2 (by decide) (Nat.le_of_ble_eq_true rfl) dX2_init_1 ?_
  refine xr_aload_n C 0 dX2_init_4 rfl rfl ?_
  refine xr_iconst C dX2_init_5 ?_
  refine xr_put C (r := 9) (x := (-1)) (ty := .int) hinX2 (N := 11) (ci := 2) tyX2 tyX2_ok nmX2 0 rfl rfl 0 (by decide) m3 rfl rfl (by decide +kernel) rfl rfl (Nat.le_of_ble_eq_true rfl) rfl (by decide) dX2_init_6 ?_
  refine xr_sig (fun s1 es1 => ?_)
  have hw := hw s1 es1
  refine xr_aload_n C 0 dX2_init_9 rfl rfl ?_
  refine xr_bipush C dX2_init_10 (by decide +kernel) ?_
  refine xr_newi C 10 (N := 8) rfl (by decide) m4 (fun u f => rfl) (by decide) (Nat.le_of_ble_eq_true rfl) (Nat.le_of_ble_eq_true rfl) dX2_init_12 (fun q10 => ?_)
  refine xr_world (fun u : xS => [(h0, .inr (2, [.int (i32 (u 9 0)), .int (i32 (u 9 1)), .null, .int (i32 (u 9 3)), .null, .null, .int (i32 (u 9 6)), .null, .null, .int (i32 (u 9 9)), .int (i32 (u 9 10))])), (q10, .inl (cI, 8, .inl (fun j => i32 (u 10 j))))]) (fun _ => rfl) ?_
  refine xr_sig (fun s2 es2 => ?_)
  have hw := hw s2 es2
  refine xr_putF C (fun u : xS => [(h0, .inr (2, [.int (i32 (u 9 0)), .int (i32 (u 9 1)), .ref q10, .int (i32 (u 9 3)), .null, .null, .int (i32 (u 9 6)), .null, .null, .int (i32 (u 9 9)), .int (i32 (u 9 10))])), (q10, .inl (cI, 8, .inl (fun j => i32 (u 10 j))))]) hinX2 (N := 11) (ci := 2) (ty := (.array .int)) tyX2 tyX2_ok nmX2 0 rfl rfl 2 (by decide) m5 rfl rfl hnm rfl (by decide +kernel) rfl rfl (Nat.le_of_ble_eq_true rfl) rfl dX2_init_14 ?_
  refine xr_aload_n C 0 dX2_init_17 rfl rfl ?_
  refine xr_sipush C dX2_init_18 (by decide +kernel) ?_
  refine xr_newi C 11 (N := 469) rfl (by decide) m4 (fun u f => rfl) (by decide) (Nat.le_of_ble_eq_true rfl) (Nat.le_of_ble_eq_true rfl) dX2_init_21 (fun q11 => ?_)
  refine xr_world (fun u : xS => [(h0, .inr (2, [.int (i32 (u 9 0)), .int (i32 (u 9 1)), .ref q10, .int (i32 (u 9 3)), .null, .null, .int (i32 (u 9 6)), .null, .null, .int (i32 (u 9 9)), .int (i32 (u 9 10))])), (q10, .inl (cI, 8, .inl (fun j => i32 (u 10 j)))), (q11, .inl (cI, 469, .inl (fun j => i32 (u 11 j))))]) (fun _ => rfl) ?_
  refine xr_sig (fun s3 es3 => ?_)
  have hw := hw s3 es3
  refine xr_putF C (fun u : xS => [(h0, .inr (2, [.int (i32 (u 9 0)), .int (i32 (u 9 1)), .ref q10, .int (i32 (u 9 3)), .ref q11, .null, .int (i32 (u 9 6)), .null, .null, .int (i32 (u 9 9)), .int (i32 (u 9 10))])), (q10, .inl (cI, 8, .inl (fun j => i32 (u 10 j)))), (q11, .inl (cI, 469, .inl (fun j => i32 (u 11 j))))]) hinX2 (N := 11) (ci := 2) (ty := (.array .int)) tyX2 tyX2_ok nmX2 0 rfl rfl 4 (by decide) m6 rfl rfl hnm rfl (by decide +kernel) rfl rfl (Nat.le_of_ble_eq_true rfl) rfl dX2_init_23 ?_
  refine xr_aload_n C 0 dX2_init_26 rfl rfl ?_
  refine xr_sipush C dX2_init_27 (by decide +kernel) ?_
  refine xr_newi C 12 (N := 4096) rfl (by decide) m4 (fun u f => rfl) (by decide) (Nat.le_of_ble_eq_true rfl) (Nat.le_of_ble_eq_true rfl) dX2_init_30 (fun q12 => ?_)
  refine xr_world (fun u : xS => [(h0, .inr (2, [.int (i32 (u 9 0)), .int (i32 (u 9 1)), .ref q10, .int (i32 (u 9 3)), .ref q11, .null, .int (i32 (u 9 6)), .null, .null, .int (i32 (u 9 9)), .int (i32 (u 9 10))])), (q10, .inl (cI, 8, .inl (fun j => i32 (u 10 j)))), (q11, .inl (cI, 469, .inl (fun j => i32 (u 11 j)))), (q12, .inl (cI, 4096, .inl (fun j => i32 (u 12 j))))]) (fun _ => rfl) ?_
  refine xr_sig (fun s4 es4 => ?_)
  have hw := hw s4 es4
  refine xr_putF C (fun u : xS => [(h0, .inr (2, [.int (i32 (u 9 0)), .int (i32 (u 9 1)), .ref q10, .int (i32 (u 9 3)), .ref q11, .ref q12, .int (i32 (u 9 6)), .null, .null, .int (i32 (u 9 9)), .int (i32 (u 9 10))])), (q10, .inl (cI, 8, .inl (fun j => i32 (u 10 j)))), (q11, .inl (cI, 469, .inl (fun j => i32 (u 11 j)))), (q12, .inl (cI, 4096, .inl (fun j => i32 (u 12 j))))]) hinX2 (N := 11) (ci := 2) (ty := (.array .int)) tyX2 tyX2_ok nmX2 0 rfl rfl 5 (by decide) m7 rfl rfl hnm rfl (by decide +kernel) rfl rfl (Nat.le_of_ble_eq_true rfl) rfl dX2_init_32 ?_
  refine xr_aload_n C 0 dX2_init_35 rfl rfl ?_
  refine xr_sipush C dX2_init_36 (by decide +kernel) ?_
  refine xr_newi C 13 (N := 3760) rfl (by decide) m4 (fun u f => rfl) (by decide) (Nat.le_of_ble_eq_true rfl) (Nat.le_of_ble_eq_true rfl) dX2_init_39 (fun q13 => ?_)
  refine xr_world (fun u : xS => [(h0, .inr (2, [.int (i32 (u 9 0)), .int (i32 (u 9 1)), .ref q10, .int (i32 (u 9 3)), .ref q11, .ref q12, .int (i32 (u 9 6)), .null, .null, .int (i32 (u 9 9)), .int (i32 (u 9 10))])), (q10, .inl (cI, 8, .inl (fun j => i32 (u 10 j)))), (q11, .inl (cI, 469, .inl (fun j => i32 (u 11 j)))), (q12, .inl (cI, 4096, .inl (fun j => i32 (u 12 j)))), (q13, .inl (cI, 3760, .inl (fun j => i32 (u 13 j))))]) (fun _ => rfl) ?_
  refine xr_sig (fun s5 es5 => ?_)
  have hw := hw s5 es5
  refine xr_putF C (fun u : xS => [(h0, .inr (2, [.int (i32 (u 9 0)), .int (i32 (u 9 1)), .ref q10, .int (i32 (u 9 3)), .ref q11, .ref q12, .int (i32 (u 9 6)), .ref q13, .null, .int (i32 (u 9 9)), .int (i32 (u 9 10))])), (q10, .inl (cI, 8, .inl (fun j => i32 (u 10 j)))), (q11, .inl (cI, 469, .inl (fun j => i32 (u 11 j)))), (q12, .inl (cI, 4096, .inl (fun j => i32 (u 12 j)))), (q13, .inl (cI, 3760, .inl (fun j => i32 (u 13 j))))]) hinX2 (N := 11) (ci := 2) (ty := (.array .int)) tyX2 tyX2_ok nmX2 0 rfl rfl 7 (by decide) m8 rfl rfl hnm rfl (by decide +kernel) rfl rfl (Nat.le_of_ble_eq_true rfl) rfl dX2_init_41 ?_
  refine xr_aload_n C 0 dX2_init_44 rfl rfl ?_
  refine xr_sipush C dX2_init_45 (by decide +kernel) ?_
  refine xr_newl C 14 (N := 11725) rfl (by decide) m9 (fun u f => rfl) (by decide) (Nat.le_of_ble_eq_true rfl) (Nat.le_of_ble_eq_true rfl) dX2_init_48 (fun q14 => ?_)
  refine xr_world (fun u : xS => [(h0, .inr (2, [.int (i32 (u 9 0)), .int (i32 (u 9 1)), .ref q10, .int (i32 (u 9 3)), .ref q11, .ref q12, .int (i32 (u 9 6)), .ref q13, .null, .int (i32 (u 9 9)), .int (i32 (u 9 10))])), (q10, .inl (cI, 8, .inl (fun j => i32 (u 10 j)))), (q11, .inl (cI, 469, .inl (fun j => i32 (u 11 j)))), (q12, .inl (cI, 4096, .inl (fun j => i32 (u 12 j)))), (q13, .inl (cI, 3760, .inl (fun j => i32 (u 13 j)))), (q14, .inl (cJ, 11725, .inr (.inl (fun j => i64 (u 14 j)))))]) (fun _ => rfl) ?_
  refine xr_sig (fun s6 es6 => ?_)
  have hw := hw s6 es6
  refine xr_putF C (fun u : xS => [(h0, .inr (2, [.int (i32 (u 9 0)), .int (i32 (u 9 1)), .ref q10, .int (i32 (u 9 3)), .ref q11, .ref q12, .int (i32 (u 9 6)), .ref q13, .ref q14, .int (i32 (u 9 9)), .int (i32 (u 9 10))])), (q10, .inl (cI, 8, .inl (fun j => i32 (u 10 j)))), (q11, .inl (cI, 469, .inl (fun j => i32 (u 11 j)))), (q12, .inl (cI, 4096, .inl (fun j => i32 (u 12 j)))), (q13, .inl (cI, 3760, .inl (fun j => i32 (u 13 j)))), (q14, .inl (cJ, 11725, .inr (.inl (fun j => i64 (u 14 j)))))]) hinX2 (N := 11) (ci := 2) (ty := (.array .long)) tyX2 tyX2_ok nmX2 0 rfl rfl 8 (by decide) m10 rfl rfl hnm rfl (by decide +kernel) rfl rfl (Nat.le_of_ble_eq_true rfl) rfl dX2_init_50 ?_
  refine xr_world (wP (adX2 h0 q10 q11 q12 q13 q14) cI cJ cZ) (fun _ => rfl) ?_
  exact xr_cret (w0 := (fun u : xS => [(h0, .inr (2, [.int (i32 (u 9 0)), .int (i32 (u 9 1)), .null, .int (i32 (u 9 3)), .null, .null, .int (i32 (u 9 6)), .null, .null, .int (i32 (u 9 9)), .int (i32 (u 9 10))]))])) (W' := (fun ad2 => wP ad2 cI cJ cZ)) (Q := (fun ad2 u => ad2 9 = h0 ∧ Q u)) (σ0 := σ) C hr (adX2 h0 q10 q11 q12 q13 q14) (fun _ => rfl) ⟨rfl, hw⟩ (Nat.le_refl _) (Nat.le_refl _) dX2_init_53
def vX5_init_149 (K122 : Int × xS → Prop) (Q : xS → Prop) (x1 y1 y2 y3 : Int) (σ0 : xS) : Prop := vX5_put y1 y2 y3 σ0 (fun σ2 => vX5_put x1 3 3 σ2 (fun σ4 => vX5_put x1 6 x1 σ4 (fun σ6 => K122 ((x1 + 1), σ6))))
def vX5_init_122  (Q : xS → Prop) (K122 : Int × xS → Prop) (a : Int × xS) : Prop := match a with
  | (x1, σ0) => rng x1 ∧ ((3 ≤ x1 → Q σ0) ∧ (¬ 3 ≤ x1 → (¬ x1 = 0 → (¬ x1 = 1 → vX5_init_149 K122 Q x1 x1 0 8 σ0) ∧ (x1 = 1 → vX5_init_149 K122 Q x1 x1 0 5 σ0)) ∧ (x1 = 0 → vX5_init_149 K122 Q x1 x1 0 3 σ0)))
def vX5_init (σ : xS) (Q : xS → Prop) : Prop := ∀ s1 : xS, s1 = xset σ 21 (fun _ => 0) → (∀ s2 : xS, s2 = xset s1 22 (fun _ => 0) → (∀ s3 : xS, s3 = xset s2 23 (fun _ => 0) → (∀ s4 : xS, s4 = xset s3 24 (fun _ => 0) → (∀ s5 : xS, s5 = xset s4 25 (fun _ => 0) → (∀ s6 : xS, s6 = xset s5 26 (fun _ => 0) → (∀ s7 : xS, s7 = xset s6 27 (fun _ => 0) → (∀ s8 : xS, s8 = xset s7 28 (fun _ => 0) → (∀ s9 : xS, s9 = xset s8 29 (fun _ => 0) → (∀ s10 : xS, s10 = xset s9 30 (fun _ => 0) → (∀ s11 : xS, s11 = xset s10 31 (fun _ => 0) → (∀ s12 : xS, s12 = xset s11 32 (fun _ => 0) → (∀ s13 : xS, s13 = xset s12 33 (fun _ => 0) → (∀ σ11 : xS, σ11 = xup s13 21 21 3 → (∀ σ13 : xS, σ13 = xup σ11 21 23 (-1) → (mu (vX5_init_122 Q) (0, σ13))))))))))))))))
def adX5 (h0 q21 q22 q23 q24 q25 q26 q27 q28 q29 q30 q31 q32 q33 : Nat) : Nat → Nat := fun k => if k = 20 then h0 else if k = 21 then q21 else if k = 22 then q22 else if k = 23 then q23 else if k = 24 then q24 else if k = 25 then q25 else if k = 26 then q26 else if k = 27 then q27 else if k = 28 then q28 else if k = 29 then q29 else if k = 30 then q30 else if k = 31 then q31 else if k = 32 then q32 else q33
abbrev rmX5_init : Room := { frames := 1, cells := 13, slots := 90919, locals := 87 }
set_option maxHeartbeats 8000000 in
set_option maxRecDepth 200000 in
theorem kX5_init {l : Launch} {D : va_G} {cI cJ cZ : ClassId} (h0 : Nat) (σ : xS) (Q : xS → Prop) (hw : vX5_init σ Q) : xMc False l yX5_init wsX5_init rmX5_init D (xtys cI cJ cZ) (fun u : xS => [(h0, .inr (5, [.null, .null, .null, .int (i32 (u 20 3)), .null, .int (i32 (u 20 5)), .null, .null, .int (i32 (u 20 8)), .int (i32 (u 20 9)), .int (i32 (u 20 10)), .int (i32 (u 20 11)), .null, .null, .null, .null, .int (i32 (u 20 16)), .null, .null, .null, .int (i32 (u 20 20)), .long (i64 (u 20 21))]))]) (fun ad2 => wM ad2 cI cJ cZ) [20, 21, 22, 23, 24, 25, 26, 27, 28, 29, 30, 31, 32, 33] σ [.ref h0] 13 90919 (fun ad2 u => ad2 20 = h0 ∧ Q u) := by
  refine xenter (F := [20, 21, 22, 23, 24, 25, 26, 27, 28, 29, 30, 31, 32, 33]) (Qc := fun sz => xQc D (fun ad2 => wM ad2 cI cJ cZ) [20, 21, 22, 23, 24, 25, 26, 27, 28, 29, 30, 31, 32, 33] σ sz (fun u : xS => [(h0, .inr (5, [.null, .null, .null, .int (i32 (u 20 3)), .null, .int (i32 (u 20 5)), .null, .null, .int (i32 (u 20 8)), .int (i32 (u 20 9)), .int (i32 (u 20 10)), .int (i32 (u 20 11)), .null, .null, .null, .null, .int (i32 (u 20 16)), .null, .null, .null, .int (i32 (u 20 20)), .long (i64 (u 20 21))]))]) (fun ad2 u => ad2 20 = h0 ∧ Q u)) (own := RX5) (cc := cX5_init) (maxL := 2) (ret := none) (mc := 13) (ms := 90919) (by decide) rfl rfl (Nat.le_of_ble_eq_true rfl) ?_
  intro p e s m args below meth c hargs C hr hnm
  have hinX5 : ∀ w ∈ u_ws RX5 TX5 22, w ∈ wsX5_init := fun _ h => List.mem_cons_of_mem _ (List.mem_append_right _ h)
  have m0 : (Cond.methodLink RX5 1 Lib.objectInit) ∈ wsX5_init := by decide +kernel
  have m1 : (Cond.instanceMethod Lib.objectInit) ∈ wsX5_init := by decide +kernel
  have m2 : (Cond.code Lib.objectInit ⟨#[0xb1]⟩ 1 none) ∈ wsX5_init := by decide +kernel
  have m3 : (Cond.arrayClass .int) ∈ wsX5_init := by decide +kernel
  have m4 : (Cond.fieldLink RX5 7 "SandBenchModel" "m" "[I") ∈ wsX5_init := by decide +kernel
  have m5 : (Cond.fieldLink RX5 13 "SandBenchModel" "past" "[I") ∈ wsX5_init := by decide +kernel
  have m6 : (Cond.fieldLink RX5 16 "SandBenchModel" "aside" "[I") ∈ wsX5_init := by decide +kernel
  have m7 : (Cond.fieldLink RX5 19 "SandBenchModel" "text" "[I") ∈ wsX5_init := by decide +kernel
  have m8 : (Cond.fieldLink RX5 22 "SandBenchModel" "step" "[I") ∈ wsX5_init := by decide +kernel
  have m9 : (Cond.fieldLink RX5 25 "SandBenchModel" "its" "[I") ∈ wsX5_init := by decide +kernel
  have m10 : (Cond.fieldLink RX5 28 "SandBenchModel" "begin" "[I") ∈ wsX5_init := by decide +kernel
  have m11 : (Cond.fieldLink RX5 31 "SandBenchModel" "left" "[I") ∈ wsX5_init := by decide +kernel
  have m12 : (Cond.constant RX5 34 90077) ∈ wsX5_init := by decide +kernel
  have m13 : (Cond.fieldLink RX5 35 "SandBenchModel" "cost" "[I") ∈ wsX5_init := by decide +kernel
  have m14 : (Cond.fieldLink RX5 38 "SandBenchModel" "filledFor" "[I") ∈ wsX5_init := by decide +kernel
  have m15 : (Cond.fieldLink RX5 41 "SandBenchModel" "amount" "[I") ∈ wsX5_init := by decide +kernel
  have m16 : (Cond.arrayClass .boolean) ∈ wsX5_init := by decide +kernel
  have m17 : (Cond.fieldLink RX5 44 "SandBenchModel" "lies" "[Z") ∈ wsX5_init := by decide +kernel
  have m18 : (Cond.fieldLink RX5 48 "SandBenchModel" "then" "[I") ∈ wsX5_init := by decide +kernel
  show xX p l e rmX5_init s m args below meth c D vwCl (va_A ((fun u : xS => [(h0, .inr (5, [.null, .null, .null, .int (i32 (u 20 3)), .null, .int (i32 (u 20 5)), .null, .null, .int (i32 (u 20 8)), .int (i32 (u 20 9)), .int (i32 (u 20 10)), .int (i32 (u 20 11)), .null, .null, .null, .null, .int (i32 (u 20 16)), .null, .null, .null, .int (i32 (u 20 20)), .long (i64 (u 20 21))]))]) σ) s.heap.size) (fun u : xS => [(h0, .inr (5, [.null, .null, .null, .int (i32 (u 20 3)), .null, .int (i32 (u 20 5)), .null, .null, .int (i32 (u 20 8)), .int (i32 (u 20 9)), .int (i32 (u 20 10)), .int (i32 (u 20 11)), .null, .null, .null, .null, .int (i32 (u 20 16)), .null, .null, .null, .int (i32 (u 20 20)), .long (i64 (u 20 21))]))]) [20, 21, 22, 23, 24, 25, 26, 27, 28, 29, 30, 31, 32, 33] σ 0 0 (MQ below (xQc D (fun ad2 => wM ad2 cI cJ cZ) [20, 21, 22, 23, 24, 25, 26, 27, 28, 29, 30, 31, 32, 33] σ s.heap.size (fun u : xS => [(h0, .inr (5, [.null, .null, .null, .int (i32 (u 20 3)), .null, .int (i32 (u 20 5)), .null, .null, .int (i32 (u 20 8)), .int (i32 (u 20 9)), .int (i32 (u 20 10)), .int (i32 (u 20 11)), .null, .null, .null, .null, .int (i32 (u 20 16)), .null, .null, .null, .int (i32 (u 20 20)), .long (i64 (u 20 21))]))]) (fun ad2 u => ad2 20 = h0 ∧ Q u)) args s 13 90919 (va_A ((fun u : xS => [(h0, .inr (5, [.null, .null, .null, .int (i32 (u 20 3)), .null, .int (i32 (u 20 5)), .null, .null, .int (i32 (u 20 8)), .int (i32 (u 20 9)), .int (i32 (u 20 10)), .int (i32 (u 20 11)), .null, .null, .null, .null, .int (i32 (u 20 16)), .null, .null, .null, .int (i32 (u 20 20)), .long (i64 (u 20 21))]))]) σ) s.heap.size)) 2 σ 0 [(0, .ref h0)] []
  unfold vX5_init at hw
  refine xr_aload_n C 0 dX5_init_0 rfl rfl ?_
  refine xr_objinit C m0 m1 m2 (by decide) (Nat.le_of_ble_eq_true rfl) dX5_init_1 ?_
  refine xr_aload_n C 0 dX5_init_4 rfl rfl ?_
  refine xr_bipush C dX5_init_5 (by decide +kernel) ?_
  refine xr_newi C 21 (N := 64) rfl (by decide) m3 (fun u f => rfl) (by decide) (Nat.le_of_ble_eq_true rfl) (Nat.le_of_ble_eq_true rfl) dX5_init_7 (fun q21 => ?_)
  refine xr_world (fun u : xS => [(h0, .inr (5, [.null, .null, .null, .int (i32 (u 20 3)), .null, .int (i32 (u 20 5)), .null, .null, .int (i32 (u 20 8)), .int (i32 (u 20 9)), .int (i32 (u 20 10)), .int (i32 (u 20 11)), .null, .null, .null, .null, .int (i32 (u 20 16)), .null, .null, .null, .int (i32 (u 20 20)), .long (i64 (u 20 21))])), (q21, .inl (cI, 64, .inl (fun j => i32 (u 21 j))))]) (fun _ => rfl) ?_
  refine xr_sig (fun s1 es1 => ?_)
  have hw := hw s1 es1
  refine xr_putF C (fun u : xS => [(h0, .inr (5, [.ref q21, .null, .null, .int (i32 (u 20 3)), .null, .int (i32 (u 20 5)), .null, .null, .int (i32 (u 20 8)), .int (i32 (u 20 9)), .int (i32 (u 20 10)), .int (i32 (u 20 11)), .null, .null, .null, .null, .int (i32 (u 20 16)), .null, .null, .null, .int (i32 (u 20 20)), .long (i64 (u 20 21))])), (q21, .inl (cI, 64, .inl (fun j => i32 (u 21 j))))]) hinX5 (N := 22) (ci := 5) (ty := (.array .int)) tyX5 tyX5_ok nmX5 0 rfl rfl 0 (by decide) m4 rfl rfl hnm rfl (by decide +kernel) rfl rfl (Nat.le_of_ble_eq_true rfl) rfl dX5_init_9 ?_
  refine xr_aload_n C 0 dX5_init_12 rfl rfl ?_
  refine xr_sipush C dX5_init_13 (by decide +kernel) ?_
  refine xr_newi C 22 (N := 512) rfl (by decide) m3 (fun u f => rfl) (by decide) (Nat.le_of_ble_eq_true rfl) (Nat.le_of_ble_eq_true rfl) dX5_init_16 (fun q22 => ?_)
  refine xr_world (fun u : xS => [(h0, .inr (5, [.ref q21, .null, .null, .int (i32 (u 20 3)), .null, .int (i32 (u 20 5)), .null, .null, .int (i32 (u 20 8)), .int (i32 (u 20 9)), .int (i32 (u 20 10)), .int (i32 (u 20 11)), .null, .null, .null, .null, .int (i32 (u 20 16)), .null, .null, .null, .int (i32 (u 20 20)), .long (i64 (u 20 21))])), (q21, .inl (cI, 64, .inl (fun j => i32 (u 21 j)))), (q22, .inl (cI, 512, .inl (fun j => i32 (u 22 j))))]) (fun _ => rfl) ?_
  refine xr_sig (fun s2 es2 => ?_)
  have hw := hw s2 es2
  refine xr_putF C (fun u : xS => [(h0, .inr (5, [.ref q21, .ref q22, .null, .int (i32 (u 20 3)), .null, .int (i32 (u 20 5)), .null, .null, .int (i32 (u 20 8)), .int (i32 (u 20 9)), .int (i32 (u 20 10)), .int (i32 (u 20 11)), .null, .null, .null, .null, .int (i32 (u 20 16)), .null, .null, .null, .int (i32 (u 20 20)), .long (i64 (u 20 21))])), (q21, .inl (cI, 64, .inl (fun j => i32 (u 21 j)))), (q22, .inl (cI, 512, .inl (fun j => i32 (u 22 j))))]) hinX5 (N := 22) (ci := 5) (ty := (.array .int)) tyX5 tyX5_ok nmX5 0 rfl rfl 1 (by decide) m5 rfl rfl hnm rfl (by decide +kernel) rfl rfl (Nat.le_of_ble_eq_true rfl) rfl dX5_init_18 ?_
  refine xr_aload_n C 0 dX5_init_21 rfl rfl ?_
  refine xr_bipush C dX5_init_22 (by decide +kernel) ?_
  refine xr_newi C 23 (N := 64) rfl (by decide) m3 (fun u f => rfl) (by decide) (Nat.le_of_ble_eq_true rfl) (Nat.le_of_ble_eq_true rfl) dX5_init_24 (fun q23 => ?_)
  refine xr_world (fun u : xS => [(h0, .inr (5, [.ref q21, .ref q22, .null, .int (i32 (u 20 3)), .null, .int (i32 (u 20 5)), .null, .null, .int (i32 (u 20 8)), .int (i32 (u 20 9)), .int (i32 (u 20 10)), .int (i32 (u 20 11)), .null, .null, .null, .null, .int (i32 (u 20 16)), .null, .null, .null, .int (i32 (u 20 20)), .long (i64 (u 20 21))])), (q21, .inl (cI, 64, .inl (fun j => i32 (u 21 j)))), (q22, .inl (cI, 512, .inl (fun j => i32 (u 22 j)))), (q23, .inl (cI, 64, .inl (fun j => i32 (u 23 j))))]) (fun _ => rfl) ?_
  refine xr_sig (fun s3 es3 => ?_)
  have hw := hw s3 es3
  refine xr_putF C (fun u : xS => [(h0, .inr (5, [.ref q21, .ref q22, .ref q23, .int (i32 (u 20 3)), .null, .int (i32 (u 20 5)), .null, .null, .int (i32 (u 20 8)), .int (i32 (u 20 9)), .int (i32 (u 20 10)), .int (i32 (u 20 11)), .null, .null, .null, .null, .int (i32 (u 20 16)), .null, .null, .null, .int (i32 (u 20 20)), .long (i64 (u 20 21))])), (q21, .inl (cI, 64, .inl (fun j => i32 (u 21 j)))), (q22, .inl (cI, 512, .inl (fun j => i32 (u 22 j)))), (q23, .inl (cI, 64, .inl (fun j => i32 (u 23 j))))]) hinX5 (N := 22) (ci := 5) (ty := (.array .int)) tyX5 tyX5_ok nmX5 0 rfl rfl 2 (by decide) m6 rfl rfl hnm rfl (by decide +kernel) rfl rfl (Nat.le_of_ble_eq_true rfl) rfl dX5_init_26 ?_
  refine xr_aload_n C 0 dX5_init_29 rfl rfl ?_
  refine xr_bipush C dX5_init_30 (by decide +kernel) ?_
  refine xr_newi C 24 (N := 60) rfl (by decide) m3 (fun u f => rfl) (by decide) (Nat.le_of_ble_eq_true rfl) (Nat.le_of_ble_eq_true rfl) dX5_init_32 (fun q24 => ?_)
  refine xr_world (fun u : xS => [(h0, .inr (5, [.ref q21, .ref q22, .ref q23, .int (i32 (u 20 3)), .null, .int (i32 (u 20 5)), .null, .null, .int (i32 (u 20 8)), .int (i32 (u 20 9)), .int (i32 (u 20 10)), .int (i32 (u 20 11)), .null, .null, .null, .null, .int (i32 (u 20 16)), .null, .null, .null, .int (i32 (u 20 20)), .long (i64 (u 20 21))])), (q21, .inl (cI, 64, .inl (fun j => i32 (u 21 j)))), (q22, .inl (cI, 512, .inl (fun j => i32 (u 22 j)))), (q23, .inl (cI, 64, .inl (fun j => i32 (u 23 j)))), (q24, .inl (cI, 60, .inl (fun j => i32 (u 24 j))))]) (fun _ => rfl) ?_
  refine xr_sig (fun s4 es4 => ?_)
  have hw := hw s4 es4
  refine xr_putF C (fun u : xS => [(h0, .inr (5, [.ref q21, .ref q22, .ref q23, .int (i32 (u 20 3)), .ref q24, .int (i32 (u 20 5)), .null, .null, .int (i32 (u 20 8)), .int (i32 (u 20 9)), .int (i32 (u 20 10)), .int (i32 (u 20 11)), .null, .null, .null, .null, .int (i32 (u 20 16)), .null, .null, .null, .int (i32 (u 20 20)), .long (i64 (u 20 21))])), (q21, .inl (cI, 64, .inl (fun j => i32 (u 21 j)))), (q22, .inl (cI, 512, .inl (fun j => i32 (u 22 j)))), (q23, .inl (cI, 64, .inl (fun j => i32 (u 23 j)))), (q24, .inl (cI, 60, .inl (fun j => i32 (u 24 j))))]) hinX5 (N := 22) (ci := 5) (ty := (.array .int)) tyX5 tyX5_ok nmX5 0 rfl rfl 4 (by decide) m7 rfl rfl hnm rfl (by decide +kernel) rfl rfl (Nat.le_of_ble_eq_true rfl) rfl dX5_init_34 ?_
  refine xr_aload_n C 0 dX5_init_37 rfl rfl ?_
  refine xr_bipush C dX5_init_38 (by decide +kernel) ?_
  refine xr_newi C 25 (N := 60) rfl (by decide) m3 (fun u f => rfl) (by decide) (Nat.le_of_ble_eq_true rfl) (Nat.le_of_ble_eq_true rfl) dX5_init_40 (fun q25 => ?_)
  refine xr_world (fun u : xS => [(h0, .inr (5, [.ref q21, .ref q22, .ref q23, .int (i32 (u 20 3)), .ref q24, .int (i32 (u 20 5)), .null, .null, .int (i32 (u 20 8)), .int (i32 (u 20 9)), .int (i32 (u 20 10)), .int (i32 (u 20 11)), .null, .null, .null, .null, .int (i32 (u 20 16)), .null, .null, .null, .int (i32 (u 20 20)), .long (i64 (u 20 21))])), (q21, .inl (cI, 64, .inl (fun j => i32 (u 21 j)))), (q22, .inl (cI, 512, .inl (fun j => i32 (u 22 j)))), (q23, .inl (cI, 64, .inl (fun j => i32 (u 23 j)))), (q24, .inl (cI, 60, .inl (fun j => i32 (u 24 j)))), (q25, .inl (cI, 60, .inl (fun j => i32 (u 25 j))))]) (fun _ => rfl) ?_
  refine xr_sig (fun s5 es5 => ?_)
  have hw := hw s5 es5
  refine xr_putF C (fun u : xS => [(h0, .inr (5, [.ref q21, .ref q22, .ref q23, .int (i32 (u 20 3)), .ref q24, .int (i32 (u 20 5)), .ref q25, .null, .int (i32 (u 20 8)), .int (i32 (u 20 9)), .int (i32 (u 20 10)), .int (i32 (u 20 11)), .null, .null, .null, .null, .int (i32 (u 20 16)), .null, .null, .null, .int (i32 (u 20 20)), .long (i64 (u 20 21))])), (q21, .inl (cI, 64, .inl (fun j => i32 (u 21 j)))), (q22, .inl (cI, 512, .inl (fun j => i32 (u 22 j)))), (q23, .inl (cI, 64, .inl (fun j => i32 (u 23 j)))), (q24, .inl (cI, 60, .inl (fun j => i32 (u 24 j)))), (q25, .inl (cI, 60, .inl (fun j => i32 (u 25 j))))]) hinX5 (N := 22) (ci := 5) (ty := (.array .int)) tyX5 tyX5_ok nmX5 0 rfl rfl 6 (by decide) m8 rfl rfl hnm rfl (by decide +kernel) rfl rfl (Nat.le_of_ble_eq_true rfl) rfl dX5_init_42 ?_
  refine xr_aload_n C 0 dX5_init_45 rfl rfl ?_
  refine xr_bipush C dX5_init_46 (by decide +kernel) ?_
  refine xr_newi C 26 (N := 60) rfl (by decide) m3 (fun u f => rfl) (by decide) (Nat.le_of_ble_eq_true rfl) (Nat.le_of_ble_eq_true rfl) dX5_init_48 (fun q26 => ?_)
  refine xr_world (fun u : xS => [(h0, .inr (5, [.ref q21, .ref q22, .ref q23, .int (i32 (u 20 3)), .ref q24, .int (i32 (u 20 5)), .ref q25, .null, .int (i32 (u 20 8)), .int (i32 (u 20 9)), .int (i32 (u 20 10)), .int (i32 (u 20 11)), .null, .null, .null, .null, .int (i32 (u 20 16)), .null, .null, .null, .int (i32 (u 20 20)), .long (i64 (u 20 21))])), (q21, .inl (cI, 64, .inl (fun j => i32 (u 21 j)))), (q22, .inl (cI, 512, .inl (fun j => i32 (u 22 j)))), (q23, .inl (cI, 64, .inl (fun j => i32 (u 23 j)))), (q24, .inl (cI, 60, .inl (fun j => i32 (u 24 j)))), (q25, .inl (cI, 60, .inl (fun j => i32 (u 25 j)))), (q26, .inl (cI, 60, .inl (fun j => i32 (u 26 j))))]) (fun _ => rfl) ?_
  refine xr_sig (fun s6 es6 => ?_)
  have hw := hw s6 es6
  refine xr_putF C (fun u : xS => [(h0, .inr (5, [.ref q21, .ref q22, .ref q23, .int (i32 (u 20 3)), .ref q24, .int (i32 (u 20 5)), .ref q25, .ref q26, .int (i32 (u 20 8)), .int (i32 (u 20 9)), .int (i32 (u 20 10)), .int (i32 (u 20 11)), .null, .null, .null, .null, .int (i32 (u 20 16)), .null, .null, .null, .int (i32 (u 20 20)), .long (i64 (u 20 21))])), (q21, .inl (cI, 64, .inl (fun j => i32 (u 21 j)))), (q22, .inl (cI, 512, .inl (fun j => i32 (u 22 j)))), (q23, .inl (cI, 64, .inl (fun j => i32 (u 23 j)))), (q24, .inl (cI, 60, .inl (fun j => i32 (u 24 j)))), (q25, .inl (cI, 60, .inl (fun j => i32 (u 25 j)))), (q26, .inl (cI, 60, .inl (fun j => i32 (u 26 j))))]) hinX5 (N := 22) (ci := 5) (ty := (.array .int)) tyX5 tyX5_ok nmX5 0 rfl rfl 7 (by decide) m9 rfl rfl hnm rfl (by decide +kernel) rfl rfl (Nat.le_of_ble_eq_true rfl) rfl dX5_init_50 ?_
  refine xr_aload_n C 0 dX5_init_53 rfl rfl ?_
  refine xr_iconst C dX5_init_54 ?_
  refine xr_newi C 27 (N := 2) rfl (by decide) m3 (fun u f => rfl) (by decide) (Nat.le_of_ble_eq_true rfl) (Nat.le_of_ble_eq_true rfl) dX5_init_55 (fun q27 => ?_)
  refine xr_world (fun u : xS => [(h0, .inr (5, [.ref q21, .ref q22, .ref q23, .int (i32 (u 20 3)), .ref q24, .int (i32 (u 20 5)), .ref q25, .ref q26, .int (i32 (u 20 8)), .int (i32 (u 20 9)), .int (i32 (u 20 10)), .int (i32 (u 20 11)), .null, .null, .null, .null, .int (i32 (u 20 16)), .null, .null, .null, .int (i32 (u 20 20)), .long (i64 (u 20 21))])), (q21, .inl (cI, 64, .inl (fun j => i32 (u 21 j)))), (q22, .inl (cI, 512, .inl (fun j => i32 (u 22 j)))), (q23, .inl (cI, 64, .inl (fun j => i32 (u 23 j)))), (q24, .inl (cI, 60, .inl (fun j => i32 (u 24 j)))), (q25, .inl (cI, 60, .inl (fun j => i32 (u 25 j)))), (q26, .inl (cI, 60, .inl (fun j => i32 (u 26 j)))), (q27, .inl (cI, 2, .inl (fun j => i32 (u 27 j))))]) (fun _ => rfl) ?_
  refine xr_sig (fun s7 es7 => ?_)
  have hw := hw s7 es7
  refine xr_putF C (fun u : xS => [(h0, .inr (5, [.ref q21, .ref q22, .ref q23, .int (i32 (u 20 3)), .ref q24, .int (i32 (u 20 5)), .ref q25, .ref q26, .int (i32 (u 20 8)), .int (i32 (u 20 9)), .int (i32 (u 20 10)), .int (i32 (u 20 11)), .ref q27, .null, .null, .null, .int (i32 (u 20 16)), .null, .null, .null, .int (i32 (u 20 20)), .long (i64 (u 20 21))])), (q21, .inl (cI, 64, .inl (fun j => i32 (u 21 j)))), (q22, .inl (cI, 512, .inl (fun j => i32 (u 22 j)))), (q23, .inl (cI, 64, .inl (fun j => i32 (u 23 j)))), (q24, .inl (cI, 60, .inl (fun j => i32 (u 24 j)))), (q25, .inl (cI, 60, .inl (fun j => i32 (u 25 j)))), (q26, .inl (cI, 60, .inl (fun j => i32 (u 26 j)))), (q27, .inl (cI, 2, .inl (fun j => i32 (u 27 j))))]) hinX5 (N := 22) (ci := 5) (ty := (.array .int)) tyX5 tyX5_ok nmX5 0 rfl rfl 12 (by decide) m10 rfl rfl hnm rfl (by decide +kernel) rfl rfl (Nat.le_of_ble_eq_true rfl) rfl dX5_init_57 ?_
  refine xr_aload_n C 0 dX5_init_60 rfl rfl ?_
  refine xr_iconst C dX5_init_61 ?_
  refine xr_newi C 28 (N := 2) rfl (by decide) m3 (fun u f => rfl) (by decide) (Nat.le_of_ble_eq_true rfl) (Nat.le_of_ble_eq_true rfl) dX5_init_62 (fun q28 => ?_)
  refine xr_world (fun u : xS => [(h0, .inr (5, [.ref q21, .ref q22, .ref q23, .int (i32 (u 20 3)), .ref q24, .int (i32 (u 20 5)), .ref q25, .ref q26, .int (i32 (u 20 8)), .int (i32 (u 20 9)), .int (i32 (u 20 10)), .int (i32 (u 20 11)), .ref q27, .null, .null, .null, .int (i32 (u 20 16)), .null, .null, .null, .int (i32 (u 20 20)), .long (i64 (u 20 21))])), (q21, .inl (cI, 64, .inl (fun j => i32 (u 21 j)))), (q22, .inl (cI, 512, .inl (fun j => i32 (u 22 j)))), (q23, .inl (cI, 64, .inl (fun j => i32 (u 23 j)))), (q24, .inl (cI, 60, .inl (fun j => i32 (u 24 j)))), (q25, .inl (cI, 60, .inl (fun j => i32 (u 25 j)))), (q26, .inl (cI, 60, .inl (fun j => i32 (u 26 j)))), (q27, .inl (cI, 2, .inl (fun j => i32 (u 27 j)))), (q28, .inl (cI, 2, .inl (fun j => i32 (u 28 j))))]) (fun _ => rfl) ?_
  refine xr_sig (fun s8 es8 => ?_)
  have hw := hw s8 es8
  refine xr_putF C (fun u : xS => [(h0, .inr (5, [.ref q21, .ref q22, .ref q23, .int (i32 (u 20 3)), .ref q24, .int (i32 (u 20 5)), .ref q25, .ref q26, .int (i32 (u 20 8)), .int (i32 (u 20 9)), .int (i32 (u 20 10)), .int (i32 (u 20 11)), .ref q27, .ref q28, .null, .null, .int (i32 (u 20 16)), .null, .null, .null, .int (i32 (u 20 20)), .long (i64 (u 20 21))])), (q21, .inl (cI, 64, .inl (fun j => i32 (u 21 j)))), (q22, .inl (cI, 512, .inl (fun j => i32 (u 22 j)))), (q23, .inl (cI, 64, .inl (fun j => i32 (u 23 j)))), (q24, .inl (cI, 60, .inl (fun j => i32 (u 24 j)))), (q25, .inl (cI, 60, .inl (fun j => i32 (u 25 j)))), (q26, .inl (cI, 60, .inl (fun j => i32 (u 26 j)))), (q27, .inl (cI, 2, .inl (fun j => i32 (u 27 j)))), (q28, .inl (cI, 2, .inl (fun j => i32 (u 28 j))))]) hinX5 (N := 22) (ci := 5) (ty := (.array .int)) tyX5 tyX5_ok nmX5 0 rfl rfl 13 (by decide) m11 rfl rfl hnm rfl (by decide +kernel) rfl rfl (Nat.le_of_ble_eq_true rfl) rfl dX5_init_64 ?_
  refine xr_aload_n C 0 dX5_init_67 rfl rfl ?_
  refine xr_ldc C 90077 m12 (by decide +kernel) dX5_init_68 ?_
  refine xr_newi C 29 (N := 90077) rfl (by decide) m3 (fun u f => rfl) (by decide) (Nat.le_of_ble_eq_true rfl) (Nat.le_of_ble_eq_true rfl) dX5_init_70 (fun q29 => ?_)
  refine xr_world (fun u : xS => [(h0, .inr (5, [.ref q21, .ref q22, .ref q23, .int (i32 (u 20 3)), .ref q24, .int (i32 (u 20 5)), .ref q25, .ref q26, .int (i32 (u 20 8)), .int (i32 (u 20 9)), .int (i32 (u 20 10)), .int (i32 (u 20 11)), .ref q27, .ref q28, .null, .null, .int (i32 (u 20 16)), .null, .null, .null, .int (i32 (u 20 20)), .long (i64 (u 20 21))])), (q21, .inl (cI, 64, .inl (fun j => i32 (u 21 j)))), (q22, .inl (cI, 512, .inl (fun j => i32 (u 22 j)))), (q23, .inl (cI, 64, .inl (fun j => i32 (u 23 j)))), (q24, .inl (cI, 60, .inl (fun j => i32 (u 24 j)))), (q25, .inl (cI, 60, .inl (fun j => i32 (u 25 j)))), (q26, .inl (cI, 60, .inl (fun j => i32 (u 26 j)))), (q27, .inl (cI, 2, .inl (fun j => i32 (u 27 j)))), (q28, .inl (cI, 2, .inl (fun j => i32 (u 28 j)))), (q29, .inl (cI, 90077, .inl (fun j => i32 (u 29 j))))]) (fun _ => rfl) ?_
  refine xr_sig (fun s9 es9 => ?_)
  have hw := hw s9 es9
  refine xr_putF C (fun u : xS => [(h0, .inr (5, [.ref q21, .ref q22, .ref q23, .int (i32 (u 20 3)), .ref q24, .int (i32 (u 20 5)), .ref q25, .ref q26, .int (i32 (u 20 8)), .int (i32 (u 20 9)), .int (i32 (u 20 10)), .int (i32 (u 20 11)), .ref q27, .ref q28, .ref q29, .null, .int (i32 (u 20 16)), .null, .null, .null, .int (i32 (u 20 20)), .long (i64 (u 20 21))])), (q21, .inl (cI, 64, .inl (fun j => i32 (u 21 j)))), (q22, .inl (cI, 512, .inl (fun j => i32 (u 22 j)))), (q23, .inl (cI, 64, .inl (fun j => i32 (u 23 j)))), (q24, .inl (cI, 60, .inl (fun j => i32 (u 24 j)))), (q25, .inl (cI, 60, .inl (fun j => i32 (u 25 j)))), (q26, .inl (cI, 60, .inl (fun j => i32 (u 26 j)))), (q27, .inl (cI, 2, .inl (fun j => i32 (u 27 j)))), (q28, .inl (cI, 2, .inl (fun j => i32 (u 28 j)))), (q29, .inl (cI, 90077, .inl (fun j => i32 (u 29 j))))]) hinX5 (N := 22) (ci := 5) (ty := (.array .int)) tyX5 tyX5_ok nmX5 0 rfl rfl 14 (by decide) m13 rfl rfl hnm rfl (by decide +kernel) rfl rfl (Nat.le_of_ble_eq_true rfl) rfl dX5_init_72 ?_
  refine xr_aload_n C 0 dX5_init_75 rfl rfl ?_
  refine xr_bipush C dX5_init_76 (by decide +kernel) ?_
  refine xr_newi C 30 (N := 9) rfl (by decide) m3 (fun u f => rfl) (by decide) (Nat.le_of_ble_eq_true rfl) (Nat.le_of_ble_eq_true rfl) dX5_init_78 (fun q30 => ?_)
  refine xr_world (fun u : xS => [(h0, .inr (5, [.ref q21, .ref q22, .ref q23, .int (i32 (u 20 3)), .ref q24, .int (i32 (u 20 5)), .ref q25, .ref q26, .int (i32 (u 20 8)), .int (i32 (u 20 9)), .int (i32 (u 20 10)), .int (i32 (u 20 11)), .ref q27, .ref q28, .ref q29, .null, .int (i32 (u 20 16)), .null, .null, .null, .int (i32 (u 20 20)), .long (i64 (u 20 21))])), (q21, .inl (cI, 64, .inl (fun j => i32 (u 21 j)))), (q22, .inl (cI, 512, .inl (fun j => i32 (u 22 j)))), (q23, .inl (cI, 64, .inl (fun j => i32 (u 23 j)))), (q24, .inl (cI, 60, .inl (fun j => i32 (u 24 j)))), (q25, .inl (cI, 60, .inl (fun j => i32 (u 25 j)))), (q26, .inl (cI, 60, .inl (fun j => i32 (u 26 j)))), (q27, .inl (cI, 2, .inl (fun j => i32 (u 27 j)))), (q28, .inl (cI, 2, .inl (fun j => i32 (u 28 j)))), (q29, .inl (cI, 90077, .inl (fun j => i32 (u 29 j)))), (q30, .inl (cI, 9, .inl (fun j => i32 (u 30 j))))]) (fun _ => rfl) ?_
  refine xr_sig (fun s10 es10 => ?_)
  have hw := hw s10 es10
  refine xr_putF C (fun u : xS => [(h0, .inr (5, [.ref q21, .ref q22, .ref q23, .int (i32 (u 20 3)), .ref q24, .int (i32 (u 20 5)), .ref q25, .ref q26, .int (i32 (u 20 8)), .int (i32 (u 20 9)), .int (i32 (u 20 10)), .int (i32 (u 20 11)), .ref q27, .ref q28, .ref q29, .ref q30, .int (i32 (u 20 16)), .null, .null, .null, .int (i32 (u 20 20)), .long (i64 (u 20 21))])), (q21, .inl (cI, 64, .inl (fun j => i32 (u 21 j)))), (q22, .inl (cI, 512, .inl (fun j => i32 (u 22 j)))), (q23, .inl (cI, 64, .inl (fun j => i32 (u 23 j)))), (q24, .inl (cI, 60, .inl (fun j => i32 (u 24 j)))), (q25, .inl (cI, 60, .inl (fun j => i32 (u 25 j)))), (q26, .inl (cI, 60, .inl (fun j => i32 (u 26 j)))), (q27, .inl (cI, 2, .inl (fun j => i32 (u 27 j)))), (q28, .inl (cI, 2, .inl (fun j => i32 (u 28 j)))), (q29, .inl (cI, 90077, .inl (fun j => i32 (u 29 j)))), (q30, .inl (cI, 9, .inl (fun j => i32 (u 30 j))))]) hinX5 (N := 22) (ci := 5) (ty := (.array .int)) tyX5 tyX5_ok nmX5 0 rfl rfl 15 (by decide) m14 rfl rfl hnm rfl (by decide +kernel) rfl rfl (Nat.le_of_ble_eq_true rfl) rfl dX5_init_80 ?_
  refine xr_aload_n C 0 dX5_init_83 rfl rfl ?_
  refine xr_iconst C dX5_init_84 ?_
  refine xr_newi C 31 (N := 3) rfl (by decide) m3 (fun u f => rfl) (by decide) (Nat.le_of_ble_eq_true rfl) (Nat.le_of_ble_eq_true rfl) dX5_init_85 (fun q31 => ?_)
  refine xr_world (fun u : xS => [(h0, .inr (5, [.ref q21, .ref q22, .ref q23, .int (i32 (u 20 3)), .ref q24, .int (i32 (u 20 5)), .ref q25, .ref q26, .int (i32 (u 20 8)), .int (i32 (u 20 9)), .int (i32 (u 20 10)), .int (i32 (u 20 11)), .ref q27, .ref q28, .ref q29, .ref q30, .int (i32 (u 20 16)), .null, .null, .null, .int (i32 (u 20 20)), .long (i64 (u 20 21))])), (q21, .inl (cI, 64, .inl (fun j => i32 (u 21 j)))), (q22, .inl (cI, 512, .inl (fun j => i32 (u 22 j)))), (q23, .inl (cI, 64, .inl (fun j => i32 (u 23 j)))), (q24, .inl (cI, 60, .inl (fun j => i32 (u 24 j)))), (q25, .inl (cI, 60, .inl (fun j => i32 (u 25 j)))), (q26, .inl (cI, 60, .inl (fun j => i32 (u 26 j)))), (q27, .inl (cI, 2, .inl (fun j => i32 (u 27 j)))), (q28, .inl (cI, 2, .inl (fun j => i32 (u 28 j)))), (q29, .inl (cI, 90077, .inl (fun j => i32 (u 29 j)))), (q30, .inl (cI, 9, .inl (fun j => i32 (u 30 j)))), (q31, .inl (cI, 3, .inl (fun j => i32 (u 31 j))))]) (fun _ => rfl) ?_
  refine xr_sig (fun s11 es11 => ?_)
  have hw := hw s11 es11
  refine xr_putF C (fun u : xS => [(h0, .inr (5, [.ref q21, .ref q22, .ref q23, .int (i32 (u 20 3)), .ref q24, .int (i32 (u 20 5)), .ref q25, .ref q26, .int (i32 (u 20 8)), .int (i32 (u 20 9)), .int (i32 (u 20 10)), .int (i32 (u 20 11)), .ref q27, .ref q28, .ref q29, .ref q30, .int (i32 (u 20 16)), .ref q31, .null, .null, .int (i32 (u 20 20)), .long (i64 (u 20 21))])), (q21, .inl (cI, 64, .inl (fun j => i32 (u 21 j)))), (q22, .inl (cI, 512, .inl (fun j => i32 (u 22 j)))), (q23, .inl (cI, 64, .inl (fun j => i32 (u 23 j)))), (q24, .inl (cI, 60, .inl (fun j => i32 (u 24 j)))), (q25, .inl (cI, 60, .inl (fun j => i32 (u 25 j)))), (q26, .inl (cI, 60, .inl (fun j => i32 (u 26 j)))), (q27, .inl (cI, 2, .inl (fun j => i32 (u 27 j)))), (q28, .inl (cI, 2, .inl (fun j => i32 (u 28 j)))), (q29, .inl (cI, 90077, .inl (fun j => i32 (u 29 j)))), (q30, .inl (cI, 9, .inl (fun j => i32 (u 30 j)))), (q31, .inl (cI, 3, .inl (fun j => i32 (u 31 j))))]) hinX5 (N := 22) (ci := 5) (ty := (.array .int)) tyX5 tyX5_ok nmX5 0 rfl rfl 17 (by decide) m15 rfl rfl hnm rfl (by decide +kernel) rfl rfl (Nat.le_of_ble_eq_true rfl) rfl dX5_init_87 ?_
  refine xr_aload_n C 0 dX5_init_90 rfl rfl ?_
  refine xr_iconst C dX5_init_91 ?_
  refine xr_newz C 32 (N := 3) rfl (by decide) m16 (fun u f => rfl) (by decide) (Nat.le_of_ble_eq_true rfl) (Nat.le_of_ble_eq_true rfl) dX5_init_92 (fun q32 => ?_)
  refine xr_world (fun u : xS => [(h0, .inr (5, [.ref q21, .ref q22, .ref q23, .int (i32 (u 20 3)), .ref q24, .int (i32 (u 20 5)), .ref q25, .ref q26, .int (i32 (u 20 8)), .int (i32 (u 20 9)), .int (i32 (u 20 10)), .int (i32 (u 20 11)), .ref q27, .ref q28, .ref q29, .ref q30, .int (i32 (u 20 16)), .ref q31, .null, .null, .int (i32 (u 20 20)), .long (i64 (u 20 21))])), (q21, .inl (cI, 64, .inl (fun j => i32 (u 21 j)))), (q22, .inl (cI, 512, .inl (fun j => i32 (u 22 j)))), (q23, .inl (cI, 64, .inl (fun j => i32 (u 23 j)))), (q24, .inl (cI, 60, .inl (fun j => i32 (u 24 j)))), (q25, .inl (cI, 60, .inl (fun j => i32 (u 25 j)))), (q26, .inl (cI, 60, .inl (fun j => i32 (u 26 j)))), (q27, .inl (cI, 2, .inl (fun j => i32 (u 27 j)))), (q28, .inl (cI, 2, .inl (fun j => i32 (u 28 j)))), (q29, .inl (cI, 90077, .inl (fun j => i32 (u 29 j)))), (q30, .inl (cI, 9, .inl (fun j => i32 (u 30 j)))), (q31, .inl (cI, 3, .inl (fun j => i32 (u 31 j)))), (q32, .inl (cZ, 3, .inl (fun j => i32 (u 32 j))))]) (fun _ => rfl) ?_
  refine xr_sig (fun s12 es12 => ?_)
  have hw := hw s12 es12
  refine xr_putF C (fun u : xS => [(h0, .inr (5, [.ref q21, .ref q22, .ref q23, .int (i32 (u 20 3)), .ref q24, .int (i32 (u 20 5)), .ref q25, .ref q26, .int (i32 (u 20 8)), .int (i32 (u 20 9)), .int (i32 (u 20 10)), .int (i32 (u 20 11)), .ref q27, .ref q28, .ref q29, .ref q30, .int (i32 (u 20 16)), .ref q31, .ref q32, .null, .int (i32 (u 20 20)), .long (i64 (u 20 21))])), (q21, .inl (cI, 64, .inl (fun j => i32 (u 21 j)))), (q22, .inl (cI, 512, .inl (fun j => i32 (u 22 j)))), (q23, .inl (cI, 64, .inl (fun j => i32 (u 23 j)))), (q24, .inl (cI, 60, .inl (fun j => i32 (u 24 j)))), (q25, .inl (cI, 60, .inl (fun j => i32 (u 25 j)))), (q26, .inl (cI, 60, .inl (fun j => i32 (u 26 j)))), (q27, .inl (cI, 2, .inl (fun j => i32 (u 27 j)))), (q28, .inl (cI, 2, .inl (fun j => i32 (u 28 j)))), (q29, .inl (cI, 90077, .inl (fun j => i32 (u 29 j)))), (q30, .inl (cI, 9, .inl (fun j => i32 (u 30 j)))), (q31, .inl (cI, 3, .inl (fun j => i32 (u 31 j)))), (q32, .inl (cZ, 3, .inl (fun j => i32 (u 32 j))))]) hinX5 (N := 22) (ci := 5) (ty := (.array .boolean)) tyX5 tyX5_ok nmX5 0 rfl rfl 18 (by decide) m17 rfl rfl hnm rfl (by decide +kernel) rfl rfl (Nat.le_of_ble_eq_true rfl) rfl dX5_init_94 ?_
  refine xr_aload_n C 0 dX5_init_97 rfl rfl ?_
  refine xr_iconst C dX5_init_98 ?_
  refine xr_newi C 33 (N := 3) rfl (by decide) m3 (fun u f => rfl) (by decide) (Nat.le_of_ble_eq_true rfl) (Nat.le_of_ble_eq_true rfl) dX5_init_99 (fun q33 => ?_)
  refine xr_world (fun u : xS => [(h0, .inr (5, [.ref q21, .ref q22, .ref q23, .int (i32 (u 20 3)), .ref q24, .int (i32 (u 20 5)), .ref q25, .ref q26, .int (i32 (u 20 8)), .int (i32 (u 20 9)), .int (i32 (u 20 10)), .int (i32 (u 20 11)), .ref q27, .ref q28, .ref q29, .ref q30, .int (i32 (u 20 16)), .ref q31, .ref q32, .null, .int (i32 (u 20 20)), .long (i64 (u 20 21))])), (q21, .inl (cI, 64, .inl (fun j => i32 (u 21 j)))), (q22, .inl (cI, 512, .inl (fun j => i32 (u 22 j)))), (q23, .inl (cI, 64, .inl (fun j => i32 (u 23 j)))), (q24, .inl (cI, 60, .inl (fun j => i32 (u 24 j)))), (q25, .inl (cI, 60, .inl (fun j => i32 (u 25 j)))), (q26, .inl (cI, 60, .inl (fun j => i32 (u 26 j)))), (q27, .inl (cI, 2, .inl (fun j => i32 (u 27 j)))), (q28, .inl (cI, 2, .inl (fun j => i32 (u 28 j)))), (q29, .inl (cI, 90077, .inl (fun j => i32 (u 29 j)))), (q30, .inl (cI, 9, .inl (fun j => i32 (u 30 j)))), (q31, .inl (cI, 3, .inl (fun j => i32 (u 31 j)))), (q32, .inl (cZ, 3, .inl (fun j => i32 (u 32 j)))), (q33, .inl (cI, 3, .inl (fun j => i32 (u 33 j))))]) (fun _ => rfl) ?_
  refine xr_sig (fun s13 es13 => ?_)
  have hw := hw s13 es13
  refine xr_putF C (fun u : xS => [(h0, .inr (5, [.ref q21, .ref q22, .ref q23, .int (i32 (u 20 3)), .ref q24, .int (i32 (u 20 5)), .ref q25, .ref q26, .int (i32 (u 20 8)), .int (i32 (u 20 9)), .int (i32 (u 20 10)), .int (i32 (u 20 11)), .ref q27, .ref q28, .ref q29, .ref q30, .int (i32 (u 20 16)), .ref q31, .ref q32, .ref q33, .int (i32 (u 20 20)), .long (i64 (u 20 21))])), (q21, .inl (cI, 64, .inl (fun j => i32 (u 21 j)))), (q22, .inl (cI, 512, .inl (fun j => i32 (u 22 j)))), (q23, .inl (cI, 64, .inl (fun j => i32 (u 23 j)))), (q24, .inl (cI, 60, .inl (fun j => i32 (u 24 j)))), (q25, .inl (cI, 60, .inl (fun j => i32 (u 25 j)))), (q26, .inl (cI, 60, .inl (fun j => i32 (u 26 j)))), (q27, .inl (cI, 2, .inl (fun j => i32 (u 27 j)))), (q28, .inl (cI, 2, .inl (fun j => i32 (u 28 j)))), (q29, .inl (cI, 90077, .inl (fun j => i32 (u 29 j)))), (q30, .inl (cI, 9, .inl (fun j => i32 (u 30 j)))), (q31, .inl (cI, 3, .inl (fun j => i32 (u 31 j)))), (q32, .inl (cZ, 3, .inl (fun j => i32 (u 32 j)))), (q33, .inl (cI, 3, .inl (fun j => i32 (u 33 j))))]) hinX5 (N := 22) (ci := 5) (ty := (.array .int)) tyX5 tyX5_ok nmX5 0 rfl rfl 19 (by decide) m18 rfl rfl hnm rfl (by decide +kernel) rfl rfl (Nat.le_of_ble_eq_true rfl) rfl dX5_init_101 ?_
  refine xr_world (wM (adX5 h0 q21 q22 q23 q24 q25 q26 q27 q28 q29 q30 q31 q32 q33) cI cJ cZ) (fun _ => rfl) ?_
  have B149 : ∀ (K122 : Int × xS → Prop) (hK122 : ∀ a, K122 a → xX p l e rmX5_init s m args below meth c D vwCl (va_A ((fun u : xS => [(h0, .inr (5, [.null, .null, .null, .int (i32 (u 20 3)), .null, .int (i32 (u 20 5)), .null, .null, .int (i32 (u 20 8)), .int (i32 (u 20 9)), .int (i32 (u 20 10)), .int (i32 (u 20 11)), .null, .null, .null, .null, .int (i32 (u 20 16)), .null, .null, .null, .int (i32 (u 20 20)), .long (i64 (u 20 21))]))]) σ) s.heap.size) (wM (adX5 h0 q21 q22 q23 q24 q25 q26 q27 q28 q29 q30 q31 q32 q33) cI cJ cZ) [20, 21, 22, 23, 24, 25, 26, 27, 28, 29, 30, 31, 32, 33] σ 13 90919 (MQ below (xQc D (fun ad2 => wM ad2 cI cJ cZ) [20, 21, 22, 23, 24, 25, 26, 27, 28, 29, 30, 31, 32, 33] σ s.heap.size (fun u : xS => [(h0, .inr (5, [.null, .null, .null, .int (i32 (u 20 3)), .null, .int (i32 (u 20 5)), .null, .null, .int (i32 (u 20 8)), .int (i32 (u 20 9)), .int (i32 (u 20 10)), .int (i32 (u 20 11)), .null, .null, .null, .null, .int (i32 (u 20 16)), .null, .null, .null, .int (i32 (u 20 20)), .long (i64 (u 20 21))]))]) (fun ad2 u => ad2 20 = h0 ∧ Q u)) args s 13 90919 (va_A ((fun u : xS => [(h0, .inr (5, [.null, .null, .null, .int (i32 (u 20 3)), .null, .int (i32 (u 20 5)), .null, .null, .int (i32 (u 20 8)), .int (i32 (u 20 9)), .int (i32 (u 20 10)), .int (i32 (u 20 11)), .null, .null, .null, .null, .int (i32 (u 20 16)), .null, .null, .null, .int (i32 (u 20 20)), .long (i64 (u 20 21))]))]) σ) s.heap.size)) 2 (a.2) 122 [(0, .ref h0), (1, .int (i32 (a.1)))] []) (x1 y1 y2 y3 : Int) (σ0 : xS), vX5_init_149 K122 Q x1 y1 y2 y3 σ0 → xX p l e rmX5_init s m args below meth c D vwCl (va_A ((fun u : xS => [(h0, .inr (5, [.null, .null, .null, .int (i32 (u 20 3)), .null, .int (i32 (u 20 5)), .null, .null, .int (i32 (u 20 8)), .int (i32 (u 20 9)), .int (i32 (u 20 10)), .int (i32 (u 20 11)), .null, .null, .null, .null, .int (i32 (u 20 16)), .null, .null, .null, .int (i32 (u 20 20)), .long (i64 (u 20 21))]))]) σ) s.heap.size) (wM (adX5 h0 q21 q22 q23 q24 q25 q26 q27 q28 q29 q30 q31 q32 q33) cI cJ cZ) [20, 21, 22, 23, 24, 25, 26, 27, 28, 29, 30, 31, 32, 33] σ 13 90919 (MQ below (xQc D (fun ad2 => wM ad2 cI cJ cZ) [20, 21, 22, 23, 24, 25, 26, 27, 28, 29, 30, 31, 32, 33] σ s.heap.size (fun u : xS => [(h0, .inr (5, [.null, .null, .null, .int (i32 (u 20 3)), .null, .int (i32 (u 20 5)), .null, .null, .int (i32 (u 20 8)), .int (i32 (u 20 9)), .int (i32 (u 20 10)), .int (i32 (u 20 11)), .null, .null, .null, .null, .int (i32 (u 20 16)), .null, .null, .null, .int (i32 (u 20 20)), .long (i64 (u 20 21))]))]) (fun ad2 u => ad2 20 = h0 ∧ Q u)) args s 13 90919 (va_A ((fun u : xS => [(h0, .inr (5, [.null, .null, .null, .int (i32 (u 20 3)), .null, .int (i32 (u 20 5)), .null, .null, .int (i32 (u 20 8)), .int (i32 (u 20 9)), .int (i32 (u 20 10)), .int (i32 (u 20 11)), .null, .null, .null, .null, .int (i32 (u 20 16)), .null, .null, .null, .int (i32 (u 20 20)), .long (i64 (u 20 21))]))]) σ) s.heap.size)) 2 σ0 149 [(0, .ref h0), (1, .int (i32 x1))] [.int (i32 y3), .int (i32 y2), .int (i32 y1), .ref h0] := by
    intro K122 hK122 x1 y1 y2 y3 σ0 hw
    unfold vX5_init_149 at hw
    refine xr_callVv C (ci := 5) (q0 := 0) (As := [.int (i32 y1), .int (i32 y2), .int (i32 y3)]) (rest := []) (xSp_rf _ _) (by decide) (fun h => h) (mX5_put σ0 y1 y2 y3 _ hw) (cwV 3 C.2.2.2.2.1 gX5_init_X5_put rfl rfl rfl (by decide +kernel) ⟨by decide, by decide⟩) rfl rfl rfl rfl (Nat.le_of_ble_eq_true rfl) ⟨by decide, by decide⟩ dX5_init_149 (fun σ2 hw => ?_)
    refine xr_aload_n C 0 dX5_init_152 rfl rfl ?_
    refine xr_iload_n C 1 dX5_init_153 rfl rfl ?_
    refine xr_iconst C dX5_init_154 ?_
    refine xr_iconst C dX5_init_155 ?_
    refine xr_callVv C (ci := 5) (q0 := 0) (As := [.int (i32 x1), .int (i32 3), .int (i32 3)]) (rest := []) (xSp_rf _ _) (by decide) (fun h => h) (mX5_put σ2 x1 3 3 _ hw) (cwV 3 C.2.2.2.2.1 gX5_init_X5_put rfl rfl rfl (by decide +kernel) ⟨by decide, by decide⟩) rfl rfl rfl rfl (Nat.le_of_ble_eq_true rfl) ⟨by decide, by decide⟩ dX5_init_156 (fun σ4 hw => ?_)
    refine xr_aload_n C 0 dX5_init_159 rfl rfl ?_
    refine xr_iload_n C 1 dX5_init_160 rfl rfl ?_
    refine xr_bipush C dX5_init_161 (by decide +kernel) ?_
    refine xr_iload_n C 1 dX5_init_163 rfl rfl ?_
    refine xr_callVv C (ci := 5) (q0 := 0) (As := [.int (i32 x1), .int (i32 6), .int (i32 x1)]) (rest := []) (xSp_rf _ _) (by decide) (fun h => h) (mX5_put σ4 x1 6 x1 _ hw) (cwV 3 C.2.2.2.2.1 gX5_init_X5_put rfl rfl rfl (by decide +kernel) ⟨by decide, by decide⟩) rfl rfl rfl rfl (Nat.le_of_ble_eq_true rfl) ⟨by decide, by decide⟩ dX5_init_164 (fun σ6 hw => ?_)
    refine xr_iinc C 1 [(0, .ref h0), (1, .int (i32 (x1 + 1)))] dX5_init_167 rfl (by decide) rfl ?_
    refine xr_goto C 122 dX5_init_170 (by decide) ?_
    exact hK122 ((x1 + 1), σ6) hw
  have L122 : ∀ a, mu (vX5_init_122 Q) a → xX p l e rmX5_init s m args below meth c D vwCl (va_A ((fun u : xS => [(h0, .inr (5, [.null, .null, .null, .int (i32 (u 20 3)), .null, .int (i32 (u 20 5)), .null, .null, .int (i32 (u 20 8)), .int (i32 (u 20 9)), .int (i32 (u 20 10)), .int (i32 (u 20 11)), .null, .null, .null, .null, .int (i32 (u 20 16)), .null, .null, .null, .int (i32 (u 20 20)), .long (i64 (u 20 21))]))]) σ) s.heap.size) (wM (adX5 h0 q21 q22 q23 q24 q25 q26 q27 q28 q29 q30 q31 q32 q33) cI cJ cZ) [20, 21, 22, 23, 24, 25, 26, 27, 28, 29, 30, 31, 32, 33] σ 13 90919 (MQ below (xQc D (fun ad2 => wM ad2 cI cJ cZ) [20, 21, 22, 23, 24, 25, 26, 27, 28, 29, 30, 31, 32, 33] σ s.heap.size (fun u : xS => [(h0, .inr (5, [.null, .null, .null, .int (i32 (u 20 3)), .null, .int (i32 (u 20 5)), .null, .null, .int (i32 (u 20 8)), .int (i32 (u 20 9)), .int (i32 (u 20 10)), .int (i32 (u 20 11)), .null, .null, .null, .null, .int (i32 (u 20 16)), .null, .null, .null, .int (i32 (u 20 20)), .long (i64 (u 20 21))]))]) (fun ad2 u => ad2 20 = h0 ∧ Q u)) args s 13 90919 (va_A ((fun u : xS => [(h0, .inr (5, [.null, .null, .null, .int (i32 (u 20 3)), .null, .int (i32 (u 20 5)), .null, .null, .int (i32 (u 20 8)), .int (i32 (u 20 9)), .int (i32 (u 20 10)), .int (i32 (u 20 11)), .null, .null, .null, .null, .int (i32 (u 20 16)), .null, .null, .null, .int (i32 (u 20 20)), .long (i64 (u 20 21))]))]) σ) s.heap.size)) 2 (a.2) 122 [(0, .ref h0), (1, .int (i32 (a.1)))] [] := by
    refine mu_ind (fun K122 hK122 a hw => ?_)
    obtain ⟨x1, σ0⟩ := a
    show xX p l e rmX5_init s m args below meth c D vwCl (va_A ((fun u : xS => [(h0, .inr (5, [.null, .null, .null, .int (i32 (u 20 3)), .null, .int (i32 (u 20 5)), .null, .null, .int (i32 (u 20 8)), .int (i32 (u 20 9)), .int (i32 (u 20 10)), .int (i32 (u 20 11)), .null, .null, .null, .null, .int (i32 (u 20 16)), .null, .null, .null, .int (i32 (u 20 20)), .long (i64 (u 20 21))]))]) σ) s.heap.size) (wM (adX5 h0 q21 q22 q23 q24 q25 q26 q27 q28 q29 q30 q31 q32 q33) cI cJ cZ) [20, 21, 22, 23, 24, 25, 26, 27, 28, 29, 30, 31, 32, 33] σ 13 90919 (MQ below (xQc D (fun ad2 => wM ad2 cI cJ cZ) [20, 21, 22, 23, 24, 25, 26, 27, 28, 29, 30, 31, 32, 33] σ s.heap.size (fun u : xS => [(h0, .inr (5, [.null, .null, .null, .int (i32 (u 20 3)), .null, .int (i32 (u 20 5)), .null, .null, .int (i32 (u 20 8)), .int (i32 (u 20 9)), .int (i32 (u 20 10)), .int (i32 (u 20 11)), .null, .null, .null, .null, .int (i32 (u 20 16)), .null, .null, .null, .int (i32 (u 20 20)), .long (i64 (u 20 21))]))]) (fun ad2 u => ad2 20 = h0 ∧ Q u)) args s 13 90919 (va_A ((fun u : xS => [(h0, .inr (5, [.null, .null, .null, .int (i32 (u 20 3)), .null, .int (i32 (u 20 5)), .null, .null, .int (i32 (u 20 8)), .int (i32 (u 20 9)), .int (i32 (u 20 10)), .int (i32 (u 20 11)), .null, .null, .null, .null, .int (i32 (u 20 16)), .null, .null, .null, .int (i32 (u 20 20)), .long (i64 (u 20 21))]))]) σ) s.heap.size)) 2 σ0 122 [(0, .ref h0), (1, .int (i32 x1))] []
    unfold vX5_init_122 at hw
    refine xr_iload_n C 1 dX5_init_122 rfl rfl ?_
    refine xr_iconst C dX5_init_123 ?_
    obtain ⟨g7, hw⟩ := hw
    refine xr_icmp_ge C g7 ⟨by decide, by decide⟩ 173 dX5_init_124 (by decide) (fun c8 => ?_) (fun c8 => ?_)
    · have hw := hw.1 c8
      exact xr_cret (w0 := (fun u : xS => [(h0, .inr (5, [.null, .null, .null, .int (i32 (u 20 3)), .null, .int (i32 (u 20 5)), .null, .null, .int (i32 (u 20 8)), .int (i32 (u 20 9)), .int (i32 (u 20 10)), .int (i32 (u 20 11)), .null, .null, .null, .null, .int (i32 (u 20 16)), .null, .null, .null, .int (i32 (u 20 20)), .long (i64 (u 20 21))]))])) (W' := (fun ad2 => wM ad2 cI cJ cZ)) (Q := (fun ad2 u => ad2 20 = h0 ∧ Q u)) (σ0 := σ) C hr (adX5 h0 q21 q22 q23 q24 q25 q26 q27 q28 q29 q30 q31 q32 q33) (fun _ => rfl) ⟨rfl, hw⟩ (Nat.le_refl _) (Nat.le_refl _) dX5_init_173
    · have hw := hw.2 c8
      refine xr_aload_n C 0 dX5_init_127 rfl rfl ?_
      refine xr_iload_n C 1 dX5_init_128 rfl rfl ?_
      refine xr_iconst C dX5_init_129 ?_
      refine xr_iload_n C 1 dX5_init_130 rfl rfl ?_
      refine xr_if_ne C g7 138 dX5_init_131 (by decide) (fun c9 => ?_) (fun c9 => ?_)
      · have hw := hw.1 c9
        refine xr_iload_n C 1 dX5_init_138 rfl rfl ?_
        refine xr_iconst C dX5_init_139 ?_
        refine xr_icmp_ne C g7 ⟨by decide, by decide⟩ 147 dX5_init_140 (by decide) (fun c10 => ?_) (fun c10 => ?_)
        · have hw := hw.1 c10
          refine xr_bipush C dX5_init_147 (by decide +kernel) ?_
          exact B149 K122 hK122 x1 x1 0 8 σ0 hw
        · have hw := hw.2 c10
          refine xr_iconst C dX5_init_143 ?_
          refine xr_goto C 149 dX5_init_144 (by decide) ?_
          exact B149 K122 hK122 x1 x1 0 5 σ0 hw
      · have hw := hw.2 c9
        refine xr_iconst C dX5_init_134 ?_
        refine xr_goto C 149 dX5_init_135 (by decide) ?_
        exact B149 K122 hK122 x1 x1 0 3 σ0 hw
  refine xr_aload_n C 0 dX5_init_104 rfl rfl ?_
  refine xr_get C hinX5 (N := 22) (ci := 5) (a := h0) 0 rfl rfl 0 (by decide) m4 rfl rfl dX5_init_105 ?_
  refine xr_bipush C dX5_init_108 (by decide +kernel) ?_
  refine xr_iconst C dX5_init_110 ?_
  refine xr_iast C (t0 := 0) (r := 21) 1 rfl rfl (by decide) (N := 64) rfl ⟨by decide, by decide⟩ wM_st21 (by decide) dX5_init_111 ?_
  refine xr_sig (fun σ11 e12 => ?_)
  have hw := hw σ11 e12
  refine xr_aload_n C 0 dX5_init_112 rfl rfl ?_
  refine xr_get C hinX5 (N := 22) (ci := 5) (a := h0) 0 rfl rfl 0 (by decide) m4 rfl rfl dX5_init_113 ?_
  refine xr_bipush C dX5_init_116 (by decide +kernel) ?_
  refine xr_iconst C dX5_init_118 ?_
  refine xr_iast C (t0 := 0) (r := 21) 1 rfl rfl (by decide) (N := 64) rfl ⟨by decide, by decide⟩ wM_st21 (by decide) dX5_init_119 ?_
  refine xr_sig (fun σ13 e14 => ?_)
  have hw := hw σ13 e14
  refine xr_iconst C dX5_init_120 ?_
  refine xr_istore_n C [(0, .ref h0), (1, .int (i32 0))] dX5_init_121 rfl (by decide) rfl ?_
  exact L122 (0, σ13) hw
