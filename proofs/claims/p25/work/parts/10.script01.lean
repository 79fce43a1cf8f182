abbrev rmX3_length : Room := { frames := 0, cells := 0, slots := 0, locals := 64 }
set_option maxHeartbeats 8000000 in
set_option maxRecDepth 100000 in
theorem mX3_length {l : Launch} {D : va_G} {ad : Nat → Nat} {cI cJ cZ : ClassId} (σ : xS) (Q : Int → xS → Prop) (hw : vX3_length σ Q) : xMi False l yX3_length wsX3_length rmX3_length D (xtys cI cJ cZ) (wS ad cI cJ cZ) [1, 2, 3, 4] σ [.ref (ad 1)] Q := by
  refine xenter (F := [1, 2, 3, 4]) (Qc := fun sz => xQi D (wS ad cI cJ cZ) [1, 2, 3, 4] σ sz Q) (own := RX3) (cc := cX3_length) (maxL := 1) (ret := some .int) (by decide) rfl rfl (Nat.le_of_ble_eq_true rfl) ?_
  intro p e s m args below meth c hargs C hr hnm
  have hinX3 : ∀ w ∈ u_ws RX3 TX3 8, w ∈ wsX3_length := fun _ h => List.mem_cons_of_mem _ (List.mem_append_right _ h)
  have m0 : (Cond.fieldLink RX3 21 "SandBench$Script" "length" "I") ∈ wsX3_length := by decide +kernel
  show xX p l e rmX3_length s m args below meth c D vwCl (va_A ((wS ad cI cJ cZ) σ) s.heap.size) (wS ad cI cJ cZ) [1, 2, 3, 4] σ 0 0 (MQ below (xQi D (wS ad cI cJ cZ) [1, 2, 3, 4] σ s.heap.size Q) args s 0 0 (va_A ((wS ad cI cJ cZ) σ) s.heap.size)) 1 σ 0 [(0, .ref (ad 1))] []
  unfold vX3_length at hw
  refine xr_aload_n C 0 dX3_length_0 rfl rfl ?_
  refine xr_get C hinX3 (N := 8) (ci := 2) (a := (ad 1)) 0 rfl rfl 1 (by decide) m0 rfl rfl dX3_length_1 ?_
  exact xr_iret C hr hw dX3_length_4
