theorem dfX0 : ∀ u : xS, (u 7 = fun _ => 0) → ∀ j, j < 1 → defaultValue (tyX0 j) = vp_V [.null] j := by
  intro u hu j hj
  have e : ∀ k, u 7 k = 0 := fun k => by rw [hu]
  rcases (show j = 0 by omega) with rfl <;> simp only [vp_V, e] <;> rfl
theorem dfX1 : ∀ u : xS, (u 5 = fun _ => 0) → ∀ j, j < 3 → defaultValue (tyX1 j) = vp_V [.null, .int (i32 (u 5 1)), .int (i32 (u 5 2))] j := by
  intro u hu j hj
  have e : ∀ k, u 5 k = 0 := fun k => by rw [hu]
  rcases (show j = 0 ∨ j = 1 ∨ j = 2 by omega) with rfl | rfl | rfl <;> simp only [vp_V, e] <;> rfl
theorem dfX3 : ∀ u : xS, (u 1 = fun _ => 0) → ∀ j, j < 8 → defaultValue (tyX3 j) = vp_V [.null, .int (i32 (u 1 1)), .null, .null, .int (i32 (u 1 4)), .int (i32 (u 1 5)), .int (i32 (u 1 6)), .int (i32 (u 1 7))] j := by
  intro u hu j hj
  have e : ∀ k, u 1 k = 0 := fun k => by rw [hu]
  rcases (show j = 0 ∨ j = 1 ∨ j = 2 ∨ j = 3 ∨ j = 4 ∨ j = 5 ∨ j = 6 ∨ j = 7 by omega) with rfl | rfl | rfl | rfl | rfl | rfl | rfl | rfl <;> simp only [vp_V, e] <;> rfl
def vX4_init (σ : xS) (Q : xS → Prop) : Prop := ∀ s1 : xS, s1 = xset σ 7 (fun _ => 0) → vX0_init s1 (fun s2 => ∀ s3 : xS, s3 = xset s2 5 (fun _ => 0) → vX1_init s3 (fun s4 => ∀ s5 : xS, s5 = xset s4 1 (fun _ => 0) → vX3_init s5 (fun s6 => Q s6)))
def adSB (h0 : Nat) (a b c : Nat → Nat) : Nat → Nat := fun k => if k = 0 then h0 else if k = 7 then a 7 else if k = 8 then a 8 else if k = 5 then b 5 else if k = 6 then b 6 else c k
abbrev rmX4_init : Room := { frames := 5, cells := 8, slots := 839, locals := 174 }
set_option maxHeartbeats 8000000 in
set_option maxRecDepth 200000 in
theorem kX4_init {l : Launch} {D : va_G} {cI cJ cZ : ClassId} (h0 : Nat) (σ : xS) (Q : xS → Prop) (hw : vX4_init σ Q) : xMc True l yX4_init wsX4_init rmX4_init D (xtys cI cJ cZ) (fun _ : xS => [(h0, .inr (3, [.null, .null, .null, .null]))]) (fun ad2 => wX .null ad2 cI cJ cZ) [0, 1, 2, 3, 4, 5, 6, 7, 8] σ [.ref h0] 8 839 (fun ad2 u => ad2 0 = h0 ∧ Q u) := by
  refine xenter (F := [0, 1, 2, 3, 4, 5, 6, 7, 8]) (Qc := fun sz => xQc D (fun ad2 => wX .null ad2 cI cJ cZ) [0, 1, 2, 3, 4, 5, 6, 7, 8] σ sz (fun _ : xS => [(h0, .inr (3, [.null, .null, .null, .null]))]) (fun ad2 u => ad2 0 = h0 ∧ Q u)) (own := RX4) (cc := cX4_init) (maxL := 1) (ret := none) (mc := 8) (ms := 839) (by decide) rfl rfl (Nat.le_of_ble_eq_true rfl) ?_
  intro p e s m args below meth c hargs C hr hnm
  have hinX0 : ∀ w ∈ u_ws RX0 TX0 1, w ∈ wsX4_init := fun _ h => List.mem_cons_of_mem _ (List.mem_append_left _ (List.mem_append_left _ (List.mem_append_left _ (List.mem_append_right _ h))))
  have hinX1 : ∀ w ∈ u_ws RX1 TX1 3, w ∈ wsX4_init := fun _ h => List.mem_cons_of_mem _ (List.mem_append_left _ (List.mem_append_right _ h))
  have hinX3 : ∀ w ∈ u_ws RX3 TX3 8, w ∈ wsX4_init := fun _ h => List.mem_cons_of_mem _ (List.mem_append_right _ h)
  have hinX4 : ∀ w ∈ u_ws RX4 TX4 4, w ∈ wsX4_init := fun _ h => List.mem_cons_of_mem _ (List.mem_append_left _ (List.mem_append_left _ (List.mem_append_right _ h)))
  have m0 : (Cond.methodLink RX4 1 Lib.objectInit) ∈ wsX4_init := by decide +kernel
  have m1 : (Cond.instanceMethod Lib.objectInit) ∈ wsX4_init := by decide +kernel
  have m2 : (Cond.code Lib.objectInit ⟨#[0xb1]⟩ 1 none) ∈ wsX4_init := by decide +kernel
  have m3 : (Cond.classLink RX4 7 RX0) ∈ wsX4_init := by decide +kernel
  have m4 : (Cond.instantiable RX0 1) ∈ wsX4_init := by decide +kernel
  have m5 : (Cond.initialized RX0) ∈ wsX4_init := by decide +kernel
  have m6 : (Cond.methodLink RX4 9 yX0_init) ∈ wsX4_init := by decide +kernel
  have m7 : (Cond.instanceMethod yX0_init) ∈ wsX4_init := by decide +kernel
  have m8 : (Cond.fieldLink RX4 10 "SandBench" "bench" "LSandBench$Bench;") ∈ wsX4_init := by decide +kernel
  have m9 : (Cond.classLink RX4 16 RX1) ∈ wsX4_init := by decide +kernel
  have m10 : (Cond.instantiable RX1 3) ∈ wsX4_init := by decide +kernel
  have m11 : (Cond.initialized RX1) ∈ wsX4_init := by decide +kernel
  have m12 : (Cond.instanceMethod yX1_init) ∈ wsX4_init := by decide +kernel
  have m13 : (Cond.fieldLink RX4 19 "SandBench" "history" "LSandBench$History;") ∈ wsX4_init := by decide +kernel
  have m14 : (Cond.classLink RX4 23 RX3) ∈ wsX4_init := by decide +kernel
  have m15 : (Cond.instantiable RX3 8) ∈ wsX4_init := by decide +kernel
  have m16 : (Cond.initialized RX3) ∈ wsX4_init := by decide +kernel
  have m17 : (Cond.instanceMethod yX3_init) ∈ wsX4_init := by decide +kernel
  have m18 : (Cond.fieldLink RX4 26 "SandBench" "script" "LSandBench$Script;") ∈ wsX4_init := by decide +kernel
  show xX p l e rmX4_init s m args below meth c D vwCl (va_A ((fun _ : xS => [(h0, .inr (3, [.null, .null, .null, .null]))]) σ) s.heap.size) (fun _ : xS => [(h0, .inr (3, [.null, .null, .null, .null]))]) [0, 1, 2, 3, 4, 5, 6, 7, 8] σ 0 0 (MQ below (xQc D (fun ad2 => wX .null ad2 cI cJ cZ) [0, 1, 2, 3, 4, 5, 6, 7, 8] σ s.heap.size (fun _ : xS => [(h0, .inr (3, [.null, .null, .null, .null]))]) (fun ad2 u => ad2 0 = h0 ∧ Q u)) args s 8 839 (va_A ((fun _ : xS => [(h0, .inr (3, [.null, .null, .null, .null]))]) σ) s.heap.size)) 1 σ 0 [(0, .ref h0)] []
  unfold vX4_init at hw
  refine xr_aload_n C 0 dX4_init_0 rfl rfl ?_
  refine xr_objinit C m0 m1 m2 (by decide) (Nat.le_of_ble_eq_true rfl) dX4_init_1 ?_
  refine xr_aload_n C 0 dX4_init_4 rfl rfl ?_
  refine xr_new C hinX0 (N := 1) (ci := 0) tyX0 tyX0_ok m3 m4 m5 rfl 7 (fun u => [.null]) dfX0 (fun u f => rfl) (by decide) (Nat.le_of_ble_eq_true rfl) (Nat.le_of_ble_eq_true rfl) dX4_init_5 (fun q7 => ?_)
  refine xr_sig (fun s1 es1 => ?_)
  have hw := hw s1 es1
  refine xr_dup C dX4_init_8 rfl ?_
  refine xr_ctorI (w0 := (fun u : xS => [(q7, .inr (0, [.null]))])) (W' := fun ad2 => wB ad2 cI cJ cZ) (F' := [7, 8]) C (fun u : xS => [(h0, .inr (3, [.null, .null, .null, .null]))]) (fun u => rfl) (fun u u2 h => by rfl) (by decide) (fun h => False.elim h) (kX0_init q7 s1 _ hw) (cwI 0 C.2.2.2.2.1 gX4_init_X0_init rfl rfl rfl (C.2.2.2.2.1 _ m5) (C.2.2.2.2.1 _ m6) (C.2.2.2.2.1 _ m7) rfl ⟨by decide +kernel, by decide +kernel, by decide +kernel⟩ ⟨by decide, by decide⟩) rfl (rest := [.ref q7, .ref h0]) rfl (Nat.le_of_ble_eq_true rfl) ⟨Nat.le_of_ble_eq_true rfl, Nat.le_of_ble_eq_true rfl⟩ dX4_init_9 (fun ad7 s2 hq => ?_)
  obtain ⟨rfl, hw⟩ := hq
  refine xr_putF C (fun u : xS => [(h0, .inr (3, [.ref (ad7 7), .null, .null, .null]))] ++ wB ad7 cI cJ cZ u) hinX4 (N := 4) (ci := 3) (ty := .object "SandBench$Bench") tyX4 tyX4_ok nmX4 0 rfl rfl 0 (by decide) m8 rfl rfl hnm rfl (by decide +kernel) rfl rfl (Nat.le_of_ble_eq_true rfl) rfl dX4_init_12 ?_
  refine xr_aload_n C 0 dX4_init_15 rfl rfl ?_
  refine xr_new C hinX1 (N := 3) (ci := 1) tyX1 tyX1_ok m9 m10 m11 rfl 5 (fun u => [.null, .int (i32 (u 5 1)), .int (i32 (u 5 2))]) dfX1 (fun u f => rfl) (by decide) (Nat.le_of_ble_eq_true rfl) (Nat.le_of_ble_eq_true rfl) dX4_init_16 (fun q5 => ?_)
  refine xr_sig (fun s3 es3 => ?_)
  have hw := hw s3 es3
  refine xr_dup C dX4_init_19 rfl ?_
  refine xr_ctorN (w0 := (fun u : xS => [(q5, .inr (1, [.null, .int (i32 (u 5 1)), .int (i32 (u 5 2))]))])) (W' := fun ad2 => wH ad2 cI cJ cZ) (F' := [5, 6]) C (fun u : xS => [(h0, .inr (3, [.ref (ad7 7), .null, .null, .null]))] ++ wB ad7 cI cJ cZ u) (fun u => rfl) (fun u u2 h => by have h7 : u 7 = u2 7 := h 7 (by decide); have h8 : u 8 = u2 8 := h 8 (by decide); simp only [wB, wH, h7, h8]) (by decide) (fun h => False.elim h) (kX1_init q5 s3 _ hw) ⟨va_cnB (host := RX4) 0 C.2.2.2.2.1 gX4_init_X1_init_n18 rfl rfl rfl (C.2.2.2.2.2.2.2.2 trivial).1 (C.2.2.2.2.1 _ m11) ⟨by decide +kernel, by decide +kernel, by decide +kernel⟩ ⟨by decide, by decide⟩, rfl, C.2.2.2.2.1 _ m12⟩ rfl (rest := [.ref q5, .ref h0]) rfl (Nat.le_of_ble_eq_true rfl) ⟨Nat.le_of_ble_eq_true rfl, Nat.le_of_ble_eq_true rfl⟩ dX4_init_20 (fun ad5 s4 hq => ?_)
  obtain ⟨rfl, hw⟩ := hq
  refine xr_putF C (fun u : xS => [(h0, .inr (3, [.ref (ad7 7), .ref (ad5 5), .null, .null]))] ++ wB ad7 cI cJ cZ u ++ wH ad5 cI cJ cZ u) hinX4 (N := 4) (ci := 3) (ty := .object "SandBench$History") tyX4 tyX4_ok nmX4 0 rfl rfl 1 (by decide) m13 rfl rfl hnm rfl (by decide +kernel) rfl rfl (Nat.le_of_ble_eq_true rfl) rfl dX4_init_23 ?_
  refine xr_aload_n C 0 dX4_init_26 rfl rfl ?_
  refine xr_new C hinX3 (N := 8) (ci := 2) tyX3 tyX3_ok m14 m15 m16 rfl 1 (fun u => [.null, .int (i32 (u 1 1)), .null, .null, .int (i32 (u 1 4)), .int (i32 (u 1 5)), .int (i32 (u 1 6)), .int (i32 (u 1 7))]) dfX3 (fun u f => rfl) (by decide) (Nat.le_of_ble_eq_true rfl) (Nat.le_of_ble_eq_true rfl) dX4_init_27 (fun q1 => ?_)
  refine xr_sig (fun s5 es5 => ?_)
  have hw := hw s5 es5
  refine xr_dup C dX4_init_30 rfl ?_
  refine xr_ctorN (w0 := (fun u : xS => [(q1, .inr (2, [.null, .int (i32 (u 1 1)), .null, .null, .int (i32 (u 1 4)), .int (i32 (u 1 5)), .int (i32 (u 1 6)), .int (i32 (u 1 7))]))])) (W' := fun ad2 => wS ad2 cI cJ cZ) (F' := [1, 2, 3, 4]) C (fun u : xS => [(h0, .inr (3, [.ref (ad7 7), .ref (ad5 5), .null, .null]))] ++ wB ad7 cI cJ cZ u ++ wH ad5 cI cJ cZ u) (fun u => rfl) (fun u u2 h => by have h7 : u 7 = u2 7 := h 7 (by decide); have h8 : u 8 = u2 8 := h 8 (by decide); have h5 : u 5 = u2 5 := h 5 (by decide); have h6 : u 6 = u2 6 := h 6 (by decide); simp only [wB, wH, h7, h8, h5, h6]) (by decide) (fun h => False.elim h) (kX3_init q1 s5 _ hw) ⟨va_cnB (host := RX4) 0 C.2.2.2.2.1 gX4_init_X3_init_n25 rfl rfl rfl (C.2.2.2.2.2.2.2.2 trivial).2 (C.2.2.2.2.1 _ m16) ⟨by decide +kernel, by decide +kernel, by decide +kernel⟩ ⟨by decide, by decide⟩, rfl, C.2.2.2.2.1 _ m17⟩ rfl (rest := [.ref q1, .ref h0]) rfl (Nat.le_of_ble_eq_true rfl) ⟨Nat.le_of_ble_eq_true rfl, Nat.le_of_ble_eq_true rfl⟩ dX4_init_31 (fun ad1 s6 hq => ?_)
  obtain ⟨rfl, hw⟩ := hq
  refine xr_putF C (fun u : xS => [(h0, .inr (3, [.ref (ad7 7), .ref (ad5 5), .ref (ad1 1), .null]))] ++ wB ad7 cI cJ cZ u ++ wH ad5 cI cJ cZ u ++ wS ad1 cI cJ cZ u) hinX4 (N := 4) (ci := 3) (ty := .object "SandBench$Script") tyX4 tyX4_ok nmX4 0 rfl rfl 2 (by decide) m18 rfl rfl hnm rfl (by decide +kernel) rfl rfl (Nat.le_of_ble_eq_true rfl) rfl dX4_init_34 ?_
  refine xr_perm (fun u : xS => (h0, .inr (3, [.ref (ad7 7), .ref (ad5 5), .ref (ad1 1), .null])) :: (wS ad1 cI cJ cZ u ++ (wH ad5 cI cJ cZ u ++ wB ad7 cI cJ cZ u))) (fun u => List.Perm.cons _ ((List.perm_append_comm).trans (List.Perm.append_left _ List.perm_append_comm))) ?_
  exact xr_cret (w0 := (fun _ : xS => [(h0, .inr (3, [.null, .null, .null, .null]))])) (W' := (fun ad2 => wX .null ad2 cI cJ cZ)) (Q := (fun ad2 u => ad2 0 = h0 ∧ Q u)) (σ0 := σ) C hr (adSB h0 ad7 ad5 ad1) (fun _ => rfl) ⟨rfl, hw⟩ (Nat.le_of_ble_eq_true rfl) (Nat.le_of_ble_eq_true rfl) dX4_init_37
