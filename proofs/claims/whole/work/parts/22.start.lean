theorem dfX4 : ∀ u : xS, (u 0 = fun _ => 0) → ∀ j, j < 4 → defaultValue (tyX4 j) = vp_V [.null, .null, .null, .null] j := by
  intro u hu j hj
  rcases (show j = 0 ∨ j = 1 ∨ j = 2 ∨ j = 3 by omega) with rfl | rfl | rfl | rfl <;> rfl
theorem dfX5 : ∀ u : xS, (u 20 = fun _ => 0) → ∀ j, j < 22 → defaultValue (tyX5 j) = vp_V [.null, .null, .null, .int (i32 (u 20 3)), .null, .int (i32 (u 20 5)), .null, .null, .int (i32 (u 20 8)), .int (i32 (u 20 9)), .int (i32 (u 20 10)), .int (i32 (u 20 11)), .null, .null, .null, .null, .int (i32 (u 20 16)), .null, .null, .null, .int (i32 (u 20 20)), .long (i64 (u 20 21))] j := by
  intro u hu j hj
  have e : ∀ k, u 20 k = 0 := fun k => by rw [hu]
  rcases (show j = 0 ∨ j = 1 ∨ j = 2 ∨ j = 3 ∨ j = 4 ∨ j = 5 ∨ j = 6 ∨ j = 7 ∨ j = 8 ∨ j = 9 ∨ j = 10 ∨ j = 11 ∨ j = 12 ∨ j = 13 ∨ j = 14 ∨ j = 15 ∨ j = 16 ∨ j = 17 ∨ j = 18 ∨ j = 19 ∨ j = 20 ∨ j = 21 by omega) with rfl | rfl | rfl | rfl | rfl | rfl | rfl | rfl | rfl | rfl | rfl | rfl | rfl | rfl | rfl | rfl | rfl | rfl | rfl | rfl | rfl | rfl <;> simp only [vp_V, e] <;> rfl
theorem arr_known {args : Array Value} {s : State} {ty : FieldType} (h : (Cond.arrayClass ty).before args s = true) (ht : ∀ C, ty ≠ .object C) : ∃ cA : ClassId, ArrOfT s cA ty ∧ va_RA s cA ty := by
  obtain ⟨cA, kA, comp, h1, h2, h3⟩ := Cond.arrayClass_spec h
  refine ⟨cA, fun n z => ⟨fun k h => (by cases h), kA, h2, comp, h3⟩, ?_⟩
  cases ty with
  | object C => exact absurd rfl (ht C)
  | _ => exact h1
set_option maxHeartbeats 8000000 in
set_option maxRecDepth 200000 in
/-- the law, from its entry, out of one relation that holds at first and is kept by each call -/
theorem whole_start_of (Rel : Bool → xS → Prop) (hinit : ∀ s1 : xS, s1 = xset (fun _ _ => 0) 0 (fun _ => 0) → vX4_init s1 (fun u => ∀ s2 : xS, s2 = xset u 20 (fun _ => 0) → vX5_init s2 (fun v => Rel false v))) (hstep : ∀ (P : Bool) (k a b c : Int) (σ : xS), rng k → rng a → rng b → rng c → Rel P σ → lawS P k a b c σ Rel)
    {p : Program} {e : Env} {s : State} {m : MethodId} {below : List Frame} {meth : Method} {c : Code} (l : Launch) {b L : Nat} {xs : Nat → Int32} (hL : L ≤ 2048) (C0 : lw_At p s m meth c b L xs) : W p l e room_1 s m #[Value.ref b] below meth c s.heap [] 0 0 (lw_Z below #[Value.ref b] s) (entryFrame m ([Value.ref b] : List Value).toArray 4) := by
  obtain ⟨hx, hb, hr, hml, hown, hts, hX, hbl, hlocks, hgv⟩ := id C0
  have hts' : ∀ w ∈ wsL_law, w.before #[Value.ref b] s = true := fun w h => hts w (wsL_law_in w h)
  have hs := flat_of_before _ hgv
  obtain ⟨c0, i0, hKn0⟩ := u_known (C := RX0) (T := TX0) (N := 1) (n := 1) hts inX0 (hts' (.instantiable RX0 1) (by decide +kernel))
  obtain ⟨c1, i1, hKn1⟩ := u_known (C := RX1) (T := TX1) (N := 3) (n := 3) hts inX1 (hts' (.instantiable RX1 3) (by decide +kernel))
  obtain ⟨c2, i2, hKn2⟩ := u_known (C := RX2) (T := TX2) (N := 11) (n := 11) hts inX2 (hts' (.instantiable RX2 11) (by decide +kernel))
  obtain ⟨c3, i3, hKn3⟩ := u_known (C := RX3) (T := TX3) (N := 8) (n := 8) hts inX3 (hts' (.instantiable RX3 8) (by decide +kernel))
  obtain ⟨c4, i4, hKn4⟩ := u_known (C := RX4) (T := TX4) (N := 4) (n := 4) hts inX4 (hts' (.instantiable RX4 4) (by decide +kernel))
  obtain ⟨c5, i5, hKn5⟩ := u_known (C := RX5) (T := TX5) (N := 22) (n := 22) hts inX5 (hts' (.instantiable RX5 22) (by decide +kernel))
  obtain ⟨cI, hI⟩ := arr_known (hts' (.arrayClass .int) (by decide +kernel)) (fun _ h => by cases h)
  obtain ⟨cJ, hJ⟩ := arr_known (hts' (.arrayClass .long) (by decide +kernel)) (fun _ h => by cases h)
  obtain ⟨cZ, hZ⟩ := arr_known (hts' (.arrayClass .boolean) (by decide +kernel)) (fun _ h => by cases h)
  obtain ⟨dC, dI, hKc⟩ : ∃ (dC : Nat → ClassId) (dI : Nat → Nat → Nat), ∀ (k : Nat) (q : vw_C), vwCl[k]? = some q → u_Kn s q.1 q.2.1 q.2.2 (dC k) (dI k) := by
    refine ⟨fun k => if k = 0 then c0 else if k = 1 then c1 else if k = 2 then c2 else if k = 3 then c3 else if k = 4 then c4 else c5, fun k => if k = 0 then i0 else if k = 1 then i1 else if k = 2 then i2 else if k = 3 then i3 else if k = 4 then i4 else i5, ?_⟩
    intro k q hq
    match k, hq with
    | 0, hq => cases hq; exact hKn0
    | 1, hq => cases hq; exact hKn1
    | 2, hq => cases hq; exact hKn2
    | 3, hq => cases hq; exact hKn3
    | 4, hq => cases hq; exact hKn4
    | 5, hq => cases hq; exact hKn5
    | k + 6, hq => simp [vwCl] at hq
  have hK : va_K (dC, dI) vwCl (xtys cI cJ cZ) s := by
    refine ⟨hKc, fun k q h => ?_⟩
    match k, h with
    | 0, h => cases h; exact hI
    | 1, h => cases h; exact hJ
    | 2, h => cases h; exact hZ
    | k + 3, h => simp [xtys] at h
  have hA : ∀ q : Nat, s.heap.size ≤ q → (fun q : Nat => s.heap.size ≤ q) q := fun _ h => h
  have hno : ∀ a : Nat, a < s.heap.size → ¬ (fun q : Nat => s.heap.size ≤ q) a := fun _ h => Nat.not_le.mpr h
  have hE : xE True (fun q : Nat => s.heap.size ≤ q) s s.heap := by
    intro _
    refine ⟨?_, va_Nw.of rfl (hts (.methodLinkNest RX4 18 yX1_init RX4) (by decide +kernel)), va_Nw.of rfl (hts (.methodLinkNest RX4 25 yX3_init RX4) (by decide +kernel)), va_Nw.of rfl (hts (.methodLinkNest RX4 195 yX2_init RX4) (by decide +kernel))⟩
    obtain ⟨t, ht, hT⟩ := va_Tof (tm := .static "SandBench$Planner" "STACKS_IN" "[I") (ty := .int) (N := 8) (f := fun j => .int (i32 (stk j))) (by decide) (hs (Cond.arrayOf (.static "SandBench$Planner" "STACKS_IN" "[I") .int) (by decide +kernel)) (va_eqt (hs (Cond.eq (.length (.static "SandBench$Planner" "STACKS_IN" "[I")) (.int 8)) (by decide +kernel))) (fun j hj => by
      match j, hj with
    | 0, _ => exact va_eqt (hs (Cond.eq (.elem (.static "SandBench$Planner" "STACKS_IN" "[I") (.int 0)) (.int 0)) (by decide +kernel))
    | 1, _ => exact va_eqt (hs (Cond.eq (.elem (.static "SandBench$Planner" "STACKS_IN" "[I") (.int 1)) (.int 1)) (by decide +kernel))
    | 2, _ => exact va_eqt (hs (Cond.eq (.elem (.static "SandBench$Planner" "STACKS_IN" "[I") (.int 2)) (.int 1)) (by decide +kernel))
    | 3, _ => exact va_eqt (hs (Cond.eq (.elem (.static "SandBench$Planner" "STACKS_IN" "[I") (.int 3)) (.int 2)) (by decide +kernel))
    | 4, _ => exact va_eqt (hs (Cond.eq (.elem (.static "SandBench$Planner" "STACKS_IN" "[I") (.int 4)) (.int 1)) (by decide +kernel))
    | 5, _ => exact va_eqt (hs (Cond.eq (.elem (.static "SandBench$Planner" "STACKS_IN" "[I") (.int 5)) (.int 2)) (by decide +kernel))
    | 6, _ => exact va_eqt (hs (Cond.eq (.elem (.static "SandBench$Planner" "STACKS_IN" "[I") (.int 6)) (.int 2)) (by decide +kernel))
    | 7, _ => exact va_eqt (hs (Cond.eq (.elem (.static "SandBench$Planner" "STACKS_IN" "[I") (.int 7)) (.int 3)) (by decide +kernel))
      | j + 8, h => exact absurd h (by omega)) hno
    exact ⟨t, va_Zref (hts (.laysStatic "SandBench$Planner" "STACKS_IN" "[I") (by decide +kernel)) (hts' (.initialized RX2) (by decide +kernel)) ht hno, hT⟩
  have C : xC True p s m #[.ref b] meth c cL_law 4 RL wsL_law (dC, dI) vwCl (xtys cI cJ cZ) (fun q : Nat => s.heap.size ≤ q) := ⟨hx, hb, hml, hown, hts', hK, hA, hlocks, hE⟩
  have hl := lv_entry ([.ref b]) (n := 4) (Nat.le_of_ble_eq_true rfl)
  rw [lg_entry_eq]
  have inl4 := inlX4
  suffices h : xX p l e room_1 s m #[.ref b] below meth c (dC, dI) vwCl (fun q : Nat => s.heap.size ≤ q) (fun _ : xS => []) FL (fun _ _ => 0) 0 0 (lw_Z below #[.ref b] s) 4 (fun _ _ => 0) 0 (lv_args 0 [.ref b]) [] from h (fun _ _ => rfl) s.heap [] _ (fun k q h => by simp at h) ⟨fun i j p q h => by simp at h, fun k q h => by simp at h⟩ va_S.rf hl
  show xX p l e room_1 s m #[.ref b] below meth c (dC, dI) vwCl (fun q : Nat => s.heap.size ≤ q) (fun _ : xS => []) FL (fun _ _ => 0) 0 0 (lw_Z below #[.ref b] s) 4 (fun _ _ => 0) 0 [(0, .ref b)] []
  refine xr_new C inlX4 (N := 4) (ci := 4) tyX4 tyX4_ok (by decide +kernel) (by decide +kernel) (by decide +kernel) rfl 0 (fun _ => [.null, .null, .null, .null]) dfX4 (fun u f => rfl) (by decide) (Nat.le_of_ble_eq_true rfl) (Nat.le_of_ble_eq_true rfl) dL_law_0 (fun q0 => ?_)
  refine xr_sig (fun s1 es1 => ?_)
  have hw := hinit s1 es1
  refine xr_dup C dL_law_3 rfl ?_
  refine xr_ctorI (w0 := (fun _ : xS => [(q0, .inr (4, [.null, .null, .null, .null]))])) (W' := fun ad2 => wX .null ad2 cI cJ cZ) (F' := [0, 1, 2, 3, 4, 5, 6, 7, 8]) C (fun _ => []) (fun u => rfl) (fun _ _ _ => rfl) (by decide) (fun h => h) (kX4_init q0 s1 _ hw) (cwI 0 C.2.2.2.2.1 gL_law_X4_init rfl rfl rfl (C.2.2.2.2.1 _ (by decide +kernel)) (C.2.2.2.2.1 (.methodLink RL 9 yX4_init) (by decide +kernel)) (C.2.2.2.2.1 _ (by decide +kernel)) rfl ⟨by decide +kernel, by decide +kernel, by decide +kernel⟩ ⟨(Nat.le_of_ble_eq_true rfl), (Nat.le_of_ble_eq_true rfl)⟩) rfl (rest := [.ref q0]) rfl (Nat.le_of_ble_eq_true rfl) ⟨(Nat.le_of_ble_eq_true rfl), (Nat.le_of_ble_eq_true rfl)⟩ dL_law_4 (fun ad s2 hq => ?_)
  obtain ⟨rfl, hw⟩ := hq
  refine xr_world (wX .null ad cI cJ cZ) (fun _ => rfl) ?_
  refine xr_astore_n C [(0, .ref b), (1, .ref (ad 0))] dL_law_7 rfl (by decide) rfl ?_
  refine xr_new C inlX5 (N := 22) (ci := 5) tyX5 tyX5_ok (by decide +kernel) (by decide +kernel) (by decide +kernel) rfl 20 (fun u => [.null, .null, .null, .int (i32 (u 20 3)), .null, .int (i32 (u 20 5)), .null, .null, .int (i32 (u 20 8)), .int (i32 (u 20 9)), .int (i32 (u 20 10)), .int (i32 (u 20 11)), .null, .null, .null, .null, .int (i32 (u 20 16)), .null, .null, .null, .int (i32 (u 20 20)), .long (i64 (u 20 21))]) dfX5 (fun u f => rfl) (by decide) (Nat.le_of_ble_eq_true rfl) (Nat.le_of_ble_eq_true rfl) dL_law_8 (fun q20 => ?_)
  refine xr_sig (fun s3 es3 => ?_)
  have hw := hw s3 es3
  refine xr_dup C dL_law_11 rfl ?_
  refine xr_ctorI (w0 := (fun u : xS => [(q20, .inr (5, [.null, .null, .null, .int (i32 (u 20 3)), .null, .int (i32 (u 20 5)), .null, .null, .int (i32 (u 20 8)), .int (i32 (u 20 9)), .int (i32 (u 20 10)), .int (i32 (u 20 11)), .null, .null, .null, .null, .int (i32 (u 20 16)), .null, .null, .null, .int (i32 (u 20 20)), .long (i64 (u 20 21))]))])) (W' := fun ad2 => wM ad2 cI cJ cZ) (F' := FM) C (wX .null ad cI cJ cZ) (fun u => rfl) (fun u u2 h => wX_ind (fun k hk => h k (by revert k; decide))) (by decide) (fun h => False.elim h) (kX5_init q20 s3 _ hw) (cwI 0 C.2.2.2.2.1 gL_law_X5_init rfl rfl rfl (C.2.2.2.2.1 _ (by decide +kernel)) (C.2.2.2.2.1 (.methodLink RL 12 yX5_init) (by decide +kernel)) (C.2.2.2.2.1 _ (by decide +kernel)) rfl ⟨by decide +kernel, by decide +kernel, by decide +kernel⟩ ⟨(Nat.le_of_ble_eq_true rfl), (Nat.le_of_ble_eq_true rfl)⟩) rfl (rest := [.ref q20]) rfl (Nat.le_of_ble_eq_true rfl) ⟨(Nat.le_of_ble_eq_true rfl), (Nat.le_of_ble_eq_true rfl)⟩ dL_law_12 (fun adm s4 hq => ?_)
  obtain ⟨rfl, hw⟩ := hq
  refine xr_world (wL false ad adm cI cJ cZ) (fun _ => rfl) ?_
  refine xr_astore_n C [(0, .ref b), (1, .ref (ad 0)), (2, .ref (adm 20))] dL_law_15 rfl (by decide) rfl ?_
  refine xr_iconst C dL_law_16 ?_
  refine xr_istore_n C [(0, .ref b), (1, .ref (ad 0)), (2, .ref (adm 20)), (3, .int (i32 0))] dL_law_17 rfl (by decide) rfl ?_
  exact law_loop hL C hX hbl hr hstep (L + 1) 0 false ad s4 rfl hw (Int.le_refl 0) (by omega) (by omega)
