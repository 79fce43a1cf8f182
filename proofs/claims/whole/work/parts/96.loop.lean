/-! the loop with its place counted and its cells in range -/
theorem xr_st {p : Program} {l : Launch} {e : Env} {R : Room} {s : State} {m : MethodId} {args : Array Value} {below : List Frame} {meth : Method} {c : Code} {D : va_G} {cl : List vw_C} {A : Nat → Prop} {w : xS → va_W} {F : List Nat} {σ0 : xS} {cells slots : Nat} {Q : State → Prop} {nL : Nat} {σ : xS} {pc : Nat} {lv : List (Nat × Value)} {st : List Value} (σ' : xS) (h : w σ' = w σ) (hF : ∀ k, k ∉ F → σ' k = σ k) (k : xX p l e R s m args below meth c D cl A w F σ0 cells slots Q nL σ' pc lv st) : xX p l e R s m args below meth c D cl A w F σ0 cells slots Q nL σ pc lv st := by
  intro hF0 H locs ls hP hD hS hl
  refine k (fun q hq => (hF q hq).trans (hF0 q hq)) H locs ls ?_ ?_ hS hl
  · rw [h]; exact hP
  · rw [h]; exact hD
set_option maxHeartbeats 8000000 in
set_option maxRecDepth 200000 in
theorem law_loop2 {p : Program} {l : Launch} {e : Env} {s : State} {m : MethodId} {below : List Frame} {meth : Method} {c : Code} {D : va_G} {b L b1 : Nat} {xs : Nat → Int32} {cI cJ cZ : ClassId} {adm : Nat → Nat} {σ00 : xS} (hL : L ≤ 2048) (C : xC True p s m #[.ref b] meth c cL_law 4 RL wsL_law D vwCl (xtys cI cJ cZ) (fun q : Nat => s.heap.size ≤ q)) (hX : va_X b L xs s s.heap) (hbl : b < s.heap.size) (hr : meth.sig.returnType = ret) {Rel : Int → Bool → xS → Prop} (hnrm : ∀ (i : Int) (P : Bool) (σ : xS), 0 ≤ i → i ≤ 2048 → Rel i P σ → Rel i P (nrm σ)) (hstep : ∀ (i : Int) (P : Bool) (k a b c : Int) (σ : xS), 0 ≤ i → i + 4 ≤ 2048 → rng k → rng a → rng b → rng c → Rel i P σ → NRx σ → lawS P k a b c σ (Rel (i + 4))) : ∀ (n : Nat) (i : Int) (P : Bool) (ad : Nat → Nat) (σ : xS), ad 0 = b1 → Rel i P σ → 0 ≤ i → i ≤ (L : Int) → (L : Int) + 4 ≤ i + 4 * (n : Int) → xX p l e room_1 s m #[.ref b] below meth c D vwCl (fun q : Nat => s.heap.size ≤ q) (wL P ad adm cI cJ cZ) FL σ00 (cL P) (sL P) (lw_Z below #[.ref b] s) 4 σ 18 [(0, .ref b), (1, .ref b1), (2, .ref (adm 20)), (3, .int (i32 i))] [] := by
  have hbA : ¬ (fun q : Nat => s.heap.size ≤ q) b := Nat.not_le.mpr hbl
  intro n
  induction n with
  | zero =>
    intro i P ad σ _ _ _ h1 h2
    exact absurd h2 (by omega)
  | succ n ih =>
    intro i P ad σ hb1 hR0 hi0 hi1 hn
    refine xr_st (nrm σ) (wL_nrm P ad adm cI cJ cZ σ) (fun k hk => nrm_n (fun h => hk (by rw [h]; decide)) (fun h => hk (by rw [h]; decide)) (fun h => hk (by rw [h]; decide))) ?_
    have hR := hnrm i P σ hi0 (by omega) hR0
    have hx2 := nrm_x σ
    generalize nrm σ = σ at hR hx2 ⊢
    refine xr_iload_n C 3 dL_law_18 rfl rfl ?_
    refine xr_aload_n C 0 dL_law_19 rfl rfl ?_
    refine xr_slen C hX hbl hbA dL_law_20 ?_
    refine xr_iconst C dL_law_21 ?_
    refine xr_isub C dL_law_22 ?_
    refine xr_icmp_gt C ⟨by omega, by omega⟩ ⟨by omega, by omega⟩ 685 dL_law_23 (by decide) (fun hgt => ?_) (fun hgt => ?_)
    · refine xr_iconst C dL_law_685 ?_
      intro hF H locs ls hP hD hS hl
      refine va_forget (fun q hq => hS.2.2 q hq) ?_
      refine W.widen (k := 600000) (n := 7302250) (by cases P <;> exact Nat.le_of_ble_eq_true rfl) (by cases P <;> exact Nat.le_of_ble_eq_true rfl) ?_
      exact lw_ret C.1 C.2.1 hr C.2.2.2.2.2.2.2.1 dL_law_686
    · have hi2 : i + 4 ≤ (L : Int) := by omega
      refine xr_aload_n C 0 dL_law_26 rfl rfl ?_
      refine xr_iload_n C 3 dL_law_27 rfl rfl ?_
      refine xr_sld C hX hbl hbA hL (i := i) ⟨by omega, by omega⟩ dL_law_28 ?_
      refine xr_bipush C dL_law_29 (by decide +kernel) ?_
      refine xr_iand C dL_law_31 ?_
      have hK : ∀ (P2 : Bool) (ad2 : Nat → Nat) (u : xS), ad2 0 = b1 → Rel (i + 4) P2 u → xX p l e room_1 s m #[.ref b] below meth c D vwCl (fun q : Nat => s.heap.size ≤ q) (wL P2 ad2 adm cI cJ cZ) FL σ00 (cL P2) (sL P2) (lw_Z below #[.ref b] s) 4 u 679 [(0, .ref b), (1, .ref b1), (2, .ref (adm 20)), (3, .int (i32 i))] [] := by
        intro P2 ad2 u hb2 hR2
        refine xr_iinc C 3 [(0, .ref b), (1, .ref b1), (2, .ref (adm 20)), (3, .int (i32 (i + 4)))] dL_law_679 rfl (by decide) rfl ?_
        refine xr_goto C 18 dL_law_682 (by decide) ?_
        exact ih (i + 4) P2 ad2 u hb2 hR2 (by omega) hi2 (by omega)
      have hw := hstep i P (jand (xs i.toNat).toInt 31) _ _ _ σ hi0 (by omega) (i32_rng _) (i32_rng (xs (i + 1).toNat)) (i32_rng (xs (i + 2).toNat)) (i32_rng (xs (i + 3).toNat)) hR hx2
      cases P with
      | false => exact law_case_f hL C hX hbl hi0 hi2 hb1 hK (i32_rng _) hw
      | true => exact law_case_t hL C hX hbl hi0 hi2 hb1 hK (i32_rng _) hw
set_option maxHeartbeats 8000000 in
set_option maxRecDepth 200000 in
/-- the law, from its entry, out of one relation that holds at first and is kept by each call -/
theorem whole_start_of2 (Rel : Int → Bool → xS → Prop) (hnrm : ∀ (i : Int) (P : Bool) (σ : xS), 0 ≤ i → i ≤ 2048 → Rel i P σ → Rel i P (nrm σ)) (hinit : ∀ s1 : xS, s1 = xset (fun _ _ => 0) 0 (fun _ => 0) → vX4_init s1 (fun u => ∀ s2 : xS, s2 = xset u 20 (fun _ => 0) → vX5_init s2 (fun v => Rel 0 false v))) (hstep : ∀ (i : Int) (P : Bool) (k a b c : Int) (σ : xS), 0 ≤ i → i + 4 ≤ 2048 → rng k → rng a → rng b → rng c → Rel i P σ → NRx σ → lawS P k a b c σ (Rel (i + 4)))
    {p : Program} {e : Env} {s : State} {m : MethodId} {below : List Frame} {meth : Method} {c : Code} (l : Launch) {b L : Nat} {xs : Nat → Int32} (hL : L ≤ 2048) (C0 : lw_At p s m meth c b L xs) : W p l e room_1 s m #[Value.ref b] below meth c s.heap [] 0 0 (lw_Z below #[Value.ref b] s) (entryFrame m ([Value.ref b] : List Value).toArray 4) := by
  obtain ⟨hx, hb, hr, hml, hown, hts, hX, hbl, hlocks, hgv⟩ := id C0
  have hts' : ∀ w ∈ wsL_law, w.before #[Value.ref b] s = true := fun w h => hts w (wsL_law_in w h)
  have hs := flat_of_before _ hgv
  obtain ⟨c0, i0, hKn0⟩ := u_known (C := RX0) (T := TX0) (N := 1) (n := 1) hts inX0 (hts' (.instantiable RX0 1) (by decide +kernel))
  obtain ⟨c1, i1, hKn1⟩ := u_known (C := RX1) (T := TX1) (N := 3) (n := 3) hts inX1 (hts' (.instantiable RX1 3) (by decide +kernel))
  obtain ⟨c2, i2, hKn2⟩ := u_known (C := RX2) (T := TX2) (N := 11) (n := 11) hts inX2 (hts' (.instantiable RX2 11) (by decide +kernel))
  obtain ⟨c3, i3, hKn3⟩ := u_known (C := RX3) (T := TX3) (N := 8) (n := 8) hts inX3 (hts' (.instantiable RX3 8) (by decide +kernel))
  obtain ⟨c4, i4, hKn4⟩ := u_known (C := RX4) (T := TX4) (N := 4) (n := 4) hts inX4 (hts' (.instantiable RX4 4) (by decide +kernel))
  obtain ⟨c5, i5, hKn5⟩ := u_known (C := RX5) (T := TX5) (N := 22) (n := 22) hts inX5 (hts' (.instantiable RX5 22) (by decide +kernel))
  obtain ⟨cI, hI⟩ := arr_known (hts' (.arrayClass .int) (by decide +kernel)) (fun _ h => by cases h)
  obtain ⟨cJ, hJ⟩ := arr_known (hts' (.arrayClass .long) (by decide +kernel)) (fun _ h => by cases h)
  obtain ⟨cZ, hZ⟩ := arr_known (hts' (.arrayClass .boolean) (by decide +kernel)) (fun _ h => by cases h)
  obtain ⟨dC, dI, hKc⟩ : ∃ (dC : Nat → ClassId) (dI : Nat → Nat → Nat), ∀ (k : Nat) (q : vw_C), vwCl[k]? = some q → u_Kn s q.1 q.2.1 q.2.2 (dC k) (dI k) := by
    refine ⟨fun k => if k = 0 then c0 else if k = 1 then c1 else if k = 2 then c2 else if k = 3 then c3 else if k = 4 then c4 else c5, fun k => if k = 0 then i0 else if k = 1 then i1 else if k = 2 then i2 else if k = 3 then i3 else if k = 4 then i4 else i5, ?_⟩
    intro k q hq
    match k, hq with
    | 0, hq => cases hq; exact hKn0
    | 1, hq => cases hq; exact hKn1
    | 2, hq => cases hq; exact hKn2
    | 3, hq => cases hq; exact hKn3
    | 4, hq => cases hq; exact hKn4
    | 5, hq => cases hq; exact hKn5
    | k + 6, hq => simp [vwCl] at hq
  have hK : va_K (dC, dI) vwCl (xtys cI cJ cZ) s := by
    refine ⟨hKc, fun k q h => ?_⟩
    match k, h with
    | 0, h => cases h; exact hI
    | 1, h => cases h; exact hJ
    | 2, h => cases h; exact hZ
    | k + 3, h => simp [xtys] at h
  have hA : ∀ q : Nat, s.heap.size ≤ q → (fun q : Nat => s.heap.size ≤ q) q := fun _ h => h
  have hno : ∀ a : Nat, a < s.heap.size → ¬ (fun q : Nat => s.heap.size ≤ q) a := fun _ h => Nat.not_le.mpr h
  have hE : xE True (fun q : Nat => s.heap.size ≤ q) s s.heap := by
    intro _
    refine ⟨?_, va_Nw.of rfl (hts (.methodLinkNest RX4 18 yX1_init RX4) (by decide +kernel)), va_Nw.of rfl (hts (.methodLinkNest RX4 25 yX3_init RX4) (by decide +kernel)), va_Nw.of rfl (hts (.methodLinkNest RX4 195 yX2_init RX4) (by decide +kernel))⟩
    obtain ⟨t, ht, hT⟩ := va_Tof (tm := .static "SandBench$Planner" "STACKS_IN" "[I") (ty := .int) (N := 8) (f := fun j => .int (i32 (stk j))) (by decide) (hs (Cond.arrayOf (.static "SandBench$Planner" "STACKS_IN" "[I") .int) (by decide +kernel)) (va_eqt (hs (Cond.eq (.length (.static "SandBench$Planner" "STACKS_IN" "[I")) (.int 8)) (by decide +kernel))) (fun j hj => by
      match j, hj with
    | 0, _ => exact va_eqt (hs (Cond.eq (.elem (.static "SandBench$Planner" "STACKS_IN" "[I") (.int 0)) (.int 0)) (by decide +kernel))
    | 1, _ => exact va_eqt (hs (Cond.eq (.elem (.static "SandBench$Planner" "STACKS_IN" "[I") (.int 1)) (.int 1)) (by decide +kernel))
    | 2, _ => exact va_eqt (hs (Cond.eq (.elem (.static "SandBench$Planner" "STACKS_IN" "[I") (.int 2)) (.int 1)) (by decide +kernel))
    | 3, _ => exact va_eqt (hs (Cond.eq (.elem (.static "SandBench$Planner" "STACKS_IN" "[I") (.int 3)) (.int 2)) (by decide +kernel))
    | 4, _ => exact va_eqt (hs (Cond.eq (.elem (.static "SandBench$Planner" "STACKS_IN" "[I") (.int 4)) (.int 1)) (by decide +kernel))
    | 5, _ => exact va_eqt (hs (Cond.eq (.elem (.static "SandBench$Planner" "STACKS_IN" "[I") (.int 5)) (.int 2)) (by decide +kernel))
    | 6, _ => exact va_eqt (hs (Cond.eq (.elem (.static "SandBench$Planner" "STACKS_IN" "[I") (.int 6)) (.int 2)) (by decide +kernel))
    | 7, _ => exact va_eqt (hs (Cond.eq (.elem (.static "SandBench$Planner" "STACKS_IN" "[I") (.int 7)) (.int 3)) (by decide +kernel))
      | j + 8, h => exact absurd h (by omega)) hno
    exact ⟨t, va_Zref (hts (.laysStatic "SandBench$Planner" "STACKS_IN" "[I") (by decide +kernel)) (hts' (.initialized RX2) (by decide +kernel)) ht hno, hT⟩
  have C : xC True p s m #[.ref b] meth c cL_law 4 RL wsL_law (dC, dI) vwCl (xtys cI cJ cZ) (fun q : Nat => s.heap.size ≤ q) := ⟨hx, hb, hml, hown, hts', hK, hA, hlocks, hE⟩
  have hl := lv_entry ([.ref b]) (n := 4) (Nat.le_of_ble_eq_true rfl)
  rw [lg_entry_eq]
  have inl4 := inlX4
  suffices h : xX p l e room_1 s m #[.ref b] below meth c (dC, dI) vwCl (fun q : Nat => s.heap.size ≤ q) (fun _ : xS => []) FL (fun _ _ => 0) 0 0 (lw_Z below #[.ref b] s) 4 (fun _ _ => 0) 0 (lv_args 0 [.ref b]) [] from h (fun _ _ => rfl) s.heap [] _ (fun k q h => by simp at h) ⟨fun i j p q h => by simp at h, fun k q h => by simp at h⟩ va_S.rf hl
  show xX p l e room_1 s m #[.ref b] below meth c (dC, dI) vwCl (fun q : Nat => s.heap.size ≤ q) (fun _ : xS => []) FL (fun _ _ => 0) 0 0 (lw_Z below #[.ref b] s) 4 (fun _ _ => 0) 0 [(0, .ref b)] []
  refine xr_new C inlX4 (N := 4) (ci := 4) tyX4 tyX4_ok (by decide +kernel) (by decide +kernel) (by decide +kernel) rfl 0 (fun _ => [.null, .null, .null, .null]) dfX4 (fun u f => rfl) (by decide) (Nat.le_of_ble_eq_true rfl) (Nat.le_of_ble_eq_true rfl) dL_law_0 (fun q0 => ?_)
  refine xr_sig (fun s1 es1 => ?_)
  have hw := hinit s1 es1
  refine xr_dup C dL_law_3 rfl ?_
  refine xr_ctorI (w0 := (fun _ : xS => [(q0, .inr (4, [.null, .null, .null, .null]))])) (W' := fun ad2 => wX .null ad2 cI cJ cZ) (F' := [0, 1, 2, 3, 4, 5, 6, 7, 8]) C (fun _ => []) (fun u => rfl) (fun _ _ _ => rfl) (by decide) (fun h => h) (kX4_init q0 s1 _ hw) (cwI 0 C.2.2.2.2.1 gL_law_X4_init rfl rfl rfl (C.2.2.2.2.1 _ (by decide +kernel)) (C.2.2.2.2.1 (.methodLink RL 9 yX4_init) (by decide +kernel)) (C.2.2.2.2.1 _ (by decide +kernel)) rfl ⟨by decide +kernel, by decide +kernel, by decide +kernel⟩ ⟨(Nat.le_of_ble_eq_true rfl), (Nat.le_of_ble_eq_true rfl)⟩) rfl (rest := [.ref q0]) rfl (Nat.le_of_ble_eq_true rfl) ⟨(Nat.le_of_ble_eq_true rfl), (Nat.le_of_ble_eq_true rfl)⟩ dL_law_4 (fun ad s2 hq => ?_)
  obtain ⟨rfl, hw⟩ := hq
  refine xr_world (wX .null ad cI cJ cZ) (fun _ => rfl) ?_
  refine xr_astore_n C [(0, .ref b), (1, .ref (ad 0))] dL_law_7 rfl (by decide) rfl ?_
  refine xr_new C inlX5 (N := 22) (ci := 5) tyX5 tyX5_ok (by decide +kernel) (by decide +kernel) (by decide +kernel) rfl 20 (fun u => [.null, .null, .null, .int (i32 (u 20 3)), .null, .int (i32 (u 20 5)), .null, .null, .int (i32 (u 20 8)), .int (i32 (u 20 9)), .int (i32 (u 20 10)), .int (i32 (u 20 11)), .null, .null, .null, .null, .int (i32 (u 20 16)), .null, .null, .null, .int (i32 (u 20 20)), .long (i64 (u 20 21))]) dfX5 (fun u f => rfl) (by decide) (Nat.le_of_ble_eq_true rfl) (Nat.le_of_ble_eq_true rfl) dL_law_8 (fun q20 => ?_)
  refine xr_sig (fun s3 es3 => ?_)
  have hw := hw s3 es3
  refine xr_dup C dL_law_11 rfl ?_
  refine xr_ctorI (w0 := (fun u : xS => [(q20, .inr (5, [.null, .null, .null, .int (i32 (u 20 3)), .null, .int (i32 (u 20 5)), .null, .null, .int (i32 (u 20 8)), .int (i32 (u 20 9)), .int (i32 (u 20 10)), .int (i32 (u 20 11)), .null, .null, .null, .null, .int (i32 (u 20 16)), .null, .null, .null, .int (i32 (u 20 20)), .long (i64 (u 20 21))]))])) (W' := fun ad2 => wM ad2 cI cJ cZ) (F' := FM) C (wX .null ad cI cJ cZ) (fun u => rfl) (fun u u2 h => wX_ind (fun k hk => h k (by revert k; decide))) (by decide) (fun h => False.elim h) (kX5_init q20 s3 _ hw) (cwI 0 C.2.2.2.2.1 gL_law_X5_init rfl rfl rfl (C.2.2.2.2.1 _ (by decide +kernel)) (C.2.2.2.2.1 (.methodLink RL 12 yX5_init) (by decide +kernel)) (C.2.2.2.2.1 _ (by decide +kernel)) rfl ⟨by decide +kernel, by decide +kernel, by decide +kernel⟩ ⟨(Nat.le_of_ble_eq_true rfl), (Nat.le_of_ble_eq_true rfl)⟩) rfl (rest := [.ref q20]) rfl (Nat.le_of_ble_eq_true rfl) ⟨(Nat.le_of_ble_eq_true rfl), (Nat.le_of_ble_eq_true rfl)⟩ dL_law_12 (fun adm s4 hq => ?_)
  obtain ⟨rfl, hw⟩ := hq
  refine xr_world (wL false ad adm cI cJ cZ) (fun _ => rfl) ?_
  refine xr_astore_n C [(0, .ref b), (1, .ref (ad 0)), (2, .ref (adm 20))] dL_law_15 rfl (by decide) rfl ?_
  refine xr_iconst C dL_law_16 ?_
  refine xr_istore_n C [(0, .ref b), (1, .ref (ad 0)), (2, .ref (adm 20)), (3, .int (i32 0))] dL_law_17 rfl (by decide) rfl ?_
  exact law_loop2 hL C hX hbl hr hnrm hstep (L + 1) 0 false ad s4 rfl hw (Int.le_refl 0) (by omega) (by omega)
