theorem dfX4 : ∀ u : xS, (u 0 = fun _ => 0) → ∀ j, j < 4 → defaultValue (tyX4 j) = vp_V [.null, .null, .null, .null] j := by
  intro u hu j hj
  rcases (show j = 0 ∨ j = 1 ∨ j = 2 ∨ j = 3 by omega) with rfl | rfl | rfl | rfl <;> rfl
theorem arr_known {args : Array Value} {s : State} {ty : FieldType} (h : (Cond.arrayClass ty).before args s = true) (ht : ∀ C, ty ≠ .object C) : ∃ cA : ClassId, ArrOfT s cA ty ∧ va_RA s cA ty := by
  obtain ⟨cA, kA, comp, h1, h2, h3⟩ := Cond.arrayClass_spec h
  refine ⟨cA, fun n z => ⟨fun k h => (by cases h), kA, h2, comp, h3⟩, ?_⟩
  cases ty with
  | object C => exact absurd rfl (ht C)
  | _ => exact h1
theorem wX_ind {pv : Value} {ad : Nat → Nat} {cI cJ cZ : ClassId} {u u' : xS} (h : ∀ k, k < 20 → u k = u' k) : wX pv ad cI cJ cZ u = wX pv ad cI cJ cZ u' := by
  have h1 : u 1 = u' 1 := h 1 (by decide)
  have h2 : u 2 = u' 2 := h 2 (by decide)
  have h3 : u 3 = u' 3 := h 3 (by decide)
  have h4 : u 4 = u' 4 := h 4 (by decide)
  have h5 : u 5 = u' 5 := h 5 (by decide)
  have h6 : u 6 = u' 6 := h 6 (by decide)
  have h8 : u 8 = u' 8 := h 8 (by decide)
  simp only [wX, h1, h2, h3, h4, h5, h6, h8]
def adA (q : Nat) (ad : Nat → Nat) : Nat → Nat := fun k => if k = 40 then q else ad k
set_option maxHeartbeats 8000000 in
set_option maxRecDepth 200000 in
/-- the law, from its entry, out of its transformer -/
theorem whole_start_of (hlaw : ∀ s1 : xS, s1 = xset (fun _ _ => 0) 0 (fun _ => 0) → vX4_init s1 (fun u => ∀ s2 : xS, s2 = xset u 40 (fun _ => 0) → vL_law s2 (fun v _ => v = 1)))
    {p : Program} {e : Env} {s : State} {m : MethodId} {below : List Frame} {meth : Method} {c : Code} (l : Launch) {b L : Nat} {xs : Nat → Int32} (hL : L ≤ 260) (C0 : lw_At p s m meth c b L xs) : W p l e room_1 s m #[Value.ref b] below meth c s.heap [] 0 0 (lw_Z below #[Value.ref b] s) (entryFrame m ([Value.ref b] : List Value).toArray 10) := by
  obtain ⟨hx, hb, hr, hml, hown, hts, hX, hbl, hlocks, hgv⟩ := id C0
  have hts' : ∀ w ∈ wsL_law, w.before #[Value.ref b] s = true := fun w h => hts w (wsL_law_in w h)
  obtain ⟨c0, i0, hKn0⟩ := u_known (C := RX0) (T := TX0) (N := 1) (n := 1) hts inX0 (hts' (.instantiable RX0 1) (by decide +kernel))
  obtain ⟨c1, i1, hKn1⟩ := u_known (C := RX1) (T := TX1) (N := 3) (n := 3) hts inX1 (hts' (.instantiable RX1 3) (by decide +kernel))
  obtain ⟨c2, i2, hKn2⟩ := u_known (C := RX3) (T := TX3) (N := 8) (n := 8) hts inX3 (hts' (.instantiable RX3 8) (by decide +kernel))
  obtain ⟨c3, i3, hKn3⟩ := u_known (C := RX4) (T := TX4) (N := 4) (n := 4) hts inX4 (hts' (.instantiable RX4 4) (by decide +kernel))
  obtain ⟨cI, hI⟩ := arr_known (hts' (.arrayClass .int) (by decide +kernel)) (fun _ h => by cases h)
  obtain ⟨dC, dI, hKc⟩ : ∃ (dC : Nat → ClassId) (dI : Nat → Nat → Nat), ∀ (k : Nat) (q : vw_C), vwCl[k]? = some q → u_Kn s q.1 q.2.1 q.2.2 (dC k) (dI k) := by
    refine ⟨fun k => if k = 0 then c0 else if k = 1 then c1 else if k = 2 then c2 else c3, fun k => if k = 0 then i0 else if k = 1 then i1 else if k = 2 then i2 else i3, ?_⟩
    intro k q hq
    match k, hq with
    | 0, hq => cases hq; exact hKn0
    | 1, hq => cases hq; exact hKn1
    | 2, hq => cases hq; exact hKn2
    | 3, hq => cases hq; exact hKn3
    | k + 4, hq => simp [vwCl] at hq
  have hK : va_K (dC, dI) vwCl (xtys cI cI cI) s := by
    refine ⟨hKc, fun k q h => ?_⟩
    match k, h with
    | 0, h => cases h; exact hI
    | k + 1, h => simp [xtys] at h
  have hA : ∀ q : Nat, s.heap.size ≤ q → (fun q : Nat => s.heap.size ≤ q) q := fun _ h => h
  have hE : xE True (fun q : Nat => s.heap.size ≤ q) s s.heap := fun _ => ⟨va_Nw.of rfl (hts (.methodLinkNest RX4 18 yX1_init RX4) (by decide +kernel)), va_Nw.of rfl (hts (.methodLinkNest RX4 25 yX3_init RX4) (by decide +kernel))⟩
  have C : xC True p s m #[.ref b] meth c cL_law 10 RL wsL_law (dC, dI) vwCl (xtys cI cI cI) (fun q : Nat => s.heap.size ≤ q) := ⟨hx, hb, hml, hown, hts', hK, hA, hlocks, hE⟩
  have hl := lv_entry ([.ref b]) (n := 10) (Nat.le_of_ble_eq_true rfl)
  rw [lg_entry_eq]
  have inl4 := inlX4
  have hai : Cond.arrayClass .int ∈ wsL_law := by decide +kernel
  suffices h : xX p l e room_1 s m #[.ref b] below meth c (dC, dI) vwCl (fun q : Nat => s.heap.size ≤ q) (fun _ : xS => []) FL (fun _ _ => 0) 0 0 (lw_Z below #[.ref b] s) 10 (fun _ _ => 0) 0 (lv_args 0 [.ref b]) [] from h (fun _ _ => rfl) s.heap [] _ (fun k q h => by simp at h) ⟨fun i j p q h => by simp at h, fun k q h => by simp at h⟩ va_S.rf hl
  show xX p l e room_1 s m #[.ref b] below meth c (dC, dI) vwCl (fun q : Nat => s.heap.size ≤ q) (fun _ : xS => []) FL (fun _ _ => 0) 0 0 (lw_Z below #[.ref b] s) 10 (fun _ _ => 0) 0 [(0, .ref b)] []
  refine xr_new C inlX4 (N := 4) (ci := 3) tyX4 tyX4_ok (by decide +kernel) (by decide +kernel) (by decide +kernel) rfl 0 (fun _ => [.null, .null, .null, .null]) dfX4 (fun u f => rfl) (by decide) (Nat.le_of_ble_eq_true rfl) (Nat.le_of_ble_eq_true rfl) dL_law_0 (fun q0 => ?_)
  refine xr_sig (fun s1 es1 => ?_)
  have hw := hlaw s1 es1
  refine xr_dup C dL_law_3 rfl ?_
  refine xr_ctorI (w0 := (fun _ : xS => [(q0, .inr (3, [.null, .null, .null, .null]))])) (W' := fun ad2 => wX .null ad2 cI cI cI) (F' := [0, 1, 2, 3, 4, 5, 6, 7, 8]) C (fun _ => []) (fun u => rfl) (fun _ _ _ => rfl) (by decide) (fun h => h) (kX4_init q0 s1 _ hw) (cwI 0 C.2.2.2.2.1 gL_law_X4_init rfl rfl rfl (C.2.2.2.2.1 _ (by decide +kernel)) (C.2.2.2.2.1 (.methodLink RL 52 yX4_init) (by decide +kernel)) (C.2.2.2.2.1 _ (by decide +kernel)) rfl ⟨by decide +kernel, by decide +kernel, by decide +kernel⟩ ⟨(Nat.le_of_ble_eq_true rfl), (Nat.le_of_ble_eq_true rfl)⟩) rfl (rest := [.ref q0]) rfl (Nat.le_of_ble_eq_true rfl) ⟨(Nat.le_of_ble_eq_true rfl), (Nat.le_of_ble_eq_true rfl)⟩ dL_law_4 (fun ad s2 hq => ?_)
  obtain ⟨rfl, hw⟩ := hq
  refine xr_world (wX .null ad cI cI cI) (fun _ => rfl) ?_
  refine xr_astore_n C [(0, .ref b), (1, .ref (ad 0))] dL_law_7 rfl (by decide) rfl ?_
  refine xr_bipush C dL_law_8 (by decide +kernel) ?_
  refine xr_newi C 40 (N := 64) rfl (by decide) hai (fun u f => rfl) (by decide) (Nat.le_of_ble_eq_true rfl) (Nat.le_of_ble_eq_true rfl) dL_law_10 (fun q40 => ?_)
  refine xr_world (wXA .null (adA q40 ad) cI cI cI) (fun _ => rfl) ?_
  refine xr_sig (fun s3 es3 => ?_)
  have hw := hw s3 es3
  refine xr_astore_n C [(0, .ref b), (1, .ref (ad 0)), (2, .ref q40)] dL_law_12 rfl (by decide) rfl ?_
  exact mL_law (ad := adA q40 ad) hL C hX hbl hr (fun v σ h => h) s3 hw
