/-! the script, read by the law -/
section XLW
variable {p : Program} {l : Launch} {e : Env} {R : Room} {s : State} {m : MethodId} {args : Array Value} {below : List Frame} {meth : Method} {c : Code} {D : va_G} {tys : List (ClassId × FieldType)} {A : Nat → Prop} {w : xS → va_W} {F : List Nat} {σ0 : xS} {cells slots : Nat} {Qs : State → Prop} {nL : Nat} {σ : xS} {pc : Nat} {lv : List (Nat × Value)} {st : List Value} {z : Prop} {cc : ByteArray} {own : String} {Ts : List Cond} {cI cJ cZ : ClassId}
theorem xr_sld (C : xC z p s m args meth c cc nL own Ts D vwCl tys A) {b L : Nat} {xs : Nat → Int32} (hX : va_X b L xs s s.heap) (hbl : b < s.heap.size) (hbA : ¬ A b) (hL : L ≤ 2048) {i : Int} (hi : 0 ≤ i ∧ i < (L : Int)) (d : decode cc pc = .ok (.iaload, 1)) (k : xX p l e R s m args below meth c D vwCl A w F σ0 cells slots Qs nL σ (pc + 1) lv (.int (i32 (xs i.toNat).toInt) :: st)) : xX p l e R s m args below meth c D vwCl A w F σ0 cells slots Qs nL σ pc lv (.int (i32 i) :: .ref b :: st) := by
  intro hF H locs ls hP hD hS hl
  refine va_sld C.1 C.2.1 hX hbl hbA hS (i32_vin hi.1 hi.2 (by omega)) d ?_
  rw [i32_clamp hi.1 (by have := hi.2; omega), ← i32_asI (xs i.toNat)]
  exact k hF H locs ls hP hD hS hl
theorem xr_slen (C : xC z p s m args meth c cc nL own Ts D vwCl tys A) {b L : Nat} {xs : Nat → Int32} (hX : va_X b L xs s s.heap) (hbl : b < s.heap.size) (hbA : ¬ A b) (d : decode cc pc = .ok (.arraylength, 1)) (k : xX p l e R s m args below meth c D vwCl A w F σ0 cells slots Qs nL σ (pc + 1) lv (.int (i32 (L : Int)) :: st)) : xX p l e R s m args below meth c D vwCl A w F σ0 cells slots Qs nL σ pc lv (.ref b :: st) := by
  intro hF H locs ls hP hD hS hl
  exact va_slen C.1 C.2.1 hX hbl hbA hS d (k hF H locs ls hP hD hS hl)
variable {b L : Nat} {xs : Nat → Int32} {index : Nat} {rest : List Value}
def xInS (D : va_G) (tys : List (ClassId × FieldType)) (b L : Nat) (xs : Nat → Int32) (sz : Nat) (av : List Value) : Array Value → State → Prop :=
  va_Pc av (fun U => U.heap.size = sz ∧ va_P D vwCl ([] : va_W) U.heap ∧ va_K D vwCl tys U ∧ va_D (fun _ => True) ([] : va_W) ∧ xE False (va_A ([] : va_W) sz) U U.heap ∧ va_X b L xs U U.heap ∧ b < sz)
theorem xInS_blind {sz : Nat} {av : List Value} : FrameBlind (xInS D tys b L xs sz av) := by
  intro a U g mk q
  obtain ⟨q0, q1, qP, qK, qD, qE, qX, qb⟩ := q
  exact ⟨q0, q1, qP, va_K.moved (u := U) (U := U.calling g mk a) (Vm.Alike.refl U.vm) qK, qD, qE.calling, va_X.moved (u := U) (U := U.calling g mk a) (Vm.Alike.refl U.vm) qX, qb⟩
abbrev rmL_cell : Room := { frames := 0, cells := 0, slots := 0, locals := 64 }
set_option maxHeartbeats 4000000 in
set_option maxRecDepth 100000 in
theorem mL_cell {l : Launch} {D : va_G} {cI cJ cZ : ClassId} {b L : Nat} {xs : Nat → Int32} (hL : L ≤ 260) (σ : xS) {k : Int} (hk : 0 ≤ k ∧ k < 1000) : ∀ sz, Met l yL_cell wsL_cell rmL_cell (xInS D (xtys cI cJ cZ) b L xs sz [.ref b, .int (i32 k)]) (xQi D wN [] σ sz (fun r _ => rng r)) 0 0 (va_A (wN σ) sz) := by
  intro sz
  refine Met.ofW (cc := cL_cell) (maxL := 2) (ret := some .int) (by decide) rfl ?_
  intro p e s m args below meth c s₁ B hml hv
  obtain ⟨hargs, hsz, hP, hK, hD0, hE, hX, hbl⟩ := hv
  subst hsz
  have hts := atoms_spec (ws := wsL_cell) B.pre
  have hown' : s.vm.findClass RL = some m.cls := findClass_of_methodNamed B.named
  have hr := B.returns
  have C : xC False p s m args meth c cL_cell 2 RL wsL_cell D vwCl (xtys cI cJ cZ) (va_A (wN σ) s.heap.size) := ⟨B.exec, B.bytes, hml, hown', hts, hK, fun q h => Or.inr h, B.notSynchronized, hE⟩
  subst hargs
  have hl := lv_entry ([.ref b, .int (i32 k)] : List Value) (n := 2) (Nat.le_of_ble_eq_true rfl)
  rw [lg_entry_eq]
  have hbA : ¬ (va_A (wN σ) s.heap.size) b := fun h => h.elim (fun w => by simp [wN] at w) (fun w => absurd w (Nat.not_le.mpr hbl))
  have hc : Cond.constant RL 7 795577677 ∈ wsL_cell := by decide +kernel
  suffices h : xX p l e rmL_cell s m ([.ref b, .int (i32 k)] : List Value).toArray below meth c D vwCl (va_A (wN σ) s.heap.size) wN [] σ 0 0 (MQ below (xQi D wN [] σ s.heap.size (fun r _ => rng r)) ([.ref b, .int (i32 k)] : List Value).toArray s 0 0 (va_A (wN σ) s.heap.size)) 2 σ 0 (lv_args 0 [.ref b, .int (i32 k)]) [] from h (fun _ _ => rfl) s.heap [] _ hP hD0.self va_S.rf hl
  show xX p l e rmL_cell s m ([.ref b, .int (i32 k)] : List Value).toArray below meth c D vwCl (va_A (wN σ) s.heap.size) wN [] σ 0 0 (MQ below (xQi D wN [] σ s.heap.size (fun r _ => rng r)) ([.ref b, .int (i32 k)] : List Value).toArray s 0 0 (va_A (wN σ) s.heap.size)) 2 σ 0 [(0, .ref b), (1, .int (i32 k))] []
  refine xr_iload_n C 1 dL_cell_0 rfl rfl ?_
  refine xr_aload_n C 0 dL_cell_1 rfl rfl ?_
  refine xr_slen C hX hbl hbA dL_cell_2 ?_
  refine xr_icmp_ge C ⟨by omega, by omega⟩ ⟨by omega, by omega⟩ 12 dL_cell_3 (by decide) (fun h => ?_) (fun h => ?_)
  · refine xr_ldc C 795577677 hc (by decide +kernel) dL_cell_12 ?_
    refine xr_iload_n C 1 dL_cell_14 rfl rfl ?_
    refine xr_iconst C dL_cell_15 ?_
    refine xr_iadd C dL_cell_16 ?_
    refine xr_imul C dL_cell_17 ?_
    obtain ⟨r, hr1, hr2⟩ := i32_of (i32 (795577677 * (k + 1)))
    rw [hr2]
    exact xr_iret C hr hr1 dL_cell_18
  · refine xr_aload_n C 0 dL_cell_6 rfl rfl ?_
    refine xr_iload_n C 1 dL_cell_7 rfl rfl ?_
    refine xr_sld C hX hbl hbA (by omega) (i := k) ⟨by omega, by omega⟩ dL_cell_8 ?_
    refine xr_goto C 18 dL_cell_9 (by decide) ?_
    exact xr_iret C hr (i32_rng _) dL_cell_18
theorem xr_cell (C : xC z p s m args meth c cc nL own Ts D vwCl (xtys cI cJ cZ) A) (hX : va_X b L xs s s.heap) (hbl : b < s.heap.size) (hbA : ¬ A b) (hL : L ≤ 260) {i : Int} (hi : 0 ≤ i ∧ i < 1000) (cw : CallB R s args own index yL_cell cL_cell 2 (some .int) wsL_cell rmL_cell 0 0 2 ∧ (Cond.static yL_cell).before args s = true) (hst : st = .int (i32 i) :: .ref b :: rest) (hcat : (rest.map fun v => v.category).sum ≤ 8) (hce : cells ≤ R.cells ∧ slots ≤ R.slots) (d : decode cc pc = .ok (.invokestatic index, 3))
    (k : ∀ r : Int, rng r → xX p l e R s m args below meth c D vwCl A w F σ0 cells slots Qs nL σ (pc + 3) lv (.int (i32 r) :: rest)) : xX p l e R s m args below meth c D vwCl A w F σ0 cells slots Qs nL σ pc lv st := by
  intro hF H locs ls hP hD hS hl
  subst hst
  obtain ⟨pre, post, hsp, hpp⟩ : xSp w wN [] := xSp_nil w
  have hP' := hP
  have hD' := hD
  rw [hsp σ] at hP' hD'
  have hFc := xfree hD' hS C.2.2.2.2.2.2.1
  have hb1 : H[b]? = s.heap[b]? := hS.2.1 b hbl hbA
  have hbH : b < H.size := by
    obtain ⟨scr, hc, -⟩ := id hX
    exact (Array.getElem?_eq_some_iff.mp (hb1.trans hc)).1
  have hst : ∀ U : State, U.heap = H → s.WarmedH U.vm → xInS D (xtys cI cJ cZ) b L xs H.size [.ref b, .int (i32 i)] ([.ref b, .int (i32 i)] : List Value).toArray U := by
    intro U hU hW
    refine ⟨rfl, by rw [hU], by rw [hU]; exact xP_mid hP', va_K.moved hW.alike C.2.2.2.2.2.1, (xD_mid hD').weaken (fun _ _ _ _ => trivial), fun h => False.elim h, ?_, hbH⟩
    rw [hU]
    exact (va_X.moved hW.alike hX).kept hb1
  refine va_calli (va_runS ⟨C.1, C.2.1, C.2.2.1, C.2.2.2.1, C.2.2.2.2.1⟩ (mL_cell (l := l) hL σ hi H.size) cw ⟨xInS_blind, hst⟩ rfl rfl hl.1 rfl (lv_room hcat) d ⟨by omega, by omega⟩) hS (fun q _ h => hFc q h) hFc (fun r u t H1 locs1 ht hvm hw hB hz1 hk1 hS1 => ?_)
  obtain ⟨v, rfl, hQ, hfr⟩ := hw
  obtain ⟨hP1, hD1⟩ := hB
  rw [ht] at hP1
  obtain ⟨hP2, hD2⟩ := xafter C hsp hpp hfr hP hD hS hk1 hP1 hD1
  have e : u = σ := funext fun k => hfr k (by simp)
  subst e
  exact k v hQ hF H1 locs1 ls hP2 hD2 hS1 hl
end XLW
