/-! constructors: worlds that grow -/
def xQc (D : va_G) (W' : (Nat → Nat) → xS → va_W) (F : List Nat) (σ : xS) (sz : Nat) (w0 : xS → va_W) (Q : (Nat → Nat) → xS → Prop) : Array Value → State → Outcome → State → Prop :=
  va_Qv (fun (u : (Nat → Nat) × xS) => Q u.1 u.2 ∧ ∀ k, k ∉ F → u.2 k = σ k) (fun u t => va_P D vwCl (W' u.1 u.2) t.heap ∧ va_D (va_A (w0 σ) sz) (W' u.1 u.2)) (va_A (w0 σ) sz)
def xMc (z : Prop) (l : Launch) (y : MethodName) (ws : List Cond) (rm : Room) (D : va_G) (tys : List (ClassId × FieldType)) (w0 : xS → va_W) (W' : (Nat → Nat) → xS → va_W) (F : List Nat) (σ : xS) (av : List Value) (mc ms : Nat) (Q : (Nat → Nat) → xS → Prop) : Prop :=
  ∀ sz, Met l y ws rm (xIn z D tys w0 σ sz av) (xQc D W' F σ sz w0 Q) mc ms (va_A (w0 σ) sz)
section XCT
variable {p : Program} {l : Launch} {e : Env} {R : Room} {s : State} {m : MethodId} {args : Array Value} {below : List Frame} {meth : Method} {c : Code} {D : va_G} {tys : List (ClassId × FieldType)} {A : Nat → Prop} {w : xS → va_W} {F : List Nat} {σ0 : xS} {cells slots : Nat} {Qs : State → Prop} {nL : Nat} {σ : xS} {pc : Nat} {lv : List (Nat × Value)} {st : List Value} {z : Prop} {cc : ByteArray} {own : String} {Ts : List Cond} {cI cJ cZ : ClassId}
theorem xr_objinit (C : xC z p s m args meth c cc nL own Ts D vwCl tys A) {ix a : Nat} (h1 : Cond.methodLink own ix Lib.objectInit ∈ Ts) (h2 : Cond.instanceMethod Lib.objectInit ∈ Ts) (h3 : Cond.code Lib.objectInit ⟨#[0xb1]⟩ 1 none ∈ Ts) (hfr : 1 ≤ R.frames) (hlo : (st.map fun v => v.category).sum + 12 ≤ R.locals) (d : decode cc pc = .ok (.invokespecial ix, 3)) (k : xX p l e R s m args below meth c D vwCl A w F σ0 cells slots Qs nL σ (pc + 3) lv st) : xX p l e R s m args below meth c D vwCl A w F σ0 cells slots Qs nL σ pc lv (.ref a :: st) := by
  intro hF H locs ls hP hD hS hl
  exact W.objInit C.1 C.2.1 C.2.2.2.1 (C.2.2.2.2.1 _ h1) (C.2.2.2.2.1 _ h2) (C.2.2.2.2.1 _ h3) rfl (by rw [C.2.2.1]; exact hl.1) rfl d hfr (by show 2 * 0 + _ + 12 ≤ _; omega) (k hF H locs ls hP hD hS hl)
theorem xr_world (w2 : xS → va_W) (h : ∀ u, w u = w2 u) (k : xX p l e R s m args below meth c D vwCl A w2 F σ0 cells slots Qs nL σ pc lv st) : xX p l e R s m args below meth c D vwCl A w F σ0 cells slots Qs nL σ pc lv st := by
  have e : w = w2 := funext h
  rw [e]
  exact k
theorem xr_perm (w2 : xS → va_W) (h : ∀ u, (w u).Perm (w2 u)) (k : xX p l e R s m args below meth c D vwCl A w2 F σ0 cells slots Qs nL σ pc lv st) : xX p l e R s m args below meth c D vwCl A w F σ0 cells slots Qs nL σ pc lv st := by
  intro hF H locs ls hP hD hS hl
  refine k hF H locs ls (xP_iff.mpr fun q hq => xP_iff.mp hP q ((h σ).mem_iff.mpr hq)) (xD_iff.mpr ⟨?_, fun q hq => (xD_iff.mp hD).2 q ((h σ).mem_iff.mpr hq)⟩) hS hl
  exact ((h σ).map Prod.fst).nodup_iff.mp (xD_iff.mp hD).1
theorem xcls_eq {cA cB : ClassId} {ty : FieldType} {i j : Nat} {t1 t2 : List (ClassId × FieldType)} (h1 : va_K D vwCl t1 s) (h2 : va_K D vwCl t2 s) (hi : t1[i]? = some (cA, ty)) (hj : t2[j]? = some (cB, ty)) (ht : ∀ C, ty ≠ .object C) : cA = cB := by
  have a1 := (h1.2 i _ hi).2
  have a2 := (h2.2 j _ hj).2
  unfold va_RA at a1 a2
  cases ty with
  | object C => exact absurd rfl (ht C)
  | _ => exact Option.some.inj (a1.symm.trans a2)
theorem xr_newi (C : xC z p s m args meth c cc nL own Ts D vwCl (xtys cI cJ cZ) A) {n : Int} {N : Nat} (r : Nat) (hn : n = (N : Int)) (hN : N ≤ 1000000) (harr : Cond.arrayClass .int ∈ Ts) (hind : ∀ u f, w (xset u r f) = w u) (hrF : r ∈ F) (hce : cells + 1 ≤ R.cells) (hsl : slots + N ≤ R.slots) (d : decode cc pc = .ok (.newarray .int, 2))
    (k : ∀ q : Nat, xX p l e R s m args below meth c D vwCl A (fun u => w u ++ [(q, .inl (cI, N, .inl (fun j => i32 (u r j))))]) F σ0 (cells + 1) (slots + N) Qs nL (xset σ r (fun _ => 0)) (pc + 2) lv (.ref q :: st)) : xX p l e R s m args below meth c D vwCl A w F σ0 cells slots Qs nL σ pc lv (.int (i32 n) :: st) := by
  intro hF H locs ls hP hD hS hl
  subst hn
  have hr : rng (N : Int) := ⟨by omega, by omega⟩
  refine va_newa (atype := .int) C.1 C.2.1 (C.2.2.2.2.1 _ harr) rfl C.2.2.2.2.2.1 hP hD hS C.2.2.2.2.2.2.1 (a0 := (N, .inl (fun _ => 0))) (N' := N) (fun _ => rfl) (fun q => by have := (i32_lt hr rng0).mp q; omega) (by rw [i32_clamp (by omega) (by omega)]; exact Int.toNat_natCast N) (by show N * 4 ≤ _; omega) hce hsl d (fun q cA H1 hK1 hP1 hD1 hS1 => ?_)
  have hc : cA = cI := xcls_eq (i := 1) (j := 0) hK1 C.2.2.2.2.2.1 rfl rfl (fun _ h => by cases h)
  subst hc
  refine k q (fun k' hk' => (xset_ne (fun e => hk' (by rw [e]; exact hrF))).trans (hF k' hk')) H1 locs ls ?_ ?_ hS1 hl
  · show va_P D vwCl (w (xset σ r fun _ => 0) ++ _) H1
    rw [hind]
    simp only [xset_eq]
    exact hP1
  · show va_D A (w (xset σ r fun _ => 0) ++ _)
    rw [hind]
    simp only [xset_eq]
    exact hD1
theorem xr_new (C : xC z p s m args meth c cc nL own Ts D vwCl tys A) {Cn : String} {T : u_T} {N ci ix : Nat} (hin : ∀ q ∈ u_ws Cn T N, q ∈ Ts) (ty : Nat → FieldType) (hty : ∀ k, k < N → parseFieldDescriptor (T k).2.2.1 = some (ty k)) (hcl : Cond.classLink own ix Cn ∈ Ts) (hinst : Cond.instantiable Cn N ∈ Ts) (hini : Cond.initialized Cn ∈ Ts) (hc : vwCl[ci]? = some (Cn, T, N)) (r : Nat) (fs : xS → List Value) (hfs : ∀ u : xS, (u r = fun _ => 0) → ∀ j, j < N → defaultValue (ty j) = vp_V (fs u) j) (hind : ∀ u f, w (xset u r f) = w u) (hrF : r ∈ F) (hce : cells + 1 ≤ R.cells) (hsl : slots + N ≤ R.slots) (d : decode cc pc = .ok (.new ix, 3))
    (k : ∀ q : Nat, xX p l e R s m args below meth c D vwCl A (fun u => w u ++ [(q, .inr (ci, fs u))]) F σ0 (cells + 1) (slots + N) Qs nL (xset σ r (fun _ => 0)) (pc + 3) lv (.ref q :: st)) : xX p l e R s m args below meth c D vwCl A w F σ0 cells slots Qs nL σ pc lv st := by
  intro hF H locs ls hP hD hS hl
  refine va_new C.1 C.2.1 C.2.2.2.2.1 hin ty hty C.2.2.2.1 (C.2.2.2.2.1 _ hcl) (C.2.2.2.2.1 _ hinst) (C.2.2.2.2.1 _ hini) C.2.2.2.2.2.1 hP hD hS C.2.2.2.2.2.2.1 hc (hfs (xset σ r (fun _ => 0)) xset_eq) hce hsl d (fun q H1 hP1 hD1 hS1 => ?_)
  refine k q (fun k' hk' => (xset_ne (fun e => hk' (by rw [e]; exact hrF))).trans (hF k' hk')) H1 locs ls ?_ ?_ hS1 hl
  · show va_P D vwCl (w (xset σ r fun _ => 0) ++ _) H1
    rw [hind]
    exact hP1
  · show va_D A (w (xset σ r fun _ => 0) ++ _)
    rw [hind]
    exact hD1
theorem xr_putF (C : xC z p s m args meth c cc nL own Ts D vwCl tys A) {ref Cn : String} {T : u_T} {N ci ix : Nat} {a : Nat} {fs : List Value} {v : Value} {ty : FieldType} (w2 : xS → va_W) (hin : ∀ w ∈ u_ws Cn T N, w ∈ Ts) (ty0 : Nat → FieldType) (hty : ∀ k, k < N → parseFieldDescriptor (T k).2.2.1 = some (ty0 k)) (hnm : ∀ a, a < N → ∀ b, b < N → a ≠ b → (T a).2.1 ≠ (T b).2.1) (q0 : Nat) (he : (w σ)[q0]? = some (a, .inr (ci, fs))) (hc : vwCl[ci]? = some (Cn, T, N)) (k0 : Nat) (hk : k0 < N) (hlink : Cond.fieldLink own ix ref (T k0).2.1 (T k0).2.2.1 ∈ Ts) (hr : (T k0).1 = ref) (hfin : (T k0).2.2.2 = true) (hnm2 : meth.name = "<init>") (hdecl : (T k0).1 = own) (hd : parseFieldDescriptor (T k0).2.2.1 = some ty) (hn : narrow ty v = v) (hfit : fits ty v = true) (hlen : k0 < fs.length) (hset : (w σ).set q0 (a, .inr (ci, fs.set k0 v)) = w2 σ) (d : decode cc pc = .ok (.putfield ix, 3)) (k : xX p l e R s m args below meth c D vwCl A w2 F σ0 cells slots Qs nL σ (pc + 3) lv st) : xX p l e R s m args below meth c D vwCl A w F σ0 cells slots Qs nL σ pc lv (v :: .ref a :: st) := by
  intro hF H locs ls hP hD hS hl
  refine va_putF C.1 C.2.1 C.2.2.2.2.1 hin ty0 hty hnm C.2.2.2.1 C.2.2.2.2.2.1 hP hD hS q0 he hc k0 hk (C.2.2.2.2.1 _ hlink) (fun _ h9 => hr ▸ h9) hfin hnm2 hdecl hd hn hfit hlen d (fun H1 locs1 hP1 hD1 hS1 => ?_)
  rw [hset] at hP1 hD1
  exact k hF H1 locs1 ls hP1 hD1 hS1 hl
/-- a field that may be written, and holds a reference -/
theorem xr_putR (C : xC z p s m args meth c cc nL own Ts D vwCl tys A) {ref Cn : String} {T : u_T} {N ci ix : Nat} {a : Nat} {fs : List Value} {v : Value} {ty : FieldType} (w2 : xS → va_W) (hin : ∀ w ∈ u_ws Cn T N, w ∈ Ts) (ty0 : Nat → FieldType) (hty : ∀ k, k < N → parseFieldDescriptor (T k).2.2.1 = some (ty0 k)) (hnm : ∀ a, a < N → ∀ b, b < N → a ≠ b → (T a).2.1 ≠ (T b).2.1) (q0 : Nat) (he : (w σ)[q0]? = some (a, .inr (ci, fs))) (hc : vwCl[ci]? = some (Cn, T, N)) (k0 : Nat) (hk : k0 < N) (hlink : Cond.fieldLink own ix ref (T k0).2.1 (T k0).2.2.1 ∈ Ts) (hr : (T k0).1 = ref) (hfin : (T k0).2.2.2 = false) (hd : parseFieldDescriptor (T k0).2.2.1 = some ty) (hn : narrow ty v = v) (hfit : fits ty v = true) (hlen : k0 < fs.length) (hset : (w σ).set q0 (a, .inr (ci, fs.set k0 v)) = w2 σ) (d : decode cc pc = .ok (.putfield ix, 3)) (k : xX p l e R s m args below meth c D vwCl A w2 F σ0 cells slots Qs nL σ (pc + 3) lv st) : xX p l e R s m args below meth c D vwCl A w F σ0 cells slots Qs nL σ pc lv (v :: .ref a :: st) := by
  intro hF H locs ls hP hD hS hl
  refine va_put C.1 C.2.1 C.2.2.2.2.1 hin ty0 hty hnm C.2.2.2.1 C.2.2.2.2.2.1 hP hD hS q0 he hc k0 hk (C.2.2.2.2.1 _ hlink) (fun _ h9 => hr ▸ h9) hfin hd hn hfit hlen d (fun H1 locs1 hP1 hD1 hS1 => ?_)
  rw [hset] at hP1 hD1
  exact k hF H1 locs1 ls hP1 hD1 hS1 hl
theorem xr_cret {w0 : xS → va_W} {W' : (Nat → Nat) → xS → va_W} {Q : (Nat → Nat) → xS → Prop} {mc ms : Nat} (C : xC z p s m args meth c cc nL own Ts D vwCl tys (va_A (w0 σ0) s.heap.size)) (hr : meth.sig.returnType = none) (ad' : Nat → Nat) (hw : ∀ u, w u = W' ad' u) (hq : Q ad' σ) (hc : cells ≤ mc) (hs : slots ≤ ms) (d : decode cc pc = .ok (.return_, 1)) :
    xX p l e R s m args below meth c D vwCl (va_A (w0 σ0) s.heap.size) w F σ0 cells slots (MQ below (xQc D W' F σ0 s.heap.size w0 Q) args s mc ms (va_A (w0 σ0) s.heap.size)) nL σ pc lv [] := by
  intro hF H locs ls hP hD hS hl
  rw [hw] at hP hD
  refine W.widen hc hs ?_
  exact W.vret C.1 C.2.1 hr (fun t ht hW => ⟨⟨(ad', σ), rfl, ⟨hq, hF⟩, by rw [ht]; exact hP, hD⟩, hS.F ht⟩) hS.2.2 d C.2.2.2.2.2.2.2.1
variable {z' : Prop} {y : MethodName} {bytes : ByteArray} {maxL index n : Nat} {wsc : List Cond} {rm : Room} {w0 : xS → va_W} {W' : (Nat → Nat) → xS → va_W} {F' : List Nat} {As rest : List Value}
theorem xcafter {pre : xS → va_W} {H H1 : Heap} {locs : List Loc} (C : xC z p s m args meth c cc nL own Ts D vwCl tys A) (hsp : ∀ u, w u = pre u ++ w0 u) (hpp : ∀ u u' : xS, (∀ k, k ∉ F' → u k = u' k) → pre u = pre u') {b1 : va_W} {u : xS} (hfr : ∀ k, k ∉ F' → u k = σ k) (hP : va_P D vwCl (w σ) H) (hD : va_D A (w σ)) (hS : va_S A s.heap H locs)
    (hk1 : ∀ q : Nat, q < H.size → ¬ va_A (w0 σ) H.size q → H1[q]? = H[q]?) (hP1 : va_P D vwCl b1 H1) (hD1 : va_D (va_A (w0 σ) H.size) b1) : va_P D vwCl (pre u ++ b1) H1 ∧ va_D A (pre u ++ b1) := by
  rw [hsp σ] at hP hD
  rw [hpp u σ hfr]
  have e1 : pre σ ++ w0 σ = pre σ ++ (w0 σ ++ []) := by simp
  have e2 : pre σ ++ b1 = pre σ ++ (b1 ++ []) := by simp
  rw [e1] at hP hD
  rw [e2]
  exact xjoin hP hD hk1 (xfree hD hS C.2.2.2.2.2.2.1) hP1 hD1
theorem xr_ctorI {Q' : (Nat → Nat) → xS → Prop} {b mc ms : Nat} (C : xC z p s m args meth c cc nL own Ts D vwCl tys A) (pre : xS → va_W) (hsp : ∀ u, w u = pre u ++ w0 u) (hpp : ∀ u u' : xS, (∀ k, k ∉ F' → u k = u' k) → pre u = pre u') (hFF : ∀ k ∈ F', k ∈ F) (hz : z' → z) (hM : xMc z' l y wsc rm D tys w0 W' F' σ (.ref b :: As) mc ms Q') (cw : CallB R s args own index y bytes maxL none wsc rm mc ms n ∧ y.name = "<init>" ∧ (Cond.instanceMethod y).before args s = true) (hn : As.length = n) (hst : st = As.reverse ++ .ref b :: rest) (hcat : (rest.map fun v => v.category).sum ≤ 8) (hce : cells + mc ≤ R.cells ∧ slots + ms ≤ R.slots) (d : decode cc pc = .ok (.invokespecial index, 3))
    (k : ∀ (ad' : Nat → Nat) (u : xS), Q' ad' u → xX p l e R s m args below meth c D vwCl A (fun v => pre v ++ W' ad' v) F σ0 (cells + mc) (slots + ms) Qs nL u (pc + 3) lv rest) : xX p l e R s m args below meth c D vwCl A w F σ0 cells slots Qs nL σ pc lv st := by
  intro hF H locs ls hP hD hS hl
  subst hst
  have hP' : va_P D vwCl (pre σ ++ (w0 σ ++ [])) H := by rw [List.append_nil, ← hsp]; exact hP
  have hD' : va_D A (pre σ ++ (w0 σ ++ [])) := by rw [List.append_nil, ← hsp]; exact hD
  have hFc := xfree hD' hS C.2.2.2.2.2.2.1
  refine va_callv (va_runI ⟨C.1, C.2.1, C.2.2.1, C.2.2.2.1, C.2.2.2.2.1⟩ (hM H.size) cw ⟨xIn_blind, xIn_of C hz hP' hD' hS⟩ rfl hn hl.1 rfl (lv_room hcat) d hce) hS (fun q _ h => hFc q h) hFc (fun u t H1 locs1 ht hvm hw hB hz1 hk1 hS1 => ?_)
  obtain ⟨hQ, hfr⟩ := hw
  obtain ⟨hP1, hD1⟩ := hB
  rw [ht] at hP1
  obtain ⟨hP2, hD2⟩ := xcafter C hsp hpp hfr hP hD hS hk1 hP1 hD1
  exact k u.1 u.2 hQ (fun k' hk' => (hfr k' (fun h => hk' (hFF k' h))).trans (hF k' hk')) H1 locs1 ls hP2 hD2 hS1 hl
theorem xr_ctorN {Q' : (Nat → Nat) → xS → Prop} {b mc ms : Nat} {host : String} (C : xC z p s m args meth c cc nL own Ts D vwCl tys A) (pre : xS → va_W) (hsp : ∀ u, w u = pre u ++ w0 u) (hpp : ∀ u u' : xS, (∀ k, k ∉ F' → u k = u' k) → pre u = pre u') (hFF : ∀ k ∈ F', k ∈ F) (hz : z' → z) (hM : xMc z' l y wsc rm D tys w0 W' F' σ (.ref b :: As) mc ms Q') (cw : va_CN R s args own index y host bytes maxL none wsc rm mc ms n ∧ y.name = "<init>" ∧ (Cond.instanceMethod y).before args s = true) (hn : As.length = n) (hst : st = As.reverse ++ .ref b :: rest) (hcat : (rest.map fun v => v.category).sum ≤ 8) (hce : cells + mc ≤ R.cells ∧ slots + ms ≤ R.slots) (d : decode cc pc = .ok (.invokespecial index, 3))
    (k : ∀ (ad' : Nat → Nat) (u : xS), Q' ad' u → xX p l e R s m args below meth c D vwCl A (fun v => pre v ++ W' ad' v) F σ0 (cells + mc) (slots + ms) Qs nL u (pc + 3) lv rest) : xX p l e R s m args below meth c D vwCl A w F σ0 cells slots Qs nL σ pc lv st := by
  intro hF H locs ls hP hD hS hl
  subst hst
  have hP' : va_P D vwCl (pre σ ++ (w0 σ ++ [])) H := by rw [List.append_nil, ← hsp]; exact hP
  have hD' : va_D A (pre σ ++ (w0 σ ++ [])) := by rw [List.append_nil, ← hsp]; exact hD
  have hFc := xfree hD' hS C.2.2.2.2.2.2.1
  refine va_callv (va_runIN ⟨C.1, C.2.1, C.2.2.1, C.2.2.2.1, C.2.2.2.2.1⟩ (hM H.size) cw ⟨xIn_blind, xIn_of C hz hP' hD' hS⟩ rfl hn hl.1 rfl (lv_room hcat) d hce) hS (fun q _ h => hFc q h) hFc (fun u t H1 locs1 ht hvm hw hB hz1 hk1 hS1 => ?_)
  obtain ⟨hQ, hfr⟩ := hw
  obtain ⟨hP1, hD1⟩ := hB
  rw [ht] at hP1
  obtain ⟨hP2, hD2⟩ := xcafter C hsp hpp hfr hP hD hS hk1 hP1 hD1
  exact k u.1 u.2 hQ (fun k' hk' => (hfr k' (fun h => hk' (hFF k' h))).trans (hF k' hk')) H1 locs1 ls hP2 hD2 hS1 hl
end XCT
