/-! worlds as lists: apart and in place, by members -/
theorem xD_iff {A : Nat → Prop} {ws : va_W} : va_D A ws ↔ (ws.map Prod.fst).Nodup ∧ ∀ q ∈ ws, A q.1 := by
  constructor
  · intro h
    refine ⟨?_, fun q hq => ?_⟩
    · rw [List.Nodup, List.pairwise_iff_getElem]
      intro i j hi hj hij he
      have hi' : i < ws.length := by simpa using hi
      have hj' : j < ws.length := by simpa using hj
      have := h.1 i j ws[i] ws[j] (List.getElem?_eq_getElem hi') (List.getElem?_eq_getElem hj') (by simpa using he)
      omega
    · obtain ⟨i, hi⟩ := List.getElem?_of_mem hq
      exact h.2 i q hi
  · intro h
    refine ⟨fun i j p q hi hj he => ?_, fun k q hk => h.2 q (List.mem_of_getElem? hk)⟩
    have h1 := h.1
    rw [List.Nodup, List.pairwise_iff_getElem] at h1
    obtain ⟨hi1, hi2⟩ := List.getElem?_eq_some_iff.mp hi
    obtain ⟨hj1, hj2⟩ := List.getElem?_eq_some_iff.mp hj
    rcases Nat.lt_trichotomy i j with q1 | q1 | q1
    · refine absurd ?_ (h1 i j (by simpa using hi1) (by simpa using hj1) q1)
      rw [List.getElem_map, List.getElem_map, hi2, hj2]
      exact he
    · exact q1
    · refine absurd ?_ (h1 j i (by simpa using hj1) (by simpa using hi1) q1)
      rw [List.getElem_map, List.getElem_map, hi2, hj2]
      exact he.symm
theorem xP_iff {D : va_G} {cl : List vw_C} {ws : va_W} {H : Heap} : va_P D cl ws H ↔ ∀ q ∈ ws, va_at D cl q H := by
  constructor
  · intro h q hq
    obtain ⟨i, hi⟩ := List.getElem?_of_mem hq
    exact h i q hi
  · exact fun h k q hk => h q (List.mem_of_getElem? hk)
theorem xP_mid {D : va_G} {cl : List vw_C} {a b c : va_W} {H : Heap} (h : va_P D cl (a ++ (b ++ c)) H) : va_P D cl b H :=
  xP_iff.mpr fun q hq => xP_iff.mp h q (List.mem_append_right _ (List.mem_append_left _ hq))
theorem xD_mid {A : Nat → Prop} {a b c : va_W} (h : va_D A (a ++ (b ++ c))) : va_D A b := by
  have := xD_iff.mp h
  refine xD_iff.mpr ⟨?_, fun q hq => this.2 q (List.mem_append_right _ (List.mem_append_left _ hq))⟩
  have h1 := this.1
  simp only [List.map_append, List.nodup_append] at h1
  exact h1.2.1.1
theorem xfree {A0 : Nat → Prop} {a b c : va_W} {H0 H : Heap} {locs : List Loc} (hD : va_D A0 (a ++ (b ++ c))) (hS : va_S A0 H0 H locs) (hA : ∀ q, H0.size ≤ q → A0 q) : ∀ q, va_A b H.size q → A0 q := by
  intro q h
  rcases h with ⟨k, e, h⟩ | h
  · exact (xD_iff.mp hD).2 (q, e) (List.mem_append_right _ (List.mem_append_left _ (List.mem_of_getElem? h)))
  · exact hA q (Nat.le_trans hS.1 h)
theorem xjoin {A0 : Nat → Prop} {D : va_G} {cl : List vw_C} {a b c b1 : va_W} {H H1 : Heap} (hP : va_P D cl (a ++ (b ++ c)) H) (hD : va_D A0 (a ++ (b ++ c))) (hk : ∀ q : Nat, q < H.size → ¬ va_A b H.size q → H1[q]? = H[q]?) (hF : ∀ q, va_A b H.size q → A0 q) (hP1 : va_P D cl b1 H1) (hD1 : va_D (va_A b H.size) b1) : va_P D cl (a ++ (b1 ++ c)) H1 ∧ va_D A0 (a ++ (b1 ++ c)) := by
  have hDi := xD_iff.mp hD
  have hnd := hDi.1
  simp only [List.map_append, List.nodup_append, List.mem_append, List.mem_map] at hnd
  obtain ⟨na, ⟨nb, nc, nbc⟩, nabc⟩ := hnd
  have hD1i := xD_iff.mp hD1
  have out : ∀ q ∈ a ++ c, q.1 < H.size ∧ ¬ va_A b H.size q.1 := by
    intro q hq
    have hmem : q ∈ a ++ (b ++ c) := by
      rcases List.mem_append.mp hq with h | h
      · exact List.mem_append_left _ h
      · exact List.mem_append_right _ (List.mem_append_right _ h)
    have hl := (xP_iff.mp hP q hmem).lt
    refine ⟨hl, fun h => ?_⟩
    rcases h with ⟨k, e, h⟩ | h
    · have hb := List.mem_of_getElem? h
      rcases List.mem_append.mp hq with g | g
      · exact nabc q.1 ⟨q, g, rfl⟩ q.1 (Or.inl ⟨_, hb, rfl⟩) rfl
      · exact nbc q.1 ⟨_, hb, rfl⟩ q.1 ⟨q, g, rfl⟩ rfl
    · omega
  refine ⟨xP_iff.mpr fun q hq => ?_, xD_iff.mpr ⟨?_, fun q hq => ?_⟩⟩
  · rcases List.mem_append.mp hq with h | h
    · obtain ⟨g1, g2⟩ := out q (List.mem_append_left _ h)
      exact (xP_iff.mp hP q (List.mem_append_left _ h)).kept (hk _ g1 g2)
    · rcases List.mem_append.mp h with h | h
      · exact xP_iff.mp hP1 q h
      · obtain ⟨g1, g2⟩ := out q (List.mem_append_right _ h)
        exact (xP_iff.mp hP q (List.mem_append_right _ (List.mem_append_right _ h))).kept (hk _ g1 g2)
  · simp only [List.map_append, List.nodup_append, List.mem_append, List.mem_map]
    refine ⟨na, ⟨hD1i.1, nc, ?_⟩, ?_⟩
    · rintro x ⟨q, hq, rfl⟩ y ⟨r, hr, rfl⟩ he
      exact (out r (List.mem_append_right _ hr)).2 (he ▸ hD1i.2 q hq)
    · rintro x ⟨q, hq, rfl⟩ y (⟨r, hr, rfl⟩ | ⟨r, hr, rfl⟩) he
      · exact (out q (List.mem_append_left _ hq)).2 (he ▸ hD1i.2 r hr)
      · exact nabc q.1 ⟨q, hq, rfl⟩ r.1 (Or.inr ⟨r, hr, rfl⟩) he
  · rcases List.mem_append.mp hq with h | h
    · exact hDi.2 q (List.mem_append_left _ h)
    · rcases List.mem_append.mp h with h | h
      · exact hF _ (hD1i.2 q h)
      · exact hDi.2 q (List.mem_append_right _ (List.mem_append_right _ h))
/-- a world with another one in it, at a fixed place; what lies beside doesn't depend on that one's regions -/
def xSp (w w' : xS → va_W) (F' : List Nat) : Prop := ∃ pre post : xS → va_W, (∀ u, w u = pre u ++ (w' u ++ post u)) ∧ ∀ u u' : xS, (∀ k, k ∉ F' → u k = u' k) → pre u = pre u' ∧ post u = post u'
theorem xSp_rf (w : xS → va_W) (F' : List Nat) : xSp w w F' := ⟨fun _ => [], fun _ => [], fun u => by simp, fun _ _ _ => ⟨rfl, rfl⟩⟩
theorem xSp_nil (w : xS → va_W) : xSp w (fun _ => []) [] := ⟨w, fun _ => [], fun u => by simp, fun u u' h => by
  have e : u = u' := funext fun k => h k (by simp)
  subst e
  exact ⟨rfl, rfl⟩⟩
/-! contracts: by a state of numbers before and after -/
def xIn (z : Prop) (D : va_G) (tys : List (ClassId × FieldType)) (w : xS → va_W) (σ : xS) (sz : Nat) (av : List Value) : Array Value → State → Prop :=
  va_Pc av (fun U => U.heap.size = sz ∧ va_P D vwCl (w σ) U.heap ∧ va_K D vwCl tys U ∧ va_D (fun _ => True) (w σ) ∧ xE z (va_A (w σ) sz) U U.heap)
abbrev xB (D : va_G) (w : xS → va_W) (σ : xS) (sz : Nat) : xS → State → Prop := fun u t => va_P D vwCl (w u) t.heap ∧ va_D (va_A (w σ) sz) (w u)
abbrev xQi (D : va_G) (w : xS → va_W) (F : List Nat) (σ : xS) (sz : Nat) (Q : Int → xS → Prop) : Array Value → State → Outcome → State → Prop :=
  va_Qi (fun (r : Int32) (u : xS) => ∃ v, r = i32 v ∧ Q v u ∧ ∀ k, k ∉ F → u k = σ k) (xB D w σ sz) (va_A (w σ) sz)
abbrev xQl (D : va_G) (w : xS → va_W) (F : List Nat) (σ : xS) (sz : Nat) (Q : Int → xS → Prop) : Array Value → State → Outcome → State → Prop :=
  va_Ql (fun (r : Int64) (u : xS) => ∃ v, r = i64 v ∧ Q v u ∧ ∀ k, k ∉ F → u k = σ k) (xB D w σ sz) (va_A (w σ) sz)
abbrev xQv (D : va_G) (w : xS → va_W) (F : List Nat) (σ : xS) (sz : Nat) (Q : xS → Prop) : Array Value → State → Outcome → State → Prop :=
  va_Qv (fun (u : xS) => Q u ∧ ∀ k, k ∉ F → u k = σ k) (xB D w σ sz) (va_A (w σ) sz)
def xMi (z : Prop) (l : Launch) (y : MethodName) (ws : List Cond) (rm : Room) (D : va_G) (tys : List (ClassId × FieldType)) (w : xS → va_W) (F : List Nat) (σ : xS) (av : List Value) (Q : Int → xS → Prop) : Prop :=
  ∀ sz, Met l y ws rm (xIn z D tys w σ sz av) (xQi D w F σ sz Q) 0 0 (va_A (w σ) sz)
def xMl (z : Prop) (l : Launch) (y : MethodName) (ws : List Cond) (rm : Room) (D : va_G) (tys : List (ClassId × FieldType)) (w : xS → va_W) (F : List Nat) (σ : xS) (av : List Value) (Q : Int → xS → Prop) : Prop :=
  ∀ sz, Met l y ws rm (xIn z D tys w σ sz av) (xQl D w F σ sz Q) 0 0 (va_A (w σ) sz)
def xMv (z : Prop) (l : Launch) (y : MethodName) (ws : List Cond) (rm : Room) (D : va_G) (tys : List (ClassId × FieldType)) (w : xS → va_W) (F : List Nat) (σ : xS) (av : List Value) (Q : xS → Prop) : Prop :=
  ∀ sz, Met l y ws rm (xIn z D tys w σ sz av) (xQv D w F σ sz Q) 0 0 (va_A (w σ) sz)
theorem xE.calling {z : Prop} {A : Nat → Prop} {U : State} {H : Heap} {g : JFrame} {mk : MethodId} {a : Array Value} (h : xE z A U H) : xE z A (U.calling g mk a) H := xE.same (u := U) (U := U.calling g mk a) rfl h
theorem xIn_blind {z : Prop} {D : va_G} {tys : List (ClassId × FieldType)} {w : xS → va_W} {σ : xS} {sz : Nat} {av : List Value} : FrameBlind (xIn z D tys w σ sz av) := by
  intro a U g mk q
  obtain ⟨q0, q1, qP, qK, qD, qE⟩ := q
  exact ⟨q0, q1, qP, va_K.moved (u := U) (U := U.calling g mk a) (Vm.Alike.refl U.vm) qK, qD, qE.calling⟩
/-! a method's start -/
section XENT
variable {z : Prop} {l : Launch} {y : MethodName} {ws ws' : List Cond} {rm : Room} {D : va_G} {tys : List (ClassId × FieldType)} {w : xS → va_W} {F : List Nat} {σ : xS} {av : List Value} {cc : ByteArray} {maxL : Nat} {own : String}
theorem xenter {Qc : Nat → Array Value → State → Outcome → State → Prop} {ret : Option FieldType} {mc ms : Nat} (hy : plainName y.cls = true) (hw : ws = Cond.code y cc maxL ret :: ws') (hown : y.cls = own) (hlen : (lg_sl av).length ≤ maxL)
    (body : ∀ p e s m args below meth c, args = av.toArray → xC z p s m args meth c cc maxL own ws D vwCl tys (va_A (w σ) s.heap.size) → meth.sig.returnType = ret → meth.name = y.name → xX p l e rm s m args below meth c D vwCl (va_A (w σ) s.heap.size) w F σ 0 0 (MQ below (Qc s.heap.size) args s mc ms (va_A (w σ) s.heap.size)) maxL σ 0 (lv_args 0 av) []) :
    ∀ sz, Met l y ws rm (xIn z D tys w σ sz av) (Qc sz) mc ms (va_A (w σ) sz) := by
  intro sz
  refine Met.ofW (cc := cc) (maxL := maxL) (ret := ret) hy hw ?_
  intro p e s m args below meth c s₁ B hml hv
  obtain ⟨hargs, hsz, hP, hK, hD0, hE⟩ := hv
  subst hsz
  have hts := atoms_spec (ws := ws) B.pre
  have hown' : s.vm.findClass own = some m.cls := by rw [← hown]; exact findClass_of_methodNamed B.named
  have hX := body p e s m args below meth c hargs ⟨B.exec, B.bytes, hml, hown', hts, hK, fun q h => Or.inr h, B.notSynchronized, hE⟩ B.returns (name_of_methodNamed B.named B.method).1
  subst hargs
  have hl := lv_entry av hlen
  rw [lg_entry_eq]
  exact hX (fun _ _ => rfl) s.heap [] _ hP hD0.self va_S.rf hl
end XENT
/-! a method's end -/
section XEND
variable {p : Program} {l : Launch} {e : Env} {R : Room} {s : State} {m : MethodId} {args : Array Value} {below : List Frame} {meth : Method} {c : Code} {D : va_G} {tys : List (ClassId × FieldType)} {w : xS → va_W} {F : List Nat} {σ0 : xS} {nL : Nat} {σ : xS} {pc : Nat} {lv : List (Nat × Value)} {z : Prop} {cc : ByteArray} {own : String} {Ts : List Cond} {cells slots : Nat}
theorem xr_iret (C : xC z p s m args meth c cc nL own Ts D vwCl tys (va_A (w σ0) s.heap.size)) (hr : meth.sig.returnType = some .int) {v : Int} {Q : Int → xS → Prop} (hq : Q v σ) (d : decode cc pc = .ok (.ireturn, 1)) :
    xX p l e R s m args below meth c D vwCl (va_A (w σ0) s.heap.size) w F σ0 cells slots (MQ below (xQi D w F σ0 s.heap.size Q) args s cells slots (va_A (w σ0) s.heap.size)) nL σ pc lv [.int (i32 v)] := by
  intro hF H locs ls hP hD hS hl
  exact W.iret C.1 C.2.1 hr (fun t ht hW => ⟨⟨i32 v, σ, rfl, ⟨v, rfl, hq, hF⟩, by rw [ht]; exact hP, hD⟩, hS.F ht⟩) hS.2.2 d C.2.2.2.2.2.2.2.1
theorem xr_zret (C : xC z p s m args meth c cc nL own Ts D vwCl tys (va_A (w σ0) s.heap.size)) (hr : meth.sig.returnType = some .boolean) {v : Int} {Q : Int → xS → Prop} (hv : v = 0 ∨ v = 1) (hq : Q v σ) (d : decode cc pc = .ok (.ireturn, 1)) :
    xX p l e R s m args below meth c D vwCl (va_A (w σ0) s.heap.size) w F σ0 cells slots (MQ below (xQi D w F σ0 s.heap.size Q) args s cells slots (va_A (w σ0) s.heap.size)) nL σ pc lv [.int (i32 v)] := by
  intro hF H locs ls hP hD hS hl
  exact W.zret C.1 C.2.1 hr (by rcases hv with rfl | rfl <;> rfl) (fun t ht hW => ⟨⟨i32 v, σ, rfl, ⟨v, rfl, hq, hF⟩, by rw [ht]; exact hP, hD⟩, hS.F ht⟩) hS.2.2 d C.2.2.2.2.2.2.2.1
theorem xr_lret (C : xC z p s m args meth c cc nL own Ts D vwCl tys (va_A (w σ0) s.heap.size)) (hr : meth.sig.returnType = some .long) {v : Int} {Q : Int → xS → Prop} (hq : Q v σ) (d : decode cc pc = .ok (.lreturn, 1)) :
    xX p l e R s m args below meth c D vwCl (va_A (w σ0) s.heap.size) w F σ0 cells slots (MQ below (xQl D w F σ0 s.heap.size Q) args s cells slots (va_A (w σ0) s.heap.size)) nL σ pc lv [.long (i64 v)] := by
  intro hF H locs ls hP hD hS hl
  exact W.lret C.1 C.2.1 hr (fun t ht hW => ⟨⟨i64 v, σ, rfl, ⟨v, rfl, hq, hF⟩, by rw [ht]; exact hP, hD⟩, hS.F ht⟩) hS.2.2 d C.2.2.2.2.2.2.2.1
theorem xr_vret (C : xC z p s m args meth c cc nL own Ts D vwCl tys (va_A (w σ0) s.heap.size)) (hr : meth.sig.returnType = none) {Q : xS → Prop} (hq : Q σ) (d : decode cc pc = .ok (.return_, 1)) :
    xX p l e R s m args below meth c D vwCl (va_A (w σ0) s.heap.size) w F σ0 cells slots (MQ below (xQv D w F σ0 s.heap.size Q) args s cells slots (va_A (w σ0) s.heap.size)) nL σ pc lv [] := by
  intro hF H locs ls hP hD hS hl
  exact W.vret C.1 C.2.1 hr (fun t ht hW => ⟨⟨σ, rfl, ⟨hq, hF⟩, by rw [ht]; exact hP, hD⟩, hS.F ht⟩) hS.2.2 d C.2.2.2.2.2.2.2.1
end XEND
/-! calls -/
section XCALL
variable {p : Program} {l : Launch} {e : Env} {R : Room} {s : State} {m : MethodId} {args : Array Value} {below : List Frame} {meth : Method} {c : Code} {D : va_G} {tys : List (ClassId × FieldType)} {A : Nat → Prop} {w : xS → va_W} {F : List Nat} {σ0 : xS} {cells slots : Nat} {Qs : State → Prop} {nL : Nat} {σ : xS} {pc : Nat} {lv : List (Nat × Value)} {st : List Value} {z : Prop} {cc : ByteArray} {own : String} {Ts : List Cond}
variable {z' : Prop} {y : MethodName} {bytes : ByteArray} {maxL index n : Nat} {ret : Option FieldType} {wsc : List Cond} {rm : Room} {w' : xS → va_W} {F' : List Nat} {As rest : List Value}
/-- what a callee's start wants, out of the caller's world -/
theorem xIn_of {H : Heap} {locs : List Loc} (C : xC z p s m args meth c cc nL own Ts D vwCl tys A) {pre post : va_W} (hz : z' → z) (hP : va_P D vwCl (pre ++ (w' σ ++ post)) H) (hD : va_D A (pre ++ (w' σ ++ post))) (hS : va_S A s.heap H locs) {av : List Value} :
    ∀ U : State, U.heap = H → s.WarmedH U.vm → xIn z' D tys w' σ H.size av av.toArray U := by
  intro U hU hW
  refine ⟨rfl, by rw [hU], by rw [hU]; exact xP_mid hP, va_K.moved hW.alike C.2.2.2.2.2.1, (xD_mid hD).weaken (fun _ _ _ _ => trivial), ?_⟩
  rw [hU]
  exact (((C.2.2.2.2.2.2.2.2.weaken hz).warm hW).kept hS.2.1).narrow (xfree hD hS C.2.2.2.2.2.2.1)
theorem xafter {H H1 : Heap} {locs : List Loc} (C : xC z p s m args meth c cc nL own Ts D vwCl tys A) {pre post : xS → va_W} (hsp : ∀ u, w u = pre u ++ (w' u ++ post u)) (hpp : ∀ u u' : xS, (∀ k, k ∉ F' → u k = u' k) → pre u = pre u' ∧ post u = post u') {u : xS} (hfr : ∀ k, k ∉ F' → u k = σ k) (hP : va_P D vwCl (w σ) H) (hD : va_D A (w σ)) (hS : va_S A s.heap H locs)
    (hk1 : ∀ q : Nat, q < H.size → ¬ va_A (w' σ) H.size q → H1[q]? = H[q]?) (hP1 : va_P D vwCl (w' u) H1) (hD1 : va_D (va_A (w' σ) H.size) (w' u)) : va_P D vwCl (w u) H1 ∧ va_D A (w u) := by
  rw [hsp σ] at hP hD
  rw [hsp u, (hpp u σ hfr).1, (hpp u σ hfr).2]
  exact xjoin hP hD hk1 (xfree hD hS C.2.2.2.2.2.2.1) hP1 hD1
theorem xr_callVi (C : xC z p s m args meth c cc nL own Ts D vwCl tys A) {Q' : Int → xS → Prop} {b ci q0 : Nat} {fs : List Value} {Cn : String} {T : u_T} {N : Nat} (hsp : xSp w w' F') (hFF : ∀ k ∈ F', k ∈ F) (hz : z' → z) (hM : xMi z' l y wsc rm D tys w' F' σ (.ref b :: As) Q') (cw : CallW R s args own Cn index y bytes maxL ret wsc rm 0 0 n) (hq : vwCl[ci]? = some (Cn, T, N)) (hrec : (w' σ)[q0]? = some (b, .inr (ci, fs))) (hn : As.length = n) (hst : st = As.reverse ++ .ref b :: rest) (hcat : (rest.map fun v => v.category).sum ≤ 8) (hce : cells ≤ R.cells ∧ slots ≤ R.slots) (d : decode cc pc = .ok (.invokevirtual index, 3))
    (k : ∀ (v : Int) (u : xS), Q' v u → xX p l e R s m args below meth c D vwCl A w F σ0 cells slots Qs nL u (pc + 3) lv (.int (i32 v) :: rest)) : xX p l e R s m args below meth c D vwCl A w F σ0 cells slots Qs nL σ pc lv st := by
  intro hF H locs ls hP hD hS hl
  subst hst
  obtain ⟨pre, post, hsp, hpp⟩ := hsp
  have hP' := hP
  have hD' := hD
  rw [hsp σ] at hP' hD'
  have hFc := xfree hD' hS C.2.2.2.2.2.2.1
  refine va_calli (va_runV ⟨C.1, C.2.1, C.2.2.1, C.2.2.2.1, C.2.2.2.2.1⟩ (hM H.size) cw ⟨xIn_blind, va_recv C.2.2.2.2.2.1 (xP_mid hP') hq hrec, xIn_of C hz hP' hD' hS⟩ rfl hn hl.1 rfl (lv_room hcat) d ⟨by omega, by omega⟩) hS (fun q _ h => hFc q h) hFc (fun r u t H1 locs1 ht hvm hw hB hz1 hk1 hS1 => ?_)
  obtain ⟨v, rfl, hQ, hfr⟩ := hw
  obtain ⟨hP1, hD1⟩ := hB
  rw [ht] at hP1
  obtain ⟨hP2, hD2⟩ := xafter C hsp hpp hfr hP hD hS hk1 hP1 hD1
  exact k v u hQ (fun k' hk' => (hfr k' (fun h => hk' (hFF k' h))).trans (hF k' hk')) H1 locs1 ls hP2 hD2 hS1 hl
theorem xr_callVl (C : xC z p s m args meth c cc nL own Ts D vwCl tys A) {Q' : Int → xS → Prop} {b ci q0 : Nat} {fs : List Value} {Cn : String} {T : u_T} {N : Nat} (hsp : xSp w w' F') (hFF : ∀ k ∈ F', k ∈ F) (hz : z' → z) (hM : xMl z' l y wsc rm D tys w' F' σ (.ref b :: As) Q') (cw : CallW R s args own Cn index y bytes maxL ret wsc rm 0 0 n) (hq : vwCl[ci]? = some (Cn, T, N)) (hrec : (w' σ)[q0]? = some (b, .inr (ci, fs))) (hn : As.length = n) (hst : st = As.reverse ++ .ref b :: rest) (hcat : (rest.map fun v => v.category).sum ≤ 8) (hce : cells ≤ R.cells ∧ slots ≤ R.slots) (d : decode cc pc = .ok (.invokevirtual index, 3))
    (k : ∀ (v : Int) (u : xS), Q' v u → xX p l e R s m args below meth c D vwCl A w F σ0 cells slots Qs nL u (pc + 3) lv (.long (i64 v) :: rest)) : xX p l e R s m args below meth c D vwCl A w F σ0 cells slots Qs nL σ pc lv st := by
  intro hF H locs ls hP hD hS hl
  subst hst
  obtain ⟨pre, post, hsp, hpp⟩ := hsp
  have hP' := hP
  have hD' := hD
  rw [hsp σ] at hP' hD'
  have hFc := xfree hD' hS C.2.2.2.2.2.2.1
  refine va_calll (va_runV ⟨C.1, C.2.1, C.2.2.1, C.2.2.2.1, C.2.2.2.2.1⟩ (hM H.size) cw ⟨xIn_blind, va_recv C.2.2.2.2.2.1 (xP_mid hP') hq hrec, xIn_of C hz hP' hD' hS⟩ rfl hn hl.1 rfl (lv_room hcat) d ⟨by omega, by omega⟩) hS (fun q _ h => hFc q h) hFc (fun r u t H1 locs1 ht hvm hw hB hz1 hk1 hS1 => ?_)
  obtain ⟨v, rfl, hQ, hfr⟩ := hw
  obtain ⟨hP1, hD1⟩ := hB
  rw [ht] at hP1
  obtain ⟨hP2, hD2⟩ := xafter C hsp hpp hfr hP hD hS hk1 hP1 hD1
  exact k v u hQ (fun k' hk' => (hfr k' (fun h => hk' (hFF k' h))).trans (hF k' hk')) H1 locs1 ls hP2 hD2 hS1 hl
theorem xr_callVv (C : xC z p s m args meth c cc nL own Ts D vwCl tys A) {Q' : xS → Prop} {b ci q0 : Nat} {fs : List Value} {Cn : String} {T : u_T} {N : Nat} (hsp : xSp w w' F') (hFF : ∀ k ∈ F', k ∈ F) (hz : z' → z) (hM : xMv z' l y wsc rm D tys w' F' σ (.ref b :: As) Q') (cw : CallW R s args own Cn index y bytes maxL ret wsc rm 0 0 n) (hq : vwCl[ci]? = some (Cn, T, N)) (hrec : (w' σ)[q0]? = some (b, .inr (ci, fs))) (hn : As.length = n) (hst : st = As.reverse ++ .ref b :: rest) (hcat : (rest.map fun v => v.category).sum ≤ 8) (hce : cells ≤ R.cells ∧ slots ≤ R.slots) (d : decode cc pc = .ok (.invokevirtual index, 3))
    (k : ∀ (u : xS), Q' u → xX p l e R s m args below meth c D vwCl A w F σ0 cells slots Qs nL u (pc + 3) lv rest) : xX p l e R s m args below meth c D vwCl A w F σ0 cells slots Qs nL σ pc lv st := by
  intro hF H locs ls hP hD hS hl
  subst hst
  obtain ⟨pre, post, hsp, hpp⟩ := hsp
  have hP' := hP
  have hD' := hD
  rw [hsp σ] at hP' hD'
  have hFc := xfree hD' hS C.2.2.2.2.2.2.1
  refine va_callv (va_runV ⟨C.1, C.2.1, C.2.2.1, C.2.2.2.1, C.2.2.2.2.1⟩ (hM H.size) cw ⟨xIn_blind, va_recv C.2.2.2.2.2.1 (xP_mid hP') hq hrec, xIn_of C hz hP' hD' hS⟩ rfl hn hl.1 rfl (lv_room hcat) d ⟨by omega, by omega⟩) hS (fun q _ h => hFc q h) hFc (fun u t H1 locs1 ht hvm hw hB hz1 hk1 hS1 => ?_)
  obtain ⟨hQ, hfr⟩ := hw
  obtain ⟨hP1, hD1⟩ := hB
  rw [ht] at hP1
  obtain ⟨hP2, hD2⟩ := xafter C hsp hpp hfr hP hD hS hk1 hP1 hD1
  exact k u hQ (fun k' hk' => (hfr k' (fun h => hk' (hFF k' h))).trans (hF k' hk')) H1 locs1 ls hP2 hD2 hS1 hl
theorem xr_callSi (C : xC z p s m args meth c cc nL own Ts D vwCl tys A) {Q' : Int → xS → Prop} (hsp : xSp w w' F') (hFF : ∀ k ∈ F', k ∈ F) (hz : z' → z) (hM : xMi z' l y wsc rm D tys w' F' σ As Q') (cw : CallB R s args own index y bytes maxL ret wsc rm 0 0 n ∧ (Cond.static y).before args s = true) (hn : As.length = n) (hst : st = As.reverse ++ rest) (hcat : (rest.map fun v => v.category).sum ≤ 8) (hce : cells ≤ R.cells ∧ slots ≤ R.slots) (d : decode cc pc = .ok (.invokestatic index, 3))
    (k : ∀ (v : Int) (u : xS), Q' v u → xX p l e R s m args below meth c D vwCl A w F σ0 cells slots Qs nL u (pc + 3) lv (.int (i32 v) :: rest)) : xX p l e R s m args below meth c D vwCl A w F σ0 cells slots Qs nL σ pc lv st := by
  intro hF H locs ls hP hD hS hl
  subst hst
  obtain ⟨pre, post, hsp, hpp⟩ := hsp
  have hP' := hP
  have hD' := hD
  rw [hsp σ] at hP' hD'
  have hFc := xfree hD' hS C.2.2.2.2.2.2.1
  refine va_calli (va_runS ⟨C.1, C.2.1, C.2.2.1, C.2.2.2.1, C.2.2.2.2.1⟩ (hM H.size) cw ⟨xIn_blind, xIn_of C hz hP' hD' hS⟩ rfl hn hl.1 rfl (lv_room hcat) d ⟨by omega, by omega⟩) hS (fun q _ h => hFc q h) hFc (fun r u t H1 locs1 ht hvm hw hB hz1 hk1 hS1 => ?_)
  obtain ⟨v, rfl, hQ, hfr⟩ := hw
  obtain ⟨hP1, hD1⟩ := hB
  rw [ht] at hP1
  obtain ⟨hP2, hD2⟩ := xafter C hsp hpp hfr hP hD hS hk1 hP1 hD1
  exact k v u hQ (fun k' hk' => (hfr k' (fun h => hk' (hFF k' h))).trans (hF k' hk')) H1 locs1 ls hP2 hD2 hS1 hl
theorem xr_callSv (C : xC z p s m args meth c cc nL own Ts D vwCl tys A) {Q' : xS → Prop} (hsp : xSp w w' F') (hFF : ∀ k ∈ F', k ∈ F) (hz : z' → z) (hM : xMv z' l y wsc rm D tys w' F' σ As Q') (cw : CallB R s args own index y bytes maxL ret wsc rm 0 0 n ∧ (Cond.static y).before args s = true) (hn : As.length = n) (hst : st = As.reverse ++ rest) (hcat : (rest.map fun v => v.category).sum ≤ 8) (hce : cells ≤ R.cells ∧ slots ≤ R.slots) (d : decode cc pc = .ok (.invokestatic index, 3))
    (k : ∀ (u : xS), Q' u → xX p l e R s m args below meth c D vwCl A w F σ0 cells slots Qs nL u (pc + 3) lv rest) : xX p l e R s m args below meth c D vwCl A w F σ0 cells slots Qs nL σ pc lv st := by
  intro hF H locs ls hP hD hS hl
  subst hst
  obtain ⟨pre, post, hsp, hpp⟩ := hsp
  have hP' := hP
  have hD' := hD
  rw [hsp σ] at hP' hD'
  have hFc := xfree hD' hS C.2.2.2.2.2.2.1
  refine va_callv (va_runS ⟨C.1, C.2.1, C.2.2.1, C.2.2.2.1, C.2.2.2.2.1⟩ (hM H.size) cw ⟨xIn_blind, xIn_of C hz hP' hD' hS⟩ rfl hn hl.1 rfl (lv_room hcat) d ⟨by omega, by omega⟩) hS (fun q _ h => hFc q h) hFc (fun u t H1 locs1 ht hvm hw hB hz1 hk1 hS1 => ?_)
  obtain ⟨hQ, hfr⟩ := hw
  obtain ⟨hP1, hD1⟩ := hB
  rw [ht] at hP1
  obtain ⟨hP2, hD2⟩ := xafter C hsp hpp hfr hP hD hS hk1 hP1 hD1
  exact k u hQ (fun k' hk' => (hfr k' (fun h => hk' (hFF k' h))).trans (hF k' hk')) H1 locs1 ls hP2 hD2 hS1 hl
/-- a name for the number on top; another state, by equation -/
theorem xr_topi {a : Int} (k : ∀ x : Int, x = a → xX p l e R s m args below meth c D vwCl A w F σ0 cells slots Qs nL σ pc lv (.int (i32 x) :: st)) : xX p l e R s m args below meth c D vwCl A w F σ0 cells slots Qs nL σ pc lv (.int (i32 a) :: st) := k a rfl
theorem xr_topl {a : Int} (k : ∀ x : Int, x = a → xX p l e R s m args below meth c D vwCl A w F σ0 cells slots Qs nL σ pc lv (.long (i64 x) :: st)) : xX p l e R s m args below meth c D vwCl A w F σ0 cells slots Qs nL σ pc lv (.long (i64 a) :: st) := k a rfl
theorem xr_sig (k : ∀ u : xS, u = σ → xX p l e R s m args below meth c D vwCl A w F σ0 cells slots Qs nL u pc lv st) : xX p l e R s m args below meth c D vwCl A w F σ0 cells slots Qs nL σ pc lv st := k σ rfl
end XCALL
