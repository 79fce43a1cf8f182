/-! a call that may make the planner: worlds before and after -/
theorem xSp_tr {w w1 w2 : xS → va_W} {F1 F2 : List Nat} (h1 : xSp w w1 F1) (h2 : xSp w1 w2 F2) (hF : ∀ k ∈ F2, k ∈ F1) : xSp w w2 F2 := by
  obtain ⟨a1, b1, e1, f1⟩ := h1
  obtain ⟨a2, b2, e2, f2⟩ := h2
  refine ⟨fun u => a1 u ++ a2 u, fun u => b2 u ++ b1 u, fun u => by rw [e1, e2]; simp, fun u u' h => ?_⟩
  obtain ⟨p1, p2⟩ := f1 u u' (fun k hk => h k (fun q => hk (hF k q)))
  obtain ⟨p3, p4⟩ := f2 u u' h
  exact ⟨by show a1 u ++ a2 u = a1 u' ++ a2 u'; rw [p1, p3], by show b2 u ++ b1 u = b2 u' ++ b1 u'; rw [p2, p4]⟩
abbrev xWP (cI cJ cZ : ClassId) : (Nat → Nat) → xS → va_W := fun ad2 => wXP (.ref (ad2 9)) ad2 cI cJ cZ
def xWo (w0 : xS → va_W) (WP : (Nat → Nat) → xS → va_W) (o : Option (Nat → Nat)) (u : xS) : va_W := match o with
  | none => w0 u
  | some a => WP a u
abbrev xFo : List Nat := [0, 1, 2, 3, 4, 5, 6, 7, 8, 9, 10, 11, 12, 13, 14]
abbrev xQoi (D : va_G) (w0 : xS → va_W) (WP : (Nat → Nat) → xS → va_W) (b : Nat) (σ : xS) (sz : Nat) (Q : Int → Bool → xS → Prop) : Array Value → State → Outcome → State → Prop :=
  va_Qi (fun (r : Int32) (u : Option (Nat → Nat) × xS) => (∃ v, r = i32 v ∧ Q v u.1.isSome u.2) ∧ (∀ k, k ∉ xFo → u.2 k = σ k) ∧ ∀ ad2, u.1 = some ad2 → ad2 0 = b) (fun u t => va_P D vwCl (xWo w0 WP u.1 u.2) t.heap ∧ va_D (va_A (w0 σ) sz) (xWo w0 WP u.1 u.2)) (va_A (w0 σ) sz)
abbrev xQol (D : va_G) (w0 : xS → va_W) (WP : (Nat → Nat) → xS → va_W) (b : Nat) (σ : xS) (sz : Nat) (Q : Int → Bool → xS → Prop) : Array Value → State → Outcome → State → Prop :=
  va_Ql (fun (r : Int64) (u : Option (Nat → Nat) × xS) => (∃ v, r = i64 v ∧ Q v u.1.isSome u.2) ∧ (∀ k, k ∉ xFo → u.2 k = σ k) ∧ ∀ ad2, u.1 = some ad2 → ad2 0 = b) (fun u t => va_P D vwCl (xWo w0 WP u.1 u.2) t.heap ∧ va_D (va_A (w0 σ) sz) (xWo w0 WP u.1 u.2)) (va_A (w0 σ) sz)
abbrev xQr (D : va_G) (w0 : xS → va_W) (WP : (Nat → Nat) → xS → va_W) (b : Nat) (σ : xS) (sz : Nat) (Q : xS → Prop) : Array Value → State → Outcome → State → Prop :=
  va_Qr (fun (u : (Nat → Nat) × xS) => Q u.2 ∧ u.1 0 = b ∧ ∀ k, k ∉ xFo → u.2 k = σ k) (fun u a t => a = u.1 9 ∧ va_P D vwCl (WP u.1 u.2) t.heap ∧ va_D (va_A (w0 σ) sz) (WP u.1 u.2)) (va_A (w0 σ) sz)
def xMoi (l : Launch) (y : MethodName) (ws : List Cond) (rm : Room) (D : va_G) (tys : List (ClassId × FieldType)) (w0 : xS → va_W) (WP : (Nat → Nat) → xS → va_W) (b : Nat) (σ : xS) (av : List Value) (mc ms : Nat) (Q : Int → Bool → xS → Prop) : Prop :=
  ∀ sz, Met l y ws rm (xIn True D tys w0 σ sz av) (xQoi D w0 WP b σ sz Q) mc ms (va_A (w0 σ) sz)
def xMol (l : Launch) (y : MethodName) (ws : List Cond) (rm : Room) (D : va_G) (tys : List (ClassId × FieldType)) (w0 : xS → va_W) (WP : (Nat → Nat) → xS → va_W) (b : Nat) (σ : xS) (av : List Value) (mc ms : Nat) (Q : Int → Bool → xS → Prop) : Prop :=
  ∀ sz, Met l y ws rm (xIn True D tys w0 σ sz av) (xQol D w0 WP b σ sz Q) mc ms (va_A (w0 σ) sz)
def xMr (l : Launch) (y : MethodName) (ws : List Cond) (rm : Room) (D : va_G) (tys : List (ClassId × FieldType)) (w0 : xS → va_W) (WP : (Nat → Nat) → xS → va_W) (b : Nat) (σ : xS) (av : List Value) (mc ms : Nat) (Q : xS → Prop) : Prop :=
  ∀ sz, Met l y ws rm (xIn True D tys w0 σ sz av) (xQr D w0 WP b σ sz Q) mc ms (va_A (w0 σ) sz)
section XRD
variable {p : Program} {l : Launch} {e : Env} {R : Room} {s : State} {m : MethodId} {args : Array Value} {below : List Frame} {meth : Method} {c : Code} {D : va_G} {tys : List (ClassId × FieldType)} {A : Nat → Prop} {w : xS → va_W} {F : List Nat} {σ0 : xS} {cells slots : Nat} {Qs : State → Prop} {nL : Nat} {σ : xS} {pc : Nat} {lv : List (Nat × Value)} {st : List Value} {z : Prop} {cc : ByteArray} {own : String} {Ts : List Cond} {cI cJ cZ : ClassId}
theorem xr_ifnonnullN (C : xC z p s m args meth c cc nL own Ts D vwCl tys A) {off : Int} (d : decode cc pc = .ok (.ifnonnull off, 3)) (k : xX p l e R s m args below meth c D vwCl A w F σ0 cells slots Qs nL σ (pc + 3) lv st) : xX p l e R s m args below meth c D vwCl A w F σ0 cells slots Qs nL σ pc lv (.null :: st) := by
  intro hF H locs ls hP hD hS hl
  exact lv_ifnonnullN C.1 C.2.1 d (k hF H locs ls hP hD hS hl)
theorem xr_ifnonnull (C : xC z p s m args meth c cc nL own Ts D vwCl tys A) {off : Int} {a : Nat} (tgt : Nat) (d : decode cc pc = .ok (.ifnonnull off, 3)) (ht : (pc : Int) + off = (tgt : Int)) (k : xX p l e R s m args below meth c D vwCl A w F σ0 cells slots Qs nL σ tgt lv st) : xX p l e R s m args below meth c D vwCl A w F σ0 cells slots Qs nL σ pc lv (.ref a :: st) := by
  intro hF H locs ls hP hD hS hl
  exact lv_ifnonnull C.1 C.2.1 d ht (k hF H locs ls hP hD hS hl)
theorem xr_aret {w0 : xS → va_W} {WP : (Nat → Nat) → xS → va_W} {Q : xS → Prop} {mc ms b : Nat} {cn : String} (C : xC z p s m args meth c cc nL own Ts D vwCl tys (va_A (w0 σ0) s.heap.size)) (hr : meth.sig.returnType = some (.object cn)) (ad2 : Nat → Nat) (hw : ∀ u, w u = WP ad2 u) (h0 : ad2 0 = b) (hq : Q σ) (hc : cells ≤ mc) (hs : slots ≤ ms) (d : decode cc pc = .ok (.areturn, 1)) :
    xX p l e R s m args below meth c D vwCl (va_A (w0 σ0) s.heap.size) w xFo σ0 cells slots (MQ below (xQr D w0 WP b σ0 s.heap.size Q) args s mc ms (va_A (w0 σ0) s.heap.size)) nL σ pc lv [.ref (ad2 9)] := by
  intro hF H locs ls hP hD hS hl
  rw [hw] at hP hD
  refine W.widen hc hs ?_
  exact W.aret C.1 C.2.1 hr (Or.inl ⟨_, rfl⟩) (Or.inr ⟨_, rfl⟩) (fun t ht hW => ⟨⟨(ad2, σ), ad2 9, rfl, ⟨hq, h0, hF⟩, rfl, by rw [ht]; exact hP, hD⟩, hS.F ht⟩) hS.2.2 d C.2.2.2.2.2.2.2.1
theorem xr_oret0 {WP : (Nat → Nat) → xS → va_W} {Q : Int → Bool → xS → Prop} {mc ms b : Nat} (C : xC z p s m args meth c cc nL own Ts D vwCl tys (va_A (w σ0) s.heap.size)) (hr : meth.sig.returnType = some .int) {v : Int} (hq : Q v false σ) (hc : cells ≤ mc) (hs : slots ≤ ms) (d : decode cc pc = .ok (.ireturn, 1)) :
    xX p l e R s m args below meth c D vwCl (va_A (w σ0) s.heap.size) w xFo σ0 cells slots (MQ below (xQoi D w WP b σ0 s.heap.size Q) args s mc ms (va_A (w σ0) s.heap.size)) nL σ pc lv [.int (i32 v)] := by
  intro hF H locs ls hP hD hS hl
  refine W.widen hc hs ?_
  exact W.iret C.1 C.2.1 hr (fun t ht hW => ⟨⟨i32 v, (none, σ), rfl, ⟨⟨v, rfl, hq⟩, hF, fun _ h => by cases h⟩, by rw [ht]; exact hP, hD⟩, hS.F ht⟩) hS.2.2 d C.2.2.2.2.2.2.2.1
theorem xr_oret1 {w0 : xS → va_W} {WP : (Nat → Nat) → xS → va_W} {Q : Int → Bool → xS → Prop} {mc ms b : Nat} {ad2 : Nat → Nat} (C : xC z p s m args meth c cc nL own Ts D vwCl tys (va_A (w0 σ0) s.heap.size)) (hr : meth.sig.returnType = some .int) {v : Int} (h0 : ad2 0 = b) (hq : Q v true σ) (hc : cells ≤ mc) (hs : slots ≤ ms) (d : decode cc pc = .ok (.ireturn, 1)) :
    xX p l e R s m args below meth c D vwCl (va_A (w0 σ0) s.heap.size) (WP ad2) xFo σ0 cells slots (MQ below (xQoi D w0 WP b σ0 s.heap.size Q) args s mc ms (va_A (w0 σ0) s.heap.size)) nL σ pc lv [.int (i32 v)] := by
  intro hF H locs ls hP hD hS hl
  refine W.widen hc hs ?_
  exact W.iret C.1 C.2.1 hr (fun t ht hW => ⟨⟨i32 v, (some ad2, σ), rfl, ⟨⟨v, rfl, hq⟩, hF, fun _ h => by cases h; exact h0⟩, by rw [ht]; exact hP, hD⟩, hS.F ht⟩) hS.2.2 d C.2.2.2.2.2.2.2.1
theorem xr_olret1 {w0 : xS → va_W} {WP : (Nat → Nat) → xS → va_W} {Q : Int → Bool → xS → Prop} {mc ms b : Nat} {ad2 : Nat → Nat} (C : xC z p s m args meth c cc nL own Ts D vwCl tys (va_A (w0 σ0) s.heap.size)) (hr : meth.sig.returnType = some .long) {v : Int} (h0 : ad2 0 = b) (hq : Q v true σ) (hc : cells ≤ mc) (hs : slots ≤ ms) (d : decode cc pc = .ok (.lreturn, 1)) :
    xX p l e R s m args below meth c D vwCl (va_A (w0 σ0) s.heap.size) (WP ad2) xFo σ0 cells slots (MQ below (xQol D w0 WP b σ0 s.heap.size Q) args s mc ms (va_A (w0 σ0) s.heap.size)) nL σ pc lv [.long (i64 v)] := by
  intro hF H locs ls hP hD hS hl
  refine W.widen hc hs ?_
  exact W.lret C.1 C.2.1 hr (fun t ht hW => ⟨⟨i64 v, (some ad2, σ), rfl, ⟨⟨v, rfl, hq⟩, hF, fun _ h => by cases h; exact h0⟩, by rw [ht]; exact hP, hD⟩, hS.F ht⟩) hS.2.2 d C.2.2.2.2.2.2.2.1
variable {y : MethodName} {bytes : ByteArray} {maxL index n : Nat} {ret : Option FieldType} {wsc : List Cond} {rm : Room} {w0 : xS → va_W} {WP : (Nat → Nat) → xS → va_W} {As rest : List Value}
theorem xr_ready {Q' : xS → Prop} {b mc ms ci q0 : Nat} {fs : List Value} {Cn : String} {T : u_T} {N : Nat} (C : xC True p s m args meth c cc nL own Ts D vwCl tys A) (hM : xMr l y wsc rm D tys w WP b σ (.ref b :: As) mc ms Q') (cw : CallW R s args own Cn index y bytes maxL ret wsc rm mc ms n) (hq : vwCl[ci]? = some (Cn, T, N)) (hrec : (w σ)[q0]? = some (b, .inr (ci, fs))) (hn : As.length = n) (hst : st = As.reverse ++ .ref b :: rest) (hcat : (rest.map fun v => v.category).sum ≤ 8) (hce : cells + mc ≤ R.cells ∧ slots + ms ≤ R.slots) (d : decode cc pc = .ok (.invokevirtual index, 3))
    (k : ∀ (ad2 : Nat → Nat) (u : xS), Q' u → ad2 0 = b → xX p l e R s m args below meth c D vwCl A (WP ad2) xFo σ0 (cells + mc) (slots + ms) Qs nL u (pc + 3) lv (.ref (ad2 9) :: rest)) : xX p l e R s m args below meth c D vwCl A w xFo σ0 cells slots Qs nL σ pc lv st := by
  intro hF H locs ls hP hD hS hl
  subst hst
  have hP' : va_P D vwCl ([] ++ (w σ ++ [])) H := by simpa using hP
  have hD' : va_D A ([] ++ (w σ ++ [])) := by simpa using hD
  have hFc := xfree hD' hS C.2.2.2.2.2.2.1
  refine va_callr (va_runV ⟨C.1, C.2.1, C.2.2.1, C.2.2.2.1, C.2.2.2.2.1⟩ (hM H.size) cw ⟨xIn_blind, va_recv C.2.2.2.2.2.1 hP hq hrec, xIn_of C (fun h => h) hP' hD' hS⟩ rfl hn hl.1 rfl (lv_room hcat) d hce) hS (fun q _ h => hFc q h) hFc (fun u a t H1 locs1 ht hvm hw hB hz1 hk1 hS1 => ?_)
  obtain ⟨hQ, h0, hfr⟩ := hw
  obtain ⟨rfl, hP1, hD1⟩ := hB
  rw [ht] at hP1
  exact k u.1 u.2 hQ h0 (fun k' hk' => (hfr k' hk').trans (hF k' hk')) H1 locs1 ls hP1 (hD1.weaken (fun _ q _ h => hFc q.1 h)) hS1 hl
end XRD
