/-! rows for the law's own body -/
def wL (P : Bool) (ad adm : Nat → Nat) (cI cJ cZ : ClassId) (u : xS) : va_W := match P with
  | false => wX .null ad cI cJ cZ u ++ wM adm cI cJ cZ u
  | true => wXP (.ref (ad 9)) ad cI cJ cZ u ++ wM adm cI cJ cZ u
abbrev cL (P : Bool) : Nat := match P with | false => 23 | true => 29
abbrev sL (P : Bool) : Nat := match P with | false => 91784 | true => 111853
abbrev FL : List Nat := [0, 1, 2, 3, 4, 5, 6, 7, 8, 9, 10, 11, 12, 13, 14, 20, 21, 22, 23, 24, 25, 26, 27, 28, 29, 30, 31, 32, 33]
theorem wM_ind {adm : Nat → Nat} {cI cJ cZ : ClassId} {u u' : xS} (h : ∀ k, k ∉ xFo → u k = u' k) : wM adm cI cJ cZ u = wM adm cI cJ cZ u' := by
  have h20 : u 20 = u' 20 := h 20 (by decide)
  have h21 : u 21 = u' 21 := h 21 (by decide)
  have h22 : u 22 = u' 22 := h 22 (by decide)
  have h23 : u 23 = u' 23 := h 23 (by decide)
  have h24 : u 24 = u' 24 := h 24 (by decide)
  have h25 : u 25 = u' 25 := h 25 (by decide)
  have h26 : u 26 = u' 26 := h 26 (by decide)
  have h27 : u 27 = u' 27 := h 27 (by decide)
  have h28 : u 28 = u' 28 := h 28 (by decide)
  have h29 : u 29 = u' 29 := h 29 (by decide)
  have h30 : u 30 = u' 30 := h 30 (by decide)
  have h31 : u 31 = u' 31 := h 31 (by decide)
  have h32 : u 32 = u' 32 := h 32 (by decide)
  have h33 : u 33 = u' 33 := h 33 (by decide)
  simp only [wM, h20, h21, h22, h23, h24, h25, h26, h27, h28, h29, h30, h31, h32, h33]
theorem wX_ind {pv : Value} {ad : Nat → Nat} {cI cJ cZ : ClassId} {u u' : xS} (h : ∀ k, k < 20 → u k = u' k) : wX pv ad cI cJ cZ u = wX pv ad cI cJ cZ u' := by
  have h1 : u 1 = u' 1 := h 1 (by decide)
  have h2 : u 2 = u' 2 := h 2 (by decide)
  have h3 : u 3 = u' 3 := h 3 (by decide)
  have h4 : u 4 = u' 4 := h 4 (by decide)
  have h5 : u 5 = u' 5 := h 5 (by decide)
  have h6 : u 6 = u' 6 := h 6 (by decide)
  have h8 : u 8 = u' 8 := h 8 (by decide)
  simp only [wX, h1, h2, h3, h4, h5, h6, h8]
theorem wXP_ind {pv : Value} {ad : Nat → Nat} {cI cJ cZ : ClassId} {u u' : xS} (h : ∀ k, k < 20 → u k = u' k) : wXP pv ad cI cJ cZ u = wXP pv ad cI cJ cZ u' := by
  have h1 : u 1 = u' 1 := h 1 (by decide)
  have h2 : u 2 = u' 2 := h 2 (by decide)
  have h3 : u 3 = u' 3 := h 3 (by decide)
  have h4 : u 4 = u' 4 := h 4 (by decide)
  have h5 : u 5 = u' 5 := h 5 (by decide)
  have h6 : u 6 = u' 6 := h 6 (by decide)
  have h8 : u 8 = u' 8 := h 8 (by decide)
  have h9 : u 9 = u' 9 := h 9 (by decide)
  have h10 : u 10 = u' 10 := h 10 (by decide)
  have h11 : u 11 = u' 11 := h 11 (by decide)
  have h12 : u 12 = u' 12 := h 12 (by decide)
  have h13 : u 13 = u' 13 := h 13 (by decide)
  have h14 : u 14 = u' 14 := h 14 (by decide)
  simp only [wXP, h1, h2, h3, h4, h5, h6, h8, h9, h10, h11, h12, h13, h14]
abbrev FM : List Nat := [20, 21, 22, 23, 24, 25, 26, 27, 28, 29, 30, 31, 32, 33]
theorem sp_LN_X (ad adm : Nat → Nat) (cI cJ cZ : ClassId) : xSp (wL false ad adm cI cJ cZ) (wX .null ad cI cJ cZ) [0, 1, 2, 3, 4, 5, 6, 7, 8] :=
  ⟨fun _ => [], wM adm cI cJ cZ, fun _ => rfl, fun u u' h => ⟨rfl, wM_ind (fun k hk => h k (fun q => hk ((by decide : ∀ k ∈ ([0, 1, 2, 3, 4, 5, 6, 7, 8] : List Nat), k ∈ xFo) k q)))⟩⟩
theorem sp_LN_M (ad adm : Nat → Nat) (cI cJ cZ : ClassId) : xSp (wL false ad adm cI cJ cZ) (wM adm cI cJ cZ) FM :=
  ⟨wX .null ad cI cJ cZ, fun _ => [], fun u => by simp [wL], fun u u' h => ⟨wX_ind (fun k hk => h k (by revert k; decide)), rfl⟩⟩
theorem sp_LP_XP (ad adm : Nat → Nat) (cI cJ cZ : ClassId) : xSp (wL true ad adm cI cJ cZ) (wXP (.ref (ad 9)) ad cI cJ cZ) xFo :=
  ⟨fun _ => [], wM adm cI cJ cZ, fun _ => rfl, fun u u' h => ⟨rfl, wM_ind h⟩⟩
theorem sp_LP_X (ad adm : Nat → Nat) (cI cJ cZ : ClassId) : xSp (wL true ad adm cI cJ cZ) (wX (.ref (ad 9)) ad cI cJ cZ) [0, 1, 2, 3, 4, 5, 6, 7, 8] := xSp_tr (sp_LP_XP ad adm cI cJ cZ) (sp_wXP_wX (.ref (ad 9)) ad cI cJ cZ) (by decide)
theorem sp_LP_M (ad adm : Nat → Nat) (cI cJ cZ : ClassId) : xSp (wL true ad adm cI cJ cZ) (wM adm cI cJ cZ) FM :=
  ⟨wXP (.ref (ad 9)) ad cI cJ cZ, fun _ => [], fun u => by simp [wL], fun u u' h => ⟨wXP_ind (fun k hk => h k (by revert k; decide)), rfl⟩⟩
theorem jlcmp_self (a : Int) : jlcmp a a = 0 := by
  unfold jlcmp lg_cmp
  simp
section XLW
variable {p : Program} {l : Launch} {e : Env} {R : Room} {s : State} {m : MethodId} {args : Array Value} {below : List Frame} {meth : Method} {c : Code} {D : va_G} {tys : List (ClassId × FieldType)} {A : Nat → Prop} {w : xS → va_W} {F : List Nat} {σ0 : xS} {cells slots : Nat} {Qs : State → Prop} {nL : Nat} {σ : xS} {pc : Nat} {lv : List (Nat × Value)} {st : List Value} {z : Prop} {cc : ByteArray} {own : String} {Ts : List Cond} {cI cJ cZ : ClassId}
theorem xr_sld (C : xC z p s m args meth c cc nL own Ts D vwCl tys A) {b L : Nat} {xs : Nat → Int32} (hX : va_X b L xs s s.heap) (hbl : b < s.heap.size) (hbA : ¬ A b) (hL : L ≤ 2048) {i : Int} (hi : 0 ≤ i ∧ i < (L : Int)) (d : decode cc pc = .ok (.iaload, 1)) (k : xX p l e R s m args below meth c D vwCl A w F σ0 cells slots Qs nL σ (pc + 1) lv (.int (i32 (xs i.toNat).toInt) :: st)) : xX p l e R s m args below meth c D vwCl A w F σ0 cells slots Qs nL σ pc lv (.int (i32 i) :: .ref b :: st) := by
  intro hF H locs ls hP hD hS hl
  refine va_sld C.1 C.2.1 hX hbl hbA hS (i32_vin hi.1 hi.2 (by omega)) d ?_
  rw [i32_clamp hi.1 (by have := hi.2; omega), ← i32_asI (xs i.toNat)]
  exact k hF H locs ls hP hD hS hl
theorem xr_slen (C : xC z p s m args meth c cc nL own Ts D vwCl tys A) {b L : Nat} {xs : Nat → Int32} (hX : va_X b L xs s s.heap) (hbl : b < s.heap.size) (hbA : ¬ A b) (d : decode cc pc = .ok (.arraylength, 1)) (k : xX p l e R s m args below meth c D vwCl A w F σ0 cells slots Qs nL σ (pc + 1) lv (.int (i32 (L : Int)) :: st)) : xX p l e R s m args below meth c D vwCl A w F σ0 cells slots Qs nL σ pc lv (.ref b :: st) := by
  intro hF H locs ls hP hD hS hl
  exact va_slen C.1 C.2.1 hX hbl hbA hS d (k hF H locs ls hP hD hS hl)
theorem xr_same (C : xC z p s m args meth c cc nL own Ts D vwCl tys A) {a b : Int} (h : a = b) {off : Int} (tgt : Nat) (d : decode cc pc = .ok (.if_icmp .eq off, 3)) (ht : (pc : Int) + off = (tgt : Int)) (k : xX p l e R s m args below meth c D vwCl A w F σ0 cells slots Qs nL σ tgt lv st) : xX p l e R s m args below meth c D vwCl A w F σ0 cells slots Qs nL σ pc lv (.int (i32 b) :: .int (i32 a) :: st) := by
  intro hF H locs ls hP hD hS hl
  exact lv_icmp_eq C.1 C.2.1 d ht (fun _ => k hF H locs ls hP hD hS hl) (fun q => absurd (by rw [h]) q)
theorem xr_zero (C : xC z p s m args meth c cc nL own Ts D vwCl tys A) {a : Int} (h : a = 0) {off : Int} (tgt : Nat) (d : decode cc pc = .ok (.ifCond .eq off, 3)) (ht : (pc : Int) + off = (tgt : Int)) (k : xX p l e R s m args below meth c D vwCl A w F σ0 cells slots Qs nL σ tgt lv st) : xX p l e R s m args below meth c D vwCl A w F σ0 cells slots Qs nL σ pc lv (.int (i32 a) :: st) := by
  intro hF H locs ls hP hD hS hl
  exact lv_if_eq C.1 C.2.1 d ht (fun _ => k hF H locs ls hP hD hS hl) (fun q => absurd (by rw [h]; rfl) q)
theorem xr_nonzero (C : xC z p s m args meth c cc nL own Ts D vwCl tys A) {a : Int} (ra : rng a) (h : ¬ a = 0) {off : Int} {tgt : Nat} (d : decode cc pc = .ok (.ifCond .eq off, 3)) (ht : (pc : Int) + off = (tgt : Int)) (k : xX p l e R s m args below meth c D vwCl A w F σ0 cells slots Qs nL σ (pc + 3) lv st) : xX p l e R s m args below meth c D vwCl A w F σ0 cells slots Qs nL σ pc lv (.int (i32 a) :: st) := by
  intro hF H locs ls hP hD hS hl
  exact lv_if_eq C.1 C.2.1 d ht (fun q => absurd ((i32_eq ra rng0).mp q) h) (fun _ => k hF H locs ls hP hD hS hl)
variable {y : MethodName} {bytes : ByteArray} {maxL index n : Nat} {ret : Option FieldType} {wsc : List Cond} {rm : Room} {w0 : xS → va_W} {WP : (Nat → Nat) → xS → va_W} {As rest : List Value}
theorem xr_callOi {Q' : Int → Bool → xS → Prop} {b mc ms ci q0 : Nat} {fs : List Value} {Cn : String} {T : u_T} {N : Nat} (C : xC True p s m args meth c cc nL own Ts D vwCl tys A) (post : xS → va_W) (hsp : ∀ u, w u = w0 u ++ post u) (hpp : ∀ u u' : xS, (∀ k, k ∉ xFo → u k = u' k) → post u = post u') (hFF : ∀ k ∈ xFo, k ∈ F) (hM : xMoi l y wsc rm D tys w0 WP b σ (.ref b :: As) mc ms Q') (cw : CallW R s args own Cn index y bytes maxL ret wsc rm mc ms n) (hq : vwCl[ci]? = some (Cn, T, N)) (hrec : (w0 σ)[q0]? = some (b, .inr (ci, fs))) (hn : As.length = n) (hst : st = As.reverse ++ .ref b :: rest) (hcat : (rest.map fun v => v.category).sum ≤ 8) (hce : cells + mc ≤ R.cells ∧ slots + ms ≤ R.slots) (d : decode cc pc = .ok (.invokevirtual index, 3))
    (k0 : ∀ (v : Int) (u : xS), Q' v false u → xX p l e R s m args below meth c D vwCl A w F σ0 (cells + mc) (slots + ms) Qs nL u (pc + 3) lv (.int (i32 v) :: rest))
    (k1 : ∀ (v : Int) (u : xS) (ad2 : Nat → Nat), ad2 0 = b → Q' v true u → xX p l e R s m args below meth c D vwCl A (fun u => WP ad2 u ++ post u) F σ0 (cells + mc) (slots + ms) Qs nL u (pc + 3) lv (.int (i32 v) :: rest)) : xX p l e R s m args below meth c D vwCl A w F σ0 cells slots Qs nL σ pc lv st := by
  intro hF H locs ls hP hD hS hl
  subst hst
  have hP' : va_P D vwCl ([] ++ (w0 σ ++ post σ)) H := by rw [List.nil_append, ← hsp]; exact hP
  have hD' : va_D A ([] ++ (w0 σ ++ post σ)) := by rw [List.nil_append, ← hsp]; exact hD
  have hFc := xfree hD' hS C.2.2.2.2.2.2.1
  refine va_calli (va_runV ⟨C.1, C.2.1, C.2.2.1, C.2.2.2.1, C.2.2.2.2.1⟩ (hM H.size) cw ⟨xIn_blind, va_recv C.2.2.2.2.2.1 (xP_mid hP') hq hrec, xIn_of C (fun h => h) hP' hD' hS⟩ rfl hn hl.1 rfl (lv_room hcat) d hce) hS (fun q _ h => hFc q h) hFc (fun r u t H1 locs1 ht hvm hw hB hz1 hk1 hS1 => ?_)
  obtain ⟨⟨v, rfl, hQ⟩, hfr, hsm⟩ := hw
  obtain ⟨hP1, hD1⟩ := hB
  rw [ht] at hP1
  obtain ⟨o, u⟩ := u
  have hj := xjoin hP' hD' hk1 hFc hP1 hD1
  rw [hpp σ u (fun k hk => (hfr k hk).symm)] at hj
  cases o with
  | none =>
    refine k0 v u hQ (fun k' hk' => (hfr k' (fun h => hk' (hFF k' h))).trans (hF k' hk')) H1 locs1 ls ?_ ?_ hS1 hl
    · rw [hsp]; exact hj.1
    · rw [hsp]; exact hj.2
  | some ad2 => exact k1 v u ad2 (hsm ad2 rfl) hQ (fun k' hk' => (hfr k' (fun h => hk' (hFF k' h))).trans (hF k' hk')) H1 locs1 ls hj.1 hj.2 hS1 hl
theorem xr_callOl {Q' : Int → Bool → xS → Prop} {b mc ms ci q0 : Nat} {fs : List Value} {Cn : String} {T : u_T} {N : Nat} (C : xC True p s m args meth c cc nL own Ts D vwCl tys A) (post : xS → va_W) (hsp : ∀ u, w u = w0 u ++ post u) (hpp : ∀ u u' : xS, (∀ k, k ∉ xFo → u k = u' k) → post u = post u') (hFF : ∀ k ∈ xFo, k ∈ F) (hM : xMol l y wsc rm D tys w0 WP b σ (.ref b :: As) mc ms Q') (cw : CallW R s args own Cn index y bytes maxL ret wsc rm mc ms n) (hq : vwCl[ci]? = some (Cn, T, N)) (hrec : (w0 σ)[q0]? = some (b, .inr (ci, fs))) (hn : As.length = n) (hst : st = As.reverse ++ .ref b :: rest) (hcat : (rest.map fun v => v.category).sum ≤ 8) (hce : cells + mc ≤ R.cells ∧ slots + ms ≤ R.slots) (d : decode cc pc = .ok (.invokevirtual index, 3))
    (k0 : ∀ (v : Int) (u : xS), Q' v false u → xX p l e R s m args below meth c D vwCl A w F σ0 (cells + mc) (slots + ms) Qs nL u (pc + 3) lv (.long (i64 v) :: rest))
    (k1 : ∀ (v : Int) (u : xS) (ad2 : Nat → Nat), ad2 0 = b → Q' v true u → xX p l e R s m args below meth c D vwCl A (fun u => WP ad2 u ++ post u) F σ0 (cells + mc) (slots + ms) Qs nL u (pc + 3) lv (.long (i64 v) :: rest)) : xX p l e R s m args below meth c D vwCl A w F σ0 cells slots Qs nL σ pc lv st := by
  intro hF H locs ls hP hD hS hl
  subst hst
  have hP' : va_P D vwCl ([] ++ (w0 σ ++ post σ)) H := by rw [List.nil_append, ← hsp]; exact hP
  have hD' : va_D A ([] ++ (w0 σ ++ post σ)) := by rw [List.nil_append, ← hsp]; exact hD
  have hFc := xfree hD' hS C.2.2.2.2.2.2.1
  refine va_calll (va_runV ⟨C.1, C.2.1, C.2.2.1, C.2.2.2.1, C.2.2.2.2.1⟩ (hM H.size) cw ⟨xIn_blind, va_recv C.2.2.2.2.2.1 (xP_mid hP') hq hrec, xIn_of C (fun h => h) hP' hD' hS⟩ rfl hn hl.1 rfl (lv_room hcat) d hce) hS (fun q _ h => hFc q h) hFc (fun r u t H1 locs1 ht hvm hw hB hz1 hk1 hS1 => ?_)
  obtain ⟨⟨v, rfl, hQ⟩, hfr, hsm⟩ := hw
  obtain ⟨hP1, hD1⟩ := hB
  rw [ht] at hP1
  obtain ⟨o, u⟩ := u
  have hj := xjoin hP' hD' hk1 hFc hP1 hD1
  rw [hpp σ u (fun k hk => (hfr k hk).symm)] at hj
  cases o with
  | none =>
    refine k0 v u hQ (fun k' hk' => (hfr k' (fun h => hk' (hFF k' h))).trans (hF k' hk')) H1 locs1 ls ?_ ?_ hS1 hl
    · rw [hsp]; exact hj.1
    · rw [hsp]; exact hj.2
  | some ad2 => exact k1 v u ad2 (hsm ad2 rfl) hQ (fun k' hk' => (hfr k' (fun h => hk' (hFF k' h))).trans (hF k' hk')) H1 locs1 ls hj.1 hj.2 hS1 hl
theorem xr_widen {k n : Nat} (h1 : cells ≤ k) (h2 : slots ≤ n) (kk : xX p l e R s m args below meth c D vwCl A w F σ0 k n Qs nL σ pc lv st) : xX p l e R s m args below meth c D vwCl A w F σ0 cells slots Qs nL σ pc lv st := by
  intro hF H locs ls hP hD hS hl
  exact W.widen h1 h2 (kk hF H locs ls hP hD hS hl)
end XLW
