/-! the class alone: a call, what it answers, the table behind it -/
def CHx (σ b : xS) : Prop := CB (σ 8) b ∧ ∃ d H, HC σ d H
def FrC (σ σ' : xS) : Prop := ∀ r, r ≠ 5 → r ≠ 6 → r ≠ 8 → σ' r = σ r
theorem keptC {σ b b' : xS} {r : Int} {K : Int → xS → Prop} {A : xS → (Int → xS → Prop) → Prop} (h : CHx σ b)
    (hA : ∀ (τ : xS) (Q : Int → xS → Prop), CB (τ 8) b → (∀ c, CB c b' → Q r (xset τ 8 c)) → A τ Q)
    (k : ∀ σ', CHx σ' b' → FrC σ σ' → K r σ') : vX1_keep σ (fun s => A s K) := by
  obtain ⟨h1, d, H, h5⟩ := h
  refine okKeep h1 h5 (fun f p hc => hA _ _ ?_ (fun c hcb => k _ ⟨?_, pushD d, pushH d H b, ?_⟩ (fun q a1 a2 a3 => ?_)))
  · rw [xset_ne (by omega), xset_ne (by omega)]; exact h1
  · rw [xset_eq]; exact hcb
  · refine hc.congr ?_ ?_
    · rw [xset_ne (by omega)]
    · rw [xset_ne (by omega)]
  · rw [xset_ne a3, xset_ne a2, xset_ne a1]
section
variable {T : Int} {σ b : xS} {Q : Int → xS → Prop} {x y z : Int}
theorem cGlasses (hw : WFt T b) (h : CHx σ b) (hx : 1 ≤ x ∧ x ≤ 3) (k : ∀ σ', CHx σ' (aRenew b x) → FrC σ σ' → Q (b 3 0) σ') : vX4_setGlasses x σ Q := by
  have hn := hw.1
  unfold vX4_setGlasses
  refine ⟨⟨by omega, by omega⟩, fun q => absurd q (by omega), fun q1 => ⟨fun q2 => ?_, fun q2 => absurd q2 (by omega)⟩⟩
  refine keptC (A := fun s Q => vX0_glasses s (fun r s => vX0_renew x s (fun s => Q r s))) h (fun τ Q hc kk => ?_) k
  rw [← xset_self τ 8]
  exact okG hc (okRenew hc (by omega) hx (fun c hcc => kk c hcc))
theorem cGlassesBad (hr : rng x) (hx : x < 1 ∨ 3 < x) (k : Q (-2) σ) : vX4_setGlasses x σ Q := by
  unfold vX4_setGlasses
  exact ⟨hr, fun _ => k, fun _ => ⟨fun _ => absurd hx (by omega), fun _ => k⟩⟩
theorem cAmount (hw : WFt T b) (h : CHx σ b) (i : Nat) (hi : x = (i : Int)) (hn : (i : Int) < b 3 0) (hy : 1 ≤ y ∧ y ≤ 12) (k : ∀ σ', CHx σ' (aFill b i y) → FrC σ σ' → Q (b i 0) σ') : vX4_setAmount x y σ Q := by
  have hi3 := hw.n3 hn
  unfold vX4_setAmount
  refine okHas' hw ⟨by omega, by omega⟩ h.1 (fun i' hi' hn' => ⟨⟨by omega, by omega⟩, fun w => absurd w (by omega), fun _ => ⟨⟨by omega, by omega⟩, fun q => absurd q (by omega), fun q1 => ⟨fun q2 => ?_, fun q2 => absurd q2 (by omega)⟩⟩⟩) (fun q => absurd q (by omega))
  refine keptC (A := fun s Q => vX0_property x 0 s (fun r s => vX0_fill x y s (fun s => Q r s))) h (fun τ Q hc kk => ?_) k
  rw [← xset_self τ 8]
  exact okR hc i 0 hi3 hn (by omega) hi rfl (okFill hc i hi3 hi kk)
theorem cAmountBad (hw : WFt T b) (h : CHx σ b) (hx : rng x) (hr : rng y) (hy : y < 1 ∨ 12 < y) (k : Q (-2) σ) : vX4_setAmount x y σ Q := by
  unfold vX4_setAmount
  exact okHas' hw hx h.1 (fun i' hi' hn' => ⟨⟨by omega, by omega⟩, fun w => absurd w (by omega), fun _ => ⟨hr, fun _ => k, fun _ => ⟨fun _ => absurd hy (by omega), fun _ => k⟩⟩⟩) (fun q => ⟨rng0, fun _ => k, fun w => absurd rfl w⟩)
theorem cKind (hw : WFt T b) (h : CHx σ b) (i : Nat) (hi : x = (i : Int)) (hn : (i : Int) < b 3 0) (hy : 0 ≤ y ∧ y ≤ 2) (hz : 1 ≤ z ∧ z ≤ 9) (k : ∀ σ', CHx σ' (aKind b i y z) → FrC σ σ' → Q (b i 2) σ') : vX4_setKind x y z σ Q := by
  have hi3 := hw.n3 hn
  unfold vX4_setKind
  refine okHas' hw ⟨by omega, by omega⟩ h.1 (fun i' hi' hn' => ⟨⟨by omega, by omega⟩, fun w => absurd w (by omega), fun _ => ⟨⟨by omega, by omega⟩, fun q => absurd q (by omega), fun q1 => ⟨fun q2 => absurd q2 (by omega), fun q2 => ⟨⟨by omega, by omega⟩, fun q => absurd q (by omega), fun q3 => ⟨fun q4 => ?_, fun q4 => absurd q4 (by omega)⟩⟩⟩⟩⟩) (fun q => absurd q (by omega))
  refine keptC (A := fun s Q => vX0_property x 2 s (fun r s => vX0_makeKind x y z s (fun s => Q r s))) h (fun τ Q hc kk => ?_) k
  rw [← xset_self τ 8]
  exact okR hc i 2 hi3 hn (by omega) hi rfl (okKind hc i hi3 hi kk)
theorem cKindBad (hw : WFt T b) (h : CHx σ b) (hx : rng x) (hy : rng y) (hz : rng z) (hyz : (y < 0 ∨ 2 < y) ∨ (z < 1 ∨ 9 < z)) (k : Q (-2) σ) : vX4_setKind x y z σ Q := by
  unfold vX4_setKind
  exact okHas' hw hx h.1 (fun i' hi' hn' => ⟨⟨by omega, by omega⟩, fun w => absurd w (by omega), fun _ => ⟨hy, fun q => k, fun q1 => ⟨fun q2 => k, fun q2 => ⟨hz, fun q => k, fun q3 => ⟨fun q4 => absurd hyz (by omega), fun q4 => k⟩⟩⟩⟩⟩) (fun q => ⟨rng0, fun _ => k, fun w => absurd rfl w⟩)
theorem cFix (hw : WFt T b) (h : CHx σ b) (i j : Nat) (hi : x = (i : Int)) (hin : (i : Int) < b 3 0) (hj : y = (j : Int)) (hjn : (j : Int) < b 3 0) (ks : b i 5 = b j 5 → Q (-3) σ) (k : b i 5 ≠ b j 5 → ∀ σ', CHx σ' (aMap (joinV (b i 5) (b j 5) (jmin (b i 5) (b j 5))) b) → FrC σ σ' → Q (jmin (b i 5) (b j 5)) σ') : vX4_fix x y σ Q := by
  have hn := hw.1
  have hi3 := hw.n3 hin
  have vi := hw.root hin
  have hj3 := hw.n3 hjn
  have vj := hw.root hjn
  unfold vX4_fix
  refine okHas' hw ⟨by omega, by omega⟩ h.1 (fun _ _ _ => ⟨⟨by omega, by omega⟩, fun w => absurd w (by omega), fun _ => ?_⟩) (fun q => absurd q (by omega))
  refine okHas' hw ⟨by omega, by omega⟩ h.1 (fun _ _ _ => ⟨⟨by omega, by omega⟩, fun _ => ?_, fun w => absurd w (by omega)⟩) (fun q => absurd q (by omega))
  refine okR' h.1 i 5 hi3 hin (by omega) hi rfl (okR' h.1 j 5 hj3 hjn (by omega) hj rfl ⟨⟨by omega, by omega⟩, ⟨by omega, by omega⟩, fun q => ?_, fun q => ks q⟩)
  have hjm := jmin_le (b i 5) (b j 5)
  have e5 : aMap (joinV (b i 5) (b j 5) (jmin (b i 5) (b j 5))) b i 5 = jmin (b i 5) (b j 5) := by rw [aMap_row hin, joinV, if_pos (Or.inl rfl), if_pos rfl]
  refine keptC (A := fun s Q => vX0_join (b i 5) (b j 5) s (fun s => vX0_property x 5 s (fun r s => Q r s))) h (fun τ Q hc kk => ?_) (k q)
  rw [← xset_self τ 8]
  refine okJoin hw hc (by omega) (by omega) (fun c hcc => okR hcc i 5 hi3 (by rw [aMap_3 hn.2 (by omega)]; exact hin) (by omega) hi rfl ?_)
  rw [e5]
  exact kk c hcc
theorem cFixBad (hw : WFt T b) (h : CHx σ b) (hx : rng x) (hy : rng y) (hb : y < 0 ∨ b 3 0 ≤ y) (k : Q (-2) σ) : vX4_fix x y σ Q := by
  unfold vX4_fix
  refine okHas' hw hx h.1 (fun _ _ _ => ⟨⟨by omega, by omega⟩, fun w => absurd w (by omega), fun _ => ?_⟩) (fun q => ⟨rng0, fun _ => k, fun w => absurd rfl w⟩)
  exact okHas' hw hy h.1 (fun _ _ _ => absurd hb (by omega)) (fun q => ⟨rng0, fun w => absurd rfl w, fun _ => k⟩)
theorem cLoosen (hw : WFt T b) (h : CHx σ b) (i : Nat) (hi : x = (i : Int)) (hin : (i : Int) < b 3 0) (k1 : aIn b (b i 5) = 1 → Q (-3) σ) (k : aIn b (b i 5) ≠ 1 → ∀ σ', CHx σ' (aMap (scatV (b i 5)) b) → FrC σ σ' → Q (aStacks (aMap (scatV (b i 5)) b)) σ') : vX4_loosen x σ Q := by
  have hn := hw.1
  have hi3 := hw.n3 hin
  have vi := hw.root hin
  have ai := aIn_in hw (b i 5)
  have hws := hw.scat (b i 5)
  unfold vX4_loosen
  refine okHas' hw ⟨by omega, by omega⟩ h.1 (fun _ _ _ => ⟨⟨by omega, by omega⟩, fun _ => ?_, fun w => absurd w (by omega)⟩) (fun q => absurd q (by omega))
  refine okR' h.1 i 5 hi3 hin (by omega) hi rfl (okIn' hw h.1 (s := b i 5) (by omega) ⟨⟨by omega, by omega⟩, fun q => ?_, fun q => k1 q⟩)
  refine keptC (A := fun s Q => vX0_scatter (b i 5) s (fun s => vX0_stacks s (fun r s => Q r s))) h (fun τ Q hc kk => ?_) (k q)
  rw [← xset_self τ 8]
  exact okScat hw hc (by omega) (fun c hcc => okStacks hws hcc (kk c hcc))
theorem cLoosenBad (hw : WFt T b) (h : CHx σ b) (hx : rng x) (hb : x < 0 ∨ b 3 0 ≤ x) (k : Q (-2) σ) : vX4_loosen x σ Q := by
  unfold vX4_loosen
  exact okHas' hw hx h.1 (fun _ _ _ => absurd hb (by omega)) (fun q => ⟨rng0, fun w => absurd rfl w, fun _ => k⟩)
theorem cTurn (hw : WFt T b) (h : CHx σ b) (i : Nat) (hi : x = (i : Int)) (hin : (i : Int) < b 3 0) (k : ∀ σ', CHx σ' (aTurn b (b i 5)) → FrC σ σ' → Q (aTurn b (b i 5) i 1) σ') : vX4_turn x σ Q := by
  have hn := hw.1
  have hi3 := hw.n3 hin
  have e0 : (i : Int) < aTurn b (b i 5) 3 0 := by rw [aTurn_3 hn.2, if_neg (by omega)]; exact hin
  unfold vX4_turn
  refine okHas' hw ⟨by omega, by omega⟩ h.1 (fun _ _ _ => ⟨⟨by omega, by omega⟩, fun _ => ?_, fun w => absurd w (by omega)⟩) (fun q => absurd q (by omega))
  refine keptC (A := fun s Q => vX0_turnStackOf x s (fun s => vX0_property x 1 s (fun r s => Q r s))) h (fun τ Q hc kk => ?_) k
  rw [← xset_self τ 8]
  exact okTurn hw hc i hin hi (fun c hcc => okR hcc i 1 hi3 e0 (by omega) hi rfl (kk c hcc))
theorem cTurnBad (hw : WFt T b) (h : CHx σ b) (hx : rng x) (hb : x < 0 ∨ b 3 0 ≤ x) (k : Q (-2) σ) : vX4_turn x σ Q := by
  unfold vX4_turn
  exact okHas' hw hx h.1 (fun _ _ _ => absurd hb (by omega)) (fun q => ⟨rng0, fun w => absurd rfl w, fun _ => k⟩)
theorem cTap (hw : WFt T b) (h : CHx σ b) (i : Nat) (hi : x = (i : Int)) (hin : (i : Int) < b 3 0) (k : ∀ σ', CHx σ' (aTap b i) → FrC σ σ' → Q (b i 4) σ') : vX4_tap x σ Q := by
  have hi3 := hw.n3 hin
  unfold vX4_tap
  refine okHas' hw ⟨by omega, by omega⟩ h.1 (fun _ _ _ => ⟨⟨by omega, by omega⟩, fun _ => ?_, fun w => absurd w (by omega)⟩) (fun q => absurd q (by omega))
  refine keptC (A := fun s Q => vX0_property x 4 s (fun r s => vX0_tapGlass x s (fun s => Q r s))) h (fun τ Q hc kk => ?_) k
  rw [← xset_self τ 8]
  exact okR hc i 4 hi3 hin (by omega) hi rfl (okTap hc i hi3 hi kk)
theorem cTapBad (hw : WFt T b) (h : CHx σ b) (hx : rng x) (hb : x < 0 ∨ b 3 0 ≤ x) (k : Q (-2) σ) : vX4_tap x σ Q := by
  unfold vX4_tap
  exact okHas' hw hx h.1 (fun _ _ _ => absurd hb (by omega)) (fun q => ⟨rng0, fun w => absurd rfl w, fun _ => k⟩)
theorem cPass (hT : T ≤ 50000) (hw : WFt T b) (h : CHx σ b) (n : Nat) (hx : x = (n : Int)) (hn : 1 ≤ n ∧ n ≤ 999) (ht : b 3 1 + (n : Int) ≤ 9999) (k : ∀ σ', CHx σ' (aPass n b) → FrC σ σ' → Q (aPass n b 3 3 - b 3 3) σ') : vX4_pass x σ Q := by
  unfold vX4_pass
  refine ⟨⟨by omega, by omega⟩, fun q => absurd q (by omega), fun q1 => ⟨fun q2 => ?_, fun q2 => absurd q2 (by omega)⟩⟩
  refine okTimeFor' (by omega) hw h.1 ⟨by omega, by omega⟩ (fun q => ⟨⟨by omega, by omega⟩, fun _ => ?_, fun w => absurd w (by omega)⟩) (fun q => absurd q (by omega))
  refine keptC (A := fun s Q => vX0_letPass x s (fun r s => Q r s)) h (fun τ Q hc kk => ?_) k
  rw [← xset_self τ 8]
  exact okPass (by omega) hw hc n (by omega) hx kk
theorem cPassBad (hr : rng x) (hb : x < 1 ∨ 999 < x) (k : Q (-2) σ) : vX4_pass x σ Q := by
  unfold vX4_pass
  exact ⟨hr, fun _ => k, fun _ => ⟨fun _ => absurd hb (by omega), fun _ => k⟩⟩
theorem cAwait (hT : T ≤ 50000) (hw : WFt T b) (h : CHx σ b) (ht : b 3 1 + aUnt b ≤ 9999) (k0 : aUnt b = 0 → Q (-3) σ) (k : aUnt b ≠ 0 → ∀ σ', CHx σ' (aPass (aUnt b).toNat b) → FrC σ σ' → Q (aUnt b) σ') : vX4_await σ Q := by
  have hu := aUnt_in hw
  unfold vX4_await
  refine okUnt' hw h.1 ⟨⟨by omega, by omega⟩, fun q => ?_, fun q => k0 q⟩
  refine okTimeFor' (by omega) hw h.1 ⟨by omega, by omega⟩ (fun q2 => ⟨⟨by omega, by omega⟩, fun _ => ?_, fun w => absurd w (by omega)⟩) (fun q2 => absurd q2 (by omega))
  refine keptC (A := fun s Q => vX0_letPass (aUnt b) s (fun r s => Q (aUnt b) s)) h (fun τ Q hc kk => ?_) (k q)
  rw [← xset_self τ 8]
  exact okPass (by omega) hw hc (aUnt b).toNat (by omega) (by omega) kk
theorem cMark (h : CHx σ b) (k : ∀ σ', CHx σ' (aMark b) → FrC σ σ' → Q (b 3 2) σ') : vX4_mark σ Q := by
  unfold vX4_mark
  refine keptC (A := fun s Q => vX0_markedTime s (fun r s => vX0_markTime s (fun s => Q r s))) h (fun τ Q hc kk => ?_) k
  unfold vX0_markedTime vX0_markTime
  intro s hs
  have e : s = xset τ 8 (cu (τ 8) (57 + 2) (b 3 1)) := by
    rw [hs, show τ 8 58 = b 3 1 from hc.n 1 (by omega), xup_set]
    rfl
  rw [e, show τ 8 59 = b 3 2 from hc.n 2 (by omega)]
  exact kk _ (hc.scal (by omega) (by omega) (by omega) _)
end
