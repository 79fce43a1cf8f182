/-! more steps of the relation -/
theorem okIn' {τ : xS} {b : xS} {s : Int} {Q : Int → xS → Prop} {T : Int} (hw : WFt T b) (h : CB (τ 8) b) (hs : 0 ≤ s ∧ s ≤ 3) (k : Q (aIn b s) τ) : vX0_glassesOf s τ Q := by
  have := okIn (σ := τ) (c := τ 8) (Q := Q) hw h hs
  rw [xset_self] at this
  exact this k
theorem okStacks' {τ : xS} {b : xS} {Q : Int → xS → Prop} {T : Int} (hw : WFt T b) (h : CB (τ 8) b) (k : Q (aStacks b) τ) : vX0_stacks τ Q := by
  have := okStacks (σ := τ) (c := τ 8) (Q := Q) hw h
  rw [xset_self] at this
  exact this k
theorem okTimeFor' {τ : xS} {b : xS} {s : Int} {Q : Int → xS → Prop} {T : Int} (hT : T ≤ 100000) (hw : WFt T b) (h : CB (τ 8) b) (hs : rng s) (k1 : b 3 1 + s ≤ 9999 → Q 1 τ) (k0 : 9999 < b 3 1 + s → Q 0 τ) : vX0_hasTimeFor s τ Q := by
  have := okTimeFor (σ := τ) (c := τ 8) (Q := Q) hT hw h hs
  rw [xset_self] at this
  exact this k1 k0
theorem okUnt' {τ : xS} {b : xS} {Q : Int → xS → Prop} {T : Int} (hw : WFt T b) (h : CB (τ 8) b) (k : Q (aUnt b) τ) : vX0_secondsToEvent τ Q := by
  have := okUnt (σ := τ) (c := τ 8) (Q := Q) hw h
  rw [xset_self] at this
  exact this k
theorem okListed' {τ : xS} {b : xS} {Q : Int → xS → Prop} {T : Int} (hT : T ≤ 100000) (hw : WFt T b) (h : CB (τ 8) b) (k : Q (aListed b) τ) : vX0_eventsListed τ Q := by
  have := okListed (σ := τ) (c := τ 8) (Q := Q) hT hw h
  rw [xset_self] at this
  exact this k
theorem okRuns' {τ : xS} {b : xS} {g : Int} {Q : Int → xS → Prop} {T : Int} (hw : WFt T b) (h : CB (τ 8) b) (i : Nat) (hn : (i : Int) < b 3 0) (hg : g = (i : Int)) (k1 : aRuns b i → Q 1 τ) (k0 : ¬ aRuns b i → Q 0 τ) : vX0_runs g τ Q := by
  have := okRuns (σ := τ) (c := τ 8) (Q := Q) hw h i hn hg
  rw [xset_self] at this
  exact this k1 k0
theorem mkRuns' {τ : xS} {b : xS} {g : Int} {Q : Int → xS → Prop} {T : Int} (hw : WFt T b) (h : MB (τ 21) b) (i : Nat) (hn : (i : Int) < b 3 0) (hg : g = (i : Int)) (k1 : aRuns b i → Q 1 τ) (k0 : ¬ aRuns b i → Q 0 τ) : vX5_runs g τ Q := by
  have := mkRuns (σ := τ) (m := τ 21) (Q := Q) hw h i hn hg
  rw [xset_self] at this
  exact this k1 k0
theorem mkStacks' {τ : xS} {b : xS} {Q : Int → xS → Prop} {T : Int} (hw : WFt T b) (h : MB (τ 21) b) (k : Q (aStacks b) τ) : vX5_stacks τ Q := by
  have hn := hw.1
  have := mkStacks (σ := τ) (m := τ 21) (Q := Q) (by omega) (fun i hi => by have := hw.root hi; omega) h
  rw [xset_self] at this
  exact this k
theorem aIn_in {T : Int} {b : xS} (hw : WFt T b) (s : Int) : 0 ≤ aIn b s ∧ aIn b s ≤ 3 := by
  have hn := hw.1
  have := cntB_in (fun i => decide (b i 5 = s)) (b 3 0).toNat
  unfold aIn
  omega
theorem aStacks_in {T : Int} {b : xS} (hw : WFt T b) : 0 ≤ aStacks b ∧ aStacks b ≤ 3 := by
  have hn := hw.1
  have := cntB_in (fun i => decide (b i 5 = (i : Int))) (b 3 0).toNat
  unfold aStacks
  omega
theorem aTurn_3 {b : xS} (hn : b 3 0 ≤ 3) (s : Int) (p : Nat) : aTurn b s 3 p = if p = 4 then b 3 4 + 1 else b 3 p := by
  unfold aTurn
  rw [xup_app]
  by_cases h : p = 4
  · rw [if_pos ⟨rfl, h⟩, if_pos h]
  · rw [if_neg (fun q => h q.2), if_neg h, aMap_3 hn (by omega)]
theorem TT.turn {T : Int} {b : xS} (h : TT T b) (hn : b 3 0 ≤ 3) (s : Int) : TT (T + 1) (aTurn b s) := by
  unfold TT at h ⊢
  rw [aTurn_3 hn, aTurn_3 hn, if_pos rfl, if_neg (by omega)]
  omega
theorem TT.tap {T : Int} {b : xS} (h : TT T b) (i : Nat) (hi : i < 3) : TT (T + 1) (aTap b i) := by
  unfold TT at h ⊢
  rw [aTap_app, aTap_app, if_neg (by omega), if_neg (by omega), if_pos ⟨rfl, rfl⟩]
  omega
theorem TT.pass {T T' : Int} {b : xS} (h : TT T b) (hw : WFt T' b) (n : Nat) : TT T (aPass n b) := by
  unfold TT at h ⊢
  rw [aPass_3 hw (by omega) (by omega), aPass_3 hw (by omega) (by omega)]
  exact h
section
variable {T : Int} {P : Bool} {σ b : xS} {d : Nat} {H : Nat → xS} {K : Bool → xS → Prop} {x y z : Int}
theorem hs7 (h : KB T σ b d H) (hx : rng x) (k : ∀ σ', KBx (T + 100) σ' → Fr σ σ' → K P σ') : lawS7 P x y z σ K := by
  have k0 := k σ (h.x (by omega)) (Fr.refl σ)
  have hw := h.2.2.1
  have hn := hw.1
  unfold lawS7 vX4_loosen
  refine okHas' hw hx h.1 (fun i hi hin => ⟨⟨by omega, by omega⟩, fun _ => ?_, fun w => absurd w (by omega)⟩) (fun q => ⟨rng0, fun w => absurd rfl w, fun _ => ?_⟩)
  · have hi3 := hw.n3 hin
    have vi := hw.root hin
    have ai := aIn_in hw (b i 5)
    have hM : ∀ (u : xS) (Q : Int → xS → Prop), MB (u 21) b → (aIn b (b i 5) = 1 → Q (-3) u) → (aIn b (b i 5) ≠ 1 → vX5_keeps u (fun s => mu (vX5_loosen_77 Q) (b i 5, 0, s))) → vX5_loosen x u Q := fun u Q hm k1 k2 => by
      unfold vX5_loosen
      refine mkIs' hw hx hm (fun _ _ _ => ⟨⟨by omega, by omega⟩, fun _ => ?_, fun w => absurd w (by omega)⟩) (fun q2 => absurd q2 (by omega))
      refine mkR' hm i 5 hi3 hin (by omega) hi rfl ?_
      have := mkIn2 (σ := u) (m := u 21) (Q := Q) hw hm (x := b i 5) (by omega)
      rw [xset_self] at this
      exact this k1 k2
    refine okR' h.1 i 5 hi3 hin (by omega) hi rfl (okIn' hw h.1 (s := b i 5) (by omega) ⟨⟨by omega, by omega⟩, fun q => ?_, fun q => ?_⟩)
    · have hws := hw.scat (b i 5)
      refine kept (A := fun s Q => vX0_scatter (b i 5) s (fun s => vX0_stacks s (fun r s => Q r s))) (B := fun s Q => mu (vX5_loosen_77 Q) (b i 5, 0, s)) (M := fun u Q => vX5_loosen x u Q) h hws (h.2.2.2.2.2.2.1.same (aMap_3 hn.2 (by omega) 4) (aMap_3 hn.2 (by omega) 5)) (r := aStacks (aMap (scatV (b i 5)) b)) (fun τ Q hc kk => ?_) (fun τ Q hm kk => ?_) (fun u Q hm kk => ?_) k
      · rw [← xset_self τ 8]
        exact okScat hw hc (by omega) (fun c hcc => okStacks hws hcc (kk c hcc))
      · rw [← xset_self τ 21]
        exact mkScat hw hm (by omega) (fun m' h' => mkStacks (by have := hws.1; omega) (fun j hj => by have := hws.root hj; have := hws.1; omega) h' (kk m' h'))
      · exact hM u Q hm (fun w => absurd w q) (fun _ => kk u (fun _ _ _ => rfl) hm)
    · exact hM σ _ h.2.1 (fun _ => ⟨rfl, k0⟩) (fun w => absurd q w)
  · unfold vX5_loosen
    exact mkIs' hw hx h.2.1 (fun i hi hin => absurd q (by omega)) (fun _ => ⟨rng0, fun w => absurd rfl w, fun _ => ⟨rfl, k0⟩⟩)
theorem hs8 (h : KB T σ b d H) (hx : rng x) (k : ∀ σ', KBx (T + 100) σ' → Fr σ σ' → K P σ') : lawS8 P x y z σ K := by
  have k0 := k σ (h.x (by omega)) (Fr.refl σ)
  have hw := h.2.2.1
  have hn := hw.1
  unfold lawS8 vX4_turn
  refine okHas' hw hx h.1 (fun i hi hin => ⟨⟨by omega, by omega⟩, fun _ => ?_, fun w => absurd w (by omega)⟩) (fun q => ⟨rng0, fun w => absurd rfl w, fun _ => ?_⟩)
  · have hi3 := hw.n3 hin
    have e0 : (i : Int) < aTurn b (b i 5) 3 0 := by rw [aTurn_3 hn.2, if_neg (by omega)]; exact hin
    refine kept (A := fun s Q => vX0_turnStackOf x s (fun s => vX0_property x 1 s (fun r s => Q r s))) (B := fun s Q => vX5_turns x s (fun s => vX5_of x 1 s (fun r s => Q r s))) (M := fun u Q => vX5_turn x u Q) h (hw.turn _) ((h.2.2.2.2.2.2.1.turn hn.2 (b i 5)).mono (by omega)) (r := aTurn b (b i 5) i 1) (fun τ Q hc kk => ?_) (fun τ Q hm kk => ?_) (fun u Q hm kk => ?_) k
    · rw [← xset_self τ 8]
      exact okTurn hw hc i hin hi (fun c hcc => okR hcc i 1 hi3 e0 (by omega) hi rfl (kk c hcc))
    · rw [← xset_self τ 21]
      exact mkTurn hw hm i hin hi (fun c hcc => mkR hcc i 1 hi3 e0 (by omega) hi rfl (kk c hcc))
    · unfold vX5_turn
      exact mkIs' hw hx hm (fun _ _ _ => ⟨⟨by omega, by omega⟩, fun _ => kk u (fun _ _ _ => rfl) hm, fun w => absurd w (by omega)⟩) (fun q2 => absurd q2 (by omega))
  · unfold vX5_turn
    exact mkIs' hw hx h.2.1 (fun i hi hin => absurd q (by omega)) (fun _ => ⟨rng0, fun w => absurd rfl w, fun _ => ⟨rfl, k0⟩⟩)
theorem hs9 (h : KB T σ b d H) (hx : rng x) (k : ∀ σ', KBx (T + 100) σ' → Fr σ σ' → K P σ') : lawS9 P x y z σ K := by
  have k0 := k σ (h.x (by omega)) (Fr.refl σ)
  have hw := h.2.2.1
  have hn := hw.1
  unfold lawS9 vX4_tap
  refine okHas' hw hx h.1 (fun i hi hin => ⟨⟨by omega, by omega⟩, fun _ => ?_, fun w => absurd w (by omega)⟩) (fun q => ⟨rng0, fun w => absurd rfl w, fun _ => ?_⟩)
  · have hi3 := hw.n3 hin
    refine kept (A := fun s Q => vX0_property x 4 s (fun r s => vX0_tapGlass x s (fun s => Q r s))) (B := fun s Q => vX5_taps x s (fun r s => Q r s)) (M := fun u Q => vX5_tap x u Q) h (hw.tap i hi3) ((h.2.2.2.2.2.2.1.tap i hi3).mono (by omega)) (r := b i 4) (fun τ Q hc kk => ?_) (fun τ Q hm kk => ?_) (fun u Q hm kk => ?_) k
    · rw [← xset_self τ 8]
      exact okR hc i 4 hi3 hin (by omega) hi rfl (okTap hc i hi3 hi kk)
    · rw [← xset_self τ 21]
      exact mkTap hw hm i hin hi kk
    · unfold vX5_tap
      exact mkIs' hw hx hm (fun _ _ _ => ⟨⟨by omega, by omega⟩, fun _ => kk u (fun _ _ _ => rfl) hm, fun w => absurd w (by omega)⟩) (fun q2 => absurd q2 (by omega))
  · unfold vX5_tap
    exact mkIs' hw hx h.2.1 (fun i hi hin => absurd q (by omega)) (fun _ => ⟨rng0, fun w => absurd rfl w, fun _ => ⟨rfl, k0⟩⟩)
theorem aPass_33 {T : Int} {b : xS} (hw : WFt T b) : ∀ n : Nat, b 3 3 ≤ aPass n b 3 3 ∧ aPass n b 3 3 ≤ b 3 3 + 3 * n
  | 0 => by unfold aPass; omega
  | n + 1 => by
    have ih := aPass_33 hw n
    have := aSec_33 (hw.pass n)
    unfold aPass
    omega
theorem hs10 (h : KB T σ b d H) (hx : rng x) (k : ∀ σ', KBx (T + 100) σ' → Fr σ σ' → K P σ') : lawS10 P x y z σ K := by
  have k0 := k σ (h.x (by omega)) (Fr.refl σ)
  have hw := h.2.2.1
  have ht := hw.2.1
  have hM : ∀ (u : xS) (Q : Int → xS → Prop), MB (u 21) b → (1 ≤ x ∧ x ≤ 999 → b 3 1 + x ≤ 9999 → vX5_keeps u (fun s => vX5_passes x s (fun r s => Q r s))) → (1 ≤ x ∧ x ≤ 999 → 9999 < b 3 1 + x → Q (-4) u) → (¬ (1 ≤ x ∧ x ≤ 999) → Q (-2) u) → vX5_pass x u Q := fun u Q hm k1 k2 k3 => by
    unfold vX5_pass
    have e := hm.n 1 (by omega)
    refine mkIn hx ⟨by omega, by omega⟩ ⟨by omega, by omega⟩ (fun q1 q2 => ⟨⟨by omega, by omega⟩, fun _ => ?_, fun w => absurd w (by omega)⟩) (fun q => ⟨rng0, fun w => absurd rfl w, fun _ => k3 (by omega)⟩)
    rw [e]
    exact ⟨⟨by omega, by omega⟩, fun q => k1 ⟨q1, q2⟩ q, fun q => k2 ⟨q1, q2⟩ (by omega)⟩
  have bad : ¬ (1 ≤ x ∧ x ≤ 999) → vX5_pass x σ (fun r2 u2 => -2 = r2 ∧ K P u2) := fun q => hM σ _ h.2.1 (fun w => absurd w q) (fun w => absurd w q) (fun _ => ⟨rfl, k0⟩)
  unfold lawS10 vX4_pass
  refine ⟨hx, fun q => bad (by omega), fun q1 => ⟨fun q2 => ?_, fun q2 => bad (by omega)⟩⟩
  refine okTimeFor' (by omega) hw h.1 hx (fun q => ⟨⟨by omega, by omega⟩, fun _ => ?_, fun w => absurd w (by omega)⟩) (fun q => ⟨rng0, fun w => absurd rfl w, fun _ => hM σ _ h.2.1 (fun _ w => absurd w (by omega)) (fun _ _ => ⟨rfl, k0⟩) (fun w => absurd w (by omega))⟩)
  refine kept (A := fun s Q => vX0_letPass x s (fun r s => Q r s)) (B := fun s Q => vX5_passes x s (fun r s => Q r s)) (M := fun u Q => vX5_pass x u Q) h (hw.passed x.toNat (by omega)) ((h.2.2.2.2.2.2.1.pass hw x.toNat).mono (by omega)) (r := aPass x.toNat b 3 3 - b 3 3) (fun τ Q hc kk => ?_) (fun τ Q hm kk => ?_) (fun u Q hm kk => ?_) k
  · rw [← xset_self τ 8]
    exact okPass (by omega) hw hc x.toNat (by omega) (by omega) kk
  · rw [← xset_self τ 21]
    exact mkPasses (by omega) hw hm x.toNat (by omega) (by omega) kk
  · exact hM u Q hm (fun _ _ => kk u (fun _ _ _ => rfl) hm) (fun _ w => absurd w (by omega)) (fun w => absurd w (by omega))
theorem hs11 (h : KB T σ b d H) (k : ∀ σ', KBx (T + 100) σ' → Fr σ σ' → K P σ') : lawS11 P x y z σ K := by
  have k0 := k σ (h.x (by omega)) (Fr.refl σ)
  have hw := h.2.2.1
  have ht := hw.2.1
  have hu := aUnt_in hw
  have hM : ∀ (u : xS) (Q : Int → xS → Prop), MB (u 21) b → (aUnt b = 0 → Q (-3) u) → (aUnt b ≠ 0 → ∀ a m', MB m' b → b 3 1 + aUnt b ≤ 9999 → vX5_keeps (xset (xset u 23 a) 21 m') (fun s => vX5_passes (aUnt b) s (fun r11 s => rng r11 ∧ ((r11 ≤ 0 → Q (-1) s) ∧ (¬ r11 ≤ 0 → Q (aUnt b) s))))) → (aUnt b ≠ 0 → ∀ a m', MB m' b → 9999 < b 3 1 + aUnt b → Q (-4) (xset (xset u 23 a) 21 m')) → vX5_await u Q := fun u Q hm k1 k2 k3 => by
    unfold vX5_await
    have := mkRunsAny (σ := u) (m := u 21) (Q := fun r1 σ2 => rng r1 ∧ ((¬ r1 = 0 → vX5_untilEvent σ2 (fun r5 σ6 => rng ((σ6 21 22) + r5) ∧ ((((σ6 21 22) + r5) ≤ 9999 → vX5_keeps σ6 (fun σ10 => vX5_passes r5 σ10 (fun r11 σ12 => rng r11 ∧ ((r11 ≤ 0 → Q (-1) σ12) ∧ (¬ r11 ≤ 0 → Q r5 σ12))))) ∧ (¬ ((σ6 21 22) + r5) ≤ 9999 → Q (-4) σ6)))) ∧ (r1 = 0 → Q (-3) σ2))) hw hm
    rw [xset_self] at this
    refine this (fun q => ⟨rng0, fun w => absurd rfl w, fun _ => k1 q⟩) (fun q => ⟨⟨by omega, by omega⟩, fun _ => ?_, fun w => absurd w (by omega)⟩)
    rw [← xset_self u 21]
    refine mkUnt (by omega) hw hm q (fun a m' h' => ?_)
    rw [xset_at, show m' 22 = b 3 1 from h'.n 1 (by omega)]
    exact ⟨⟨by omega, by omega⟩, fun w => k2 q a m' h' w, fun w => k3 q a m' h' (by omega)⟩
  unfold lawS11 vX4_await
  refine okUnt' hw h.1 ⟨⟨by omega, by omega⟩, fun q => ?_, fun q => hM σ _ h.2.1 (fun _ => ⟨rfl, k0⟩) (fun w => absurd q w) (fun w => absurd q w)⟩
  refine okTimeFor' (by omega) hw h.1 ⟨by omega, by omega⟩ (fun q2 => ⟨⟨by omega, by omega⟩, fun _ => ?_, fun w => absurd w (by omega)⟩) (fun q2 => ⟨rng0, fun w => absurd rfl w, fun _ => ?_⟩)
  · have hpos : b 3 3 < aPass (aUnt b).toNat b 3 3 := by
      obtain ⟨j, hj⟩ : ∃ j : Nat, (aUnt b).toNat = j + 1 := ⟨(aUnt b).toNat - 1, by omega⟩
      have hm := aPass_more hw j (by omega)
      have := aSec_one (hw.pass j) (by omega)
      rw [hj]
      unfold aPass
      omega
    have hub := aPass_33 hw (aUnt b).toNat
    refine kept (A := fun s Q => vX0_letPass (aUnt b) s (fun r s => Q (aUnt b) s)) (B := fun s Q => vX5_passes (aUnt b) s (fun r11 s => rng r11 ∧ ((r11 ≤ 0 → Q (-1) s) ∧ (¬ r11 ≤ 0 → Q (aUnt b) s)))) (M := fun u Q => vX5_await u Q) h (hw.passed (aUnt b).toNat (by omega)) ((h.2.2.2.2.2.2.1.pass hw (aUnt b).toNat).mono (by omega)) (r := aUnt b) (fun τ Q hc kk => ?_) (fun τ Q hm kk => ?_) (fun u Q hm kk => ?_) k
    · rw [← xset_self τ 8]
      exact okPass (by omega) hw hc (aUnt b).toNat (by omega) (by omega) kk
    · rw [← xset_self τ 21]
      exact mkPasses (by omega) hw hm (aUnt b).toNat (by omega) (by omega) (fun m' h' => ⟨⟨by omega, by omega⟩, fun w => absurd w (by omega), fun _ => kk m' h'⟩)
    · exact hM u Q hm (fun w => absurd w q) (fun _ a m' h' _ => kk _ (fun r h1 h2 => by rw [xset_ne h1, xset_ne h2]) (by rw [xset_eq]; exact h')) (fun _ _ _ _ w => absurd w (by omega))
  · refine hM σ _ h.2.1 (fun w => absurd w q) (fun _ _ _ _ w => absurd w (by omega)) (fun _ a m' h' _ => ⟨rfl, k _ ?_ ⟨fun r a1 a2 a3 a4 a5 a6 a7 => by rw [xset_ne a5, xset_ne a7], fun j hj => by rw [xset_ne (by omega), xset_ne (by omega)]⟩⟩)
    obtain ⟨h1, h2, h3, h4, h5, h6, h7, h8⟩ := h
    refine KB.x (T := T) ⟨?_, ?_, h3, h4, h5.congr ?_ ?_, h6.congr ?_ ?_, h7, h8⟩ (by omega)
    · rw [xset_ne (by omega), xset_ne (by omega)]; exact h1
    · rw [xset_eq]; exact h'
    · rw [xset_ne (by omega), xset_ne (by omega)]
    · rw [xset_ne (by omega), xset_ne (by omega)]
    · rw [xset_ne (by omega), xset_ne (by omega)]
    · rw [xset_ne (by omega), xset_ne (by omega)]
theorem hs12 (h : KB T σ b d H) (k : ∀ σ', KBx (T + 100) σ' → Fr σ σ' → K P σ') : lawS12 P x y z σ K := by
  have hw := h.2.2.1
  unfold lawS12 vX4_mark
  refine kept (A := fun s Q => vX0_markedTime s (fun r s => vX0_markTime s (fun s => Q r s))) (B := fun s Q => ∀ σ3 : xS, σ3 = xup s 21 23 (s 21 22) → Q (s 21 23) σ3) (M := fun u Q => vX5_mark u Q) h hw.mark (h.2.2.2.2.2.2.1.same (by unfold aMark; rw [xup_app, if_neg (by omega)]) (by unfold aMark; rw [xup_app, if_neg (by omega)])) (r := b 3 2) (fun τ Q hc kk => ?_) (fun τ Q hm kk => ?_) (fun u Q hm kk => ?_) k
  · unfold vX0_markedTime vX0_markTime
    intro s hs
    have e : s = xset τ 8 (cu (τ 8) (57 + 2) (b 3 1)) := by
      rw [hs, show τ 8 58 = b 3 1 from hc.n 1 (by omega), xup_set]
      rfl
    rw [e, show τ 8 59 = b 3 2 from hc.n 2 (by omega)]
    exact kk _ (hc.scal (by omega) (by omega) (by omega) _)
  · intro s hs
    have e : s = xset τ 21 (cu (τ 21) (21 + 2) (b 3 1)) := by
      rw [hs, show τ 21 22 = b 3 1 from hm.n 1 (by omega), xup_set]
      rfl
    rw [e, show τ 21 23 = b 3 2 from hm.n 2 (by omega)]
    exact kk _ (hm.scal (by omega) (by omega) (by omega) _)
  · unfold vX5_mark
    exact kk u (fun _ _ _ => rfl) hm
theorem hs14 (h : KB T σ b d H) (k : ∀ σ', KBx (T + 100) σ' → Fr σ σ' → K P σ') : lawS14 P x y z σ K := by
  have k0 := k σ (h.x (by omega)) (Fr.refl σ)
  obtain ⟨h1, h2, h3, h4, h5, h6, h7, h8⟩ := h
  have hd := h5.1
  have hH : ∀ j, j < d → 0 ≤ H j 3 3 := fun j hj => (h4 j hj).2.2.2.1.1
  unfold lawS14 vX4_undo
  refine okRestore h5 (fun q => ⟨rng0, fun _ => ?_, fun w => absurd rfl w⟩) (fun q f c hc hhc => ⟨⟨by omega, by omega⟩, fun w => absurd w (by omega), fun _ => ?_⟩)
  · exact mkUndo hd hH h6 (fun _ => ⟨rfl, k0⟩) (fun w => absurd w (by omega))
  · unfold vX1_states
    have e : xset (xset σ 5 f) 8 c 5 1 = ((d - 1 : Nat) : Int) := by
      obtain ⟨_, nx, _, e1, _⟩ := hhc
      exact e1
    rw [e]
    have h6' : HM (xset (xset σ 5 f) 8 c) d H := h6.congr (by rw [xset_ne (by omega), xset_ne (by omega)]) (by rw [xset_ne (by omega), xset_ne (by omega)])
    refine mkUndo hd hH h6' (fun w => absurd w (by omega)) (fun _ f2 m hf2 hm hhm => ⟨rfl, k _ (KB.x (T := T) (b := H (d - 1)) (d := d - 1) (H := H) ⟨?_, ?_, h4 _ (by omega), fun j hj => h4 j (by omega), ?_, hhm, h8 _ (by omega), fun j hj => h8 j (by omega)⟩ (by omega)) ⟨fun r a1 a2 a3 a4 a5 a6 a7 => ?_, fun j hj => ?_⟩⟩)
    · rw [xset_ne (by omega), xset_ne (by omega), xset_eq]; exact hc
    · rw [xset_eq]; exact hm
    · exact hhc.congr (by rw [xset_ne (by omega), xset_ne (by omega)]) (by rw [xset_ne (by omega), xset_ne (by omega)])
    · rw [xset_ne a5, xset_ne a4, xset_ne a3, xset_ne a1]
    · rw [xset_ne (by omega), xset_eq, hf2 j hj, xset_ne (by omega), xset_ne (by omega)]
end
