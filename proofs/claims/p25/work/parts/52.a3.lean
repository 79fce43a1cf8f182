/-! the law turns, taps, joins, loosens, renews -/
theorem akTaps {σ : xS} {m : Nat → Int} {b : xS} {g : Int} {Q : Int → xS → Prop} (h : AB m b) (i : Nat) (hi3 : i < 3) (hi : (i : Int) < b 3 0) (hg : g = (i : Int)) (k : ∀ m', AB m' (aTap b i) → Q (b i 4) (xset σ 40 m')) : vL_taps g (xset σ 40 m) Q := by
  subst hg
  unfold vL_taps
  rw [show (7 * (i : Int) + 4).toNat = 7 * i + 4 by omega, show (7 * (i : Int) + 5).toNat = 7 * i + 5 by omega, xset_at, h.r4 hi3 hi]
  refine ⟨⟨by omega, by omega⟩, fun t ht s1 e1 => ⟨⟨by omega, by omega⟩, fun s2 e2 s3 e3 => ?_⟩⟩
  have A1 : AB (cu m (7 * i + 4) 0) (xup b i 4 0) := h.glass hi3 (p := 4) (by omega) 0
  have A2 : AB (cu (cu m (7 * i + 4) 0) (7 * i + 5) 0) (aFree b i) := A1.glass hi3 (p := 6) (by omega) 0
  rw [xup_cu] at e1
  rw [e1, xup_cu] at e2
  rw [e2, xup_cu, xset_at, A2.2.2.2.2.2.1, show aFree b i 3 5 = b 3 5 by rw [aFree_app, if_neg (by omega)]] at e3
  rw [e3, ht]
  exact k _ (A2.scal (k := 5) (by omega) (by omega) (by omega) (b 3 5 + 1))
theorem akTurns {σ : xS} {m : Nat → Int} {b : xS} {g : Int} {Q : xS → Prop} {T : Int} (hw : WFt T b) (h : AB m b) (i : Nat) (hi : (i : Int) < b 3 0) (hg : g = (i : Int)) (k : ∀ m', AB m' (aTurn b (b i 5)) → Q (xset σ 40 m')) : vL_turns g (xset σ 40 m) Q := by
  subst hg
  have hn := hw.1
  have hi3 := hw.n3 hi
  have hv := hw.2.2.2.2 i hi
  unfold vL_turns
  rw [show (7 * (i : Int) + 6).toNat = 7 * i + 6 by omega, xset_at, h.r5 hi3 hi]
  refine ⟨⟨by omega, by omega⟩, fun t ht => ?_⟩
  rw [ht]
  refine mu_of (fun a => ∃ (q : Nat) (c1 : Nat → Int), a = (b i 5, (q : Int), xset σ 40 c1) ∧ (q : Int) ≤ b 3 0 ∧ AB c1 (aMapK (turnV (b i 5)) b q)) (fun a => (3 - a.2.1).toNat) ?_ _ ⟨0, m, rfl, by omega, by rw [aMapK_0]; exact h⟩
  rintro K _ ⟨q, c1, rfl, hq, h1⟩ hK
  have e3 : ∀ p, aMapK (turnV (b i 5)) b q 3 p = b 3 p := fun p => by rw [aMapK_app, if_neg (by omega)]
  unfold vL_turns_12
  dsimp only
  rw [show xset σ 40 c1 40 21 = b 3 0 by rw [xset_at, h1.2.1, e3]]
  refine ⟨⟨by omega, by omega⟩, ⟨by omega, by omega⟩, fun r s hs => ?_, fun r => ?_⟩
  · have e : (b 3 0).toNat = q := by omega
    rw [xset_at, xup_cu, h1.2.2.2.2.1, e3] at hs
    rw [hs]
    have h2 := h1.scal (k := 4) (by omega) (by omega) (by omega) (b 3 4 + 1)
    refine k _ ?_
    unfold aTurn aMap
    rw [e]
    exact h2
  · have hq1 : (q : Int) < b 3 0 := by omega
    have hq3 : q < 3 := by omega
    have hn1 : (q : Int) < aMapK (turnV (b i 5)) b q 3 0 := by rw [e3]; exact hq1
    have row : ∀ p, aMapK (turnV (b i 5)) b q q p = b q p := fun p => by rw [aMapK_app, if_neg (by omega)]
    have hvq := hw.2.2.2.2 q hq1
    have nxt : ∀ (c2 : Nat → Int) (γ : xS), AB c2 γ → (∀ p, γ q p = turnV (b i 5) q (b q) p) → (∀ j p, j ≠ q → γ j p = aMapK (turnV (b i 5)) b q j p) → K (b i 5, (q : Int) + 1, xset σ 40 c2) := fun c2 γ h2 h3 h4 => hK _ ⟨q + 1, c2, by push_cast; rfl, by omega, by rw [← aMapK_step h3 h4]; exact h2⟩ (by show (3 - ((q : Int) + 1)).toNat < (3 - (q : Int)).toNat; omega)
    rw [show (7 * (q : Int)).toNat = 7 * q by omega, show (7 * (q : Int) + 6).toNat = 7 * q + 6 by omega, show (7 * (q : Int) + 1).toNat = 7 * q + 1 by omega, show (7 * (q : Int) + 4).toNat = 7 * q + 4 by omega, show (7 * (q : Int) + 5).toNat = 7 * q + 5 by omega]
    rw [show xset σ 40 c1 40 (7 * q + 6) = b q 5 by rw [xset_at, h1.r5 hq3 hn1, row], show xset σ 40 c1 40 (7 * q) = b q 0 by rw [xset_at, h1.r0 hq3 hn1, row], show xset σ 40 c1 40 (7 * q + 1) = b q 1 by rw [xset_at, h1.r1 hq3 hn1, row]]
    refine ⟨⟨by omega, by omega⟩, ⟨by omega, by omega⟩, ⟨by omega, by omega⟩, fun z => ?_, fun z => ⟨⟨by omega, by omega⟩, ⟨by omega, by omega⟩, fun t2 ht2 s1 e1 => ⟨⟨by omega, by omega⟩, fun s2 e2 => ⟨⟨by omega, by omega⟩, fun s3 e3' => ?_⟩⟩⟩⟩
    · refine nxt c1 _ h1 (fun p => ?_) (fun j p _ => rfl)
      rw [row, turnV, if_neg z]
    · rw [xup_cu] at e1
      rw [e1, xup_cu] at e2
      rw [e2, xup_cu] at e3'
      rw [e3', ht2]
      have A1 : AB (cu c1 (7 * q + 1) (b q 0 - b q 1)) (xup (aMapK (turnV (b i 5)) b q) q 1 (b q 0 - b q 1)) := h1.glass hq3 (p := 1) (by omega) _
      have A2 : AB (cu (cu c1 (7 * q + 1) (b q 0 - b q 1)) (7 * q + 4) 0) (xup (xup (aMapK (turnV (b i 5)) b q) q 1 (b q 0 - b q 1)) q 4 0) := A1.glass hq3 (p := 4) (by omega) 0
      have A3 : AB (cu (cu (cu c1 (7 * q + 1) (b q 0 - b q 1)) (7 * q + 4) 0) (7 * q + 5) 0) (aFree (xup (aMapK (turnV (b i 5)) b q) q 1 (b q 0 - b q 1)) q) := A2.glass hq3 (p := 6) (by omega) 0
      refine nxt _ _ A3 (fun p => ?_) (fun j p hj => ?_)
      · rw [aFree_app, xup_app, row, turnV, if_pos z]
        by_cases p4 : p = 4 ∨ p = 6
        · rw [if_pos ⟨rfl, p4⟩, if_neg (by omega), if_pos p4]
        · rw [if_neg (fun w => p4 w.2)]
          by_cases p1 : p = 1
          · rw [if_pos ⟨rfl, p1⟩, if_pos p1]
          · rw [if_neg (fun w => p1 w.2), if_neg p1, if_neg p4]
      · rw [aFree_app, if_neg (by omega), xup_app, if_neg (by omega)]
theorem akJoin {σ : xS} {m : Nat → Int} {b : xS} {x2 x3 x y j : Int} {Q : Int → xS → Prop} {T : Int} (hw : WFt T b) (h : AB m b) (hx : 0 ≤ x ∧ x ≤ 3) (hy : 0 ≤ y ∧ y ≤ 3) (k : ∀ m', AB m' (aMap (joinV x y j) b) → vX4_fix x2 x3 (xset σ 40 m') (fun r7 σ8 => rng r7 ∧ (rng j ∧ ((¬ r7 = j → Q 0 σ8) ∧ (r7 = j → Q 1 σ8))))) : mu (vL_fixes_65 Q) (x2, x3, x, y, j, 0, xset σ 40 m) := by
  have hn := hw.1
  refine mu_of (fun a => ∃ (q : Nat) (c1 : Nat → Int), a = (x2, x3, x, y, j, (q : Int), xset σ 40 c1) ∧ (q : Int) ≤ b 3 0 ∧ AB c1 (aMapK (joinV x y j) b q)) (fun a => (3 - a.2.2.2.2.2.1).toNat) ?_ _ ⟨0, m, rfl, by omega, by rw [aMapK_0]; exact h⟩
  rintro K _ ⟨q, c1, rfl, hq, h1⟩ hK
  have e3 : ∀ p, aMapK (joinV x y j) b q 3 p = b 3 p := fun p => by rw [aMapK_app, if_neg (by omega)]
  unfold vL_fixes_65
  dsimp only
  rw [show xset σ 40 c1 40 21 = b 3 0 by rw [xset_at, h1.2.1, e3]]
  refine ⟨⟨by omega, by omega⟩, ⟨by omega, by omega⟩, fun r => ?_, fun r => ?_⟩
  · have e : (b 3 0).toNat = q := by omega
    refine k _ ?_
    unfold aMap
    rw [e]
    exact h1
  · have hq1 : (q : Int) < b 3 0 := by omega
    have hq3 : q < 3 := by omega
    have hn1 : (q : Int) < aMapK (joinV x y j) b q 3 0 := by rw [e3]; exact hq1
    have row : ∀ p, aMapK (joinV x y j) b q q p = b q p := fun p => by rw [aMapK_app, if_neg (by omega)]
    have hvq := hw.2.2.2.2 q hq1
    have fin : ∀ v : Int, v = joinV x y j q (b q) 5 → vL_fixes_128 K Q x2 x3 x y j (q : Int) (7 * (q : Int) + 6) v (xset σ 40 c1) := fun v hv => by
      unfold vL_fixes_128
      refine ⟨⟨by omega, by omega⟩, fun s hs => ?_⟩
      rw [show (7 * (q : Int) + 6).toNat = 7 * q + 6 by omega, xup_cu] at hs
      rw [hs]
      have h2 : AB (cu c1 (7 * q + 6) v) (xup (aMapK (joinV x y j) b q) q 5 v) := h1.glass hq3 (p := 5) (by omega) v
      refine hK _ ⟨q + 1, _, by push_cast; rfl, by omega, ?_⟩ (by show (3 - ((q : Int) + 1)).toNat < (3 - (q : Int)).toNat; omega)
      rw [← aMapK_step (γ := xup (aMapK (joinV x y j) b q) q 5 v) (fun p => ?_) (fun j p hj => ?_)]
      · exact h2
      · rw [xup_app, row]
        by_cases p5 : p = 5
        · rw [if_pos ⟨rfl, p5⟩, p5, hv]
        · rw [if_neg (fun w => p5 w.2), joinV]
          split <;> rfl
      · rw [xup_app, if_neg (by omega)]
    rw [show xset σ 40 c1 40 (7 * (q : Int) + 6).toNat = b q 5 by rw [show (7 * (q : Int) + 6).toNat = 7 * q + 6 by omega, xset_at, h1.r5 hq3 hn1, row]]
    refine ⟨⟨by omega, by omega⟩, ⟨by omega, by omega⟩, ⟨by omega, by omega⟩, fun z => fin j (by rw [joinV, if_pos (Or.inl z), if_pos rfl]), fun z => ⟨⟨by omega, by omega⟩, fun z2 => fin _ ?_, fun z2 => fin j (by rw [joinV, if_pos (Or.inr z2), if_pos rfl])⟩⟩
    rw [joinV, if_neg (by rintro (w | w); exact z w; exact z2 w)]
/-- the glasses loosened, and how many of all are their stack's first -/
theorem akScat {σ : xS} {m : Nat → Int} {b : xS} {x2 x : Int} {Q : Int → xS → Prop} {T : Int} (hw : WFt T b) (h : AB m b) (hx : 0 ≤ x ∧ x ≤ 3) (k : ∀ m', AB m' (aMap (scatV x) b) → vX4_loosen x2 (xset σ 40 m') (fun r11 σ12 => rng r11 ∧ (rng (aStacks (aMap (scatV x) b)) ∧ ((¬ r11 = aStacks (aMap (scatV x) b) → Q 0 σ12) ∧ (r11 = aStacks (aMap (scatV x) b) → Q 1 σ12))))) : mu (vL_loosens_83 Q) (x2, x, 0, 0, xset σ 40 m) := by
  have hn := hw.1
  have e30 : aMap (scatV x) b 3 0 = b 3 0 := aMap_3 hn.2 (by omega) 0
  refine mu_of (fun a => ∃ (q : Nat) (c1 : Nat → Int), a = (x2, x, cntB (fun i => decide (aMap (scatV x) b i 5 = (i : Int))) q, (q : Int), xset σ 40 c1) ∧ (q : Int) ≤ b 3 0 ∧ AB c1 (aMapK (scatV x) b q)) (fun a => (3 - a.2.2.2.1).toNat) ?_ _ ⟨0, m, rfl, by omega, by rw [aMapK_0]; exact h⟩
  rintro K _ ⟨q, c1, rfl, hq, h1⟩ hK
  have hc := cntB_in (fun i => decide (aMap (scatV x) b i 5 = (i : Int))) q
  have e3 : ∀ p, aMapK (scatV x) b q 3 p = b 3 p := fun p => by rw [aMapK_app, if_neg (by omega)]
  unfold vL_loosens_83
  dsimp only
  rw [show xset σ 40 c1 40 21 = b 3 0 by rw [xset_at, h1.2.1, e3]]
  refine ⟨⟨by omega, by omega⟩, ⟨by omega, by omega⟩, fun r => ?_, fun r => ?_⟩
  · have e : (b 3 0).toNat = q := by omega
    have e5 : aStacks (aMap (scatV x) b) = cntB (fun i => decide (aMap (scatV x) b i 5 = (i : Int))) q := by
      unfold aStacks
      rw [e30, e]
    rw [← e5]
    refine k _ ?_
    unfold aMap
    rw [e]
    exact h1
  · have hq1 : (q : Int) < b 3 0 := by omega
    have hq3 : q < 3 := by omega
    have hn1 : (q : Int) < aMapK (scatV x) b q 3 0 := by rw [e3]; exact hq1
    have row : ∀ p, aMapK (scatV x) b q q p = b q p := fun p => by rw [aMapK_app, if_neg (by omega)]
    have hvq := hw.2.2.2.2 q hq1
    have fin : ∀ v : Int, v = scatV x q (b q) 5 → rng v → vL_loosens_130 K Q x2 x (cntB (fun i => decide (aMap (scatV x) b i 5 = (i : Int))) q) (q : Int) (7 * (q : Int) + 6) v (xset σ 40 c1) := fun v hv hrv => by
      unfold vL_loosens_130
      refine ⟨⟨by omega, by omega⟩, fun s hs => ?_⟩
      rw [show (7 * (q : Int) + 6).toNat = 7 * q + 6 by omega, xup_cu] at hs
      rw [hs]
      have h2 : AB (cu c1 (7 * q + 6) v) (xup (aMapK (scatV x) b q) q 5 v) := h1.glass hq3 (p := 5) (by omega) v
      have h3 : AB (cu c1 (7 * q + 6) v) (aMapK (scatV x) b (q + 1)) := by
        rw [← aMapK_step (γ := xup (aMapK (scatV x) b q) q 5 v) (fun p => ?_) (fun j p hj => ?_)]
        · exact h2
        · rw [xup_app, row]
          by_cases p5 : p = 5
          · rw [if_pos ⟨rfl, p5⟩, p5, hv]
          · rw [if_neg (fun w => p5 w.2), scatV]
            split <;> rfl
        · rw [xup_app, if_neg (by omega)]
      have nxt : ∀ w : Int, w = cntB (fun i => decide (aMap (scatV x) b i 5 = (i : Int))) (q + 1) → K (x2, x, w, (q : Int) + 1, xset σ 40 (cu c1 (7 * q + 6) v)) := fun w hww => hK _ ⟨q + 1, _, by rw [hww]; push_cast; rfl, by omega, h3⟩ (by show (3 - ((q : Int) + 1)).toNat < (3 - (q : Int)).toNat; omega)
      have ev : aMap (scatV x) b q 5 = v := by rw [aMap_row hq1, hv]
      rw [show (7 * (q : Int) + 6).toNat = 7 * q + 6 by omega, xset_at, cu_app, if_pos rfl]
      refine ⟨⟨by omega, by omega⟩, hrv, ⟨by omega, by omega⟩, fun z => nxt _ ?_, fun z => nxt _ ?_⟩
      · rw [cntB, if_neg (by simpa [ev] using z), Int.add_zero]
      · rw [cntB, if_pos (by simpa [ev] using z)]
    rw [show xset σ 40 c1 40 (7 * (q : Int) + 6).toNat = b q 5 by rw [show (7 * (q : Int) + 6).toNat = 7 * q + 6 by omega, xset_at, h1.r5 hq3 hn1, row]]
    exact ⟨⟨by omega, by omega⟩, ⟨by omega, by omega⟩, ⟨by omega, by omega⟩, fun z => fin _ (by rw [scatV, if_neg z]) ⟨by omega, by omega⟩, fun z => fin _ (by rw [scatV, if_pos z, if_pos rfl]) ⟨by omega, by omega⟩⟩
theorem akLoosens {σ : xS} {m : Nat → Int} {b : xS} {g : Int} {Q : Int → xS → Prop} {T : Int} (hw : WFt T b) (h : AB m b) (i : Nat) (hi : (i : Int) < b 3 0) (hg : g = (i : Int)) (k1 : aIn b (b i 5) = 1 → vX4_loosen g (xset σ 40 m) (fun r25 σ26 => rng r25 ∧ ((¬ r25 = (-3) → Q 0 σ26) ∧ (r25 = (-3) → Q 1 σ26)))) (k2 : aIn b (b i 5) ≠ 1 → mu (vL_loosens_83 Q) (g, b i 5, 0, 0, xset σ 40 m)) : vL_loosens g (xset σ 40 m) Q := by
  have hn := hw.1
  have hi3 := hw.n3 hi
  have hv := hw.2.2.2.2 i hi
  unfold vL_loosens
  rw [show (7 * g + 6).toNat = 7 * i + 6 by omega, xset_at, h.r5 hi3 hi]
  refine ⟨⟨by omega, by omega⟩, fun t ht => ?_⟩
  rw [ht]
  refine mu_of (fun a => ∃ q : Nat, a = (g, b i 5, cntB (fun j => decide (b j 5 = b i 5)) q, 0, (q : Int), xset σ 40 m) ∧ (q : Int) ≤ b 3 0) (fun a => (3 - a.2.2.2.2.1).toNat) ?_ _ ⟨0, rfl, by omega⟩
  rintro K _ ⟨q, rfl, hq⟩ hK
  have hc := cntB_in (fun j => decide (b j 5 = b i 5)) q
  unfold vL_loosens_19
  dsimp only
  rw [show xset σ 40 m 40 21 = b 3 0 by rw [xset_at, h.2.1]]
  refine ⟨⟨by omega, by omega⟩, ⟨by omega, by omega⟩, fun r => ?_, fun r => ?_⟩
  · have e : (b 3 0).toNat = q := by omega
    have e2 : aIn b (b i 5) = cntB (fun j => decide (b j 5 = b i 5)) q := by unfold aIn; rw [e]
    exact ⟨⟨by omega, by omega⟩, fun z => k2 (by omega), fun z => k1 (by omega)⟩
  · have hq1 : (q : Int) < b 3 0 := by omega
    have hvq := hw.2.2.2.2 q hq1
    have nxt : ∀ v, v = cntB (fun j => decide (b j 5 = b i 5)) (q + 1) → K (g, b i 5, v, 0, (q : Int) + 1, xset σ 40 m) := fun v hv => hK _ ⟨q + 1, by rw [hv]; push_cast; rfl, by omega⟩ (by show (3 - ((q : Int) + 1)).toNat < (3 - (q : Int)).toNat; omega)
    rw [show xset σ 40 m 40 (7 * (q : Int) + 6).toNat = b q 5 by rw [show (7 * (q : Int) + 6).toNat = 7 * q + 6 by omega, xset_at, h.r5 (by omega) hq1]]
    refine ⟨⟨by omega, by omega⟩, ⟨by omega, by omega⟩, ⟨by omega, by omega⟩, fun z => nxt _ ?_, fun z => nxt _ ?_⟩
    · rw [cntB, if_neg (by simpa using z), Int.add_zero]
    · rw [cntB, if_pos (by simpa using z)]
/-- a new number of glasses -/
theorem akRenew {σ : xS} {m : Nat → Int} {b : xS} {n : Int} {Q : Int → xS → Prop} (h : AB m b) (hb : 0 ≤ b 3 0 ∧ b 3 0 ≤ 3) (hn : 1 ≤ n ∧ n ≤ 3) (k : ∀ m', AB m' (aRenew b n) → vX4_setGlasses n (xset σ 40 m') (fun r13 σ14 => rng r13 ∧ (rng (b 3 0) ∧ ((¬ r13 = b 3 0 → Q 0 σ14) ∧ (r13 = b 3 0 → vX4_setGlasses 4 σ14 (fun r18 σ19 => rng r18 ∧ ((¬ r18 = (-2) → Q 0 σ19) ∧ (r18 = (-2) → Q 1 σ19)))))))) : vL_setsGlasses n (xset σ 40 m) Q := by
  unfold vL_setsGlasses
  rw [show xset σ 40 m 40 21 = b 3 0 by rw [xset_at, h.2.1]]
  refine mu_of (fun a => ∃ (q : Nat) (m1 : Nat → Int), a = (n, b 3 0, (q : Int), xset σ 40 m1) ∧ q ≤ 3 ∧ (∀ j p : Nat, j < q → p < 7 → m1 (7 * j + p) = rawV j (if (j : Int) < b 3 0 then b j 0 else 5) p) ∧ (∀ x, 7 * q ≤ x → m1 x = m x)) (fun a => (3 - a.2.2.1).toNat) ?_ _ ⟨0, m, rfl, by omega, fun j p hj => absurd hj (Nat.not_lt_zero j), fun _ _ => rfl⟩
  rintro K _ ⟨q, m1, rfl, hq, h1, h2⟩ hK
  unfold vL_setsGlasses_8
  refine ⟨⟨by omega, by omega⟩, fun r s hs => ?_, fun r => ⟨⟨by omega, by omega⟩, ?_⟩⟩
  · have hq3 : q = 3 := by omega
    subst hq3
    rw [xup_cu] at hs
    rw [hs]
    obtain ⟨a1, a2, a3, a4, a5, a6, a7⟩ := h
    have e0 : aRenew b n 3 0 = n := by unfold aRenew; rw [if_pos ⟨rfl, rfl⟩]
    have eo : ∀ r p : Nat, 3 ≤ r → (r ≠ 3 ∨ p ≠ 0) → aRenew b n r p = b r p := fun r p hr hp => by
      unfold aRenew
      rw [if_neg (by omega), if_neg (by omega)]
    refine k _ ⟨fun i p hi hi3 hp => ?_, ?_, ?_, ?_, ?_, ?_, fun j hj => ?_⟩
    · have := pip_lt hp
      rw [cu_app, if_neg (by omega), h1 i (pip p) hi3 this, aRenew_raw b n i p hi3 hp]
    · rw [cu_app, if_pos rfl, e0]
    · rw [cu_app, if_neg (by omega), h2 _ (by omega), eo 3 1 (by omega) (by omega)]; exact a3
    · rw [cu_app, if_neg (by omega), h2 _ (by omega), eo 3 3 (by omega) (by omega)]; exact a4
    · rw [cu_app, if_neg (by omega), h2 _ (by omega), eo 3 4 (by omega) (by omega)]; exact a5
    · rw [cu_app, if_neg (by omega), h2 _ (by omega), eo 3 5 (by omega) (by omega)]; exact a6
    · rw [cu_app, if_neg (by omega), h2 _ (by omega), a7 j hj, eo 3 3 (by omega) (by omega), evc_same (b := b) (b' := aRenew b n) (fun p' => eo _ p' (by omega) (by omega))]
  · have hq3 : q < 3 := by omega
    have blk : ∀ u : Int, u = (if (q : Int) < b 3 0 then b q 0 else 5) → mu (vL_setsGlasses_36 K Q) (n, b 3 0, (q : Int), u, 0, xset σ 40 m1) := by
      intro u hu
      refine mu_of (fun a => ∃ (y : Nat) (m2 : Nat → Int), a = (n, b 3 0, (q : Int), u, (y : Int), xset σ 40 m2) ∧ y ≤ 7 ∧ (∀ p, p < y → m2 (7 * q + p) = rawV q u p) ∧ (∀ x, (x < 7 * q ∨ 7 * q + y ≤ x) → m2 x = m1 x)) (fun a => (7 - a.2.2.2.2.1).toNat) ?_ _ ⟨0, m1, rfl, by omega, fun p hp => absurd hp (Nat.not_lt_zero p), fun _ _ => rfl⟩
      rintro K2 _ ⟨y, m2, rfl, hy, h3, h4⟩ hK2
      unfold vL_setsGlasses_36
      refine ⟨⟨by omega, by omega⟩, fun r2 => ?_, fun r2 => ?_⟩
      · have hy7 : y = 7 := by omega
        subst hy7
        refine hK _ ⟨q + 1, m2, by push_cast; rfl, by omega, fun j p hj hp => ?_, fun x hx => ?_⟩ (by show (3 - ((q : Int) + 1)).toNat < (3 - (q : Int)).toNat; omega)
        · by_cases hjq : j = q
          · subst hjq
            rw [h3 p hp, hu]
          · rw [h4 _ (by omega)]
            exact h1 j p (by omega) hp
        · rw [h4 x (by omega), h2 x (by omega)]
      · have fin : ∀ v : Int, v = rawV q u y → vL_setsGlasses_85 K K2 Q n (b 3 0) (q : Int) u (y : Int) (7 * (q : Int) + (y : Int)) v (xset σ 40 m2) := by
          intro v hv
          unfold vL_setsGlasses_85
          refine ⟨⟨by omega, by omega⟩, fun s hs => ?_⟩
          rw [xup_cu, show (7 * (q : Int) + (y : Int)).toNat = 7 * q + y by omega] at hs
          rw [hs]
          refine hK2 _ ⟨y + 1, _, by push_cast; rfl, by omega, fun p hp => ?_, fun x hx => ?_⟩ (by show (7 - ((y : Int) + 1)).toNat < (7 - (y : Int)).toNat; omega)
          · rw [cu_app]
            by_cases hpy : p = y
            · rw [if_pos (by omega), hpy, hv]
            · rw [if_neg (by omega)]
              exact h3 p (by omega)
          · rw [cu_app, if_neg (by omega)]
            exact h4 x (by omega)
        refine ⟨fun z0 => ⟨fun z3 => ⟨fun z6 => fin 0 ?_, fun z6 => fin _ ?_⟩, fun z3 => fin 3 ?_⟩, fun z0 => fin u ?_⟩ <;> unfold rawV
        · rw [if_neg (by omega), if_neg (by omega), if_neg (by omega)]
        · rw [if_neg (by omega), if_neg (by omega), if_pos (by omega)]
        · rw [if_neg (by omega), if_pos (by omega)]
        · rw [if_pos (by omega)]
    refine ⟨fun r2 => blk 5 (by rw [if_neg (by omega)]), fun r2 => ⟨⟨by omega, by omega⟩, ?_⟩⟩
    rw [xset_at]
    refine blk _ ?_
    rw [if_pos (by omega), show (7 * (q : Int)).toNat = 7 * q by omega, h2 _ (by omega)]
    exact h.1 q 0 (by omega) hq3 (by omega)
/-! at first -/
def a01 : Nat → Int := fun j => if j = 0 then 3 else if j = 7 then 5 else if j = 14 then 8 else if j = 3 ∨ j = 10 ∨ j = 17 then 3 else if j = 13 then 1 else if j = 20 then 2 else if j = 21 then 3 else if 30 ≤ j ∧ j < 42 then -1 else 0
theorem a01_ab : AB a01 b01 := by
  refine ⟨fun i p _ h2 h3 => ?_, by decide, by decide, by decide, by decide, by decide, fun j hj => ?_⟩
  · rcases (show i = 0 ∨ i = 1 ∨ i = 2 by omega) with rfl | rfl | rfl <;> rcases (show p = 0 ∨ p = 1 ∨ p = 2 ∨ p = 3 ∨ p = 4 ∨ p = 5 ∨ p = 6 by omega) with rfl | rfl | rfl | rfl | rfl | rfl | rfl <;> decide
  · have e : b01 3 3 = 0 := by decide
    rw [e, if_neg (by omega)]
    unfold a01
    rw [if_neg (by omega), if_neg (by omega), if_neg (by omega), if_neg (by omega), if_neg (by omega), if_neg (by omega), if_neg (by omega), if_pos (by omega)]
theorem ak_put3 {τ : xS} {f : Nat → Int} {x : Nat} {y : Int} {K : Int × xS → Prop} {Q : xS → Prop} (hx : x < 3) (hf : τ 40 = f) (k : K ((x : Int) + 1, xset τ 40 (cu (cu (cu f (7 * x) y) (7 * x + 3) 3) (7 * x + 6) (x : Int)))) : vL_begins_36 K Q (x : Int) (7 * (x : Int)) y τ := by
  unfold vL_begins_36
  rw [show (7 * (x : Int)).toNat = 7 * x by omega, show (7 * (x : Int) + 3).toNat = 7 * x + 3 by omega, show (7 * (x : Int) + 6).toNat = 7 * x + 6 by omega]
  refine ⟨⟨by omega, by omega⟩, fun s2 e2 => ⟨⟨by omega, by omega⟩, fun s3 e3 => ⟨⟨by omega, by omega⟩, fun s4 e4 => ?_⟩⟩⟩
  have : s4 = xset τ 40 (cu (cu (cu f (7 * x) y) (7 * x + 3) 3) (7 * x + 6) (x : Int)) := by
    rw [e4, e3, e2, ← hf, xup_set τ, xup_cu, xup_cu]
    rfl
  rw [this]
  exact k
theorem akBegins {σ : xS} {Q : xS → Prop} (k : ∀ m', AB m' b01 → Q (xset σ 40 m')) : vL_begins (xset σ 40 (fun _ => 0)) Q := by
  unfold vL_begins
  intro s e
  rw [xup_cu] at e
  rw [e]
  have tail : ∀ m0 : Nat → Int, (∀ x, x < 64 → (x < 30 ∨ 42 ≤ x) → m0 x = a01 x) → mu (vL_begins_65 Q) (30, xset σ 40 m0) := fun m0 h0 => by
    refine mu_of (fun a => ∃ (j : Nat) (m1 : Nat → Int), a = (((30 + j : Nat) : Int), xset σ 40 m1) ∧ j ≤ 12 ∧ (∀ x, m1 x = if 30 ≤ x ∧ x < 30 + j then -1 else m0 x)) (fun a => (42 - a.1).toNat) ?_ _ ⟨0, m0, rfl, by omega, fun x => by rw [if_neg (by omega)]⟩
    rintro K _ ⟨j, m1, rfl, hj, h1⟩ hK
    unfold vL_begins_65
    refine ⟨⟨by omega, by omega⟩, fun r => ?_, fun r => ⟨⟨by omega, by omega⟩, fun s2 e2 => ?_⟩⟩
    · refine k m1 (a01_ab.ext (fun x hx => ?_))
      rw [h1]
      by_cases c : 30 ≤ x ∧ x < 42
      · rw [if_pos (by omega)]
        unfold a01
        rw [if_neg (by omega), if_neg (by omega), if_neg (by omega), if_neg (by omega), if_neg (by omega), if_neg (by omega), if_neg (by omega), if_pos c]
      · rw [if_neg (by omega)]
        exact h0 x hx (by omega)
    · rw [xup_cu, show (((30 + j : Nat) : Int)).toNat = 30 + j by omega] at e2
      rw [e2]
      refine hK _ ⟨j + 1, _, by push_cast; rfl, by omega, fun x => ?_⟩ (by show (42 - (((30 + j : Nat) : Int) + 1)).toNat < (42 - ((30 + j : Nat) : Int)).toNat; omega)
      rw [cu_app, h1]
      by_cases hx : x = 30 + j
      · rw [if_pos hx, if_pos (by omega)]
      · rw [if_neg hx]
        by_cases c : 30 ≤ x ∧ x < 30 + j
        · rw [if_pos c, if_pos (by omega)]
        · rw [if_neg c, if_neg (by omega)]
  refine ⟨4, ?_⟩
  show vL_begins_7 Q (itr (vL_begins_7 Q) 3) (0, _)
  unfold vL_begins_7
  refine ⟨rng0, fun w => absurd w (by decide), fun _ => ⟨fun w => absurd rfl w, fun _ => ak_put3 (x := 0) (by omega) xset_eq ?_⟩⟩
  show vL_begins_7 Q (itr (vL_begins_7 Q) 2) (1, _)
  unfold vL_begins_7
  refine ⟨⟨by decide, by decide⟩, fun w => absurd w (by decide), fun _ => ⟨fun _ => ⟨fun w => absurd rfl w, fun _ => ak_put3 (x := 1) (by omega) xset_eq ?_⟩, fun w => absurd w (by decide)⟩⟩
  show vL_begins_7 Q (itr (vL_begins_7 Q) 1) (2, _)
  unfold vL_begins_7
  refine ⟨⟨by decide, by decide⟩, fun w => absurd w (by decide), fun _ => ⟨fun _ => ⟨fun _ => ak_put3 (x := 2) (by omega) xset_eq ?_, fun w => absurd w (by decide)⟩, fun w => absurd w (by decide)⟩⟩
  show vL_begins_7 Q (itr (vL_begins_7 Q) 0) (3, _)
  unfold vL_begins_7
  refine ⟨⟨by decide, by decide⟩, fun _ => ?_, fun w => absurd (by decide) w⟩
  rw [xset_set, xset_set, xset_set]
  refine tail _ (fun x hx hx2 => ?_)
  unfold a01
  simp only [cu_app]
  repeat' split
  all_goals omega
