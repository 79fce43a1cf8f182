/-! the reference's changes of the bench -/
theorem mkTurn {σ : xS} {m : Nat → Int} {b : xS} {g : Int} {Q : xS → Prop} {T : Int} (hw : WFt T b) (h : MB m b) (i : Nat) (hi : (i : Int) < b 3 0) (hg : g = (i : Int)) (k : ∀ m', MB m' (aTurn b (b i 5)) → Q (xset σ 21 m')) : vX5_turns g (xset σ 21 m) Q := by
  have hn := hw.1
  have hi3 := hw.n3 hi
  have hv := hw.2.2.2.2 i hi
  unfold vX5_turns
  refine mkR h i 5 hi3 hi (by omega) hg rfl ?_
  refine mu_of (fun a => ∃ (q : Nat) (c1 : Nat → Int), a = (b i 5, (q : Int), xset σ 21 c1) ∧ (q : Int) ≤ b 3 0 ∧ MB c1 (aMapK (turnV (b i 5)) b q)) (fun a => (3 - a.2.1).toNat) ?_ _ ⟨0, m, rfl, by omega, by rw [aMapK_0]; exact h⟩
  rintro K _ ⟨q, c1, rfl, hq, h1⟩ hK
  have e3 : ∀ p, aMapK (turnV (b i 5)) b q 3 p = b 3 p := fun p => by rw [aMapK_app, if_neg (by omega)]
  unfold vX5_turns_10
  dsimp only
  rw [xset_at, h1.n 0 (by omega), e3]
  refine ⟨⟨by omega, by omega⟩, ⟨by omega, by omega⟩, fun r s hs => ?_, fun r => ?_⟩
  · have e : (b 3 0).toNat = q := by omega
    rw [hs, xset_at, xup_cu, h1.n 4 (by omega), e3]
    have h2 := h1.scal (k := 4) (by omega) (by omega) (by omega) (b 3 4 + 1)
    refine k _ ?_
    unfold aTurn aMap
    rw [e]
    exact h2
  · have hq1 : (q : Int) < b 3 0 := by omega
    have hq3 : q < 3 := by omega
    have hn1 : (q : Int) < aMapK (turnV (b i 5)) b q 3 0 := by rw [e3]; exact hq1
    have row : ∀ p, aMapK (turnV (b i 5)) b q q p = b q p := fun p => by rw [aMapK_app, if_neg (by omega)]
    have hvq := hw.2.2.2.2 q hq1
    have nxt : ∀ (c2 : Nat → Int) (γ : xS), MB c2 γ → (∀ p, γ q p = turnV (b i 5) q (b q) p) → (∀ j p, j ≠ q → γ j p = aMapK (turnV (b i 5)) b q j p) → K (b i 5, (q : Int) + 1, xset σ 21 c2) := fun c2 γ h2 h3 h4 => hK _ ⟨q + 1, c2, by push_cast; rfl, by omega, by rw [← aMapK_step h3 h4]; exact h2⟩ (by show (3 - ((q : Int) + 1)).toNat < (3 - (q : Int)).toNat; omega)
    refine mkR h1 q 5 hq3 hn1 (by omega) rfl rfl ?_
    rw [row]
    refine ⟨⟨by omega, by omega⟩, ⟨by omega, by omega⟩, fun z => ?_, fun z => ?_⟩
    · refine nxt c1 _ h1 (fun p => ?_) (fun j p _ => rfl)
      rw [row, turnV, if_neg z]
    · refine mkR h1 q 0 hq3 hn1 (by omega) rfl rfl (mkR h1 q 1 hq3 hn1 (by omega) rfl rfl ?_)
      rw [row, row]
      refine mkP h1 q 1 hq3 (by omega) rfl rfl (fun c2 h2 => mkF h2 q hq3 rfl (fun c3 h3 => ?_))
      refine nxt c3 _ h3 (fun p => ?_) (fun j p hj => ?_)
      · rw [aFree_app, xup_app, row, turnV, if_pos z]
        by_cases p4 : p = 4 ∨ p = 6
        · rw [if_pos ⟨rfl, p4⟩, if_neg (by omega), if_pos p4]
        · rw [if_neg (fun w => p4 w.2)]
          by_cases p1 : p = 1
          · rw [if_pos ⟨rfl, p1⟩, if_pos p1]
          · rw [if_neg (fun w => p1 w.2), if_neg p1, if_neg p4]
      · rw [aFree_app, if_neg (by omega), xup_app, if_neg (by omega)]
theorem mkTap {σ : xS} {m : Nat → Int} {b : xS} {g : Int} {Q : Int → xS → Prop} {T : Int} (hw : WFt T b) (h : MB m b) (i : Nat) (hi : (i : Int) < b 3 0) (hg : g = (i : Int)) (k : ∀ m', MB m' (aTap b i) → Q (b i 4) (xset σ 21 m')) : vX5_taps g (xset σ 21 m) Q := by
  have hi3 := hw.n3 hi
  unfold vX5_taps
  refine mkR h i 4 hi3 hi (by omega) hg rfl (mkF h i hi3 hg (fun m1 h1 s hs => ?_))
  have e : aFree b i 3 5 = b 3 5 := by rw [aFree_app, if_neg (by omega)]
  rw [hs, xset_at, xup_cu, h1.n 5 (by omega), e]
  exact k _ (h1.scal (k := 5) (by omega) (by omega) (by omega) (b 3 5 + 1))
theorem mkStacks {σ : xS} {m : Nat → Int} {b : xS} {Q : Int → xS → Prop} (hb : 0 ≤ b 3 0 ∧ b 3 0 ≤ 3) (hv : ∀ i : Nat, (i : Int) < b 3 0 → 0 ≤ b i 5 ∧ b i 5 ≤ 3) (h : MB m b) (k : Q (aStacks b) (xset σ 21 m)) : vX5_stacks (xset σ 21 m) Q := by
  unfold vX5_stacks
  refine mu_of (fun a => ∃ q : Nat, a = (cntB (fun i => decide (b i 5 = (i : Int))) q, (q : Int), xset σ 21 m) ∧ (q : Int) ≤ b 3 0) (fun a => (3 - a.2.1).toNat) ?_ _ ⟨0, rfl, by omega⟩
  rintro K _ ⟨q, rfl, hq⟩ hK
  unfold vX5_stacks_4
  dsimp only
  rw [xset_at, h.n 0 (by omega)]
  refine ⟨⟨by omega, by omega⟩, ⟨by omega, by omega⟩, fun r => ?_, fun r => ?_⟩
  · have e : (b 3 0).toNat = q := by omega
    unfold aStacks at k
    rw [e] at k
    exact k
  · have hq1 : (q : Int) < b 3 0 := by omega
    have hvq := hv q hq1
    have nxt : ∀ x, x = cntB (fun i => decide (b i 5 = (i : Int))) (q + 1) → K (x, (q : Int) + 1, xset σ 21 m) := fun x hx => hK _ ⟨q + 1, by rw [hx]; push_cast; rfl, by omega⟩ (by show (3 - ((q : Int) + 1)).toNat < (3 - (q : Int)).toNat; omega)
    refine mkR h q 5 (by omega) hq1 (by omega) rfl rfl ⟨⟨by omega, by omega⟩, fun z => nxt _ ?_, fun z => nxt _ ?_⟩
    · rw [cntB, if_neg (by simpa using z)]
    · rw [cntB, if_pos (by simpa using z)]
theorem mkJoin {σ : xS} {m : Nat → Int} {b : xS} {x y j : Int} {Q : Int → xS → Prop} {T : Int} (hw : WFt T b) (h : MB m b) (hx : 0 ≤ x ∧ x ≤ 3) (hy : 0 ≤ y ∧ y ≤ 3) (hj : j = jmin x y) (k : ∀ m', MB m' (aMap (joinV x y j) b) → Q j (xset σ 21 m')) : mu (vX5_fix_66 Q) (x, y, j, 0, xset σ 21 m) := by
  have hn := hw.1
  have hj2 := jmin_le x y
  refine mu_of (fun a => ∃ (q : Nat) (c1 : Nat → Int), a = (x, y, j, (q : Int), xset σ 21 c1) ∧ (q : Int) ≤ b 3 0 ∧ MB c1 (aMapK (joinV x y j) b q)) (fun a => (3 - a.2.2.2.1).toNat) ?_ _ ⟨0, m, rfl, by omega, by rw [aMapK_0]; exact h⟩
  rintro K _ ⟨q, c1, rfl, hq, h1⟩ hK
  have e3 : ∀ p, aMapK (joinV x y j) b q 3 p = b 3 p := fun p => by rw [aMapK_app, if_neg (by omega)]
  unfold vX5_fix_66
  dsimp only
  rw [xset_at, h1.n 0 (by omega), e3]
  refine ⟨⟨by omega, by omega⟩, ⟨by omega, by omega⟩, fun r => ?_, fun r => ?_⟩
  · have e : (b 3 0).toNat = q := by omega
    refine k _ ?_
    unfold aMap
    rw [e]
    exact h1
  · have hq1 : (q : Int) < b 3 0 := by omega
    have hq3 : q < 3 := by omega
    have hn1 : (q : Int) < aMapK (joinV x y j) b q 3 0 := by rw [e3]; exact hq1
    have row : ∀ p, aMapK (joinV x y j) b q q p = b q p := fun p => by rw [aMapK_app, if_neg (by omega)]
    have hvq := hw.2.2.2.2 q hq1
    have fin : ∀ v : Int, v = joinV x y j q (b q) 5 → vX5_fix_121 K Q x y j (q : Int) (q : Int) 6 v (xset σ 21 c1) := fun v hv => by
      unfold vX5_fix_121
      refine mkP h1 q 5 hq3 (by omega) rfl rfl (fun c2 h2 => hK _ ⟨q + 1, c2, by push_cast; rfl, by omega, ?_⟩ (by show (3 - ((q : Int) + 1)).toNat < (3 - (q : Int)).toNat; omega))
      rw [← aMapK_step (γ := xup (aMapK (joinV x y j) b q) q 5 v) (fun p => ?_) (fun j p hj => ?_)]
      · exact h2
      · rw [xup_app, row]
        by_cases p5 : p = 5
        · rw [if_pos ⟨rfl, p5⟩, p5, hv]
        · rw [if_neg (fun w => p5 w.2), joinV]
          split <;> rfl
      · rw [xup_app, if_neg (by omega)]
    refine mkR h1 q 5 hq3 hn1 (by omega) rfl rfl ?_
    rw [row]
    refine ⟨⟨by omega, by omega⟩, ⟨by omega, by omega⟩, fun z => fin j (by rw [joinV, if_pos (Or.inl z), if_pos rfl]), fun z => ?_⟩
    refine mkR h1 q 5 hq3 hn1 (by omega) rfl rfl ?_
    rw [row]
    refine ⟨⟨by omega, by omega⟩, ⟨by omega, by omega⟩, fun z2 => ?_, fun z2 => fin j (by rw [joinV, if_pos (Or.inr z2), if_pos rfl])⟩
    refine mkR h1 q 5 hq3 hn1 (by omega) rfl rfl (fin _ ?_)
    rw [row, joinV, if_neg (by rintro (w | w); exact z w; exact z2 w)]
theorem mkScat {σ : xS} {m : Nat → Int} {b : xS} {x : Int} {Q : Int → xS → Prop} {T : Int} (hw : WFt T b) (h : MB m b) (hx : 0 ≤ x ∧ x ≤ 3) (k : ∀ m', MB m' (aMap (scatV x) b) → vX5_stacks (xset σ 21 m') (fun r s => Q r s)) : mu (vX5_loosen_77 Q) (x, 0, xset σ 21 m) := by
  have hn := hw.1
  refine mu_of (fun a => ∃ (q : Nat) (c1 : Nat → Int), a = (x, (q : Int), xset σ 21 c1) ∧ (q : Int) ≤ b 3 0 ∧ MB c1 (aMapK (scatV x) b q)) (fun a => (3 - a.2.1).toNat) ?_ _ ⟨0, m, rfl, by omega, by rw [aMapK_0]; exact h⟩
  rintro K _ ⟨q, c1, rfl, hq, h1⟩ hK
  have e3 : ∀ p, aMapK (scatV x) b q 3 p = b 3 p := fun p => by rw [aMapK_app, if_neg (by omega)]
  unfold vX5_loosen_77
  dsimp only
  rw [xset_at, h1.n 0 (by omega), e3]
  refine ⟨⟨by omega, by omega⟩, ⟨by omega, by omega⟩, fun r => ?_, fun r => ?_⟩
  · have e : (b 3 0).toNat = q := by omega
    refine k _ ?_
    unfold aMap
    rw [e]
    exact h1
  · have hq1 : (q : Int) < b 3 0 := by omega
    have hq3 : q < 3 := by omega
    have hn1 : (q : Int) < aMapK (scatV x) b q 3 0 := by rw [e3]; exact hq1
    have row : ∀ p, aMapK (scatV x) b q q p = b q p := fun p => by rw [aMapK_app, if_neg (by omega)]
    have hvq := hw.2.2.2.2 q hq1
    have fin : ∀ v : Int, v = scatV x q (b q) 5 → vX5_loosen_119 K Q x (q : Int) (q : Int) 6 v (xset σ 21 c1) := fun v hv => by
      unfold vX5_loosen_119
      refine mkP h1 q 5 hq3 (by omega) rfl rfl (fun c2 h2 => hK _ ⟨q + 1, c2, by push_cast; rfl, by omega, ?_⟩ (by show (3 - ((q : Int) + 1)).toNat < (3 - (q : Int)).toNat; omega))
      rw [← aMapK_step (γ := xup (aMapK (scatV x) b q) q 5 v) (fun p => ?_) (fun j p hj => ?_)]
      · exact h2
      · rw [xup_app, row]
        by_cases p5 : p = 5
        · rw [if_pos ⟨rfl, p5⟩, p5, hv]
        · rw [if_neg (fun w => p5 w.2), scatV]
          split <;> rfl
      · rw [xup_app, if_neg (by omega)]
    refine mkR h1 q 5 hq3 hn1 (by omega) rfl rfl ?_
    rw [row]
    refine ⟨⟨by omega, by omega⟩, ⟨by omega, by omega⟩, fun z => ?_, fun z => fin _ (by rw [scatV, if_pos z, if_pos rfl])⟩
    refine mkR h1 q 5 hq3 hn1 (by omega) rfl rfl (fin _ ?_)
    rw [row, scatV, if_neg z]
/-- how many glasses a stack has, then what is behind -/
theorem mkIn2 {σ : xS} {m : Nat → Int} {b : xS} {x : Int} {Q : Int → xS → Prop} {T : Int} (hw : WFt T b) (h : MB m b) (hx : 0 ≤ x ∧ x ≤ 3) (k1 : aIn b x = 1 → Q (-3) (xset σ 21 m)) (k2 : aIn b x ≠ 1 → vX5_keeps (xset σ 21 m) (fun s => mu (vX5_loosen_77 Q) (x, 0, s))) : mu (vX5_loosen_24 Q) (x, 0, 0, xset σ 21 m) := by
  have hn := hw.1
  refine mu_of (fun a => ∃ q : Nat, a = (x, cntB (fun i => decide (b i 5 = x)) q, (q : Int), xset σ 21 m) ∧ (q : Int) ≤ b 3 0) (fun a => (3 - a.2.2.1).toNat) ?_ _ ⟨0, rfl, by omega⟩
  rintro K _ ⟨q, rfl, hq⟩ hK
  have hc := cntB_in (fun i => decide (b i 5 = x)) q
  unfold vX5_loosen_24
  dsimp only
  rw [xset_at, h.n 0 (by omega)]
  refine ⟨⟨by omega, by omega⟩, ⟨by omega, by omega⟩, fun r => ?_, fun r => ?_⟩
  · have e : (b 3 0).toNat = q := by omega
    have e2 : aIn b x = cntB (fun i => decide (b i 5 = x)) q := by unfold aIn; rw [e]
    exact ⟨⟨by omega, by omega⟩, fun z => k2 (by omega), fun z => k1 (by omega)⟩
  · have hq1 : (q : Int) < b 3 0 := by omega
    have hvq := hw.2.2.2.2 q hq1
    have nxt : ∀ v, v = cntB (fun i => decide (b i 5 = x)) (q + 1) → K (x, v, (q : Int) + 1, xset σ 21 m) := fun v hv => hK _ ⟨q + 1, by rw [hv]; push_cast; rfl, by omega⟩ (by show (3 - ((q : Int) + 1)).toNat < (3 - (q : Int)).toNat; omega)
    refine mkR h q 5 (by omega) hq1 (by omega) rfl rfl ⟨⟨by omega, by omega⟩, ⟨by omega, by omega⟩, fun z => nxt _ ?_, fun z => nxt _ ?_⟩
    · rw [cntB, if_neg (by simpa using z)]
    · rw [cntB, if_pos (by simpa using z)]
/-- a new number of glasses -/
def rawV (q : Nat) (u : Int) (p : Nat) : Int := if p = 0 then u else if p = 3 then 3 else if p = 6 then (q : Int) else 0
theorem aRenew_raw (b : xS) (n : Int) (j p : Nat) (hj : j < 3) (hp : p < 7) : aRenew b n j p = rawV j (if (j : Int) < b 3 0 then b j 0 else 5) (pip p) := by
  unfold aRenew rawV
  rw [if_neg (by omega), if_pos hj]
  rcases (show p = 0 ∨ p = 1 ∨ p = 2 ∨ p = 3 ∨ p = 4 ∨ p = 5 ∨ p = 6 by omega) with rfl | rfl | rfl | rfl | rfl | rfl | rfl <;> rfl
theorem mkRenew {σ : xS} {m : Nat → Int} {b : xS} {n : Int} {Q : Int → xS → Prop} (h : MB m b) (hb : 0 ≤ b 3 0 ∧ b 3 0 ≤ 3) (hn : 1 ≤ n ∧ n ≤ 3) (k : ∀ m', MB m' (aRenew b n) → Q (b 3 0) (xset σ 21 m')) : mu (vX5_setGlasses_26 Q) (n, b 3 0, 0, xset σ 21 m) := by
  refine mu_of (fun a => ∃ (q : Nat) (m1 : Nat → Int), a = (n, b 3 0, (q : Int), xset σ 21 m1) ∧ q ≤ 3 ∧ (∀ j p : Nat, j < q → p < 7 → m1 (7 * j + p) = rawV j (if (j : Int) < b 3 0 then b j 0 else 5) p) ∧ (∀ x, 7 * q ≤ x → m1 x = m x)) (fun a => (3 - a.2.2.1).toNat) ?_ _ ⟨0, m, rfl, by omega, fun j p hj => absurd hj (Nat.not_lt_zero j), fun _ _ => rfl⟩
  rintro K _ ⟨q, m1, rfl, hq, h1, h2⟩ hK
  unfold vX5_setGlasses_26
  refine ⟨⟨by omega, by omega⟩, fun r s hs => ?_, fun r => ⟨⟨by omega, by omega⟩, ?_⟩⟩
  · have hq3 : q = 3 := by omega
    subst hq3
    rw [hs, xup_cu]
    have e0 : aRenew b n 3 0 = n := by unfold aRenew; rw [if_pos ⟨rfl, rfl⟩]
    have e3 : aRenew b n 3 3 = b 3 3 := by simp (disch := omega) only [aRenew, if_neg]
    have hl := jmin_le (b 3 3) 12
    refine k _ ⟨fun i p hi hi3 hp => ?_, fun x hx => ?_, ?_, fun e y he hy => ?_⟩
    · have := pip_lt hp
      rw [cu_app, if_neg (by omega), h1 i (pip p) hi3 this, aRenew_raw b n i p hi3 hp]
    · rw [cu_app]
      by_cases hx0 : x = 0
      · subst hx0
        rw [if_pos rfl, e0]
      · rw [if_neg (by omega), h2 _ (by omega), h.n x hx]
        simp (disch := omega) only [aRenew, if_neg]
    · rw [cu_app, if_neg (by omega), h2 _ (by omega), e3]
      exact h.2.2.1
    · rw [cu_app, if_neg (by omega), h2 _ (by omega)] at he ⊢
      rw [cu_app, if_neg (by omega), h2 _ (by omega), e3, h.2.2.2 e y he hy]
      simp (disch := omega) only [aRenew, if_neg]
  · have hq3 : q < 3 := by omega
    have blk : ∀ u : Int, u = (if (q : Int) < b 3 0 then b q 0 else 5) → mu (vX5_setGlasses_51 K Q) (n, b 3 0, (q : Int), u, 0, xset σ 21 m1) := by
      intro u hu
      refine mu_of (fun a => ∃ (y : Nat) (m2 : Nat → Int), a = (n, b 3 0, (q : Int), u, (y : Int), xset σ 21 m2) ∧ y ≤ 7 ∧ (∀ p, p < y → m2 (7 * q + p) = rawV q u p) ∧ (∀ x, (x < 7 * q ∨ 7 * q + y ≤ x) → m2 x = m1 x)) (fun a => (7 - a.2.2.2.2.1).toNat) ?_ _ ⟨0, m1, rfl, by omega, fun p hp => absurd hp (Nat.not_lt_zero p), fun _ _ => rfl⟩
      rintro K2 _ ⟨y, m2, rfl, hy, h3, h4⟩ hK2
      unfold vX5_setGlasses_51
      refine ⟨⟨by omega, by omega⟩, fun r2 => ?_, fun r2 => ?_⟩
      · have hy7 : y = 7 := by omega
        subst hy7
        refine hK _ ⟨q + 1, m2, by push_cast; rfl, by omega, fun j p hj hp => ?_, fun x hx => ?_⟩ (by show (3 - ((q : Int) + 1)).toNat < (3 - (q : Int)).toNat; omega)
        · by_cases hjq : j = q
          · subst hjq
            rw [h3 p hp, hu]
          · rw [h4 _ (by omega)]
            exact h1 j p (by omega) hp
        · rw [h4 x (by omega), h2 x (by omega)]
      · have fin : ∀ v : Int, v = rawV q u y → vX5_setGlasses_94 K K2 Q n (b 3 0) (q : Int) u (y : Int) (q : Int) (y : Int) v (xset σ 21 m2) := by
          intro v hv
          unfold vX5_setGlasses_94 vX5_put
          refine ⟨⟨by omega, by omega⟩, fun s hs => ?_⟩
          rw [hs, xup_cu, show (7 * (q : Int) + (y : Int)).toNat = 7 * q + y by omega]
          refine hK2 _ ⟨y + 1, _, by push_cast; rfl, by omega, fun p hp => ?_, fun x hx => ?_⟩ (by show (7 - ((y : Int) + 1)).toNat < (7 - (y : Int)).toNat; omega)
          · rw [cu_app]
            by_cases hpy : p = y
            · rw [if_pos (by omega), hpy, hv]
            · rw [if_neg (by omega)]
              exact h3 p (by omega)
          · rw [cu_app, if_neg (by omega)]
            exact h4 x (by omega)
        refine ⟨fun z0 => ⟨fun z3 => ⟨fun z6 => fin 0 ?_, fun z6 => fin _ ?_⟩, fun z3 => fin 3 ?_⟩, fun z0 => fin u ?_⟩ <;> unfold rawV
        · rw [if_neg (by omega), if_neg (by omega), if_neg (by omega)]
        · rw [if_neg (by omega), if_neg (by omega), if_pos (by omega)]
        · rw [if_neg (by omega), if_pos (by omega)]
        · rw [if_pos (by omega)]
    refine ⟨fun r2 => blk 5 (by rw [if_neg (by omega)]), fun r2 => ?_⟩
    unfold vX5_of
    refine ⟨⟨by omega, by omega⟩, ?_⟩
    rw [xset_at]
    refine blk _ ?_
    rw [if_pos (by omega), show (7 * (q : Int) + 0).toNat = 7 * q by omega, h2 _ (by omega)]
    exact h.1 q 0 (by omega) hq3 (by omega)
