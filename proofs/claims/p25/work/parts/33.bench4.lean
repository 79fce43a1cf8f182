/-! loops over the glasses that change each row by itself -/
def aMapK (T : Nat → (Nat → Int) → Nat → Int) (b : xS) (k : Nat) : xS := fun i p => if i < k then T i (b i) p else b i p
theorem aMapK_0 (T : Nat → (Nat → Int) → Nat → Int) (b : xS) : aMapK T b 0 = b := xS_ext fun i p => if_neg (Nat.not_lt_zero i)
theorem aMapK_app (T : Nat → (Nat → Int) → Nat → Int) (b : xS) (k i p : Nat) : aMapK T b k i p = if i < k then T i (b i) p else b i p := rfl
theorem aMapK_step {T : Nat → (Nat → Int) → Nat → Int} {b γ : xS} {k : Nat} (h1 : ∀ p, γ k p = T k (b k) p) (h2 : ∀ i p, i ≠ k → γ i p = aMapK T b k i p) : γ = aMapK T b (k + 1) := by
  refine xS_ext fun i p => ?_
  by_cases h : i = k
  · subst h
    rw [h1, aMapK_app, if_pos (Nat.lt_succ_self i)]
  · rw [h2 i p h, aMapK_app, aMapK_app]
    by_cases q : i < k
    · rw [if_pos q, if_pos (by omega)]
    · rw [if_neg q, if_neg (by omega)]
abbrev aMap (T : Nat → (Nat → Int) → Nat → Int) (b : xS) : xS := aMapK T b (b 3 0).toNat
def turnV (s : Int) (_ : Nat) (v : Nat → Int) (p : Nat) : Int := if v 5 = s then (if p = 1 then v 0 - v 1 else if p = 4 ∨ p = 6 then 0 else v p) else v p
def joinV (x y j : Int) (_ : Nat) (v : Nat → Int) (p : Nat) : Int := if v 5 = x ∨ v 5 = y then (if p = 5 then j else v p) else v p
def scatV (s : Int) (i : Nat) (v : Nat → Int) (p : Nat) : Int := if v 5 = s then (if p = 5 then (i : Int) else v p) else v p
def aTurn (b : xS) (s : Int) : xS := xup (aMap (turnV s) b) 3 4 (b 3 4 + 1)
theorem okTurn {σ : xS} {c : Nat → Int} {b : xS} {g : Int} {Q : xS → Prop} {T : Int} (hw : WFt T b) (h : CB c b) (i : Nat) (hi : (i : Int) < b 3 0) (hg : g = (i : Int)) (k : ∀ c', CB c' (aTurn b (b i 5)) → Q (xset σ 8 c')) : vX0_turnStackOf g (xset σ 8 c) Q := by
  have hn := hw.1
  have hi3 := hw.n3 hi
  have hv := hw.2.2.2.2 i hi
  unfold vX0_turnStackOf
  refine okR h i 5 hi3 hi (by omega) hg rfl ?_
  refine mu_of (fun a => ∃ (q : Nat) (c1 : Nat → Int), a = (b i 5, (q : Int), xset σ 8 c1) ∧ (q : Int) ≤ b 3 0 ∧ CB c1 (aMapK (turnV (b i 5)) b q)) (fun a => (3 - a.2.1).toNat) ?_ _ ⟨0, c, rfl, by omega, by rw [aMapK_0]; exact h⟩
  rintro K _ ⟨q, c1, rfl, hq, h1⟩ hK
  have e3 : ∀ p, aMapK (turnV (b i 5)) b q 3 p = b 3 p := fun p => by rw [aMapK_app, if_neg (by omega)]
  unfold vX0_turnStackOf_9
  refine okG h1 ?_
  rw [e3]
  refine ⟨⟨by omega, by omega⟩, ⟨by omega, by omega⟩, fun r s hs => ?_, fun r => ?_⟩
  · have e : (b 3 0).toNat = q := by omega
    rw [hs, xset_at, xup_cu, h1.n 4 (by omega), e3]
    have h2 := h1.scal (k := 4) (by omega) (by omega) (by omega) (b 3 4 + 1)
    refine k _ ?_
    unfold aTurn aMap
    rw [e]
    exact h2
  · have hq1 : (q : Int) < b 3 0 := by omega
    have hq3 : q < 3 := by omega
    have hn1 : (q : Int) < aMapK (turnV (b i 5)) b q 3 0 := by rw [e3]; exact hq1
    have row : ∀ p, aMapK (turnV (b i 5)) b q q p = b q p := fun p => by rw [aMapK_app, if_neg (by omega)]
    have hvq := hw.2.2.2.2 q hq1
    have nxt : ∀ (c2 : Nat → Int) (γ : xS), CB c2 γ → (∀ p, γ q p = turnV (b i 5) q (b q) p) → (∀ j p, j ≠ q → γ j p = aMapK (turnV (b i 5)) b q j p) → K (b i 5, (q : Int) + 1, xset σ 8 c2) := fun c2 γ h2 h3 h4 => hK _ ⟨q + 1, c2, by push_cast; rfl, by omega, by rw [← aMapK_step h3 h4]; exact h2⟩ (by show (3 - ((q : Int) + 1)).toNat < (3 - (q : Int)).toNat; omega)
    refine okR h1 q 5 hq3 hn1 (by omega) rfl rfl ?_
    rw [row]
    refine ⟨⟨by omega, by omega⟩, ⟨by omega, by omega⟩, fun z => ?_, fun z => ?_⟩
    · refine nxt c1 _ h1 (fun p => ?_) (fun j p _ => rfl)
      rw [row, turnV, if_neg z]
    · refine okR h1 q 0 hq3 hn1 (by omega) rfl rfl (okR h1 q 1 hq3 hn1 (by omega) rfl rfl ?_)
      rw [row, row]
      refine okP h1 q 1 hq3 (by omega) rfl rfl (fun c2 h2 => okF h2 q hq3 rfl (fun c3 h3 => ?_))
      refine nxt c3 _ h3 (fun p => ?_) (fun j p hj => ?_)
      · rw [aFree_app, xup_app, row, turnV, if_pos z]
        by_cases p4 : p = 4 ∨ p = 6
        · rw [if_pos ⟨rfl, p4⟩, if_neg (by omega), if_pos p4]
        · rw [if_neg (fun w => p4 w.2)]
          by_cases p1 : p = 1
          · rw [if_pos ⟨rfl, p1⟩, if_pos p1]
          · rw [if_neg (fun w => p1 w.2), if_neg p1, if_neg p4]
      · rw [aFree_app, if_neg (by omega), xup_app, if_neg (by omega)]
theorem okJoin {σ : xS} {c : Nat → Int} {b : xS} {x y : Int} {Q : xS → Prop} {T : Int} (hw : WFt T b) (h : CB c b) (hx : 0 ≤ x ∧ x ≤ 3) (hy : 0 ≤ y ∧ y ≤ 3) (k : ∀ c', CB c' (aMap (joinV x y (jmin x y)) b) → Q (xset σ 8 c')) : vX0_join x y (xset σ 8 c) Q := by
  have hn := hw.1
  have hj := jmin_le x y
  unfold vX0_join
  refine ⟨⟨by omega, by omega⟩, ⟨by omega, by omega⟩, ?_⟩
  refine mu_of (fun a => ∃ (q : Nat) (c1 : Nat → Int), a = (x, y, jmin x y, (q : Int), xset σ 8 c1) ∧ (q : Int) ≤ b 3 0 ∧ CB c1 (aMapK (joinV x y (jmin x y)) b q)) (fun a => (3 - a.2.2.2.1).toNat) ?_ _ ⟨0, c, rfl, by omega, by rw [aMapK_0]; exact h⟩
  rintro K _ ⟨q, c1, rfl, hq, h1⟩ hK
  have e3 : ∀ p, aMapK (joinV x y (jmin x y)) b q 3 p = b 3 p := fun p => by rw [aMapK_app, if_neg (by omega)]
  unfold vX0_join_9
  refine okG h1 ?_
  rw [e3]
  refine ⟨⟨by omega, by omega⟩, ⟨by omega, by omega⟩, fun r => ?_, fun r => ?_⟩
  · have e : (b 3 0).toNat = q := by omega
    refine k _ ?_
    unfold aMap
    rw [e]
    exact h1
  · have hq1 : (q : Int) < b 3 0 := by omega
    have hq3 : q < 3 := by omega
    have hn1 : (q : Int) < aMapK (joinV x y (jmin x y)) b q 3 0 := by rw [e3]; exact hq1
    have row : ∀ p, aMapK (joinV x y (jmin x y)) b q q p = b q p := fun p => by rw [aMapK_app, if_neg (by omega)]
    have hvq := hw.2.2.2.2 q hq1
    have nxt : ∀ (c2 : Nat → Int) (γ : xS), CB c2 γ → (∀ p, γ q p = joinV x y (jmin x y) q (b q) p) → (∀ j p, j ≠ q → γ j p = aMapK (joinV x y (jmin x y)) b q j p) → K (x, y, jmin x y, (q : Int) + 1, xset σ 8 c2) := fun c2 γ h2 h3 h4 => hK _ ⟨q + 1, c2, by push_cast; rfl, by omega, by rw [← aMapK_step h3 h4]; exact h2⟩ (by show (3 - ((q : Int) + 1)).toNat < (3 - (q : Int)).toNat; omega)
    have fin : (b q 5 = x ∨ b q 5 = y) → vX0_join_40 K Q x y (jmin x y) (q : Int) (xset σ 8 c1) := fun z => by
      unfold vX0_join_40
      refine okP h1 q 5 hq3 (by omega) rfl rfl (fun c2 h2 => nxt c2 _ h2 (fun p => ?_) (fun j p hj => ?_))
      · rw [xup_app, row, joinV, if_pos z]
        by_cases p5 : p = 5
        · rw [if_pos ⟨rfl, p5⟩, if_pos p5]
        · rw [if_neg (fun w => p5 w.2), if_neg p5]
      · rw [xup_app, if_neg (by omega)]
    refine okR h1 q 5 hq3 hn1 (by omega) rfl rfl ?_
    rw [row]
    refine ⟨⟨by omega, by omega⟩, ⟨by omega, by omega⟩, fun z => fin (Or.inl z), fun z => ?_⟩
    refine okR h1 q 5 hq3 hn1 (by omega) rfl rfl ?_
    rw [row]
    refine ⟨⟨by omega, by omega⟩, ⟨by omega, by omega⟩, fun z2 => ?_, fun z2 => fin (Or.inr z2)⟩
    refine nxt c1 _ h1 (fun p => ?_) (fun j p _ => rfl)
    rw [row, joinV, if_neg (by rintro (w | w); exact z w; exact z2 w)]
theorem okScat {σ : xS} {c : Nat → Int} {b : xS} {x : Int} {Q : xS → Prop} {T : Int} (hw : WFt T b) (h : CB c b) (hx : 0 ≤ x ∧ x ≤ 3) (k : ∀ c', CB c' (aMap (scatV x) b) → Q (xset σ 8 c')) : vX0_scatter x (xset σ 8 c) Q := by
  have hn := hw.1
  unfold vX0_scatter
  refine mu_of (fun a => ∃ (q : Nat) (c1 : Nat → Int), a = (x, (q : Int), xset σ 8 c1) ∧ (q : Int) ≤ b 3 0 ∧ CB c1 (aMapK (scatV x) b q)) (fun a => (3 - a.2.1).toNat) ?_ _ ⟨0, c, rfl, by omega, by rw [aMapK_0]; exact h⟩
  rintro K _ ⟨q, c1, rfl, hq, h1⟩ hK
  have e3 : ∀ p, aMapK (scatV x) b q 3 p = b 3 p := fun p => by rw [aMapK_app, if_neg (by omega)]
  unfold vX0_scatter_2
  refine okG h1 ?_
  rw [e3]
  refine ⟨⟨by omega, by omega⟩, ⟨by omega, by omega⟩, fun r => ?_, fun r => ?_⟩
  · have e : (b 3 0).toNat = q := by omega
    refine k _ ?_
    unfold aMap
    rw [e]
    exact h1
  · have hq1 : (q : Int) < b 3 0 := by omega
    have hq3 : q < 3 := by omega
    have hn1 : (q : Int) < aMapK (scatV x) b q 3 0 := by rw [e3]; exact hq1
    have row : ∀ p, aMapK (scatV x) b q q p = b q p := fun p => by rw [aMapK_app, if_neg (by omega)]
    have hvq := hw.2.2.2.2 q hq1
    have nxt : ∀ (c2 : Nat → Int) (γ : xS), CB c2 γ → (∀ p, γ q p = scatV x q (b q) p) → (∀ j p, j ≠ q → γ j p = aMapK (scatV x) b q j p) → K (x, (q : Int) + 1, xset σ 8 c2) := fun c2 γ h2 h3 h4 => hK _ ⟨q + 1, c2, by push_cast; rfl, by omega, by rw [← aMapK_step h3 h4]; exact h2⟩ (by show (3 - ((q : Int) + 1)).toNat < (3 - (q : Int)).toNat; omega)
    refine okR h1 q 5 hq3 hn1 (by omega) rfl rfl ?_
    rw [row]
    refine ⟨⟨by omega, by omega⟩, ⟨by omega, by omega⟩, fun z => ?_, fun z => ?_⟩
    · refine nxt c1 _ h1 (fun p => ?_) (fun j p _ => rfl)
      rw [row, scatV, if_neg z]
    · refine okP h1 q 5 hq3 (by omega) rfl rfl (fun c2 h2 => nxt c2 _ h2 (fun p => ?_) (fun j p hj => ?_))
      · rw [xup_app, row, scatV, if_pos z]
        by_cases p5 : p = 5
        · rw [if_pos ⟨rfl, p5⟩, if_pos p5]
        · rw [if_neg (fun w => p5 w.2), if_neg p5]
      · rw [xup_app, if_neg (by omega)]
/-! counting -/
def cntB (f : Nat → Bool) : Nat → Int
  | 0 => 0
  | n + 1 => cntB f n + if f n then 1 else 0
theorem cntB_in (f : Nat → Bool) : ∀ n, 0 ≤ cntB f n ∧ cntB f n ≤ n
  | 0 => by unfold cntB; omega
  | n + 1 => by
    have := cntB_in f n
    unfold cntB
    split <;> omega
def aStacks (b : xS) : Int := cntB (fun i => decide (b i 5 = (i : Int))) (b 3 0).toNat
def aIn (b : xS) (s : Int) : Int := cntB (fun i => decide (b i 5 = s)) (b 3 0).toNat
theorem okStacks {σ : xS} {c : Nat → Int} {b : xS} {Q : Int → xS → Prop} {T : Int} (hw : WFt T b) (h : CB c b) (k : Q (aStacks b) (xset σ 8 c)) : vX0_stacks (xset σ 8 c) Q := by
  have hn := hw.1
  unfold vX0_stacks
  refine mu_of (fun a => ∃ q : Nat, a = (cntB (fun i => decide (b i 5 = (i : Int))) q, (q : Int), xset σ 8 c) ∧ (q : Int) ≤ b 3 0) (fun a => (3 - a.2.1).toNat) ?_ _ ⟨0, rfl, by omega⟩
  rintro K _ ⟨q, rfl, hq⟩ hK
  unfold vX0_stacks_4
  refine okG h ⟨⟨by omega, by omega⟩, ⟨by omega, by omega⟩, fun r => ?_, fun r => ?_⟩
  · have e : (b 3 0).toNat = q := by omega
    unfold aStacks at k
    rw [e] at k
    exact k
  · have hq1 : (q : Int) < b 3 0 := by omega
    have hvq := hw.2.2.2.2 q hq1
    have nxt : ∀ x, x = cntB (fun i => decide (b i 5 = (i : Int))) (q + 1) → K (x, (q : Int) + 1, xset σ 8 c) := fun x hx => hK _ ⟨q + 1, by rw [hx]; push_cast; rfl, by omega⟩ (by show (3 - ((q : Int) + 1)).toNat < (3 - (q : Int)).toNat; omega)
    refine okR h q 5 (by omega) hq1 (by omega) rfl rfl ⟨⟨by omega, by omega⟩, fun z => nxt _ ?_, fun z => nxt _ ?_⟩
    · rw [cntB, if_neg (by simpa using z)]
      omega
    · rw [cntB, if_pos (by simpa using z)]
theorem okIn {σ : xS} {c : Nat → Int} {b : xS} {s : Int} {Q : Int → xS → Prop} {T : Int} (hw : WFt T b) (h : CB c b) (hs : 0 ≤ s ∧ s ≤ 3) (k : Q (aIn b s) (xset σ 8 c)) : vX0_glassesOf s (xset σ 8 c) Q := by
  have hn := hw.1
  unfold vX0_glassesOf
  refine mu_of (fun a => ∃ q : Nat, a = (s, cntB (fun i => decide (b i 5 = s)) q, (q : Int), xset σ 8 c) ∧ (q : Int) ≤ b 3 0) (fun a => (3 - a.2.2.1).toNat) ?_ _ ⟨0, rfl, by omega⟩
  rintro K _ ⟨q, rfl, hq⟩ hK
  unfold vX0_glassesOf_4
  refine okG h ⟨⟨by omega, by omega⟩, ⟨by omega, by omega⟩, fun r => ?_, fun r => ?_⟩
  · have e : (b 3 0).toNat = q := by omega
    unfold aIn at k
    rw [e] at k
    exact k
  · have hq1 : (q : Int) < b 3 0 := by omega
    have hvq := hw.2.2.2.2 q hq1
    have nxt : ∀ x, x = cntB (fun i => decide (b i 5 = s)) (q + 1) → K (s, x, (q : Int) + 1, xset σ 8 c) := fun x hx => hK _ ⟨q + 1, by rw [hx]; push_cast; rfl, by omega⟩ (by show (3 - ((q : Int) + 1)).toNat < (3 - (q : Int)).toNat; omega)
    refine okR h q 5 (by omega) hq1 (by omega) rfl rfl ⟨⟨by omega, by omega⟩, ⟨by omega, by omega⟩, fun z => nxt _ ?_, fun z => nxt _ ?_⟩
    · rw [cntB, if_neg (by simpa using z)]
      omega
    · rw [cntB, if_pos (by simpa using z)]
/-! renew, fill, makeKind -/
def aFill (b : xS) (i : Nat) (u : Int) : xS := aFree (xup (xup b i 0 u) i 1 0) i
def aKind (b : xS) (i : Nat) (kd gr : Int) : xS := aFree (xup (xup b i 2 kd) i 3 gr) i
theorem okFill {σ : xS} {c : Nat → Int} {b : xS} {g u : Int} {Q : xS → Prop} (h : CB c b) (i : Nat) (hi : i < 3) (hg : g = (i : Int)) (k : ∀ c', CB c' (aFill b i u) → Q (xset σ 8 c')) : vX0_fill g u (xset σ 8 c) Q := by
  unfold vX0_fill
  exact okP h i 0 hi (by omega) hg rfl (fun c1 h1 => okP h1 i 1 hi (by omega) hg rfl (fun c2 h2 => okF h2 i hi hg (fun c3 h3 => k c3 h3)))
theorem okKind {σ : xS} {c : Nat → Int} {b : xS} {g kd gr : Int} {Q : xS → Prop} (h : CB c b) (i : Nat) (hi : i < 3) (hg : g = (i : Int)) (k : ∀ c', CB c' (aKind b i kd gr) → Q (xset σ 8 c')) : vX0_makeKind g kd gr (xset σ 8 c) Q := by
  unfold vX0_makeKind
  exact okP h i 2 hi (by omega) hg rfl (fun c1 h1 => okP h1 i 3 hi (by omega) hg rfl (fun c2 h2 => okF h2 i hi hg (fun c3 h3 => k c3 h3)))
def aRenew (b : xS) (n : Int) : xS := fun i p => if i = 3 ∧ p = 0 then n else if i < 3 then (if p = 0 then (if (i : Int) < b 3 0 then b i 0 else 5) else if p = 3 then 3 else if p = 5 then (i : Int) else 0) else b i p
theorem okRenew {σ : xS} {c : Nat → Int} {b : xS} {n : Int} {Q : xS → Prop} (h : CB c b) (hb : 0 ≤ b 3 0 ∧ b 3 0 ≤ 3) (hn : 1 ≤ n ∧ n ≤ 3) (k : ∀ c', CB c' (aRenew b n) → Q (xset σ 8 c')) : vX0_renew n (xset σ 8 c) Q := by
  unfold vX0_renew
  intro s hs
  rw [hs, xset_at, xup_cu, h.n 0 (by omega)]
  refine mu_of (fun a => ∃ (q : Nat) (c1 : Nat → Int), a = (n, b 3 0, (q : Int), xset σ 8 c1) ∧ (q : Int) ≤ n ∧ (∀ j p : Nat, j < q → p < 7 → c1 (3 * p + j) = aRenew b n j p) ∧ (∀ j : Nat, q ≤ j → j < 3 → c1 j = c j) ∧ (∀ x, 21 ≤ x → c1 x = cu c 57 n x)) (fun a => (3 - a.2.2.1).toNat) ?_ _ ⟨0, _, rfl, by omega, fun j p hj => absurd hj (Nat.not_lt_zero j), fun j h1 h2 => by rw [cu_app, if_neg (by omega)], fun x _ => rfl⟩
  rintro K _ ⟨q, c1, rfl, hq, h1, h2, h3⟩ hK
  unfold vX0_renew_18
  refine ⟨⟨by omega, by omega⟩, ⟨by omega, by omega⟩, fun r => ?_, fun r => ⟨⟨by omega, by omega⟩, ?_⟩⟩
  · refine k c1 ⟨fun i p hi hi3 hp => ?_, fun x hx => ?_, fun e y he1 he2 hy => ?_⟩
    · refine h1 i p ?_ hp
      have e0 : aRenew b n 3 0 = n := by unfold aRenew; rw [if_pos ⟨rfl, rfl⟩]
      rw [e0] at hi
      omega
    · rw [h3 _ (by omega), cu_app]
      unfold aRenew
      by_cases hx0 : x = 0
      · rw [if_pos (by omega), if_pos ⟨rfl, hx0⟩]
      · rw [if_neg (by omega), if_neg (by omega), if_neg (by omega)]
        exact h.n x hx
    · have e33 : aRenew b n 3 3 = b 3 3 := by simp (disch := omega) only [aRenew, if_neg]
      rw [e33] at he1 he2
      rw [h3 _ (by omega), cu_app, if_neg (by omega)]
      have : aRenew b n (4 + e) y = b (4 + e) y := by simp (disch := omega) only [aRenew, if_neg]
      rw [this]
      exact h.2.2 e y he1 he2 hy
  · have hq3 : q < 3 := by omega
    have blk : ∀ u : Int, u = (if (q : Int) < b 3 0 then b q 0 else 5) → vX0_renew_40 K Q n (b 3 0) (q : Int) (q : Int) u (xset σ 8 c1) := by
      intro u hu
      unfold vX0_renew_40 vX0_fill vX0_makeKind
      refine ok_put q 0 hq3 (by omega) rfl rfl (ok_put q 1 hq3 (by omega) rfl rfl (ok_free q hq3 rfl (ok_put q 2 hq3 (by omega) rfl rfl (ok_put q 3 hq3 (by omega) rfl rfl (ok_free q hq3 rfl (ok_put q 5 hq3 (by omega) rfl rfl ?_))))))
      refine hK _ ⟨q + 1, _, by push_cast; rfl, by omega, fun j p hj hp => ?_, fun j hj1 hj2 => ?_, fun x hx => ?_⟩ (by show (3 - ((q : Int) + 1)).toNat < (3 - (q : Int)).toNat; omega)
      · by_cases hjq : j = q
        · subst hjq
          unfold aRenew
          rw [if_neg (by omega), if_pos hq3]
          rcases (show p = 0 ∨ p = 1 ∨ p = 2 ∨ p = 3 ∨ p = 4 ∨ p = 5 ∨ p = 6 by omega) with rfl | rfl | rfl | rfl | rfl | rfl | rfl
          · simp (disch := omega) only [cu_app, if_neg, if_pos, ite_true]
            exact hu
          all_goals simp (disch := omega) only [cu_app, if_neg, if_pos, ite_true]
        · simp (disch := omega) only [cu_app, if_neg]
          exact h1 j p (by omega) hp
      · simp (disch := omega) only [cu_app, if_neg]
        exact h2 j (by omega) hj2
      · simp (disch := omega) only [cu_app, if_neg]
        rw [h3 x hx, cu_app]
    refine ⟨fun r2 => blk 5 (by rw [if_neg (by omega)]), fun r2 => ok_prop q 0 hq3 (by omega) rfl rfl ?_⟩
    refine blk _ ?_
    rw [if_pos (by omega), h2 _ (by omega) (by omega)]
    have := h.1 q 0 (by omega) hq3 (by omega)
    rw [← this]
/-! reads -/
theorem okTimeFor {σ : xS} {c : Nat → Int} {b : xS} {s : Int} {Q : Int → xS → Prop} {T : Int} (hT : T ≤ 100000) (hw : WFt T b) (h : CB c b) (hs : rng s) (k1 : b 3 1 + s ≤ 9999 → Q 1 (xset σ 8 c)) (k0 : 9999 < b 3 1 + s → Q 0 (xset σ 8 c)) : vX0_hasTimeFor s (xset σ 8 c) Q := by
  have ht := hw.2.1
  unfold vX0_hasTimeFor
  rw [xset_at, h.n 1 (by omega)]
  exact ⟨hs, ⟨by omega, by omega⟩, fun q => k0 (by omega), fun q => k1 (by omega)⟩
theorem jrem_nat {a : Int} {n : Nat} (h0 : 0 ≤ a) (h : a < 2147483648) (hn0 : 0 < n) (hn : n < 2147483648) : jrem a (n : Int) = ((a.toNat % n : Nat) : Int) := by
  unfold jrem
  have e1 : i32 a = nI a.toNat := by
    show Int32.ofInt _ = Int32.ofNat _
    rw [← Int32.ofInt_eq_ofNat, Int.toNat_of_nonneg h0]
  have e2 : i32 (n : Int) = nI n := by
    show Int32.ofInt _ = Int32.ofNat _
    rw [← Int32.ofInt_eq_ofNat]
  have hlt : a.toNat % n < 2 ^ 31 := Nat.lt_of_lt_of_le (Nat.mod_lt _ hn0) (by omega)
  rw [e1, e2, pk_rem (by omega) hn0 (by omega), nI_toInt hlt]
def aListed (b : xS) : Int := jmin (b 3 3) 12
theorem okListed {σ : xS} {c : Nat → Int} {b : xS} {Q : Int → xS → Prop} {T : Int} (hT : T ≤ 100000) (hw : WFt T b) (h : CB c b) (k : Q (aListed b) (xset σ 8 c)) : vX0_eventsListed (xset σ 8 c) Q := by
  have h3 := hw.2.2.2.1
  have h1 := hw.2.1
  unfold vX0_eventsListed
  rw [xset_at, h.n 3 (by omega)]
  exact ⟨⟨by omega, by omega⟩, k⟩
/-- a part of the event that has j later ones -/
def aPart (b : xS) (j q : Nat) : Int := b (4 + ((b 3 3).toNat - 1 - j)) q
theorem okPart {σ : xS} {c : Nat → Int} {b : xS} {x y : Int} {Q : Int → xS → Prop} {T : Int} (hT : T ≤ 100000) (hw : WFt T b) (h : CB c b) (j q : Nat) (hx : x = (j : Int)) (hy : y = (q : Int)) (hj : (j : Int) < aListed b) (hq : q < 3) (k : Q (aPart b j q) (xset σ 8 c)) : vX0_eventPart x y (xset σ 8 c) Q := by
  subst hx
  subst hy
  have h3 := hw.2.2.2.1
  have h1 := hw.2.1
  have hl := jmin_le (b 3 3) 12
  unfold aListed at hj
  unfold vX0_eventPart vX0_eventCell
  rw [xset_at, h.n 3 (by omega)]
  have e : jrem (b 3 3 - 1 - (j : Int)) 12 = ((((b 3 3).toNat - 1 - j) % 12 : Nat) : Int) := by
    have := jrem_nat (a := b 3 3 - 1 - (j : Int)) (n := 12) (by omega) (by omega) (by omega) (by omega)
    rw [show ((12 : Nat) : Int) = 12 from rfl] at this
    rw [this, show (b 3 3 - 1 - (j : Int)).toNat = (b 3 3).toNat - 1 - j by omega]
  rw [e]
  dsimp only
  rw [xset_at]
  refine ⟨⟨by omega, by omega⟩, ?_⟩
  rw [show (21 + ((((b 3 3).toNat - 1 - j) % 12 : Nat) : Int) * 3 + (q : Int)).toNat = 21 + 3 * (((b 3 3).toNat - 1 - j) % 12) + q by omega, h.2.2 ((b 3 3).toNat - 1 - j) q (by omega) (by omega) hq]
  exact k
