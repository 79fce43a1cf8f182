/-! a second, on the table -/
abbrev WF (b : xS) : Prop := WFt 9999 b
def aDec (b : xS) (i : Nat) : xS := fun j p => if j = i then (if p = 1 then b i 1 - 1 else if p = 6 then (if b i 2 = 1 then b i 6 + 1 else b i 6) else b i p) else b j p
def aSink (b : xS) (i : Nat) : xS := if b i 1 - 1 = 0 then aEv (aDec b i) i 0 else if b i 2 = 1 ∧ b i 3 ≤ b i 6 + 1 then aEv (xup (aDec b i) i 4 1) i 1 else aDec b i
def aSecI (b : xS) : Nat → xS
  | 0 => xup b 3 1 (b 3 1 + 1)
  | k + 1 => if aRuns (aSecI b k) k then aSink (aSecI b k) k else aSecI b k
def aSec (b : xS) : xS := aSecI b (b 3 0).toNat
theorem aDec_1 (b : xS) (i : Nat) (h : ¬ b i 2 = 1) : aDec b i = xup b i 1 (b i 1 - 1) := by
  funext j p
  rw [xup_app]
  unfold aDec
  by_cases h1 : j = i
  · subst h1
    by_cases h2 : p = 1 <;> by_cases h3 : p = 6 <;> simp [h, h2, h3]
  · simp [h1]
theorem aDec_2 (b : xS) (i : Nat) (h : b i 2 = 1) : aDec b i = xup (xup b i 1 (b i 1 - 1)) i 6 (b i 6 + 1) := by
  funext j p
  rw [xup_app, xup_app]
  unfold aDec
  by_cases h1 : j = i
  · subst h1
    by_cases h2 : p = 1 <;> by_cases h3 : p = 6 <;> simp [h, h2, h3]
  · simp [h1]
theorem aDec_app (b : xS) (i j p : Nat) : aDec b i j p = if j = i then (if p = 1 then b i 1 - 1 else if p = 6 then (if b i 2 = 1 then b i 6 + 1 else b i 6) else b i p) else b j p := rfl
theorem aEv_low (b : xS) (g : Nat) (kind : Int) {j p : Nat} (hj : j < 3) : aEv b g kind j p = b j p := by
  simp (disch := omega) only [aEv_app, if_neg]
theorem aEv_3 (b : xS) (g : Nat) (kind : Int) {p : Nat} (hp : p ≠ 3) : aEv b g kind 3 p = b 3 p := by
  simp (disch := omega) only [aEv_app, if_neg]
theorem aEv_33 (b : xS) (g : Nat) (kind : Int) : aEv b g kind 3 3 = b 3 3 + 1 := by rw [aEv_app, if_pos ⟨rfl, rfl⟩]
theorem aSink_low (b : xS) {i j p : Nat} (hj : j < 3) (h : j ≠ i) : aSink b i j p = b j p := by
  unfold aSink
  split
  · rw [aEv_low _ _ _ hj, aDec_app, if_neg h]
  · split
    · rw [aEv_low _ _ _ hj, xup_app, if_neg (by omega), aDec_app, if_neg h]
    · rw [aDec_app, if_neg h]
theorem aSink_3 (b : xS) {i p : Nat} (hi : i < 3) (hp : p ≠ 3) : aSink b i 3 p = b 3 p := by
  unfold aSink
  split
  · rw [aEv_3 _ _ _ hp, aDec_app, if_neg (by omega)]
  · split
    · rw [aEv_3 _ _ _ hp, xup_app, if_neg (by omega), aDec_app, if_neg (by omega)]
    · rw [aDec_app, if_neg (by omega)]
theorem aSink_33 (b : xS) {i : Nat} (hi : i < 3) : aSink b i 3 3 = b 3 3 + if b i 1 - 1 = 0 ∨ (b i 2 = 1 ∧ b i 3 ≤ b i 6 + 1) then 1 else 0 := by
  unfold aSink
  split
  · rename_i h
    rw [aEv_33, aDec_app, if_neg (by omega), if_pos (Or.inl h)]
  · rename_i h
    split
    · rename_i h2
      rw [aEv_33, xup_app, if_neg (by omega), aDec_app, if_neg (by omega), if_pos (Or.inr h2)]
    · rename_i h2
      rw [aDec_app, if_neg (by omega), if_neg (by rintro (q | q); exact h q; exact h2 q)]
      omega
theorem aSink_row (b : xS) {i p : Nat} (hi : i < 3) : aSink b i i p = if p = 4 ∧ b i 1 - 1 ≠ 0 ∧ b i 2 = 1 ∧ b i 3 ≤ b i 6 + 1 then 1 else aDec b i i p := by
  unfold aSink
  split
  · rename_i h
    rw [aEv_low _ _ _ hi, if_neg (by rintro ⟨_, q, _⟩; exact q h)]
  · rename_i h
    split
    · rename_i h2
      rw [aEv_low _ _ _ hi, xup_app]
      by_cases h4 : p = 4
      · rw [if_pos ⟨rfl, h4⟩, if_pos ⟨h4, h, h2⟩]
      · rw [if_neg (by omega), if_neg (by omega)]
    · rename_i h2
      rw [if_neg (by rintro ⟨_, _, q⟩; exact h2 q)]
/-- the part of the table that a second's loop has behind it -/
theorem aSecI_hi (b : xS) : ∀ k, k ≤ 3 → ∀ j p, k ≤ j → j < 3 → aSecI b k j p = b j p
  | 0, _, j, p, _, hj => by unfold aSecI; rw [xup_app, if_neg (by omega)]
  | k + 1, hk, j, p, h1, hj => by
    unfold aSecI
    split
    · rw [aSink_low _ hj (by omega), aSecI_hi b k (by omega) j p (by omega) hj]
    · exact aSecI_hi b k (by omega) j p (by omega) hj
theorem aSecI_3 (b : xS) : ∀ k, k ≤ 3 → ∀ p, p ≠ 3 → p ≠ 1 → aSecI b k 3 p = b 3 p
  | 0, _, p, h3, h1 => by unfold aSecI; rw [xup_app, if_neg (by omega)]
  | k + 1, hk, p, h3, h1 => by
    unfold aSecI
    split
    · rw [aSink_3 _ (by omega) h3, aSecI_3 b k (by omega) p h3 h1]
    · exact aSecI_3 b k (by omega) p h3 h1
theorem aSecI_31 (b : xS) : ∀ k, k ≤ 3 → aSecI b k 3 1 = b 3 1 + 1
  | 0, _ => by unfold aSecI; rw [xup_app, if_pos ⟨rfl, rfl⟩]
  | k + 1, hk => by
    unfold aSecI
    split
    · rw [aSink_3 _ (by omega) (by omega), aSecI_31 b k (by omega)]
    · exact aSecI_31 b k (by omega)
theorem aSecI_33 (b : xS) : ∀ k, k ≤ 3 → b 3 3 ≤ aSecI b k 3 3 ∧ aSecI b k 3 3 ≤ b 3 3 + k
  | 0, _ => by unfold aSecI; rw [xup_app, if_neg (by omega)]; omega
  | k + 1, hk => by
    have ih := aSecI_33 b k (by omega)
    unfold aSecI
    split
    · rw [aSink_33 _ (by omega)]
      split <;> omega
    · omega
/-- a processed glass -/
theorem aSecI_lo (b : xS) : ∀ k, k ≤ 3 → ∀ j p, j < k → aSecI b k j p = if aRuns b j then aSink b j j p else b j p
  | 0, _, j, p, hj => absurd hj (Nat.not_lt_zero j)
  | k + 1, hk, j, p, hj => by
    have hr : aRuns (aSecI b k) k ↔ aRuns b k := by
      unfold aRuns
      rw [aSecI_hi b k (by omega) k 1 (Nat.le_refl k) (by omega), aSecI_hi b k (by omega) k 2 (Nat.le_refl k) (by omega), aSecI_hi b k (by omega) k 4 (Nat.le_refl k) (by omega)]
    have hs : aSink (aSecI b k) k k p = aSink b k k p := by
      rw [aSink_row _ (by omega), aSink_row _ (by omega)]
      simp only [aDec_app, if_true]
      simp only [aSecI_hi b k (by omega) k _ (Nat.le_refl k) (by omega)]
    show (if aRuns (aSecI b k) k then aSink (aSecI b k) k else aSecI b k) j p = _
    by_cases h : j = k
    · subst h
      by_cases h2 : aRuns b j
      · rw [if_pos (hr.mpr h2), if_pos h2, hs]
      · rw [if_neg (fun q => h2 (hr.mp q)), if_neg h2, aSecI_hi b j (by omega) j p (Nat.le_refl j) (by omega)]
    · have ih := aSecI_lo b k (by omega) j p (by omega)
      by_cases h2 : aRuns (aSecI b k) k
      · rw [if_pos h2, aSink_low _ (by omega) (by omega), ih]
      · rw [if_neg h2, ih]
/-! the class: a second -/
theorem okSink {σ : xS} {c : Nat → Int} {b : xS} {g : Int} {Q : xS → Prop} (h3 : 0 ≤ b 3 3 ∧ b 3 3 ≤ 900000) (h : CB c b) (i : Nat) (hn : (i : Int) < b 3 0) (hi : i < 3) (hv : (0 < b i 1 ∧ b i 1 ≤ 12) ∧ (0 ≤ b i 2 ∧ b i 2 ≤ 2) ∧ (1 ≤ b i 3 ∧ b i 3 ≤ 9) ∧ 0 ≤ b i 6 ∧ b i 6 ≤ 9) (hg : g = (i : Int)) (k : ∀ c', CB c' (aSink b i) → Q (xset σ 8 c')) : vX0_sink g (xset σ 8 c) Q := by
  have key : ∀ (y : Int) (c1 : Nat → Int), (y = 0 ∨ y = 1) → (y = 1 ↔ b i 2 = 1) → CB c1 (aDec b i) → vX0_sink_50 Q g y (xset σ 8 c1) := by
    intro y c1 hy hy1 h1
    have e3 : aDec b i 3 3 = b 3 3 := by rw [aDec_app, if_neg (by omega)]
    have e0 : aDec b i 3 0 = b 3 0 := by rw [aDec_app, if_neg (by omega)]
    have r1 : aDec b i i 1 = b i 1 - 1 := by rw [aDec_app, if_pos rfl, if_pos rfl]
    have r3 : aDec b i i 3 = b i 3 := by rw [aDec_app, if_pos rfl, if_neg (by omega), if_neg (by omega)]
    have r6 : aDec b i i 6 = if b i 2 = 1 then b i 6 + 1 else b i 6 := by rw [aDec_app, if_pos rfl, if_neg (by omega), if_pos rfl]
    unfold vX0_sink_50
    refine okR h1 i 1 hi (by rw [e0]; exact hn) (by omega) hg rfl ?_
    rw [r1]
    refine ⟨⟨by omega, by omega⟩, fun q => ⟨⟨by omega, by omega⟩, fun q2 => ?_, fun q2 => ?_⟩, fun q => ?_⟩
    · have e : aSink b i = aDec b i := by
        unfold aSink
        rw [if_neg q, if_neg (fun r => by have := hy1.mpr r.1; omega)]
      exact k _ (e ▸ h1)
    · have hs : b i 2 = 1 := hy1.mp (by omega)
      rw [if_pos hs] at r6
      refine okR h1 i 6 hi (by rw [e0]; exact hn) (by omega) hg rfl (okR h1 i 3 hi (by rw [e0]; exact hn) (by omega) hg rfl ?_)
      rw [r6, r3]
      refine ⟨⟨by omega, by omega⟩, ⟨by omega, by omega⟩, fun q3 => ?_, fun q3 => ?_⟩
      · have e : aSink b i = aDec b i := by
          unfold aSink
          rw [if_neg q, if_neg (fun r => by omega)]
        exact k _ (e ▸ h1)
      · refine okP h1 i 4 hi (by omega) hg rfl (fun c2 h2 => ?_)
        have e33 : xup (aDec b i) i 4 1 3 3 = b 3 3 := by rw [xup_app, if_neg (by omega), e3]
        refine okWrite (by rw [e33]; omega) h2 i hg (fun c3 h4 => ?_)
        have e : aSink b i = aEv (xup (aDec b i) i 4 1) i 1 := by
          unfold aSink
          rw [if_neg q, if_pos ⟨hs, by omega⟩]
        exact k _ (e ▸ h4)
    · refine okWrite (by rw [e3]; omega) h1 i hg (fun c3 h4 => ?_)
      have e : aSink b i = aEv (aDec b i) i 0 := by
        unfold aSink
        rw [if_pos q]
      exact k _ (e ▸ h4)
  unfold vX0_sink
  refine okR h i 1 hi hn (by omega) hg rfl (okP h i 1 hi (by omega) hg rfl (fun c1 h1 => ?_))
  have hn1 : (i : Int) < xup b i 1 (b i 1 - 1) 3 0 := by rw [xup_app, if_neg (by omega)]; exact hn
  refine okR h1 i 2 hi hn1 (by omega) hg rfl ?_
  have e2 : xup b i 1 (b i 1 - 1) i 2 = b i 2 := by rw [xup_app, if_neg (by omega)]
  have e6 : xup b i 1 (b i 1 - 1) i 6 = b i 6 := by rw [xup_app, if_neg (by omega)]
  rw [e2]
  refine ⟨⟨by omega, by omega⟩, fun q => ?_, fun q => ?_⟩
  · unfold vX0_sink_29
    refine ⟨⟨by omega, by omega⟩, fun _ => key 0 c1 (Or.inl rfl) ⟨fun r => absurd r (by omega), fun r => absurd r q⟩ (by rw [aDec_1 b i q]; exact h1), fun r => absurd rfl r⟩
  · unfold vX0_sink_29
    refine ⟨⟨by omega, by omega⟩, fun r => absurd r (by omega), fun _ => ?_⟩
    refine okR h1 i 6 hi hn1 (by omega) hg rfl ?_
    rw [e6]
    exact okP h1 i 6 hi (by omega) hg rfl (fun c2 h2 => key 1 c2 (Or.inr rfl) ⟨fun _ => q, fun _ => rfl⟩ (by rw [aDec_2 b i q]; exact h2))
theorem okSec {σ : xS} {c : Nat → Int} {b : xS} {Q : xS → Prop} {T : Int} (hT : T ≤ 100000) (hw : WFt T b) (h : CB c b) (k : ∀ c', CB c' (aSec b) → Q (xset σ 8 c')) : vX0_passSecond (xset σ 8 c) Q := by
  have hn := hw.1
  have h1 := hw.2.1
  have h3 := hw.2.2.2.1
  unfold vX0_passSecond
  intro s hs
  rw [hs, xset_at, xup_cu, h.n 1 (by omega)]
  refine mu_of (fun a => ∃ (q : Nat) (c1 : Nat → Int), a = ((q : Int), xset σ 8 c1) ∧ (q : Int) ≤ b 3 0 ∧ CB c1 (aSecI b q)) (fun a => (3 - a.1).toNat) ?_ _ ⟨0, _, rfl, by omega, h.scal (k := 1) (by omega) (by omega) (by omega) _⟩
  rintro K _ ⟨q, c1, rfl, hq, hc1⟩ hK
  have e0 : aSecI b q 3 0 = b 3 0 := aSecI_3 b q (by omega) 0 (by omega) (by omega)
  have e33 := aSecI_33 b q (by omega)
  unfold vX0_passSecond_13
  refine okG hc1 ?_
  rw [e0]
  refine ⟨⟨by omega, by omega⟩, ⟨by omega, by omega⟩, fun r => ?_, fun r => ?_⟩
  · have e : (b 3 0).toNat = q := by omega
    refine k c1 ?_
    unfold aSec
    rw [e]
    exact hc1
  · have hq3 : q < 3 := by omega
    have row : ∀ p, aSecI b q q p = b q p := fun p => aSecI_hi b q (by omega) q p (Nat.le_refl q) hq3
    have hv := hw.2.2.2.2 q (by omega)
    have nxt : ∀ c2, CB c2 (aSecI b (q + 1)) → K ((q : Int) + 1, xset σ 8 c2) := fun c2 h2 => hK _ ⟨q + 1, c2, by push_cast; rfl, by omega, h2⟩ (by show (3 - ((q : Int) + 1)).toNat < (3 - (q : Int)).toNat; omega)
    have run : vX0_runs (q : Int) (xset σ 8 c1) (fun r6 σ7 => rng r6 ∧ ((r6 = 0 → K (((q : Int) + 1), σ7)) ∧ (¬ r6 = 0 → vX0_sink (q : Int) σ7 (fun σ11 => K (((q : Int) + 1), σ11))))) := by
      unfold vX0_runs
      have hn' : (q : Int) < aSecI b q 3 0 := by rw [e0]; omega
      have stay : ¬ aRuns (aSecI b q) q → K ((q : Int) + 1, xset σ 8 c1) := fun hr => nxt c1 (by unfold aSecI; rw [if_neg hr]; exact hc1)
      refine okR hc1 q 1 hq3 hn' (by omega) rfl rfl ⟨⟨by rw [row]; omega, by rw [row]; omega⟩, fun r1 => ⟨⟨by omega, by omega⟩, fun _ => stay (fun r => by have := r.1; omega), fun z => absurd rfl z⟩, fun r1 => ?_⟩
      refine okR hc1 q 2 hq3 hn' (by omega) rfl rfl ⟨⟨by rw [row]; omega, by rw [row]; omega⟩, fun r2 => ⟨⟨by omega, by omega⟩, fun _ => stay (fun r => r.2.1 r2), fun z => absurd rfl z⟩, fun r2 => ?_⟩
      refine okR hc1 q 4 hq3 hn' (by omega) rfl rfl ⟨⟨by rw [row]; omega, by rw [row]; omega⟩, fun r3 => ⟨⟨by omega, by omega⟩, fun _ => stay (fun r => r3 r.2.2), fun z => absurd rfl z⟩, fun r3 => ⟨⟨by omega, by omega⟩, fun z => absurd z (by omega), fun _ => ?_⟩⟩
      have hr : aRuns (aSecI b q) q := ⟨by omega, r2, r3⟩
      refine okSink ⟨by omega, by omega⟩ hc1 q hn' hq3 ?_ rfl (fun c2 h2 => nxt c2 (by unfold aSecI; rw [if_pos hr]; exact h2))
      rw [row] at r1
      simp only [row]
      omega
    exact run
