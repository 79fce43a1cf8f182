def rawV (q : Nat) (u : Int) (p : Nat) : Int := if p = 0 then u else if p = 3 then 3 else if p = 6 then (q : Int) else 0
theorem aRenew_raw (b : xS) (n : Int) (j p : Nat) (hj : j < 3) (hp : p < 7) : aRenew b n j p = rawV j (if (j : Int) < b 3 0 then b j 0 else 5) (pip p) := by
  unfold aRenew rawV
  rw [if_neg (by omega), if_pos hj]
  rcases (show p = 0 ∨ p = 1 ∨ p = 2 ∨ p = 3 ∨ p = 4 ∨ p = 5 ∨ p = 6 by omega) with rfl | rfl | rfl | rfl | rfl | rfl | rfl <;> rfl
theorem i32_nI (n : Nat) : i32 (n : Int) = nI n := by
  show Int32.ofInt _ = Int32.ofNat _
  rw [← Int32.ofInt_eq_ofNat]
theorem toI {n : Nat} (h : n < 2147483648) : (nI n).toInt = (n : Int) := nI_toInt h
theorem jdiv_nat {a n : Nat} (ha : a < 2147483648) (hn0 : 0 < n) (hn : n < 2147483648) : jdiv (a : Int) (n : Int) = ((a / n : Nat) : Int) := by
  have := Nat.div_le_self a n
  unfold jdiv
  rw [i32_nI, i32_nI, pk_div (by omega) hn0 (by omega), toI (by omega)]
theorem pip_lt {p : Nat} (h : p < 7) : pip p < 7 := by unfold pip; split <;> (try split) <;> omega
theorem pip_inj {p q : Nat} (hp : p < 7) (hq : q < 7) (h : pip p = pip q) : p = q := by
  unfold pip at h
  split at h <;> split at h <;> (try split at h) <;> (try split at h) <;> omega
theorem cntB_0 {f : Nat → Bool} : ∀ {k : Nat}, (∀ i, i < k → f i = false) → cntB f k = 0
  | 0, _ => rfl
  | k + 1, h => by
    rw [cntB, cntB_0 (fun i hi => h i (by omega)), h k (by omega)]
    rfl
theorem cntB_pos {f : Nat → Bool} : ∀ {k i : Nat}, i < k → f i = true → 1 ≤ cntB f k
  | 0, i, h, _ => absurd h (Nat.not_lt_zero i)
  | k + 1, i, h, hf => by
    have h0 := cntB_in f k
    rw [cntB]
    by_cases hik : i = k
    · subst hik
      rw [if_pos hf]
      omega
    · have := cntB_pos (k := k) (i := i) (by omega) hf
      split <;> omega
theorem aUntOf_1 {T : Int} {b : xS} (h : WFt T b) {i : Nat} (hi : (i : Int) < b 3 0) (hr : aRuns b i) : (b i 1 - 1 = 0 ∨ (b i 2 = 1 ∧ b i 3 ≤ b i 6 + 1)) ↔ aUntOf b i = 1 := by
  have hv := h.2.2.2.2 i hi
  have hr1 := hr.1
  unfold aUntOf
  by_cases h2 : b i 2 = 1
  · rw [if_pos h2]
    have hj := jmin_le (b i 1) (b i 3 - b i 6)
    have hlt := hv.2.2.2.2.2.2.2.2.1 h2 hr.2.2 hr1
    constructor
    · rintro (q | q) <;> omega
    · intro q
      by_cases q1 : b i 1 - 1 = 0
      · exact Or.inl q1
      · exact Or.inr ⟨h2, by omega⟩
  · rw [if_neg h2]
    constructor
    · rintro (q | q)
      · omega
      · exact absurd q.1 h2
    · intro q
      exact Or.inl (by omega)
theorem aSecI_cnt {T : Int} {b : xS} (h : WFt T b) : ∀ k : Nat, (k : Int) ≤ b 3 0 → aSecI b k 3 3 = b 3 3 + cntB (fun i => decide (aRuns b i ∧ aUntOf b i = 1)) k
  | 0, _ => by unfold aSecI cntB; rw [xup_app, if_neg (by omega)]; omega
  | k + 1, hk => by
    have ih := aSecI_cnt h k (by omega)
    have hn := h.1
    have hs : ∀ p, aSecI b k k p = b k p := fun p => aSecI_hi b k (by omega) k p (Nat.le_refl k) (by omega)
    have srun : aRuns (aSecI b k) k ↔ aRuns b k := by unfold aRuns; rw [hs, hs, hs]
    rw [aSecI, cntB]
    by_cases hr : aRuns b k
    · have hev := aUntOf_1 h (i := k) (by omega) hr
      rw [if_pos (srun.mpr hr), aSink_33 _ (by omega), hs, hs, hs, hs, ih]
      by_cases q : aUntOf b k = 1
      · rw [if_pos (hev.mpr q), if_pos (decide_eq_true (And.intro hr q))]
        omega
      · rw [if_neg (fun z => q (hev.mp z)), if_neg (fun z => q (of_decide_eq_true z).2)]
        omega
    · rw [if_neg (fun z => hr (srun.mp z)), if_neg (fun z => hr (of_decide_eq_true z).1), ih]
      omega
theorem aUnt_le {T : Int} {b : xS} (h : WFt T b) {i : Nat} (hi : (i : Int) < b 3 0) (hr : aRuns b i) : aUnt b ≤ aUntOf b i := by
  have hn := h.1
  exact (aUntI_le h (b 3 0).toNat (by omega)).1 i (by omega) hr
theorem aUnt_at {T : Int} {b : xS} (h : WFt T b) (hz : aUnt b ≠ 0) : ∃ i : Nat, (i : Int) < b 3 0 ∧ aRuns b i ∧ aUntOf b i = aUnt b := by
  have hn := h.1
  obtain ⟨i, h1, h2, h3⟩ := (aUntI_le h (b 3 0).toNat (by omega)).2 hz
  exact ⟨i, by omega, h2, h3⟩
theorem aUnt_is {T : Int} {b : xS} (h : WFt T b) {v : Int} (h1 : ∀ i : Nat, (i : Int) < b 3 0 → aRuns b i → v ≤ aUntOf b i) {i : Nat} (hi : (i : Int) < b 3 0) (hr : aRuns b i) (hv : aUntOf b i = v) : aUnt b = v := by
  have hz : aUnt b ≠ 0 := fun z => (aUnt_0 h).mp z i hi hr
  obtain ⟨j, h2, h3, h4⟩ := aUnt_at h hz
  have := h1 j h2 h3
  have := aUnt_le h hi hr
  omega
theorem aSec_one {T : Int} {b : xS} (h : WFt T b) (hu : aUnt b = 1) : b 3 3 < aSec b 3 3 := by
  have hn := h.1
  obtain ⟨i, h1, h2, h3⟩ := aUnt_at h (by omega)
  have e := aSecI_cnt h (b 3 0).toNat (by omega)
  have := cntB_pos (f := fun i => decide (aRuns b i ∧ aUntOf b i = 1)) (k := (b 3 0).toNat) (i := i) (by omega) (decide_eq_true (And.intro h2 (by omega)))
  unfold aSec
  omega
theorem aDec_v1 (b : xS) (i : Nat) : aDec b i i 1 = b i 1 - 1 := by rw [aDec_app, if_pos rfl, if_pos rfl]
theorem aDec_v6 (b : xS) (i : Nat) : aDec b i i 6 = if b i 2 = 1 then b i 6 + 1 else b i 6 := by rw [aDec_app, if_pos rfl, if_neg (by omega), if_pos rfl]
theorem aDec_vo (b : xS) (i : Nat) {p : Nat} (h1 : p ≠ 1) (h6 : p ≠ 6) : aDec b i i p = b i p := by rw [aDec_app, if_pos rfl, if_neg h1, if_neg h6]
theorem aSec_more {T : Int} {b : xS} (h : WFt T b) (hu : 1 < aUnt b) : aSec b 3 3 = b 3 3 ∧ aUnt (aSec b) = aUnt b - 1 := by
  have hn := h.1
  have hge : ∀ i : Nat, (i : Int) < b 3 0 → aRuns b i → 2 ≤ aUntOf b i := fun i hi hr => by have := aUnt_le h hi hr; omega
  have e := aSecI_cnt h (b 3 0).toNat (by omega)
  have c0 := cntB_0 (f := fun i => decide (aRuns b i ∧ aUntOf b i = 1)) (k := (b 3 0).toNat) (fun i hi => decide_eq_false (fun z => by have := hge i (by omega) z.1; omega))
  have e33 : aSec b 3 3 = b 3 3 := by unfold aSec; omega
  refine ⟨e33, ?_⟩
  have row : ∀ i : Nat, (i : Int) < b 3 0 → aRuns b i → ∀ p, aSec b i p = aDec b i i p := by
    intro i hi hr p
    have h1 := aUntOf_1 h hi hr
    have h2 := hge i hi hr
    rw [aSec_lo h hi, if_pos hr, aSink_row _ (h.n3 hi), if_neg (fun z => by have := h1.mp (Or.inr z.2.2); omega)]
  have row2 : ∀ i : Nat, (i : Int) < b 3 0 → ¬ aRuns b i → ∀ p, aSec b i p = b i p := by
    intro i hi hr p
    rw [aSec_lo h hi, if_neg hr]
  have runs : ∀ i : Nat, (i : Int) < b 3 0 → (aRuns (aSec b) i ↔ aRuns b i) := by
    intro i hi
    by_cases hr : aRuns b i
    · have h1 := aUntOf_1 h hi hr
      have h2 := hge i hi hr
      have hr1 := hr.1
      refine ⟨fun _ => hr, fun _ => ?_⟩
      unfold aRuns
      rw [row i hi hr, row i hi hr, row i hi hr, aDec_v1, aDec_vo _ _ (by omega) (by omega), aDec_vo _ _ (by omega) (by omega)]
      refine ⟨?_, hr.2.1, hr.2.2⟩
      by_cases z : b i 1 - 1 = 0
      · have := h1.mp (Or.inl z)
        omega
      · omega
    · unfold aRuns
      rw [row2 i hi hr, row2 i hi hr, row2 i hi hr]
  have unt : ∀ i : Nat, (i : Int) < b 3 0 → aRuns b i → aUntOf (aSec b) i = aUntOf b i - 1 := by
    intro i hi hr
    unfold aUntOf
    rw [row i hi hr, row i hi hr, row i hi hr, row i hi hr, aDec_v1, aDec_v6, aDec_vo b i (p := 2) (by omega) (by omega), aDec_vo b i (p := 3) (by omega) (by omega)]
    by_cases h2 : b i 2 = 1
    · simp only [if_pos h2]
      have j1 := jmin_le (b i 1 - 1) (b i 3 - (b i 6 + 1))
      have j2 := jmin_le (b i 1) (b i 3 - b i 6)
      omega
    · simp only [if_neg h2]
  obtain ⟨i, h1, h2, h3⟩ := aUnt_at h (by omega)
  have e30 : aSec b 3 0 = b 3 0 := aSec_3 h (by omega) (by omega)
  refine aUnt_is h.sec (fun j hj hrj => ?_) (i := i) (by rw [e30]; exact h1) ((runs i h1).mpr h2) (by rw [unt i h1 h2, h3])
  rw [e30] at hj
  have hrj := (runs j hj).mp hrj
  rw [unt j hj hrj]
  have := aUnt_le h hj hrj
  omega
theorem aPass_more {T : Int} {b : xS} (h : WFt T b) : ∀ k : Nat, (k : Int) < aUnt b → aPass k b 3 3 = b 3 3 ∧ aUnt (aPass k b) = aUnt b - k
  | 0, _ => ⟨rfl, by show aUnt b = _; omega⟩
  | k + 1, hk => by
    have ih := aPass_more h k (by omega)
    have := aSec_more (h.pass k) (by omega)
    unfold aPass
    exact ⟨by omega, by omega⟩
theorem xset_comm (σ : xS) (r q : Nat) (f g : Nat → Int) (h : r ≠ q) : xset (xset σ r f) q g = xset (xset σ q g) r f := by
  funext x
  unfold xset
  by_cases h1 : x = r
  · subst h1
    rw [if_neg h, if_pos rfl, if_pos rfl]
  · by_cases h2 : x = q
    · subst h2
      rw [if_pos rfl, if_neg (Ne.symm h), if_pos rfl]
    · rw [if_neg h2, if_neg h1, if_neg h1, if_neg h2]
theorem xup_2 (σ : xS) (r q k : Nat) (f g : Nat → Int) (v : Int) (h : r ≠ q) : xup (xset (xset σ r f) q g) r k v = xset (xset σ r (cu f k v)) q g := by
  rw [xset_comm σ r q f g h, xup_cu, xset_comm _ _ _ _ _ (Ne.symm h)]
theorem xset_at2 (σ : xS) (r q : Nat) (f g : Nat → Int) (h : r ≠ q) (k : Nat) : xset (xset σ r f) q g r k = f k := by
  rw [xset_ne h, xset_eq]
