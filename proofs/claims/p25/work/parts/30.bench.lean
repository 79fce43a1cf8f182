/-! PURE PART. The bench, both sides tied to one table b : glass i, property p; row 3: glasses, time, mark, events ever, turns, taps; row 4 + e: event number e -/
theorem xup_app (σ : xS) (r k : Nat) (v : Int) (r' j : Nat) : xup σ r k v r' j = if r' = r ∧ j = k then v else σ r' j := by
  unfold xup
  by_cases h : r' = r
  · by_cases h2 : j = k <;> simp [h, h2]
  · simp [h]
def cu (c : Nat → Int) (j : Nat) (v : Int) : Nat → Int := fun k => if k = j then v else c k
theorem cu_app (c : Nat → Int) (j : Nat) (v : Int) (k : Nat) : cu c j v k = if k = j then v else c k := rfl
theorem xup_cu (σ : xS) (r k : Nat) (v : Int) (c : Nat → Int) : xup (xset σ r c) r k v = xset σ r (cu c k v) := xup_xset σ r k v c
theorem xset_at (σ : xS) (r : Nat) (c : Nat → Int) (k : Nat) : xset σ r c r k = c k := by rw [xset_eq]
def CB (c : Nat → Int) (b : xS) : Prop :=
  (∀ i p : Nat, (i : Int) < b 3 0 → i < 3 → p < 7 → c (3 * p + i) = b i p) ∧ (∀ k : Nat, k < 6 → c (57 + k) = b 3 k) ∧ (∀ e q : Nat, (e : Int) < b 3 3 → b 3 3 ≤ (e : Int) + 12 → q < 3 → c (21 + 3 * (e % 12) + q) = b (4 + e) q)
def pip (p : Nat) : Nat := if p = 5 then 6 else if p = 6 then 5 else p
def MB (m : Nat → Int) (b : xS) : Prop :=
  (∀ i p : Nat, (i : Int) < b 3 0 → i < 3 → p < 7 → m (7 * i + pip p) = b i p) ∧ (∀ k : Nat, k < 6 → m (21 + k) = b 3 k) ∧ m 27 = jmin (b 3 3) 12 ∧ (∀ k q : Nat, (k : Int) < m 27 → q < 3 → m (28 + 3 * k + q) = b (4 + (b 3 3 - m 27).toNat + k) q)
/-- what always holds of the table -/
def WFt (T : Int) (b : xS) : Prop :=
  (1 ≤ b 3 0 ∧ b 3 0 ≤ 3) ∧ (0 ≤ b 3 1 ∧ b 3 1 ≤ T) ∧ (-1 ≤ b 3 2 ∧ b 3 2 ≤ 9999) ∧ (0 ≤ b 3 3 ∧ b 3 3 ≤ 3 * b 3 1) ∧
  ∀ i : Nat, (i : Int) < b 3 0 → (1 ≤ b i 0 ∧ b i 0 ≤ 12) ∧ (0 ≤ b i 1 ∧ b i 1 ≤ b i 0) ∧ (0 ≤ b i 2 ∧ b i 2 ≤ 2) ∧ (1 ≤ b i 3 ∧ b i 3 ≤ 9) ∧ (0 ≤ b i 4 ∧ b i 4 ≤ 1) ∧ (0 ≤ b i 5 ∧ b i 5 ≤ (i : Int)) ∧ (0 ≤ b i 6 ∧ b i 6 ≤ b i 3) ∧ (b i 2 ≠ 1 → b i 6 = 0 ∧ b i 4 = 0) ∧ (b i 2 = 1 → b i 4 = 0 → 0 < b i 1 → b i 6 < b i 3) ∧ b (b i 5).toNat 5 = b i 5
theorem CB.glass {c : Nat → Int} {b : xS} (h : CB c b) {i p : Nat} (hi : i < 3) (hp : p < 7) (v : Int) : CB (cu c (3 * p + i) v) (xup b i p v) := by
  refine ⟨fun i2 p2 h1 h2 h3 => ?_, fun k hk => ?_, fun e q h1 h2 h3 => ?_⟩
  · rw [xup_app] at h1
    rw [if_neg (by omega)] at h1
    rw [cu_app, xup_app]
    by_cases q : i2 = i ∧ p2 = p
    · rw [if_pos q, if_pos (by omega)]
    · rw [if_neg q, if_neg (by omega)]
      exact h.1 i2 p2 h1 h2 h3
  · rw [cu_app, xup_app, if_neg (by omega), if_neg (by omega)]
    exact h.2.1 k hk
  · rw [xup_app, if_neg (by omega)] at h1 h2
    rw [cu_app, xup_app, if_neg (by omega), if_neg (by omega)]
    exact h.2.2 e q h1 h2 h3
theorem CB.scal {c : Nat → Int} {b : xS} (h : CB c b) {k : Nat} (hk : k < 6) (h0 : k ≠ 0) (h3 : k ≠ 3) (v : Int) : CB (cu c (57 + k) v) (xup b 3 k v) := by
  refine ⟨fun i2 p2 h1 h2 h3 => ?_, fun k2 hk2 => ?_, fun e q h1 h2 h4 => ?_⟩
  · rw [xup_app, if_neg (by omega)] at h1
    rw [cu_app, xup_app, if_neg (by omega), if_neg (by omega)]
    exact h.1 i2 p2 h1 h2 h3
  · rw [cu_app, xup_app]
    by_cases q : k2 = k
    · rw [if_pos (by omega), if_pos ⟨rfl, q⟩]
    · rw [if_neg (by omega), if_neg (by omega)]
      exact h.2.1 k2 hk2
  · rw [xup_app, if_neg (by omega)] at h1 h2
    rw [cu_app, xup_app, if_neg (by omega), if_neg (by omega)]
    exact h.2.2 e q h1 h2 h4
/-- an event is written -/
def aEv (b : xS) (g : Nat) (kind : Int) : xS := xup (xup (xup (xup b (4 + (b 3 3).toNat) 0 (b 3 1)) (4 + (b 3 3).toNat) 1 (g : Int)) (4 + (b 3 3).toNat) 2 kind) 3 3 (b 3 3 + 1)
theorem aEv_app (b : xS) (g : Nat) (kind : Int) (r j : Nat) : aEv b g kind r j = if r = 3 ∧ j = 3 then b 3 3 + 1 else if r = 4 + (b 3 3).toNat ∧ j = 2 then kind else if r = 4 + (b 3 3).toNat ∧ j = 1 then (g : Int) else if r = 4 + (b 3 3).toNat ∧ j = 0 then b 3 1 else b r j := by
  unfold aEv
  rw [xup_app, xup_app, xup_app, xup_app]
theorem CB.ev {c : Nat → Int} {b : xS} (h : CB c b) (he : 0 ≤ b 3 3) (g : Nat) (kind : Int) : CB (cu (cu (cu (cu c (21 + 3 * ((b 3 3).toNat % 12)) (b 3 1)) (21 + 3 * ((b 3 3).toNat % 12) + 1) (g : Int)) (21 + 3 * ((b 3 3).toNat % 12) + 2) kind) 60 (b 3 3 + 1)) (aEv b g kind) := by
  have e0 : aEv b g kind 3 0 = b 3 0 := by rw [aEv_app, if_neg (by omega), if_neg (by omega), if_neg (by omega), if_neg (by omega)]
  have e3 : aEv b g kind 3 3 = b 3 3 + 1 := by rw [aEv_app, if_pos ⟨rfl, rfl⟩]
  refine ⟨fun i2 p2 h1 h2 h3 => ?_, fun k2 hk2 => ?_, fun e q h1 h2 h4 => ?_⟩
  · rw [e0] at h1
    rw [aEv_app, if_neg (by omega), if_neg (by omega), if_neg (by omega), if_neg (by omega)]
    simp only [cu_app]
    rw [if_neg (by omega), if_neg (by omega), if_neg (by omega), if_neg (by omega)]
    exact h.1 i2 p2 h1 h2 h3
  · simp only [cu_app]
    by_cases q : k2 = 3
    · subst q
      rw [e3, if_pos rfl]
    · rw [aEv_app, if_neg (by omega), if_neg (by omega), if_neg (by omega), if_neg (by omega), if_neg (by omega), if_neg (by omega), if_neg (by omega), if_neg (by omega)]
      exact h.2.1 k2 hk2
  · rw [e3] at h1 h2
    by_cases q2 : e = (b 3 3).toNat
    · subst q2
      rcases (show q = 0 ∨ q = 1 ∨ q = 2 by omega) with rfl | rfl | rfl <;> simp (disch := omega) only [cu_app, aEv_app, if_pos, if_neg, and_self, ite_true]
    · simp (disch := omega) only [cu_app, aEv_app, if_neg]
      exact h.2.2 e q (by omega) (by omega) h4
/-! the class's small methods -/
theorem ok_prop {σ : xS} {c : Nat → Int} {g p : Int} {Q : Int → xS → Prop} (i k : Nat) (hi : i < 3) (hk : k < 7) (hg : g = (i : Int)) (hp : p = (k : Int)) (h : Q (c (3 * k + i)) (xset σ 8 c)) : vX0_property g p (xset σ 8 c) Q := by
  subst hg
  subst hp
  unfold vX0_property
  refine ⟨⟨by omega, by omega⟩, ?_⟩
  rw [xset_at, show ((k : Int) * 3 + (i : Int)).toNat = 3 * k + i by omega]
  exact h
theorem ok_put {σ : xS} {c : Nat → Int} {g p v : Int} {Q : xS → Prop} (i k : Nat) (hi : i < 3) (hk : k < 7) (hg : g = (i : Int)) (hp : p = (k : Int)) (h : Q (xset σ 8 (cu c (3 * k + i) v))) : vX0_put g p v (xset σ 8 c) Q := by
  subst hg
  subst hp
  unfold vX0_put
  refine ⟨⟨by omega, by omega⟩, fun s hs => ?_⟩
  rw [hs, xup_cu, show ((k : Int) * 3 + (i : Int)).toNat = 3 * k + i by omega]
  exact h
theorem ok_free {σ : xS} {c : Nat → Int} {g : Int} {Q : xS → Prop} (i : Nat) (hi : i < 3) (hg : g = (i : Int)) (h : Q (xset σ 8 (cu (cu c (3 * 4 + i) 0) (3 * 6 + i) 0))) : vX0_free g (xset σ 8 c) Q := by
  unfold vX0_free
  exact ok_put i 4 hi (by omega) hg rfl (ok_put i 6 hi (by omega) hg rfl h)
/-- the state's class side: a bench table with its cells -/
def aFree (b : xS) (i : Nat) : xS := xup (xup b i 4 0) i 6 0
theorem aFree_app (b : xS) (i r j : Nat) : aFree b i r j = if r = i ∧ (j = 4 ∨ j = 6) then 0 else b r j := by
  unfold aFree
  rw [xup_app, xup_app]
  by_cases h : r = i <;> by_cases h1 : j = 6 <;> by_cases h2 : j = 4 <;> simp [h, h1, h2]
theorem okF {σ : xS} {c : Nat → Int} {b : xS} {g : Int} {Q : xS → Prop} (h : CB c b) (i : Nat) (hi : i < 3) (hg : g = (i : Int)) (k : ∀ c', CB c' (aFree b i) → Q (xset σ 8 c')) : vX0_free g (xset σ 8 c) Q :=
  ok_free i hi hg (k _ ((h.glass hi (by omega) 0).glass hi (by omega) 0))
theorem okP {σ : xS} {c : Nat → Int} {b : xS} {g p v : Int} {Q : xS → Prop} (h : CB c b) (i q : Nat) (hi : i < 3) (hq : q < 7) (hg : g = (i : Int)) (hp : p = (q : Int)) (k : ∀ c', CB c' (xup b i q v) → Q (xset σ 8 c')) : vX0_put g p v (xset σ 8 c) Q :=
  ok_put i q hi hq hg hp (k _ (h.glass hi hq v))
/-- a glass's property, read -/
theorem okR {σ : xS} {c : Nat → Int} {b : xS} {g p : Int} {Q : Int → xS → Prop} (h : CB c b) (i q : Nat) (hi : i < 3) (hn : (i : Int) < b 3 0) (hq : q < 7) (hg : g = (i : Int)) (hp : p = (q : Int)) (k : Q (b i q) (xset σ 8 c)) : vX0_property g p (xset σ 8 c) Q :=
  ok_prop i q hi hq hg hp (by rw [h.1 i q hn hi hq]; exact k)
theorem CB.n {c : Nat → Int} {b : xS} (h : CB c b) (k : Nat) (hk : k < 6) : c (57 + k) = b 3 k := h.2.1 k hk
theorem WFt.n3 {T : Int} {b : xS} (h : WFt T b) {i : Nat} (hi : (i : Int) < b 3 0) : i < 3 := by have := h.1.2; omega
/-- glasses(): the number -/
theorem okG {σ : xS} {c : Nat → Int} {b : xS} {Q : Int → xS → Prop} (h : CB c b) (k : Q (b 3 0) (xset σ 8 c)) : vX0_glasses (xset σ 8 c) Q := by
  unfold vX0_glasses
  rw [xset_at, h.n 0 (by omega)]
  exact k
def aTap (b : xS) (i : Nat) : xS := xup (aFree b i) 3 5 (b 3 5 + 1)
theorem aTap_app (b : xS) (i r j : Nat) : aTap b i r j = if r = 3 ∧ j = 5 then b 3 5 + 1 else if r = i ∧ (j = 4 ∨ j = 6) then 0 else b r j := by
  unfold aTap
  rw [xup_app, aFree_app]
theorem okTap {σ : xS} {c : Nat → Int} {b : xS} {g : Int} {Q : xS → Prop} (h : CB c b) (i : Nat) (hi : i < 3) (hg : g = (i : Int)) (k : ∀ c', CB c' (aTap b i) → Q (xset σ 8 c')) : vX0_tapGlass g (xset σ 8 c) Q := by
  unfold vX0_tapGlass
  refine okF h i hi hg (fun c1 h1 s hs => ?_)
  rw [hs, xset_at, xup_cu, h1.n 5 (by omega)]
  have e : aFree b i 3 5 = b 3 5 := by rw [aFree_app, if_neg (by omega)]
  have h2 := h1.scal (k := 5) (by omega) (by omega) (by omega) (b 3 5 + 1)
  rw [e]
  exact k _ h2
/-- runs(g) -/
abbrev aRuns (b : xS) (i : Nat) : Prop := 0 < b i 1 ∧ b i 2 ≠ 2 ∧ b i 4 = 0
theorem okRuns {σ : xS} {c : Nat → Int} {b : xS} {g : Int} {Q : Int → xS → Prop} {T : Int} (hw : WFt T b) (h : CB c b) (i : Nat) (hn : (i : Int) < b 3 0) (hg : g = (i : Int)) (k1 : aRuns b i → Q 1 (xset σ 8 c)) (k0 : ¬ aRuns b i → Q 0 (xset σ 8 c)) : vX0_runs g (xset σ 8 c) Q := by
  have hi := hw.n3 hn
  have hv := hw.2.2.2.2 i hn
  unfold vX0_runs
  refine okR h i 1 hi hn (by omega) hg rfl ⟨⟨by omega, by omega⟩, fun q => k0 (fun r => by have := r.1; omega), fun q => ?_⟩
  refine okR h i 2 hi hn (by omega) hg rfl ⟨⟨by omega, by omega⟩, fun q2 => k0 (fun r => r.2.1 q2), fun q2 => ?_⟩
  refine okR h i 4 hi hn (by omega) hg rfl ⟨⟨by omega, by omega⟩, fun q3 => k0 (fun r => q3 r.2.2), fun q3 => k1 ⟨by omega, q2, q3⟩⟩
theorem okHas {σ : xS} {c : Nat → Int} {b : xS} {g : Int} {Q : Int → xS → Prop} {T : Int} (hw : WFt T b) (hr : rng g) (h : CB c b) (k1 : 0 ≤ g → g < b 3 0 → Q 1 (xset σ 8 c)) (k0 : (g < 0 ∨ b 3 0 ≤ g) → Q 0 (xset σ 8 c)) : vX0_has g (xset σ 8 c) Q := by
  unfold vX0_has
  have := hw.1
  refine ⟨hr, fun q => k0 (Or.inl q), fun q => okG h ⟨⟨by omega, by omega⟩, fun q2 => k0 (Or.inr q2), fun q2 => k1 (by omega) (by omega)⟩⟩
/-- write(g, kind) -/
theorem okWrite {σ : xS} {c : Nat → Int} {b : xS} {g kind : Int} {Q : xS → Prop} (h3 : 0 ≤ b 3 3 ∧ b 3 3 ≤ 1000000) (h : CB c b) (i : Nat) (hg : g = (i : Int)) (k : ∀ c', CB c' (aEv b i kind) → Q (xset σ 8 c')) : vX0_write g kind (xset σ 8 c) Q := by
  unfold vX0_write vX0_eventCell
  rw [xset_at, h.n 3 (by omega)]
  have hrem : jrem (b 3 3) 12 = (((b 3 3).toNat % 12 : Nat) : Int) := by
    unfold jrem
    have e1 : i32 (b 3 3) = nI (b 3 3).toNat := by
      show Int32.ofInt _ = Int32.ofNat _
      rw [← Int32.ofInt_eq_ofNat, Int.toNat_of_nonneg h3.1]
    have e2 : i32 12 = nI 12 := rfl
    rw [e1, e2, pk_rem (by omega) (by omega) (by omega), nI_toInt (by omega)]
  rw [hrem]
  have ea : (21 + (((b 3 3).toNat % 12 : Nat) : Int) * 3).toNat = 21 + 3 * ((b 3 3).toNat % 12) := by omega
  have eb : (21 + (((b 3 3).toNat % 12 : Nat) : Int) * 3 + 1).toNat = 21 + 3 * ((b 3 3).toNat % 12) + 1 := by omega
  have ec : (21 + (((b 3 3).toNat % 12 : Nat) : Int) * 3 + 2).toNat = 21 + 3 * ((b 3 3).toNat % 12) + 2 := by omega
  refine ⟨⟨by omega, by omega⟩, fun s1 e1 => ⟨⟨by omega, by omega⟩, fun s2 e2 => ⟨⟨by omega, by omega⟩, fun s3 e3 s4 e4 => ?_⟩⟩⟩
  rw [e4, e3, e2, e1, ea, eb, ec, xset_at, h.n 1 (by omega)]
  simp only [xup_cu, xset_at]
  have e60 : cu (cu (cu c (21 + 3 * ((b 3 3).toNat % 12)) (b 3 1)) (21 + 3 * ((b 3 3).toNat % 12) + 1) g) (21 + 3 * ((b 3 3).toNat % 12) + 2) kind 60 = b 3 3 := by
    simp (disch := omega) only [cu_app, if_neg]
    exact h.n 3 (by omega)
  rw [e60, hg]
  exact k _ (h.ev h3.1 i kind)
