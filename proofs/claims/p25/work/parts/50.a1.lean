/-! the law's own table (region 40), tied to the table b: glasses at 7 i, 21 glasses, 22 time, 24 events, 25 turns, 26 taps, 30 .. 41 the latest events -/
def evc (b : xS) (e : Nat) : Int := 100 * b (4 + e) 0 + 10 * b (4 + e) 1 + b (4 + e) 2
def AB (m : Nat → Int) (b : xS) : Prop :=
  (∀ i p : Nat, (i : Int) < b 3 0 → i < 3 → p < 7 → m (7 * i + pip p) = b i p) ∧ m 21 = b 3 0 ∧ m 22 = b 3 1 ∧ m 24 = b 3 3 ∧ m 25 = b 3 4 ∧ m 26 = b 3 5 ∧ ∀ j : Nat, j < 12 → m (30 + j) = if (j : Int) < b 3 3 then evc b ((b 3 3).toNat - 1 - j) else -1
/-- what always holds of the events listed -/
def EV (b : xS) : Prop := ∀ e : Nat, (e : Int) < b 3 3 → (0 ≤ b (4 + e) 0 ∧ b (4 + e) 0 ≤ b 3 1) ∧ (0 ≤ b (4 + e) 1 ∧ b (4 + e) 1 ≤ 2) ∧ (0 ≤ b (4 + e) 2 ∧ b (4 + e) 2 ≤ 1)
theorem evc_same {b b' : xS} {e : Nat} (h : ∀ p, b' (4 + e) p = b (4 + e) p) : evc b' e = evc b e := by
  unfold evc
  rw [h 0, h 1, h 2]
theorem AB.r {m : Nat → Int} {b : xS} (h : AB m b) {i p k : Nat} (hi : i < 3) (hn : (i : Int) < b 3 0) (hp : p < 7) (hk : k = 7 * i + pip p) : m k = b i p := by
  subst hk
  exact h.1 i p hn hi hp
theorem AB.r0 {m : Nat → Int} {b : xS} (h : AB m b) {i : Nat} (hi : i < 3) (hn : (i : Int) < b 3 0) : m (7 * i) = b i 0 := h.r hi hn (p := 0) (by omega) rfl
theorem AB.r1 {m : Nat → Int} {b : xS} (h : AB m b) {i : Nat} (hi : i < 3) (hn : (i : Int) < b 3 0) : m (7 * i + 1) = b i 1 := h.r hi hn (p := 1) (by omega) rfl
theorem AB.r2 {m : Nat → Int} {b : xS} (h : AB m b) {i : Nat} (hi : i < 3) (hn : (i : Int) < b 3 0) : m (7 * i + 2) = b i 2 := h.r hi hn (p := 2) (by omega) rfl
theorem AB.r3 {m : Nat → Int} {b : xS} (h : AB m b) {i : Nat} (hi : i < 3) (hn : (i : Int) < b 3 0) : m (7 * i + 3) = b i 3 := h.r hi hn (p := 3) (by omega) rfl
theorem AB.r4 {m : Nat → Int} {b : xS} (h : AB m b) {i : Nat} (hi : i < 3) (hn : (i : Int) < b 3 0) : m (7 * i + 4) = b i 4 := h.r hi hn (p := 4) (by omega) rfl
theorem AB.r5 {m : Nat → Int} {b : xS} (h : AB m b) {i : Nat} (hi : i < 3) (hn : (i : Int) < b 3 0) : m (7 * i + 6) = b i 5 := h.r hi hn (p := 5) (by omega) rfl
theorem AB.r6 {m : Nat → Int} {b : xS} (h : AB m b) {i : Nat} (hi : i < 3) (hn : (i : Int) < b 3 0) : m (7 * i + 5) = b i 6 := h.r hi hn (p := 6) (by omega) rfl
theorem AB.glass {m : Nat → Int} {b : xS} (h : AB m b) {i p : Nat} (hi : i < 3) (hp : p < 7) (v : Int) : AB (cu m (7 * i + pip p) v) (xup b i p v) := by
  have hl := pip_lt hp
  obtain ⟨h1, h2, h3, h4, h5, h6, h7⟩ := h
  refine ⟨fun i2 p2 q1 q2 q3 => ?_, ?_, ?_, ?_, ?_, ?_, fun j hj => ?_⟩
  · rw [xup_app, if_neg (by omega)] at q1
    have hl2 := pip_lt q3
    rw [cu_app, xup_app]
    by_cases q : i2 = i ∧ p2 = p
    · rw [if_pos q, if_pos (by rw [q.1, q.2])]
    · rw [if_neg q, if_neg ?_]
      · exact h1 i2 p2 q1 q2 q3
      · intro e
        have e1 : i2 = i := by omega
        exact q ⟨e1, pip_inj q3 hp (by omega)⟩
  · rw [cu_app, if_neg (by omega), xup_app, if_neg (by omega)]; exact h2
  · rw [cu_app, if_neg (by omega), xup_app, if_neg (by omega)]; exact h3
  · rw [cu_app, if_neg (by omega), xup_app, if_neg (by omega)]; exact h4
  · rw [cu_app, if_neg (by omega), xup_app, if_neg (by omega)]; exact h5
  · rw [cu_app, if_neg (by omega), xup_app, if_neg (by omega)]; exact h6
  · have e3 : xup b i p v 3 3 = b 3 3 := by rw [xup_app, if_neg (by omega)]
    rw [cu_app, if_neg (by omega), h7 j hj, e3, evc_same (b := b) (b' := xup b i p v) (fun p' => by rw [xup_app, if_neg (by omega)])]
theorem AB.scal {m : Nat → Int} {b : xS} (h : AB m b) {k : Nat} (hk : k < 6) (h0 : k ≠ 0) (h3 : k ≠ 3) (v : Int) : AB (cu m (21 + k) v) (xup b 3 k v) := by
  obtain ⟨h1, h2, h3', h4, h5, h6, h7⟩ := h
  have f : ∀ q : Nat, cu m (21 + k) v (21 + q) = if q = k then v else m (21 + q) := fun q => by
    rw [cu_app]
    by_cases hq : q = k
    · rw [if_pos (by omega), if_pos hq]
    · rw [if_neg (by omega), if_neg hq]
  have g : ∀ q : Nat, xup b 3 k v 3 q = if q = k then v else b 3 q := fun q => by
    rw [xup_app]
    by_cases hq : q = k
    · rw [if_pos ⟨rfl, hq⟩, if_pos hq]
    · rw [if_neg (by omega), if_neg hq]
  refine ⟨fun i2 p2 q1 q2 q3 => ?_, ?_, ?_, ?_, ?_, ?_, fun j hj => ?_⟩
  · rw [g 0, if_neg (by omega)] at q1
    have hl2 := pip_lt q3
    rw [cu_app, xup_app, if_neg (by omega), if_neg (by omega)]
    exact h1 i2 p2 q1 q2 q3
  · rw [f 0, g 0, if_neg (by omega), if_neg (by omega)]; exact h2
  · rw [f 1, g 1]; split
    · rfl
    · exact h3'
  · rw [f 3, g 3, if_neg (by omega), if_neg (by omega)]; exact h4
  · rw [f 4, g 4]; split
    · rfl
    · exact h5
  · rw [f 5, g 5]; split
    · rfl
    · exact h6
  · have e3 : xup b 3 k v 3 3 = b 3 3 := by rw [g 3, if_neg (by omega)]
    rw [cu_app, if_neg (by omega), h7 j hj, e3, evc_same (b := b) (b' := xup b 3 k v) (fun p' => by rw [xup_app, if_neg (by omega)])]
theorem AB.congr {m : Nat → Int} {b b' : xS} (h : AB m b) (h1 : ∀ i p : Nat, (i : Int) < b 3 0 → i < 3 → p < 7 → b' i p = b i p) (h2 : ∀ i p, 3 ≤ i → (i ≠ 3 ∨ p ≠ 2) → b' i p = b i p) : AB m b' := by
  obtain ⟨a1, a2, a3, a4, a5, a6, a7⟩ := h
  refine ⟨fun i p q1 q2 q3 => ?_, ?_, ?_, ?_, ?_, ?_, fun j hj => ?_⟩
  · rw [h2 3 0 (by omega) (by omega)] at q1
    rw [h1 i p q1 q2 q3]
    exact a1 i p q1 q2 q3
  · rw [h2 3 0 (by omega) (by omega)]; exact a2
  · rw [h2 3 1 (by omega) (by omega)]; exact a3
  · rw [h2 3 3 (by omega) (by omega)]; exact a4
  · rw [h2 3 4 (by omega) (by omega)]; exact a5
  · rw [h2 3 5 (by omega) (by omega)]; exact a6
  · rw [h2 3 3 (by omega) (by omega), a7 j hj, evc_same (b := b) (b' := b') (fun p' => h2 _ p' (by omega) (by omega))]
theorem AB.ext {m m' : Nat → Int} {b : xS} (h : AB m b) (he : ∀ x, x < 64 → m' x = m x) : AB m' b := by
  obtain ⟨a1, a2, a3, a4, a5, a6, a7⟩ := h
  refine ⟨fun i p q1 q2 q3 => ?_, ?_, ?_, ?_, ?_, ?_, fun j hj => ?_⟩
  · have := pip_lt q3
    rw [he _ (by omega)]; exact a1 i p q1 q2 q3
  · rw [he _ (by omega)]; exact a2
  · rw [he _ (by omega)]; exact a3
  · rw [he _ (by omega)]; exact a4
  · rw [he _ (by omega)]; exact a5
  · rw [he _ (by omega)]; exact a6
  · rw [he _ (by omega)]; exact a7 j hj
theorem AB.ev {m : Nat → Int} {b : xS} (h : AB m b) (h3 : 0 ≤ b 3 3) (g : Nat) (kind : Int) {m2 : Nat → Int} (h2 : ∀ x, x < 64 → m2 x = if x = 24 then b 3 3 + 1 else if x = 30 then 100 * b 3 1 + 10 * (g : Int) + kind else if 31 ≤ x ∧ x < 42 then m (x - 1) else m x) : AB m2 (aEv b g kind) := by
  have e33 : aEv b g kind 3 3 = b 3 3 + 1 := aEv_33 b g kind
  obtain ⟨a1, a2, a3, a4, a5, a6, a7⟩ := h
  refine ⟨fun i p q1 q2 q3 => ?_, ?_, ?_, ?_, ?_, ?_, fun j hj => ?_⟩
  · have := pip_lt q3
    rw [aEv_3 b g kind (by omega)] at q1
    rw [aEv_low _ _ _ q2, h2 _ (by omega), if_neg (by omega), if_neg (by omega), if_neg (by omega)]
    exact a1 i p q1 q2 q3
  · rw [h2 _ (by omega), if_neg (by omega), if_neg (by omega), if_neg (by omega), aEv_3 b g kind (by omega)]; exact a2
  · rw [h2 _ (by omega), if_neg (by omega), if_neg (by omega), if_neg (by omega), aEv_3 b g kind (by omega)]; exact a3
  · rw [h2 _ (by omega), if_pos rfl, e33]
  · rw [h2 _ (by omega), if_neg (by omega), if_neg (by omega), if_neg (by omega), aEv_3 b g kind (by omega)]; exact a5
  · rw [h2 _ (by omega), if_neg (by omega), if_neg (by omega), if_neg (by omega), aEv_3 b g kind (by omega)]; exact a6
  · rw [e33, h2 _ (by omega), if_neg (by omega)]
    by_cases hj0 : j = 0
    · subst hj0
      rw [if_pos (by omega), if_pos (by omega)]
      have e : (b 3 3 + 1).toNat - 1 - 0 = (b 3 3).toNat := by omega
      rw [e]
      unfold evc
      have r0 : aEv b g kind (4 + (b 3 3).toNat) 0 = b 3 1 := by rw [aEv_app, if_neg (by omega), if_neg (by omega), if_neg (by omega), if_pos ⟨rfl, rfl⟩]
      have r1 : aEv b g kind (4 + (b 3 3).toNat) 1 = (g : Int) := by rw [aEv_app, if_neg (by omega), if_neg (by omega), if_pos ⟨rfl, rfl⟩]
      have r2 : aEv b g kind (4 + (b 3 3).toNat) 2 = kind := by rw [aEv_app, if_neg (by omega), if_pos ⟨rfl, rfl⟩]
      rw [r0, r1, r2]
    · rw [if_neg (by omega), if_pos (by omega), show 30 + j - 1 = 30 + (j - 1) by omega, a7 (j - 1) (by omega)]
      by_cases hj1 : (j : Int) < b 3 3 + 1
      · rw [if_pos hj1, if_pos (by omega), show (b 3 3 + 1).toNat - 1 - j = (b 3 3).toNat - 1 - (j - 1) by omega]
        exact (evc_same (fun p' => by rw [aEv_app, if_neg (by omega), if_neg (by omega), if_neg (by omega), if_neg (by omega)])).symm
      · rw [if_neg hj1, if_neg (by omega)]
theorem EV.same {b b' : xS} (h : EV b) (h3 : b' 3 3 = b 3 3) (h1 : b 3 1 ≤ b' 3 1) (hr : ∀ e p, b' (4 + e) p = b (4 + e) p) : EV b' := by
  intro e he
  rw [h3] at he
  have := h e he
  rw [hr, hr, hr]
  omega
theorem EV.ev {b : xS} (h : EV b) (h3 : 0 ≤ b 3 3) (h1 : 0 ≤ b 3 1) {g : Nat} (hg : g < 3) {kind : Int} (hk : 0 ≤ kind ∧ kind ≤ 1) : EV (aEv b g kind) := by
  intro e he
  rw [aEv_33] at he
  rw [aEv_3 b g kind (by omega : (1 : Nat) ≠ 3)]
  by_cases hee : e = (b 3 3).toNat
  · subst hee
    have r0 : aEv b g kind (4 + (b 3 3).toNat) 0 = b 3 1 := by rw [aEv_app, if_neg (by omega), if_neg (by omega), if_neg (by omega), if_pos ⟨rfl, rfl⟩]
    have r1 : aEv b g kind (4 + (b 3 3).toNat) 1 = (g : Int) := by rw [aEv_app, if_neg (by omega), if_neg (by omega), if_pos ⟨rfl, rfl⟩]
    have r2 : aEv b g kind (4 + (b 3 3).toNat) 2 = kind := by rw [aEv_app, if_neg (by omega), if_pos ⟨rfl, rfl⟩]
    rw [r0, r1, r2]
    omega
  · have r : ∀ p, aEv b g kind (4 + e) p = b (4 + e) p := fun p => by rw [aEv_app, if_neg (by omega), if_neg (by omega), if_neg (by omega), if_neg (by omega)]
    rw [r, r, r]
    exact h e (by omega)
/-! the law's methods -/
theorem akRuns {σ : xS} {m : Nat → Int} {b : xS} {g : Int} {Q : Int → xS → Prop} (h : AB m b) (i : Nat) (hi : i < 3) (hn : (i : Int) < b 3 0) (hv : (0 ≤ b i 1 ∧ b i 1 ≤ 12) ∧ (0 ≤ b i 2 ∧ b i 2 ≤ 2) ∧ (0 ≤ b i 4 ∧ b i 4 ≤ 1)) (hg : g = (i : Int)) (k1 : aRuns b i → Q 1 (xset σ 40 m)) (k0 : ¬ aRuns b i → Q 0 (xset σ 40 m)) : vL_runs g (xset σ 40 m) Q := by
  subst hg
  unfold vL_runs
  rw [show (7 * (i : Int) + 1).toNat = 7 * i + 1 by omega, show (7 * (i : Int) + 2).toNat = 7 * i + 2 by omega, show (7 * (i : Int) + 4).toNat = 7 * i + 4 by omega]
  rw [xset_at, xset_at, xset_at, h.r1 hi hn, h.r2 hi hn, h.r4 hi hn]
  refine ⟨⟨by omega, by omega⟩, ⟨by omega, by omega⟩, fun q => k0 (fun r => by have := r.1; omega), fun q => ⟨⟨by omega, by omega⟩, ⟨by omega, by omega⟩, fun q2 => k0 (fun r => by have := r.2.1; omega), fun q2 => ⟨⟨by omega, by omega⟩, ⟨by omega, by omega⟩, fun q3 => k0 (fun r => q3 r.2.2), fun q3 => k1 ⟨by omega, by omega, q3⟩⟩⟩⟩
theorem WFt.rv {T : Int} {b : xS} (hw : WFt T b) {i : Nat} (hn : (i : Int) < b 3 0) : (0 ≤ b i 1 ∧ b i 1 ≤ 12) ∧ (0 ≤ b i 2 ∧ b i 2 ≤ 2) ∧ (0 ≤ b i 4 ∧ b i 4 ≤ 1) := by
  have := hw.2.2.2.2 i hn
  omega
theorem akRunsAny {σ : xS} {m : Nat → Int} {b : xS} {Q : Int → xS → Prop} {T : Int} (hw : WFt T b) (h : AB m b) (k0 : aUnt b = 0 → Q 0 (xset σ 40 m)) (k1 : aUnt b ≠ 0 → Q 1 (xset σ 40 m)) : vL_runsAny (xset σ 40 m) Q := by
  have hn := hw.1
  have e21 : xset σ 40 m 40 21 = b 3 0 := by rw [xset_at]; exact h.2.1
  have yes : ∀ i : Nat, (i : Int) < b 3 0 → aRuns b i → Q 1 (xset σ 40 m) := fun i hi hr => k1 (fun z => (aUnt_0 hw).mp z i hi hr)
  have s31 : ¬ (∃ i : Nat, i < 2 ∧ (i : Int) < b 3 0 ∧ aRuns b i) → vL_runsAny_31 Q (xset σ 40 m) := fun hno => by
    unfold vL_runsAny_31
    rw [e21]
    refine ⟨⟨by omega, by omega⟩, fun q => k0 ((aUnt_0 hw).mpr (fun i hi hr => hno ⟨i, by omega, hi, hr⟩)), fun q => ?_⟩
    exact akRuns h 2 (by omega) (by omega) (hw.rv (by omega)) rfl (fun r => ⟨⟨by omega, by omega⟩, fun z => absurd z (by omega), fun _ => yes 2 (by omega) r⟩) (fun r => ⟨rng0, fun _ => k0 ((aUnt_0 hw).mpr (fun i hi hr => by
      by_cases hi2 : i = 2
      · subst hi2; exact r hr
      · exact hno ⟨i, by omega, hi, hr⟩)), fun z => absurd rfl z⟩)
  have s15 : ¬ aRuns b 0 → vL_runsAny_15 Q (xset σ 40 m) := fun h0 => by
    unfold vL_runsAny_15
    rw [e21]
    have no1 : (b 3 0 ≤ 1 ∨ ¬ aRuns b 1) → ¬ (∃ i : Nat, i < 2 ∧ (i : Int) < b 3 0 ∧ aRuns b i) := fun h1 ⟨i, hi2, hi, hr⟩ => by
      rcases (show i = 0 ∨ i = 1 by omega) with rfl | rfl
      · exact h0 hr
      · rcases h1 with h1 | h1
        · omega
        · exact h1 hr
    refine ⟨⟨by omega, by omega⟩, fun q => s31 (no1 (Or.inl q)), fun q => ?_⟩
    exact akRuns h 1 (by omega) (by omega) (hw.rv (by omega)) rfl (fun r => ⟨⟨by omega, by omega⟩, fun _ => yes 1 (by omega) r, fun z => absurd z (by omega)⟩) (fun r => ⟨rng0, fun z => absurd rfl z, fun _ => s31 (no1 (Or.inr r))⟩)
  unfold vL_runsAny
  rw [e21]
  refine ⟨⟨by omega, by omega⟩, fun q => absurd q (by omega), fun q => ?_⟩
  exact akRuns h 0 (by omega) (by omega) (hw.rv (by omega)) rfl (fun r => ⟨⟨by omega, by omega⟩, fun _ => yes 0 (by omega) r, fun z => absurd z (by omega)⟩) (fun r => ⟨rng0, fun z => absurd rfl z, fun _ => s15 r⟩)
