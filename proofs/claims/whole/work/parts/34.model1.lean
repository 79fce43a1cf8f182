/-! the reference's bench -/
theorem pip_lt {p : Nat} (h : p < 7) : pip p < 7 := by unfold pip; split <;> (try split) <;> omega
theorem pip_inj {p q : Nat} (hp : p < 7) (hq : q < 7) (h : pip p = pip q) : p = q := by
  unfold pip at h
  split at h <;> split at h <;> (try split at h) <;> (try split at h) <;> omega
theorem MB.glass {m : Nat → Int} {b : xS} (h : MB m b) {i p : Nat} (hi : i < 3) (hp : p < 7) (v : Int) : MB (cu m (7 * i + pip p) v) (xup b i p v) := by
  have hl := pip_lt hp
  refine ⟨fun i2 p2 h1 h2 h3 => ?_, fun k hk => ?_, ?_, fun k q h1 h2 => ?_⟩
  · rw [xup_app, if_neg (by omega)] at h1
    have hl2 := pip_lt h3
    rw [cu_app, xup_app]
    by_cases q : i2 = i ∧ p2 = p
    · rw [if_pos q, if_pos (by rw [q.1, q.2])]
    · rw [if_neg q, if_neg ?_]
      · exact h.1 i2 p2 h1 h2 h3
      · intro e
        have e1 : i2 = i := by omega
        exact q ⟨e1, pip_inj h3 hp (by omega)⟩
  · rw [cu_app, xup_app, if_neg (by omega), if_neg (by omega)]
    exact h.2.1 k hk
  · rw [cu_app, xup_app, if_neg (by omega), if_neg (by omega)]
    exact h.2.2.1
  · rw [cu_app, if_neg (by omega)] at h1
    rw [cu_app, if_neg (by omega), xup_app, if_neg (by omega), xup_app, if_neg (by omega), cu_app, if_neg (by omega)]
    exact h.2.2.2 k q h1 h2
theorem MB.scal {m : Nat → Int} {b : xS} (h : MB m b) {k : Nat} (hk : k < 6) (h0 : k ≠ 0) (h3 : k ≠ 3) (v : Int) : MB (cu m (21 + k) v) (xup b 3 k v) := by
  refine ⟨fun i2 p2 h1 h2 h4 => ?_, fun k2 hk2 => ?_, ?_, fun k2 q h1 h2 => ?_⟩
  · rw [xup_app, if_neg (by omega)] at h1
    have hl2 := pip_lt h4
    rw [cu_app, xup_app, if_neg (by omega), if_neg (by omega)]
    exact h.1 i2 p2 h1 h2 h4
  · rw [cu_app, xup_app]
    by_cases q : k2 = k
    · rw [if_pos (by omega), if_pos ⟨rfl, q⟩]
    · rw [if_neg (by omega), if_neg (by omega)]
      exact h.2.1 k2 hk2
  · rw [cu_app, xup_app, if_neg (by omega), if_neg (by omega)]
    exact h.2.2.1
  · rw [cu_app, if_neg (by omega)] at h1
    rw [cu_app, if_neg (by omega), xup_app, if_neg (by omega), xup_app, if_neg (by omega), cu_app, if_neg (by omega)]
    exact h.2.2.2 k2 q h1 h2
theorem MB.congr {m : Nat → Int} {b b' : xS} (h : MB m b) (h1 : ∀ i p : Nat, (i : Int) < b 3 0 → i < 3 → p < 7 → b' i p = b i p) (h2 : ∀ i p, 3 ≤ i → b' i p = b i p) : MB m b' := by
  refine ⟨fun i p hi hi3 hp => ?_, fun k hk => ?_, ?_, fun k q hk hq => ?_⟩
  · rw [h2 3 0 (by omega)] at hi
    rw [h1 i p hi hi3 hp]
    exact h.1 i p hi hi3 hp
  · rw [h2 3 k (by omega)]
    exact h.2.1 k hk
  · rw [h2 3 3 (by omega)]
    exact h.2.2.1
  · rw [h2 3 3 (by omega), h2 _ _ (by omega)]
    exact h.2.2.2 k q hk hq
theorem MB.ext {m m' : Nat → Int} {b : xS} (h : MB m b) (he : ∀ x, x < 64 → m' x = m x) (h3 : 0 ≤ b 3 3) : MB m' b := by
  have hl := jmin_le (b 3 3) 12
  have h27 : m' 27 = m 27 := he 27 (by omega)
  refine ⟨fun i p hi hi3 hp => ?_, fun k hk => ?_, ?_, fun k q hk hq => ?_⟩
  · have := pip_lt hp
    rw [he _ (by omega)]
    exact h.1 i p hi hi3 hp
  · rw [he _ (by omega)]
    exact h.2.1 k hk
  · rw [h27]
    exact h.2.2.1
  · rw [h27] at hk ⊢
    have := h.2.2.1
    rw [he _ (by omega)]
    exact h.2.2.2 k q hk hq
theorem MB.n {m : Nat → Int} {b : xS} (h : MB m b) (k : Nat) (hk : k < 6) : m (21 + k) = b 3 k := h.2.1 k hk
/-- a glass's property, read and written -/
theorem mkR {σ : xS} {m : Nat → Int} {b : xS} {g w : Int} {Q : Int → xS → Prop} (h : MB m b) (i p : Nat) (hi : i < 3) (hn : (i : Int) < b 3 0) (hp : p < 7) (hg : g = (i : Int)) (hw : w = (pip p : Int)) (k : Q (b i p) (xset σ 21 m)) : vX5_of g w (xset σ 21 m) Q := by
  subst hg
  subst hw
  have := pip_lt hp
  unfold vX5_of
  refine ⟨⟨by omega, by omega⟩, ?_⟩
  rw [xset_at, show (7 * (i : Int) + (pip p : Int)).toNat = 7 * i + pip p by omega, h.1 i p hn hi hp]
  exact k
theorem mkPut {σ : xS} {m : Nat → Int} {g w v : Int} {Q : xS → Prop} (i p : Nat) (hi : i < 3) (hp : p < 7) (hg : g = (i : Int)) (hw : w = (pip p : Int)) (k : Q (xset σ 21 (cu m (7 * i + pip p) v))) : vX5_put g w v (xset σ 21 m) Q := by
  subst hg
  subst hw
  have := pip_lt hp
  unfold vX5_put
  refine ⟨⟨by omega, by omega⟩, fun s hs => ?_⟩
  rw [hs, xup_cu, show (7 * (i : Int) + (pip p : Int)).toNat = 7 * i + pip p by omega]
  exact k
theorem mkP {σ : xS} {m : Nat → Int} {b : xS} {g w v : Int} {Q : xS → Prop} (h : MB m b) (i p : Nat) (hi : i < 3) (hp : p < 7) (hg : g = (i : Int)) (hw : w = (pip p : Int)) (k : ∀ m', MB m' (xup b i p v) → Q (xset σ 21 m')) : vX5_put g w v (xset σ 21 m) Q :=
  mkPut i p hi hp hg hw (k _ (h.glass hi hp v))
theorem mkF {σ : xS} {m : Nat → Int} {b : xS} {g : Int} {Q : xS → Prop} (h : MB m b) (i : Nat) (hi : i < 3) (hg : g = (i : Int)) (k : ∀ m', MB m' (aFree b i) → Q (xset σ 21 m')) : vX5_resets g (xset σ 21 m) Q := by
  unfold vX5_resets
  exact mkP h i 4 hi (by omega) hg rfl (fun m1 h1 => mkP h1 i 6 hi (by omega) hg rfl (fun m2 h2 => k m2 h2))
theorem mkIn {σ : xS} {x y z : Int} {Q : Int → xS → Prop} (hx : rng x) (hy : rng y) (hz : rng z) (k1 : y ≤ x → x ≤ z → Q 1 σ) (k0 : (x < y ∨ z < x) → Q 0 σ) : vX5_in x y z σ Q := by
  unfold vX5_in
  exact ⟨hx, hy, fun q => k0 (Or.inl q), fun q => ⟨hz, fun q2 => k0 (Or.inr q2), fun q2 => k1 (by omega) (by omega)⟩⟩
theorem mkIs {σ : xS} {m : Nat → Int} {b : xS} {g : Int} {Q : Int → xS → Prop} {T : Int} (hw : WFt T b) (hr : rng g) (h : MB m b) (k1 : 0 ≤ g → g < b 3 0 → Q 1 (xset σ 21 m)) (k0 : (g < 0 ∨ b 3 0 ≤ g) → Q 0 (xset σ 21 m)) : vX5_isGlass g (xset σ 21 m) Q := by
  have := hw.1
  unfold vX5_isGlass
  rw [xset_at, h.n 0 (by omega)]
  exact mkIn hr rng0 ⟨by omega, by omega⟩ (fun q1 q2 => ⟨Or.inr rfl, k1 q1 (by omega)⟩) (fun q => ⟨Or.inl rfl, k0 (by omega)⟩)
theorem mkRuns {σ : xS} {m : Nat → Int} {b : xS} {g : Int} {Q : Int → xS → Prop} {T : Int} (hw : WFt T b) (h : MB m b) (i : Nat) (hn : (i : Int) < b 3 0) (hg : g = (i : Int)) (k1 : aRuns b i → Q 1 (xset σ 21 m)) (k0 : ¬ aRuns b i → Q 0 (xset σ 21 m)) : vX5_runs g (xset σ 21 m) Q := by
  have hi := hw.n3 hn
  have hv := hw.2.2.2.2 i hn
  unfold vX5_runs
  refine mkR h i 1 hi hn (by omega) hg rfl ⟨⟨by omega, by omega⟩, fun q => k0 (fun r => by have := r.1; omega), fun q => ?_⟩
  refine mkR h i 2 hi hn (by omega) hg rfl ⟨⟨by omega, by omega⟩, fun q2 => k0 (fun r => r.2.1 q2), fun q2 => ?_⟩
  refine mkR h i 4 hi hn (by omega) hg rfl ⟨⟨by omega, by omega⟩, fun q3 => k0 (fun r => q3 r.2.2), fun q3 => k1 ⟨by omega, q2, q3⟩⟩
/-- an event is written, the list moved up first when it is full -/
theorem MB.ev {m : Nat → Int} {b : xS} (h : MB m b) (h3 : 0 ≤ b 3 3) (g : Nat) (kind : Int) {m2 : Nat → Int} {l : Nat} (hl : l = if b 3 3 < 12 then (b 3 3).toNat else 11) (h2 : ∀ x, x < 64 → m2 x = if x = 24 then b 3 3 + 1 else if x = 27 then (l : Int) + 1 else if x = 28 + 3 * l then b 3 1 else if x = 28 + 3 * l + 1 then (g : Int) else if x = 28 + 3 * l + 2 then kind else if 12 ≤ b 3 3 ∧ 28 ≤ x ∧ x < 61 then m (x + 3) else m x) : MB m2 (aEv b g kind) := by
  have hle : l ≤ 11 := by rw [hl]; split <;> omega
  have e30 : aEv b g kind 3 0 = b 3 0 := aEv_3 b g kind (by omega)
  have e33 : aEv b g kind 3 3 = b 3 3 + 1 := aEv_33 b g kind
  have h27 : m2 27 = (l : Int) + 1 := by rw [h2 27 (by omega), if_neg (by omega), if_pos rfl]
  have hm27 := h.2.2.1
  refine ⟨fun i p hi hi3 hp => ?_, fun k hk => ?_, ?_, fun k q hk hq => ?_⟩
  · have := pip_lt hp
    rw [e30] at hi
    rw [aEv_low _ _ _ hi3, h2 _ (by omega), if_neg (by omega), if_neg (by omega), if_neg (by omega), if_neg (by omega), if_neg (by omega), if_neg (by omega)]
    exact h.1 i p hi hi3 hp
  · rw [h2 _ (by omega)]
    by_cases hk3 : k = 3
    · subst hk3
      rw [if_pos rfl, e33]
    · rw [if_neg (by omega), if_neg (by omega), if_neg (by omega), if_neg (by omega), if_neg (by omega), if_neg (by omega), aEv_3 _ _ _ hk3]
      exact h.2.1 k hk
  · rw [h27, e33]
    unfold jmin
    rw [hl]
    split <;> split <;> omega
  · rw [h27] at hk ⊢
    rw [e33]
    have hk12 : k ≤ l := by omega
    rw [h2 _ (by omega), if_neg (by omega), if_neg (by omega)]
    have hbase : (b 3 3 + 1 - ((l : Int) + 1)).toNat + k = (b 3 3).toNat - l + k := by
      have : (l : Int) ≤ b 3 3 := by rw [hl]; split <;> omega
      omega
    rw [show 4 + (b 3 3 + 1 - ((l : Int) + 1)).toNat + k = 4 + ((b 3 3 + 1 - ((l : Int) + 1)).toNat + k) by omega, hbase]
    have hll : (l : Int) ≤ b 3 3 := by rw [hl]; split <;> omega
    by_cases hkl : k = l
    · have e : 4 + ((b 3 3).toNat - l + k) = 4 + (b 3 3).toNat := by omega
      rw [e]
      subst hkl
      rcases (show q = 0 ∨ q = 1 ∨ q = 2 by omega) with rfl | rfl | rfl
      · rw [if_pos (by omega)]
        simp (disch := omega) only [aEv_app, if_pos, if_neg, and_self, ite_true]
      · rw [if_neg (by omega), if_pos (by omega)]
        simp (disch := omega) only [aEv_app, if_pos, if_neg, and_self, ite_true]
      · rw [if_neg (by omega), if_neg (by omega), if_pos (by omega)]
        simp (disch := omega) only [aEv_app, if_pos, if_neg, and_self, ite_true]
    · rw [if_neg (by omega), if_neg (by omega), if_neg (by omega)]
      have e : aEv b g kind (4 + ((b 3 3).toNat - l + k)) q = b (4 + ((b 3 3).toNat - l + k)) q := by
        simp (disch := omega) only [aEv_app, if_neg]
      rw [e]
      by_cases hf : 12 ≤ b 3 3
      · have h27' : m 27 = 12 := by rw [hm27]; unfold jmin; split <;> omega
        have hl11 : l = 11 := by rw [hl, if_neg (by omega)]
        rw [if_pos (by omega)]
        have := h.2.2.2 (k + 1) q (by rw [h27']; omega) hq
        rw [h27'] at this
        rw [show 28 + 3 * k + q + 3 = 28 + 3 * (k + 1) + q by omega, this]
        congr 1
        omega
      · have hl2 : l = (b 3 3).toNat := by rw [hl, if_pos (by omega)]
        have h27' : m 27 = b 3 3 := by rw [hm27]; unfold jmin; split <;> omega
        rw [if_neg (by omega)]
        have := h.2.2.2 k q (by rw [h27']; omega) hq
        rw [h27'] at this
        rw [this]
        congr 1
        omega
theorem mkWrite {σ : xS} {m : Nat → Int} {b : xS} {g kind : Int} {Q : xS → Prop} (h3 : 0 ≤ b 3 3 ∧ b 3 3 ≤ 1000000) (h : MB m b) (i : Nat) (hg : g = (i : Int)) (k : ∀ m', MB m' (aEv b i kind) → Q (xset σ 21 m')) : vX5_writes g kind (xset σ 21 m) Q := by
  subst hg
  have hl := jmin_le (b 3 3) 12
  have h27 := h.2.2.1
  -- what stands behind the list's room
  have fin : ∀ (m1 : Nat → Int) (l : Nat), l ≤ 11 → m1 27 = (l : Int) → (l = if b 3 3 < 12 then (b 3 3).toNat else 11) → (∀ x, x < 64 → x ≠ 27 → m1 x = if 12 ≤ b 3 3 ∧ 28 ≤ x ∧ x < 61 then m (x + 3) else m x) → vX5_writes_52 Q (i : Int) kind (xset σ 21 m1) := by
    intro m1 l hl11 h1 hl2 hx
    have e22 : m1 22 = b 3 1 := by rw [hx 22 (by omega) (by omega), if_neg (by omega)]; exact h.n 1 (by omega)
    have e24 : m1 24 = b 3 3 := by rw [hx 24 (by omega) (by omega), if_neg (by omega)]; exact h.n 3 (by omega)
    unfold vX5_writes_52
    rw [xset_at, h1, xset_at, e22]
    refine ⟨⟨by omega, by omega⟩, fun s1 e1 => ⟨⟨by omega, by omega⟩, fun s2 e2 => ⟨⟨by omega, by omega⟩, fun s3 e3 s4 e4 s5 e5 => ?_⟩⟩⟩
    rw [e5, e4, e3, e2, e1]
    simp only [xup_cu, xset_at]
    rw [show (28 + 3 * (l : Int)).toNat = 28 + 3 * l by omega, show (28 + 3 * (l : Int) + 1).toNat = 28 + 3 * l + 1 by omega, show (28 + 3 * (l : Int) + 2).toNat = 28 + 3 * l + 2 by omega]
    refine k _ (h.ev h3.1 i kind hl2 (fun x hx64 => ?_))
    simp only [cu_app]
    by_cases x24 : x = 24
    · subst x24
      simp (disch := omega) only [if_pos, if_neg]
      rw [e24]
      simp only [ite_true]
    · by_cases x27 : x = 27
      · subst x27
        simp (disch := omega) only [if_pos, if_neg]
        rw [h1]
        simp only [ite_true]
      · rw [if_neg x24, if_neg x27, if_neg x24, if_neg x27]
        by_cases c0 : x = 28 + 3 * l
        · rw [if_neg (by omega), if_neg (by omega), if_pos c0, if_pos c0]
        · by_cases c1 : x = 28 + 3 * l + 1
          · rw [if_neg (by omega), if_pos c1, if_neg c0, if_pos c1]
          · by_cases c2 : x = 28 + 3 * l + 2
            · rw [if_pos c2, if_neg c0, if_neg c1, if_pos c2]
            · rw [if_neg c2, if_neg c1, if_neg c0, if_neg c0, if_neg c1, if_neg c2]
              exact hx x hx64 x27
  unfold vX5_writes
  rw [xset_at, h27]
  refine ⟨⟨by omega, by omega⟩, fun q => ?_, fun q => ?_⟩
  · have hlt : b 3 3 < 12 := by
      have : jmin (b 3 3) 12 = b 3 3 := by omega
      omega
    have e : jmin (b 3 3) 12 = b 3 3 := by unfold jmin; rw [if_neg (by omega)]
    refine fin m (b 3 3).toNat (by omega) (by rw [h27, e]; omega) (by rw [if_pos hlt]) (fun x _ _ => by rw [if_neg (by omega)])
  · have hge : 12 ≤ b 3 3 := by omega
    refine mu_of (fun a => ∃ (j : Nat) (m1 : Nat → Int), a = ((i : Int), kind, ((28 + j : Nat) : Int), xset σ 21 m1) ∧ j ≤ 33 ∧ (∀ x, m1 x = if 28 ≤ x ∧ x < 28 + j then m (x + 3) else m x)) (fun a => (61 - a.2.2.1).toNat) ?_ _ ⟨0, m, rfl, by omega, fun x => by rw [if_neg (by omega)]⟩
    rintro K _ ⟨j, m1, rfl, hj, h1⟩ hK
    unfold vX5_writes_15
    refine ⟨⟨by omega, by omega⟩, fun r s hs => ?_, fun r => ⟨⟨by omega, by omega⟩, ⟨by omega, by omega⟩, fun s hs => ?_⟩⟩
    · have hj33 : j = 33 := by omega
      rw [hs, xset_at, xup_cu]
      refine fin _ 11 (by omega) ?_ (by rw [if_neg (by omega)]) (fun x hx hx27 => ?_)
      · rw [cu_app, if_pos rfl, h1, if_neg (by omega), h27, q]
        rfl
      · rw [cu_app, if_neg hx27, h1]
        by_cases hc : 28 ≤ x ∧ x < 28 + j
        · rw [if_pos hc, if_pos (by omega)]
        · rw [if_neg hc, if_neg (by omega)]
    · rw [hs, xset_at, xup_cu]
      rw [show (((28 + j : Nat) : Int)).toNat = 28 + j by omega, show (((28 + j : Nat) : Int) + 3).toNat = 28 + j + 3 by omega]
      refine hK _ ⟨j + 1, _, by push_cast; rfl, by omega, fun x => ?_⟩ (by show (61 - (((28 + j : Nat) : Int) + 1)).toNat < (61 - ((28 + j : Nat) : Int)).toNat; omega)
      rw [cu_app, h1, h1]
      by_cases hx : x = 28 + j
      · rw [if_pos hx, if_neg (by omega), if_pos (by omega), hx]
      · rw [if_neg hx]
        by_cases hc : 28 ≤ x ∧ x < 28 + j
        · rw [if_pos hc, if_pos (by omega)]
        · rw [if_neg hc, if_neg (by omega)]
