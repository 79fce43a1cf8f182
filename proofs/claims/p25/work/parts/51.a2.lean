/-! a second of the law's own -/
theorem xup_row {b : xS} {i p : Nat} {v : Int} (h : b i p = v) : xup b i p v = b := xS_ext fun r j => by
  rw [xup_app]
  by_cases q : r = i ∧ j = p
  · rw [if_pos q, q.1, q.2, h]
  · rw [if_neg q]
theorem akEv {σ : xS} {m : Nat → Int} {γ : xS} {K : Int × Int × xS → Prop} {Q : Int → xS → Prop} {x1 : Int} (h : AB m γ) (h3 : 0 ≤ γ 3 3) (i : Nat) (hi : i < 3) (hn : (i : Int) < γ 3 0) (k : ∀ m', AB m' (aEv γ i (γ i 4)) → K (x1 + 1, (i : Int) + 1, xset σ 40 m')) : mu (vL_second_125 K Q) (x1, (i : Int), 7 * (i : Int), 41, xset σ 40 m) := by
  have e4 := h.r4 hi hn
  refine mu_of (fun a => ∃ (j : Nat) (m1 : Nat → Int), a = (x1, (i : Int), 7 * (i : Int), ((30 + j : Nat) : Int), xset σ 40 m1) ∧ j ≤ 11 ∧ ∀ x, m1 x = if 30 + j < x ∧ x < 42 then m (x - 1) else m x) (fun a => (a.2.2.2.1).toNat) ?_ _ ⟨11, m, rfl, by omega, fun x => by rw [if_neg (by omega)]⟩
  rintro K' _ ⟨j, m1, rfl, hj, h1⟩ hK
  unfold vL_second_125
  refine ⟨⟨by omega, by omega⟩, fun r => ?_, fun r => ?_⟩
  · have hj0 : j = 0 := by omega
    subst hj0
    refine ⟨⟨by omega, by omega⟩, fun t ht s hs s2 hs2 => ?_⟩
    have e22 : m1 22 = γ 3 1 := by rw [h1, if_neg (by omega)]; exact h.2.2.1
    have e24 : m1 24 = γ 3 3 := by rw [h1, if_neg (by omega)]; exact h.2.2.2.1
    have e4' : m1 (7 * i + 4) = γ i 4 := by rw [h1, if_neg (by omega)]; exact e4
    rw [xset_at, xset_at, show (7 * (i : Int) + 4).toNat = 7 * i + 4 by omega, e22, e4'] at ht
    rw [hs, xup_cu, xset_at, xup_cu, ht] at hs2
    rw [hs2]
    refine k _ (h.ev h3 i (γ i 4) (fun x hx => ?_))
    rw [cu_app, cu_app, cu_app, if_neg (by omega : ¬ (24 : Nat) = 30), e24, h1]
    by_cases x24 : x = 24
    · rw [if_pos x24, if_pos x24]
    · rw [if_neg x24, if_neg x24]
      by_cases x30 : x = 30
      · rw [if_pos x30, if_pos x30]
      · rw [if_neg x30, if_neg x30]
        by_cases c : 31 ≤ x ∧ x < 42
        · rw [if_pos (by omega), if_pos c]
        · rw [if_neg (by omega), if_neg c]
  · refine ⟨⟨by omega, by omega⟩, ⟨by omega, by omega⟩, fun s hs => ?_⟩
    rw [hs, xset_at, xup_cu, show (((30 + j : Nat) : Int)).toNat = 30 + j by omega, show (((30 + j : Nat) : Int) - 1).toNat = 30 + (j - 1) by omega]
    refine hK _ ⟨j - 1, cu m1 (30 + j) (m1 (30 + (j - 1))), ?_, by omega, fun x => ?_⟩ (by show ((((30 + j : Nat) : Int)) + (-1)).toNat < (((30 + j : Nat) : Int)).toNat; omega)
    · rw [show (((30 + j : Nat) : Int)) + (-1) = ((30 + (j - 1) : Nat) : Int) by omega]
    · rw [cu_app, h1, h1]
      by_cases hx : x = 30 + j
      · rw [if_pos hx, if_neg (by omega), if_pos (by omega), hx]
        congr 1
        omega
      · rw [if_neg hx]
        by_cases hc : 30 + j < x ∧ x < 42
        · rw [if_pos hc, if_pos (by omega)]
        · rw [if_neg hc, if_neg (by omega)]
theorem akBody {σ : xS} {m : Nat → Int} {γ : xS} {K : Int × Int × xS → Prop} {Q : Int → xS → Prop} {x1 : Int} (h : AB m γ) (h3 : 0 ≤ γ 3 3) (i : Nat) (hi : i < 3) (hn : (i : Int) < γ 3 0) (hr : aRuns γ i) (hv : γ i 1 ≤ 12 ∧ (0 ≤ γ i 2 ∧ γ i 2 ≤ 2) ∧ (1 ≤ γ i 3 ∧ γ i 3 ≤ 9) ∧ (0 ≤ γ i 6 ∧ γ i 6 ≤ 9) ∧ (γ i 2 = 1 → γ i 6 < γ i 3)) (k : ∀ m', AB m' (aSink γ i) → K (x1 + (aSink γ i 3 3 - γ 3 3), (i : Int) + 1, xset σ 40 m')) :
    (0 ≤ ((7 * (i : Int)) + 1) ∧ ((7 * (i : Int)) + 1) < 64) ∧ (∀ t40 : Int, t40 = ((xset σ 40 m 40 (((7 * (i : Int)) + 1).toNat)) - 1) → (∀ σ42 : xS, σ42 = xup (xset σ 40 m) 40 (((7 * (i : Int)) + 1).toNat) t40 → ((0 ≤ ((7 * (i : Int)) + 5) ∧ ((7 * (i : Int)) + 5) < 64) ∧ ((0 ≤ ((7 * (i : Int)) + 2) ∧ ((7 * (i : Int)) + 2) < 64) ∧ (∀ t46 : Int, t46 = ((σ42 40 (((7 * (i : Int)) + 5).toNat)) + (σ42 40 (((7 * (i : Int)) + 2).toNat))) → (∀ σ48 : xS, σ48 = xup σ42 40 (((7 * (i : Int)) + 5).toNat) t46 → (rng (σ48 40 (((7 * (i : Int)) + 1).toNat)) ∧ ((¬ (σ48 40 (((7 * (i : Int)) + 1).toNat)) = 0 → vL_second_68 K Q x1 (i : Int) (7 * (i : Int)) 0 σ48) ∧ ((σ48 40 (((7 * (i : Int)) + 1).toNat)) = 0 → vL_second_68 K Q x1 (i : Int) (7 * (i : Int)) 1 σ48))))))))) := by
  obtain ⟨r1, r2, r4⟩ := hr
  rw [show (7 * (i : Int) + 1).toNat = 7 * i + 1 by omega, show (7 * (i : Int) + 2).toNat = 7 * i + 2 by omega, show (7 * (i : Int) + 5).toNat = 7 * i + 5 by omega, xset_at, h.r1 hi hn]
  refine ⟨⟨by omega, by omega⟩, fun t ht s hs => ⟨⟨by omega, by omega⟩, ⟨by omega, by omega⟩, fun t2 ht2 s2 hs2 => ?_⟩⟩
  rw [xup_cu] at hs
  have A1 : AB (cu m (7 * i + 1) t) (xup γ i 1 t) := h.glass hi (p := 1) (by omega) t
  rw [hs, xset_at, xset_at, A1.r6 hi (by rw [xup_app, if_neg (by omega)]; exact hn), A1.r2 hi (by rw [xup_app, if_neg (by omega)]; exact hn), xup_app, xup_app, if_neg (by omega), if_neg (by omega)] at ht2
  rw [hs, xup_cu] at hs2
  have A2 : AB (cu (cu m (7 * i + 1) t) (7 * i + 5) t2) (xup (xup γ i 1 t) i 6 t2) := A1.glass hi (p := 6) (by omega) t2
  have ed : xup (xup γ i 1 t) i 6 t2 = aDec γ i := by
    by_cases hk : γ i 2 = 1
    · rw [aDec_2 γ i hk, ht2, ht, hk]
    · rw [aDec_1 γ i hk, ← ht]
      exact xup_row (by rw [xup_app, if_neg (by omega), ht2]; omega)
  rw [ed] at A2
  generalize hm2 : cu (cu m (7 * i + 1) t) (7 * i + 5) t2 = m2 at A2 hs2
  have n2 : (i : Int) < aDec γ i 3 0 := by rw [aDec_app, if_neg (by omega)]; exact hn
  have d1 : aDec γ i i 1 = γ i 1 - 1 := by rw [aDec_app, if_pos rfl, if_pos rfl]
  have d2 : aDec γ i i 2 = γ i 2 := by rw [aDec_app, if_pos rfl, if_neg (by omega), if_neg (by omega)]
  have d3 : aDec γ i i 3 = γ i 3 := by rw [aDec_app, if_pos rfl, if_neg (by omega), if_neg (by omega)]
  have d4 : aDec γ i i 4 = 0 := by rw [aDec_app, if_pos rfl, if_neg (by omega), if_neg (by omega)]; exact r4
  have d6 : aDec γ i i 6 = if γ i 2 = 1 then γ i 6 + 1 else γ i 6 := by rw [aDec_app, if_pos rfl, if_neg (by omega), if_pos rfl]
  have d33 : aDec γ i 3 3 = γ 3 3 := by rw [aDec_app, if_neg (by omega)]
  have s33 := aSink_33 γ hi
  rw [hs2, xset_at, A2.r1 hi n2, d1]
  -- the place of the stuck mark, written
  have S : ∀ (v : Int), AB (cu m2 (7 * i + 4) v) (xup (aDec γ i) i 4 v) := fun v => A2.glass hi (p := 4) (by omega) v
  have Sn : ∀ (v : Int), (i : Int) < xup (aDec γ i) i 4 v 3 0 := fun v => by rw [xup_app, if_neg (by omega)]; exact n2
  have S33 : ∀ (v : Int), xup (aDec γ i) i 4 v 3 3 = γ 3 3 := fun v => by rw [xup_app, if_neg (by omega)]; exact d33
  have out : γ i 1 - 1 = 0 → vL_second_105 K Q x1 (i : Int) (7 * (i : Int)) 1 (7 * (i : Int) + 4) (xset σ 40 m2) := fun q => by
    unfold vL_second_105 vL_second_106
    refine ⟨⟨by omega, by omega⟩, fun s hs => ?_⟩
    rw [show (7 * (i : Int) + 4).toNat = 7 * i + 4 by omega, xup_cu] at hs
    rw [hs]
    refine ⟨⟨by omega, by omega⟩, fun _ => ?_, fun z => absurd z (by omega)⟩
    refine akEv (S 0) (by rw [S33]; exact h3) i hi (Sn 0) (fun m' h' => ?_)
    rw [xup_row d4, d4] at h'
    have e : aSink γ i = aEv (aDec γ i) i 0 := by unfold aSink; rw [if_pos q]
    have := k m' (by rw [e]; exact h')
    rw [s33, if_pos (Or.inl q)] at this
    rw [show x1 + 1 = x1 + (γ 3 3 + 1 - γ 3 3) by omega]
    exact this
  have rest : γ i 1 - 1 ≠ 0 → ¬ (γ i 2 = 1 ∧ γ i 3 ≤ γ i 6 + 1) → vL_second_105 K Q x1 (i : Int) (7 * (i : Int)) 0 (7 * (i : Int) + 4) (xset σ 40 m2) := fun q q2 => by
    unfold vL_second_105 vL_second_106
    refine ⟨⟨by omega, by omega⟩, fun s hs => ?_⟩
    rw [show (7 * (i : Int) + 4).toNat = 7 * i + 4 by omega, xup_cu] at hs
    rw [hs]
    refine ⟨⟨by omega, by omega⟩, fun z => absurd rfl z, fun _ => ⟨⟨by omega, by omega⟩, ?_⟩⟩
    rw [show (7 * (i : Int) + 4).toNat = 7 * i + 4 by omega, xset_at, cu_app, if_pos rfl]
    refine ⟨rng0, fun _ => ?_, fun z => absurd z (by omega)⟩
    have e : aSink γ i = aDec γ i := by unfold aSink; rw [if_neg q, if_neg q2]
    have h' := S 0
    rw [xup_row d4] at h'
    have := k _ (by rw [e]; exact h')
    rw [s33, if_neg (by omega)] at this
    rw [show x1 = x1 + (γ 3 3 + 0 - γ 3 3) by omega]
    exact this
  have stuck : γ i 1 - 1 ≠ 0 → (γ i 2 = 1 ∧ γ i 3 ≤ γ i 6 + 1) → vL_second_106 K Q x1 (i : Int) (7 * (i : Int)) 0 (7 * (i : Int) + 4) 1 (xset σ 40 m2) := fun q q2 => by
    unfold vL_second_106
    refine ⟨⟨by omega, by omega⟩, fun s hs => ?_⟩
    rw [show (7 * (i : Int) + 4).toNat = 7 * i + 4 by omega, xup_cu] at hs
    rw [hs]
    refine ⟨⟨by omega, by omega⟩, fun z => absurd rfl z, fun _ => ⟨⟨by omega, by omega⟩, ?_⟩⟩
    rw [show (7 * (i : Int) + 4).toNat = 7 * i + 4 by omega, xset_at, cu_app, if_pos rfl]
    refine ⟨⟨by omega, by omega⟩, fun z => absurd rfl z, fun _ => ?_⟩
    refine akEv (S 1) (by rw [S33]; exact h3) i hi (Sn 1) (fun m' h' => ?_)
    rw [show xup (aDec γ i) i 4 1 i 4 = 1 by rw [xup_app, if_pos ⟨rfl, rfl⟩]] at h'
    have e : aSink γ i = aEv (xup (aDec γ i) i 4 1) i 1 := by unfold aSink; rw [if_neg q, if_pos q2]
    have := k m' (by rw [e]; exact h')
    rw [s33, if_pos (Or.inr q2)] at this
    rw [show x1 + 1 = x1 + (γ 3 3 + 1 - γ 3 3) by omega]
    exact this
  refine ⟨⟨by omega, by omega⟩, fun q => ?_, fun q => ?_⟩
  · unfold vL_second_68
    rw [show (7 * (i : Int) + 2).toNat = 7 * i + 2 by omega, show (7 * (i : Int) + 5).toNat = 7 * i + 5 by omega, show (7 * (i : Int) + 3).toNat = 7 * i + 3 by omega, xset_at, xset_at, xset_at, A2.r2 hi n2, A2.r6 hi n2, A2.r3 hi n2, d2, d3, d6]
    refine ⟨rng0, fun z => absurd rfl z, fun _ => ⟨⟨by omega, by omega⟩, ⟨by omega, by omega⟩, fun q2 => rest q (fun w => q2 w.1), fun q2 => ⟨⟨by omega, by omega⟩, ⟨by omega, by omega⟩, ?_⟩⟩⟩
    rw [if_pos q2]
    have := hv.2.2.2.2 q2
    exact ⟨⟨by omega, by omega⟩, ⟨by omega, by omega⟩, fun q3 => rest q (fun w => q3 (by omega)), fun q3 => stuck q ⟨q2, by omega⟩⟩
  · unfold vL_second_68
    exact ⟨⟨by omega, by omega⟩, fun _ => out q, fun z => absurd z (by omega)⟩
theorem akSec {σ : xS} {m : Nat → Int} {b : xS} {Q : Int → xS → Prop} {T : Int} (hT : T ≤ 100000) (hw : WFt T b) (h : AB m b) (k : ∀ m', AB m' (aSec b) → Q (aSec b 3 3 - b 3 3) (xset σ 40 m')) : vL_second (xset σ 40 m) Q := by
  have hn := hw.1
  have h1 := hw.2.1
  have h3 := hw.2.2.2.1
  unfold vL_second
  intro s hs
  rw [xset_at, xup_cu, h.2.2.1] at hs
  rw [hs]
  refine mu_of (fun a => ∃ (q : Nat) (m1 : Nat → Int), a = (aSecI b q 3 3 - b 3 3, (q : Int), xset σ 40 m1) ∧ (q : Int) ≤ b 3 0 ∧ AB m1 (aSecI b q)) (fun a => (3 - a.2.1).toNat) ?_ _ ⟨0, _, ?_, by omega, h.scal (k := 1) (by omega) (by omega) (by omega) _⟩
  · rintro K _ ⟨q, m1, rfl, hq, hm1⟩ hK
    have e0 : aSecI b q 3 0 = b 3 0 := aSecI_3 b q (by omega) 0 (by omega) (by omega)
    have e33 := aSecI_33 b q (by omega)
    unfold vL_second_12
    dsimp only
    rw [show xset σ 40 m1 40 21 = b 3 0 by rw [xset_at, hm1.2.1, e0]]
    refine ⟨⟨by omega, by omega⟩, ⟨by omega, by omega⟩, fun r => ?_, fun r => ?_⟩
    · have e : (b 3 0).toNat = q := by omega
      have e2 : aSec b = aSecI b q := by unfold aSec; rw [e]
      have := k m1 (by rw [e2]; exact hm1)
      rw [e2] at this
      exact this
    · have hq3 : q < 3 := by omega
      have row : ∀ p, aSecI b q q p = b q p := fun p => aSecI_hi b q (by omega) q p (Nat.le_refl q) hq3
      have hv := hw.2.2.2.2 q (by omega)
      have hn' : (q : Int) < aSecI b q 3 0 := by rw [e0]; omega
      have nxt : ∀ (m2 : Nat → Int) (x : Int), x = aSecI b (q + 1) 3 3 - b 3 3 → AB m2 (aSecI b (q + 1)) → K (x, (q : Int) + 1, xset σ 40 m2) := fun m2 x hx h2 => hK _ ⟨q + 1, m2, by rw [hx]; push_cast; rfl, by omega, h2⟩ (by show (3 - ((q : Int) + 1)).toNat < (3 - (q : Int)).toNat; omega)
      refine akRuns hm1 q hq3 hn' (by rw [row, row, row]; omega) rfl (fun hr => ?_) (fun hr => ?_)
      · refine ⟨⟨by omega, by omega⟩, fun z => absurd z (by omega), fun _ => ?_⟩
        have es : aSecI b (q + 1) = aSink (aSecI b q) q := if_pos hr
        have hr' := hr
        unfold aRuns at hr'
        rw [row, row, row] at hr'
        refine akBody hm1 (by omega) q hq3 hn' hr (by rw [row, row, row, row]; omega) (fun m' h' => nxt m' _ ?_ (by rw [es]; exact h'))
        rw [es]
        omega
      · refine ⟨rng0, fun _ => nxt m1 _ ?_ ?_, fun z => absurd rfl z⟩
        · have es : aSecI b (q + 1) = aSecI b q := if_neg hr
          rw [es]
        · have es : aSecI b (q + 1) = aSecI b q := if_neg hr
          rw [es]
          exact hm1
  · have e : aSecI b 0 3 3 = b 3 3 := by
      unfold aSecI
      rw [xup_app, if_neg (by omega)]
    rw [e, Int.sub_self]
    rfl
theorem akPasses {σ : xS} {m : Nat → Int} {b : xS} {x : Int} {Q : Int → xS → Prop} {T : Int} (hT : T ≤ 50000) (hw : WFt T b) (h : AB m b) (n : Nat) (hn : n ≤ 10000) (hx : x = (n : Int)) (k : ∀ m', AB m' (aPass n b) → Q (aPass n b 3 3 - b 3 3) (xset σ 40 m')) : vL_passes x (xset σ 40 m) Q := by
  subst hx
  unfold vL_passes
  refine mu_of (fun a => ∃ (j : Nat) (m1 : Nat → Int), a = ((n : Int), aPass j b 3 3 - b 3 3, (j : Int), xset σ 40 m1) ∧ j ≤ n ∧ AB m1 (aPass j b)) (fun a => (10000 - a.2.2.1).toNat) ?_ _ ⟨0, m, by show _ = ((n : Int), b 3 3 - b 3 3, _, _); rw [Int.sub_self]; rfl, by omega, h⟩
  rintro K _ ⟨j, m1, rfl, hj, h1⟩ hK
  have hw1 := hw.pass j
  unfold vL_passes_4
  refine ⟨⟨by omega, by omega⟩, ⟨by omega, by omega⟩, fun r => ?_, fun r => ?_⟩
  · have e : j = n := by omega
    subst e
    exact k m1 h1
  · refine akSec (by omega) hw1 h1 (fun m2 h2 => hK _ ⟨j + 1, m2, ?_, by omega, h2⟩ (by show (10000 - ((j : Int) + 1)).toNat < (10000 - (j : Int)).toNat; omega))
    have e : aPass j b 3 3 - b 3 3 + (aSec (aPass j b) 3 3 - aPass j b 3 3) = aPass (j + 1) b 3 3 - b 3 3 := by
      show _ = aSec (aPass j b) 3 3 - b 3 3
      omega
    rw [e]
    push_cast
    rfl
/-- waiting, with a glass that runs: so many seconds as to the next event -/
theorem akAwaits {σ : xS} {m : Nat → Int} {b : xS} {Q : Int → xS → Prop} {T : Int} (hT : T ≤ 50000) (hw : WFt T b) (h : AB m b) (hu : aUnt b ≠ 0) (k : ∀ m', AB m' (aPass (aUnt b).toNat b) → Q (aUnt b) (xset σ 40 m')) : vL_awaits (xset σ 40 m) Q := by
  have hin := aUnt_in hw
  unfold vL_awaits
  refine akRunsAny hw h (fun z => absurd z hu) (fun _ => ?_)
  refine mu_of (fun a => ∃ (j : Nat) (m1 : Nat → Int), a = ((j : Int), (if (j : Int) < aUnt b then 1 else 0), xset σ 40 m1) ∧ (j : Int) ≤ aUnt b ∧ AB m1 (aPass j b)) (fun a => (20 - a.1).toNat) ?_ _ ⟨0, m, by rw [if_pos (by omega)]; rfl, by omega, h⟩
  rintro K _ ⟨j, m1, rfl, hj, h1⟩ hK
  have hw1 := hw.pass j
  unfold vL_awaits_7
  by_cases hlt : (j : Int) < aUnt b
  · rw [if_pos hlt]
    have hm := aPass_more hw j hlt
    refine ⟨⟨by omega, by omega⟩, fun z => absurd z (by omega), fun _ => ?_⟩
    have b33 := aSec_33 hw1
    refine akSec (by omega) hw1 h1 (fun m2 h2 => ⟨⟨by omega, by omega⟩, fun q => ?_, fun q => ?_⟩)
    · -- an event: it was the last second
      have hl : ¬ ((j : Int) + 1 < aUnt b) := fun hl => by
        have := aSec_more hw1 (by omega)
        omega
      refine hK _ ⟨j + 1, m2, ?_, by omega, h2⟩ (by show (20 - ((j : Int) + 1)).toNat < (20 - (j : Int)).toNat; omega)
      rw [if_neg (by push_cast; exact hl)]
      push_cast
      rfl
    · have hl : (j : Int) + 1 < aUnt b := by
        apply Int.not_le.mp
        intro hl
        have := aSec_one hw1 (by omega)
        omega
      refine hK _ ⟨j + 1, m2, ?_, by omega, h2⟩ (by show (20 - ((j : Int) + 1)).toNat < (20 - (j : Int)).toNat; omega)
      rw [if_pos (by push_cast; exact hl)]
      push_cast
      rfl
  · rw [if_neg hlt]
    have e : (aUnt b).toNat = j := by omega
    refine ⟨rng0, fun _ => ?_, fun z => absurd rfl z⟩
    have := k m1 (by rw [e]; exact h1)
    rw [show aUnt b = (j : Int) by omega] at this
    exact this
