/-! all that is told is as the law's own table has it -/
theorem gl_ok {τ b : xS} {T : Int} {x y : Int} {e : Int} {N Z : xS → Prop} (hw : WFt T b) (hc : CB (τ 8) b) (ha : AB (τ 40) b) (i p : Nat) (hx : x = (i : Int)) (hn : (i : Int) < b 3 0) (hy : y = (p : Int)) (hp : p < 7) (he : e = ((7 * i + pip p : Nat) : Int)) (k : N τ) : vX4_glass x y τ (fun r s => (0 ≤ e ∧ e < 64) ∧ (rng r ∧ (rng (s 40 e.toNat) ∧ ((¬ r = s 40 e.toNat → Z s) ∧ (r = s 40 e.toNat → N s))))) := by
  have hi3 := hw.n3 hn
  have hl := pip_lt hp
  have hv := hw.2.2.2.2 i hn
  have hn3 := hw.1
  refine okGl hw hc ⟨by omega, by omega⟩ ⟨by omega, by omega⟩ ?_
  have ev : vGl b x y = b i p := by
    rw [vGl, if_neg (by omega), if_neg (by omega), hx, hy, Int.toNat_natCast, Int.toNat_natCast]
  have er : τ 40 e.toNat = b i p := by rw [he, Int.toNat_natCast]; exact ha.r hi3 hn hp rfl
  rw [ev, er]
  have hr : rng (b i p) := by
    rcases (show p = 0 ∨ p = 1 ∨ p = 2 ∨ p = 3 ∨ p = 4 ∨ p = 5 ∨ p = 6 by omega) with rfl | rfl | rfl | rfl | rfl | rfl | rfl <;> exact ⟨by omega, by omega⟩
  exact ⟨⟨by omega, by omega⟩, hr, hr, fun z => absurd rfl z, fun _ => k⟩
theorem cn_ok {τ b : xS} {T : Int} {x : Int} {d : Nat} {H : Nat → xS} {e : Nat} {v : Int} {N Z : xS → Prop} (hT : T ≤ 100000) (hw : WFt T b) (hc : CB (τ 8) b) (hh : HC τ d H) (hx : 0 ≤ x ∧ x ≤ 7) (hv : vCn b d (τ 1 1) x = v) (he : τ 40 e = v) (hr : rng v) (k : N τ) : vX4_count x τ (fun r s => rng r ∧ (rng (s 40 e) ∧ ((¬ r = s 40 e → Z s) ∧ (r = s 40 e → N s)))) := by
  refine okCn (T := 0) hT hw hc hh ⟨by omega, by omega⟩ ?_
  rw [hv, he]
  exact ⟨hr, hr, fun z => absurd rfl z, fun _ => k⟩
theorem ev_ok {τ b : xS} {T : Int} {N : Int → xS → Prop} (hT : T ≤ 100000) (hw : WFt T b) (hc : CB (τ 8) b) (j p : Nat) (hj : j < 12) (hp : p < 3) {x y : Int} (hx : x = (j : Int)) (hy : y = (p : Int)) (k : N (if (j : Int) < b 3 3 then b (4 + ((b 3 3).toNat - 1 - j)) p else -1) τ) : vX4_event x y τ N := by
  have hl := aListed_in hw
  have h33 := hw.2.2.2.1
  refine okEv hT hw hc ⟨by omega, by omega⟩ ⟨by omega, by omega⟩ ?_
  have e : vEv b x y = if (j : Int) < b 3 3 then b (4 + ((b 3 3).toNat - 1 - j)) p else -1 := by
    rw [vEv, if_neg (by omega), hx, hy, Int.toNat_natCast, Int.toNat_natCast]
    have ea : aListed b = if 12 < b 3 3 then 12 else b 3 3 := rfl
    by_cases q : (j : Int) < b 3 3
    · rw [if_pos q, if_neg ?_]
      · rfl
      · rw [ea]; split <;> omega
    · rw [if_neg q, if_pos ?_]
      rw [ea, if_neg (by omega)]; omega
  rw [e]
  exact k
theorem evc_dec {b : xS} {T : Int} (hT : T ≤ 100000) (ht : b 3 1 ≤ T) (h : EV b) {e : Nat} (he : (e : Int) < b 3 3) : 0 ≤ evc b e ∧ evc b e < 20000000 ∧ jdiv (evc b e) 100 = b (4 + e) 0 ∧ jrem (jdiv (evc b e) 10) 10 = b (4 + e) 1 ∧ jrem (evc b e) 10 = b (4 + e) 2 := by
  have := h e he
  have hv : evc b e = 100 * b (4 + e) 0 + 10 * b (4 + e) 1 + b (4 + e) 2 := rfl
  have h0 : 0 ≤ evc b e ∧ evc b e < 20000000 := by omega
  have en : evc b e = ((evc b e).toNat : Int) := by omega
  have d1 : jdiv (evc b e) 100 = (((evc b e).toNat / 100 : Nat) : Int) := by
    rw [en, Int.toNat_natCast]
    exact jdiv_nat (n := 100) (by omega) (by omega) (by omega)
  have d2 : jdiv (evc b e) 10 = (((evc b e).toNat / 10 : Nat) : Int) := by
    rw [en, Int.toNat_natCast]
    exact jdiv_nat (n := 10) (by omega) (by omega) (by omega)
  refine ⟨h0.1, h0.2, ?_, ?_, ?_⟩
  · rw [d1]; omega
  · rw [d2]
    have := jrem_nat (a := (((evc b e).toNat / 10 : Nat) : Int)) (n := 10) (by omega) (by omega) (by omega) (by omega)
    rw [Int.toNat_natCast] at this
    rw [show (10 : Int) = ((10 : Nat) : Int) from rfl, this]
    omega
  · have := jrem_nat (a := evc b e) (n := 10) (by omega) (by omega) (by omega) (by omega)
    rw [show (10 : Int) = ((10 : Nat) : Int) from rfl, this]
    omega
set_option maxHeartbeats 4000000 in
theorem akTold {τ b : xS} {Q : Int → xS → Prop} {T : Int} (hT : T ≤ 100000) (hw : WFt T b) (hc : CHx τ b) (ha : AB (τ 40) b) (he : EV b) (h4 : rng (b 3 4)) (h5 : rng (b 3 5)) (k : Q 1 τ) : vL_isTold τ Q := by
  have hn := hw.1
  have h1 := hw.2.1
  have h33 := hw.2.2.2.1
  have hlst := aListed_in hw
  have hst := aStacks_in hw
  obtain ⟨hb, d, H, hh⟩ := hc
  obtain ⟨-, a2, a3, a4, a5, a6, a7⟩ := id ha
  unfold vL_isTold
  refine mu_of (fun a => ∃ q : Nat, a = (cntB (fun i => decide (b i 5 = (i : Int))) q, (q : Int), τ) ∧ (q : Int) ≤ b 3 0) (fun a => (3 - a.2.1).toNat) ?_ _ ⟨0, rfl, by omega⟩
  rintro K _ ⟨q, rfl, hq⟩ hK
  have hcn := cntB_in (fun i => decide (b i 5 = (i : Int))) q
  unfold vL_isTold_4
  dsimp only
  refine ⟨⟨by omega, by omega⟩, ⟨by rw [a2]; omega, by rw [a2]; omega⟩, fun r => ?_, fun r => ?_⟩
  · -- the events, then the numbers
    rw [a2] at r
    have eq : (b 3 0).toNat = q := by omega
    have es : aStacks b = cntB (fun i => decide (b i 5 = (i : Int))) q := by unfold aStacks; rw [eq]
    rw [← es]
    refine mu_of (fun a => ∃ j : Nat, a = (aStacks b, (if (j : Int) ≤ b 3 3 then (j : Int) else b 3 3), (j : Int), τ) ∧ j ≤ 12) (fun a => (12 - a.2.2.1).toNat) ?_ _ ⟨0, by rw [if_pos (by omega)]; rfl, by omega⟩
    rintro K2 _ ⟨j, rfl, hj⟩ hK2
    unfold vL_isTold_178
    dsimp only
    refine ⟨⟨by omega, by omega⟩, fun r2 => ?_, fun r2 => ?_⟩
    · have hj12 : j = 12 := by omega
      subst hj12
      have el : aListed b = if ((12 : Nat) : Int) ≤ b 3 3 then ((12 : Nat) : Int) else b 3 3 := by
        show (if 12 < b 3 3 then 12 else b 3 3) = _
        split <;> split <;> omega
      rw [← el]
      have cn : ∀ (x v : Int) {N Z : xS → Prop}, 0 ≤ x ∧ x ≤ 7 → vCn b d (τ 1 1) x = v → rng v → ∀ w : Int, w = v → N τ → vX4_count x τ (fun r s => rng r ∧ (rng w ∧ ((¬ r = w → Z s) ∧ (r = w → N s)))) := fun x v N Z hx hv hr w hwv kk => by
        refine okCn (T := 0) hT hw hb hh ⟨by omega, by omega⟩ ?_
        rw [hv, hwv]
        exact ⟨hr, hr, fun z => absurd rfl z, fun _ => kk⟩
      refine cn_ok (v := b 3 0) hT hw hb hh ⟨by omega, by omega⟩ rfl a2 ⟨by omega, by omega⟩ ?_
      refine cn 1 (aStacks b) ⟨by omega, by omega⟩ rfl ⟨by omega, by omega⟩ _ rfl ?_
      refine cn_ok (v := b 3 1) hT hw hb hh ⟨by omega, by omega⟩ rfl a3 ⟨by omega, by omega⟩ ?_
      refine cn_ok (v := b 3 3) hT hw hb hh ⟨by omega, by omega⟩ rfl a4 ⟨by omega, by omega⟩ ?_
      refine cn 5 (aListed b) ⟨by omega, by omega⟩ rfl ⟨by omega, by omega⟩ _ rfl ?_
      refine cn_ok (v := b 3 4) hT hw hb hh ⟨by omega, by omega⟩ rfl a5 h4 ?_
      refine cn_ok (v := b 3 5) hT hw hb hh ⟨by omega, by omega⟩ rfl a6 h5 ?_
      rw [a2]
      refine okGl hw hb ⟨by omega, by omega⟩ rng0 ?_
      rw [vGl, if_pos (Or.inl (Or.inr (Int.le_refl _)))]
      refine ⟨⟨by omega, by omega⟩, fun z => absurd rfl z, fun _ => ?_⟩
      refine okGl hw hb rng0 ⟨by omega, by omega⟩ ?_
      rw [vGl, if_pos (Or.inr (Or.inr (by omega)))]
      exact ⟨⟨by omega, by omega⟩, fun z => absurd rfl z, fun _ => k⟩
    · have hj12 : j < 12 := by omega
      have e30 : τ 40 (30 + (j : Int)).toNat = if (j : Int) < b 3 3 then evc b ((b 3 3).toNat - 1 - j) else -1 := by
        rw [show (30 + (j : Int)).toNat = 30 + j by omega]
        exact a7 j hj12
      rw [e30]
      have nxt : ∀ v : Int, v = (if ((j + 1 : Nat) : Int) ≤ b 3 3 then ((j + 1 : Nat) : Int) else b 3 3) → K2 (aStacks b, v, (j : Int) + 1, τ) := fun v hv => hK2 _ ⟨j + 1, by rw [hv]; push_cast; rfl, by omega⟩ (by show (12 - ((j : Int) + 1)).toNat < (12 - (j : Int)).toNat; omega)
      by_cases c : (j : Int) < b 3 3
      · have D := evc_dec hT h1.2 he (e := (b 3 3).toNat - 1 - j) (by omega)
        have E := he ((b 3 3).toNat - 1 - j) (by omega)
        rw [if_pos c, if_pos (by omega)]
        refine ⟨⟨by omega, by omega⟩, ⟨by omega, by omega⟩, fun _ => ?_, fun z => absurd D.1 z⟩
        unfold vL_isTold_205
        refine ev_ok hT hw hb j 0 hj12 (by omega) rfl rfl ?_
        rw [if_pos c]
        refine ⟨⟨by omega, by omega⟩, fun _ => ?_, fun z => absurd D.1 z⟩
        unfold vL_isTold_228
        rw [D.2.2.1]
        refine ⟨⟨by omega, by omega⟩, ⟨by omega, by omega⟩, fun z => absurd rfl z, fun _ => ?_⟩
        refine ev_ok hT hw hb j 1 hj12 (by omega) rfl rfl ?_
        rw [if_pos c]
        refine ⟨⟨by omega, by omega⟩, fun _ => ?_, fun z => absurd D.1 z⟩
        unfold vL_isTold_255
        rw [D.2.2.2.1]
        refine ⟨⟨by omega, by omega⟩, ⟨by omega, by omega⟩, fun z => absurd rfl z, fun _ => ?_⟩
        refine ev_ok hT hw hb j 2 hj12 (by omega) rfl rfl ?_
        rw [if_pos c]
        refine ⟨⟨by omega, by omega⟩, fun _ => ?_, fun z => absurd D.1 z⟩
        unfold vL_isTold_279
        rw [D.2.2.2.2]
        refine ⟨⟨by omega, by omega⟩, ⟨by omega, by omega⟩, fun _ => nxt _ ?_, fun z => absurd rfl z⟩
        rw [if_pos (by omega)]
        push_cast
        rfl
      · rw [if_neg c, show (if (j : Int) ≤ b 3 3 then (j : Int) else b 3 3) = b 3 3 by split <;> omega]
        refine ⟨⟨by omega, by omega⟩, ⟨by omega, by omega⟩, fun z => absurd z (by omega), fun _ => ?_⟩
        unfold vL_isTold_205
        refine ev_ok hT hw hb j 0 hj12 (by omega) rfl rfl ?_
        rw [if_neg c]
        refine ⟨⟨by omega, by omega⟩, fun z => absurd z (by omega), fun _ => ?_⟩
        unfold vL_isTold_228
        refine ⟨⟨by omega, by omega⟩, ⟨by omega, by omega⟩, fun z => absurd rfl z, fun _ => ?_⟩
        refine ev_ok hT hw hb j 1 hj12 (by omega) rfl rfl ?_
        rw [if_neg c]
        refine ⟨⟨by omega, by omega⟩, fun z => absurd z (by omega), fun _ => ?_⟩
        unfold vL_isTold_255
        refine ⟨⟨by omega, by omega⟩, ⟨by omega, by omega⟩, fun z => absurd rfl z, fun _ => ?_⟩
        refine ev_ok hT hw hb j 2 hj12 (by omega) rfl rfl ?_
        rw [if_neg c]
        refine ⟨⟨by omega, by omega⟩, fun z => absurd z (by omega), fun _ => ?_⟩
        unfold vL_isTold_279
        refine ⟨⟨by omega, by omega⟩, ⟨by omega, by omega⟩, fun _ => nxt _ ?_, fun z => absurd rfl z⟩
        rw [if_neg (by omega), Int.add_zero]
  · -- a glass
    rw [a2] at r
    have hq1 : (q : Int) < b 3 0 := by omega
    have hq3 : q < 3 := by omega
    have hv := hw.2.2.2.2 q hq1
    refine gl_ok hw hb ha q 0 rfl hq1 rfl (by omega) (by show _ = ((7 * q + 0 : Nat) : Int); omega) ?_
    refine gl_ok hw hb ha q 1 rfl hq1 rfl (by omega) (by show _ = ((7 * q + 1 : Nat) : Int); omega) ?_
    refine gl_ok hw hb ha q 2 rfl hq1 rfl (by omega) (by show _ = ((7 * q + 2 : Nat) : Int); omega) ?_
    refine gl_ok hw hb ha q 3 rfl hq1 rfl (by omega) (by show _ = ((7 * q + 3 : Nat) : Int); omega) ?_
    refine gl_ok hw hb ha q 4 rfl hq1 rfl (by omega) (by show _ = ((7 * q + 4 : Nat) : Int); omega) ?_
    refine gl_ok hw hb ha q 5 rfl hq1 rfl (by omega) (by show _ = ((7 * q + 6 : Nat) : Int); omega) ?_
    refine gl_ok hw hb ha q 6 rfl hq1 rfl (by omega) (by show _ = ((7 * q + 5 : Nat) : Int); omega) ?_
    have nxt : ∀ v : Int, v = cntB (fun i => decide (b i 5 = (i : Int))) (q + 1) → K (v, (q : Int) + 1, τ) := fun v hv => hK _ ⟨q + 1, by rw [hv]; push_cast; rfl, by omega⟩ (by show (3 - ((q : Int) + 1)).toNat < (3 - (q : Int)).toNat; omega)
    have fin : ∀ y : Int, y = 0 ∨ y = 1 → vL_isTold_143 K Q (cntB (fun i => decide (b i 5 = (i : Int))) q) (q : Int) (7 * (q : Int)) y y τ := fun y hy => by
      unfold vL_isTold_143
      have e6 : τ 40 (7 * (q : Int) + 6).toNat = b q 5 := by rw [show (7 * (q : Int) + 6).toNat = 7 * q + 6 by omega]; exact ha.r5 hq3 hq1
      rw [e6]
      refine ⟨⟨by omega, by omega⟩, ⟨by omega, by omega⟩, fun _ => ⟨⟨by omega, by omega⟩, ⟨by omega, by omega⟩, ⟨by omega, by omega⟩, fun z => nxt _ ?_, fun z => nxt _ ?_⟩, fun z => absurd rfl z⟩
      · rw [cntB, if_neg (by simpa using z), Int.add_zero]
      · rw [cntB, if_pos (by simpa using z)]
    refine okGl hw hb ⟨by omega, by omega⟩ ⟨by omega, by omega⟩ ?_
    rw [vGl, if_neg (by omega), if_pos rfl, Int.toNat_natCast]
    have R := akRuns (σ := τ) (m := τ 40) (g := (q : Int)) (Q := fun r124 σ125 => rng r124 ∧ ((r124 = 0 → vL_isTold_143 K Q (cntB (fun i => decide (b i 5 = (i : Int))) q) (q : Int) (7 * (q : Int)) (if aRuns b q then 1 else 0) 0 σ125) ∧ (¬ r124 = 0 → vL_isTold_143 K Q (cntB (fun i => decide (b i 5 = (i : Int))) q) (q : Int) (7 * (q : Int)) (if aRuns b q then 1 else 0) 1 σ125))) ha q hq3 hq1 (hw.rv hq1) rfl
    rw [xset_self] at R
    refine R (fun hr => ⟨⟨by omega, by omega⟩, fun z => absurd z (by omega), fun _ => ?_⟩) (fun hr => ⟨rng0, fun _ => ?_, fun z => absurd rfl z⟩)
    · rw [if_pos hr]; exact fin 1 (Or.inr rfl)
    · rw [if_neg hr]; exact fin 0 (Or.inl rfl)
