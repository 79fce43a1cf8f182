/-! the reference's plans: answers -/
noncomputable def av (b : xS) (g : Nat) : Nat := if (g : Int) < b 3 0 then (b g 1).toNat else 0
theorem av_in {T : Int} {b : xS} (hw : WFt T b) (g : Nat) : av b g ≤ am b g ∧ pj b g (av b g) = pv b g := by
  unfold av am pj pv
  by_cases h : (g : Int) < b 3 0
  · have hr := hw.row h
    unfold RowOK at hr
    simp only [if_pos h]
    exact ⟨by omega, by simp⟩
  · simp only [if_neg h]
    refine ⟨Nat.le_refl 0, ?_⟩
    rw [if_neg (fun q => h q.1), if_neg (fun q => h q.1)]
theorem mk_above {σ b : xS} {g : Nat} {T : Int} {Q : Int → xS → Prop} (hm : MB (σ 21) b) (hw : WFt T b) (hg : g < 3) (k : Q (av b g : Int) σ) : vX5_above (g : Int) σ Q := by
  have hn := hw.1
  unfold vX5_above
  unfold av at k
  rw [show σ 21 21 = b 3 0 from hm.n 0 (by omega)]
  refine ⟨⟨by omega, by omega⟩, ⟨by omega, by omega⟩, fun z => ?_, fun z => ?_⟩
  · rw [if_neg (by omega)] at k
    exact k
  · have hlt : (g : Int) < b 3 0 := by omega
    have hr := hw.row hlt
    unfold RowOK at hr
    rw [if_pos hlt, show (((b g 1).toNat : Nat) : Int) = b g 1 by omega] at k
    exact mkR' hm g 1 hg hlt (by omega) rfl rfl k
def PRE (σ b : xS) : Prop := MB (σ 21) b ∧ WF b ∧ (∀ g, g < 3 → rng (σ 21 (7 * g + 6))) ∧ (∀ j, j < 9 → rng (σ 30 j)) ∧ MT σ
theorem PRE.next {σ τ b : xS} (h : PRE σ b) (hf : FMd σ τ) (hr : RDY τ b) : PRE τ b := by
  have e21 : τ 21 = σ 21 := hf.1 21 (by omega) (by omega) (by omega) (by omega) (by omega) (by omega)
  exact ⟨hr.1.1, h.2.1, by rw [e21]; exact h.2.2.1, hr.2.2.2.2, hr.MT⟩
theorem mk_costOf {σ b : xS} {span : Nat} {Q : Int → xS → Prop} (h : PRE σ b) (hs : 1 ≤ span ∧ span ≤ 40) (k : ∀ (τ : xS) (v : Int), FMd σ τ → RDY τ b → MinC (pA b) (pS b) span (pv b 0) (pv b 1) (pv b 2) v → Q v τ) : vX5_costOf (span : Int) σ Q := by
  obtain ⟨hm, hw, hraw, h30, hT⟩ := h
  have a0 := av_in hw 0
  have a1 := av_in hw 1
  have a2 := av_in hw 2
  have m0 := (am_in hw 0).1
  have m1 := (am_in hw 1).1
  have m2 := (am_in hw 2).1
  unfold vX5_costOf
  refine mk_fills hm hw hraw h30 hT (fun τ hf hr => ?_)
  refine mk_above (g := 0) hr.1.1 hw (by omega) (mk_above (g := 1) hr.1.1 hw (by omega) (mk_above (g := 2) hr.1.1 hw (by omega) ?_))
  unfold vX5_place
  dsimp only
  rw [show (2197 * (span : Int) + 169 * (av b 0 : Int) + 13 * (av b 1 : Int) + (av b 2 : Int)).toNat = 2197 * span + 169 * av b 0 + 13 * av b 1 + av b 2 by omega]
  have hc := hr.2.1 span hs.1 hs.2 (av b) (fun g hg => (av_in hw g).1)
  rw [a0.2, a1.2, a2.2] at hc
  have hcr : 0 ≤ τ 29 (2197 * span + 169 * av b 0 + 13 * av b 1 + av b 2) ∧ τ 29 (2197 * span + 169 * av b 0 + 13 * av b 1 + av b 2) ≤ 1000 := by
    rcases hc with ⟨e1, _⟩ | ⟨c, e1, c1, _⟩ <;> omega
  refine ⟨by omega, ⟨by omega, by omega⟩, fun z => k τ _ hf hr ?_, fun z => k τ (-1) hf hr ?_⟩
  · rcases hc with ⟨e1, _⟩ | ⟨c, e1, c1, hcan, hmin⟩
    · omega
    · exact Or.inr ⟨c, e1, c1, hcan, hmin⟩
  · rcases hc with ⟨e1, hno⟩ | ⟨c, e1, c1, hcan, hmin⟩
    · exact Or.inl ⟨rfl, hno⟩
    · omega
def FX (τ ρ : xS) : Prop := (∀ r, r ≠ 20 → r ≠ 33 → ρ r = τ r) ∧ ∀ j, j ≠ 20 → ρ 20 j = τ 20 j
theorem FX.refl (σ : xS) : FX σ σ := ⟨fun _ _ _ => rfl, fun _ _ => rfl⟩
theorem FX.trans {σ τ ρ : xS} (h1 : FX σ τ) (h2 : FX τ ρ) : FX σ ρ := ⟨fun r a b => (h2.1 r a b).trans (h1.1 r a b), fun j a => (h2.2 j a).trans (h1.2 j a)⟩
theorem FX.set (σ : xS) {f h : Nat → Int} (hf : ∀ j, j ≠ 20 → f j = σ 20 j) : FX σ (xset (xset σ 20 f) 33 h) := ⟨fun r a b => by rw [xset_ne b, xset_ne a], fun j hj => by rw [xset_ne (by omega), xset_eq, hf j hj]⟩
theorem RDY.fx {τ ρ b : xS} (h : RDY τ b) (hf : FX τ ρ) : RDY ρ b := by
  obtain ⟨h1, h2, h3, h4, h5⟩ := h
  refine ⟨h1.congr (hf.1 21 (by omega) (by omega)) (hf.1 31 (by omega) (by omega)) (hf.1 32 (by omega) (by omega)), ?_, (hf.2 16 (by omega)).trans h3, ?_, ?_⟩
  · rw [hf.1 29 (by omega) (by omega)]; exact h2
  · rw [hf.1 30 (by omega) (by omega), hf.1 21 (by omega) (by omega)]; exact h4
  · rw [hf.1 30 (by omega) (by omega)]; exact h5
theorem FMd.fx {σ τ ρ : xS} (h : FMd σ τ) (hf : FX τ ρ) : FMd σ ρ := h.trans ⟨fun r a1 a2 a3 a4 a5 a6 => hf.1 r a1 a6, fun j a1 a2 => hf.2 j a2⟩
theorem mk_planned {τ b : xS} {span i c : Nat} {set : Int} {Q : Int → xS → Prop} (hR : RDY τ b) (hs : 1 ≤ span ∧ span ≤ 40) (hi : rng (i : Int)) (hset : rng set) (hc120 : c ≤ 120) (hcan : Can (uU (pA b) (pS b)) (pA b) (pS b) span c (pv b 0) (pv b 1) (pv b 2)) (hmin : ∀ c', c' < c → ¬ Can (uU (pA b) (pS b)) (pA b) (pS b) span c' (pv b 0) (pv b 1) (pv b 2)) (k : ∀ (ρ : xS) (v : Int), FX τ ρ → PLN (pA b) (pS b) (pv b 0) (pv b 1) (pv b 2) span (c : Int) i set v → Q v ρ) : vX5_plannedStep (span : Int) (i : Int) set (c : Int) τ Q := by
  have hw := hR.1.2.1
  have hS := pS_lt hw
  have a0 := av_in hw 0
  have a1 := av_in hw 1
  have a2 := av_in hw 2
  unfold vX5_plannedStep
  refine mk_above (g := 0) hR.1.1 hw (by omega) (mk_above (g := 1) hR.1.1 hw (by omega) (mk_above (g := 2) hR.1.1 hw (by omega) ?_))
  refine mu_of (fun v => ∃ (q r c : Nat) (a : Nat → Nat) (ρ : xS), v = ((span : Int), (i : Int), set, (r : Int), (c : Int), (a 0 : Int), (a 1 : Int), (a 2 : Int), (q : Int), ρ) ∧ FX τ ρ ∧ r ≤ 40 ∧ c ≤ 120 ∧ (∀ g, g < 3 → a g ≤ am b g) ∧ q ≤ i ∧ (0 < r → Can (uU (pA b) (pS b)) (pA b) (pS b) r c (pj b 0 (a 0)) (pj b 1 (a 1)) (pj b 2 (a 2)) ∧ ∀ c', c' < c → ¬ Can (uU (pA b) (pS b)) (pA b) (pS b) r c' (pj b 0 (a 0)) (pj b 1 (a 1)) (pj b 2 (a 2))) ∧ (∀ j, i = q + j → ∀ e l, stpR (pA b) (pS b) j (pj b 0 (a 0)) (pj b 1 (a 1)) (pj b 2 (a 2)) r c e l → ∀ π, FX τ π → Q (if set = 0 then (span : Int) - (l : Int) else (e : Int)) π) ∧ ((∀ j, i = q + j → ∀ e l, ¬ stpR (pA b) (pS b) j (pj b 0 (a 0)) (pj b 1 (a 1)) (pj b 2 (a 2)) r c e l) → ∀ π, FX τ π → Q (-1) π)) (fun v => v.2.2.2.1.toNat) ?_ _ ⟨0, span, c, av b, τ, rfl, FX.refl τ, hs.2, hc120, fun g hg => (av_in hw g).1, by omega, fun _ => ?_, fun j hj e l hst π hπ => ?_, fun hno π hπ => ?_⟩
  · rintro K _ ⟨q, r, c, a, ρ, rfl, hf, hr, hc, ha, hqi, hmn, kf, kn⟩ hK
    have hRρ := hR.fx hf
    have px := pj_le hw (show 0 < 3 by omega) (ha 0 (by omega))
    have py := pj_le hw (show 1 < 3 by omega) (ha 1 (by omega))
    have pz' := pj_le hw (show 2 < 3 by omega) (ha 2 (by omega))
    unfold vX5_plannedStep_31
    refine ⟨⟨by omega, by omega⟩, fun z => kn (fun j hj e l hst => ?_) ρ hf, fun z => ?_⟩
    · cases j with
      | zero => have := hst.1; omega
      | succ j => have := hst.1; omega
    · obtain ⟨hcan, hmin⟩ := hmn (by omega)
      obtain ⟨j, hj⟩ : ∃ j, i = q + j := ⟨i - q, by omega⟩
      refine mu_of (fun v => ∃ (its : Nat) (ρ : xS), v = ((span : Int), (i : Int), set, (r : Int), (c : Int), (a 0 : Int), (a 1 : Int), (a 2 : Int), (q : Int), (its : Int), ρ) ∧ FX τ ρ ∧ ∀ e, e < its → ¬ BY (pA b) (pS b) c (pj b 0 (a 0)) (pj b 1 (a 1)) (pj b 2 (a 2)) e r) (fun v => 8 - v.2.2.2.2.2.2.2.2.2.1.toNat) ?_ _ ⟨0, ρ, rfl, hf, fun e he => absurd he (Nat.not_lt_zero e)⟩
      rintro K2 _ ⟨its, ρ, rfl, hf, hno⟩ hK2
      have hRρ := hR.fx hf
      obtain ⟨e0, he0, hby0⟩ := (BY_ways hS hr).mpr hcan
      have hits : its < 8 := by
        by_cases hlt : its ≤ e0
        · omega
        · exact absurd hby0 (hno e0 (by omega))
      have nxt : ∀ π, FX τ π → ¬ BY (pA b) (pS b) c (pj b 0 (a 0)) (pj b 1 (a 1)) (pj b 2 (a 2)) its r → K2 ((span : Int), (i : Int), set, (r : Int), (c : Int), (a 0 : Int), (a 1 : Int), (a 2 : Int), (q : Int), (its : Int) + 1, π) := fun π hπ hnb => hK2 _ ⟨its + 1, π, by rw [Int.natCast_succ], hπ, fun e he => by
        by_cases e1 : e = its
        · rw [e1]; exact hnb
        · exact hno e (by omega)⟩ (by show 8 - ((its : Int) + 1).toNat < 8 - ((its : Int)).toNat; omega)
      unfold vX5_plannedStep_39
      refine mk_isStacks hRρ.1.1 hw hits (fun hvs => ⟨⟨by omega, by omega⟩, fun w => absurd w (by omega), fun _ => ?_⟩) (fun hvs => ⟨rng0, fun _ => nxt ρ hf (fun hby => hvs (vE_VS hw hby.1)), fun w => absurd rfl w⟩)
      refine mk_costWith hRρ.1 hits ⟨by omega, hr⟩ rfl rfl rfl ha (fun r' h1 h2 => hRρ.2.1 r' h1 (by omega)) (fun f h v hfe hv => ?_)
      have hf2 := hf.trans (FX.set ρ (f := f) (h := h) hfe)
      have hR2 := hR.fx hf2
      generalize xset (xset ρ 20 f) 33 h = π at hf2 hR2 ⊢
      have hvr : 0 ≤ v ∧ v ≤ 1003 := by
        rcases hv with ⟨e1, e2, _⟩ | ⟨c2, e1, c3, _⟩ <;> omega
      refine ⟨⟨by omega, by omega⟩, ⟨by omega, by omega⟩, fun z2 => ?_, fun z2 => nxt π hf2 (fun hby => ?_)⟩
      · have hwc : WAYc (pA b) (pS b) r (pj b 0 (a 0)) (pj b 1 (a 1)) (pj b 2 (a 2)) its c := by
          rcases hv with ⟨e1, e2, _⟩ | ⟨c2, e1, c3, hwc, _⟩
          · omega
          · have : c2 = c := by omega
            subst this
            exact hwc
        have hvE : vE (uU (pA b) (pS b)) its := by
          by_cases hve : vE (uU (pA b) (pS b)) its
          · exact hve
          · obtain ⟨c', hc', hcan'⟩ := (hwc.can hS hits px py pz').2 hve
            exact absurd hcan' (hmin c' hc')
        have hby : BY (pA b) (pS b) c (pj b 0 (a 0)) (pj b 1 (a 1)) (pj b 2 (a 2)) its r := ⟨hvE, hwc.2.2.1, hwc.1, hwc.2.1, hwc.2.2.2.elim (fun w => Or.inl w.symm) (fun w => Or.inr ⟨by omega, w⟩)⟩
        have hle : LE8 (pA b) (pS b) c (pj b 0 (a 0)) (pj b 1 (a 1)) (pj b 2 (a 2)) r its := ⟨hits, hby, hno⟩
        refine ⟨⟨by omega, by have := hi.2; omega⟩, hi, fun z3 => ?_, fun z3 => ?_⟩
        · refine mk_chooses hR2.1 hits rfl rfl rfl ha (fun t ht h2 hh2 => ?_)
          have hf3 := hf2.trans (FX.set π (f := cu (π 20) 20 (sgn (sc (pA b) (pS b) (pj b 0 (a 0)) (pj b 1 (a 1)) (pj b 2 (a 2)) its))) (h := h2) (fun j hj => by rw [cu_app, if_neg hj]))
          have e20 : xset (xset π 20 (cu (π 20) 20 (sgn (sc (pA b) (pS b) (pj b 0 (a 0)) (pj b 1 (a 1)) (pj b 2 (a 2)) its)))) 33 h2 20 20 = ((sc (pA b) (pS b) (pj b 0 (a 0)) (pj b 1 (a 1)) (pj b 2 (a 2)) its : Nat) : Int) := by
            have := hwc.1
            rw [xset_ne (by omega), xset_eq, cu_app, if_pos rfl]
            unfold sgn
            rw [if_neg (by omega)]
          have e33 : ∀ g, g < 3 → xset (xset π 20 (cu (π 20) 20 (sgn (sc (pA b) (pS b) (pj b 0 (a 0)) (pj b 1 (a 1)) (pj b 2 (a 2)) its)))) 33 h2 33 g = (t g : Int) := fun g hg => by rw [xset_eq, hh2 g hg]
          generalize xset (xset π 20 (cu (π 20) 20 (sgn (sc (pA b) (pS b) (pj b 0 (a 0)) (pj b 1 (a 1)) (pj b 2 (a 2)) its)))) 33 h2 = ω at hf3 e20 e33 ⊢
          unfold vX5_bits
          rw [bits_is its hits]
          dsimp only
          obtain ⟨w1, w2, w3, w4⟩ := hwc
          obtain ⟨j', rfl⟩ : ∃ j', j = j' + 1 := ⟨j - 1, by omega⟩
          have t0 := (ht 0 (by omega)).2
          have t1 := (ht 1 (by omega)).2
          have t2 := (ht 2 (by omega)).2
          rw [e20, e33 0 (by omega), e33 1 (by omega), e33 2 (by omega), show (r : Int) - ((sc (pA b) (pS b) (pj b 0 (a 0)) (pj b 1 (a 1)) (pj b 2 (a 2)) its : Nat) : Int) = ((r - sc (pA b) (pS b) (pj b 0 (a 0)) (pj b 1 (a 1)) (pj b 2 (a 2)) its : Nat) : Int) by omega, show (c : Int) - (pcs its : Int) = ((c - pcs its : Nat) : Int) by omega, show (q : Int) + 1 = ((q + 1 : Nat) : Int) by push_cast; rfl]
          refine hK _ ⟨q + 1, _, _, t, ω, rfl, hf3, by omega, by omega, fun g hg => (ht g hg).1, by omega, fun hpos => ?_, fun j2 hj2 e l hst => ?_, fun hno2 => ?_⟩ ?_
          · rw [t0, t1, t2]
            refine ⟨?_, fun c' hc' hcan' => ?_⟩
            · rcases w4 with w4 | w4
              · omega
              · exact w4
            · have hwc' : WAYc (pA b) (pS b) r (pj b 0 (a 0)) (pj b 1 (a 1)) (pj b 2 (a 2)) its (c' + pcs its) := ⟨w1, w2, by omega, Or.inr (by rw [show c' + pcs its - pcs its = c' by omega]; exact hcan')⟩
              exact hmin (c' + pcs its) (by omega) (hwc'.can hS hits px py pz').1
          · rw [t0, t1, t2] at hst
            exact kf (j2 + 1) (by omega) e l ⟨by omega, its, hle, hst⟩
          · refine kn (fun j2 hj2 e l hst => ?_)
            have hj3 : j2 = j' + 1 := by omega
            subst hj3
            obtain ⟨_, e1, x1, x2⟩ := hst
            have := x1.uniq hle
            subst this
            refine hno2 j' (by omega) e l ?_
            rw [t0, t1, t2]
            exact x2
          · show ((r - sc (pA b) (pS b) (pj b 0 (a 0)) (pj b 1 (a 1)) (pj b 2 (a 2)) its : Nat) : Int).toNat < ((r : Int)).toNat
            omega
        · have hj0 : j = 0 := by omega
          subst hj0
          have := kf 0 hj its r ⟨by omega, hle, rfl⟩ π hf2
          refine ⟨hset, fun z6 => ?_, fun z6 => ?_⟩
          · rw [if_pos z6] at this; exact this
          · rw [if_neg z6] at this; exact this
      · have hwc : WAYc (pA b) (pS b) r (pj b 0 (a 0)) (pj b 1 (a 1)) (pj b 2 (a 2)) its c := ⟨hby.2.2.1, hby.2.2.2.1, hby.2.1, hby.2.2.2.2.elim (fun w => Or.inl w.symm) (fun w => Or.inr w.2)⟩
        rcases hv with ⟨e1, e2, hnn⟩ | ⟨c2, e1, c3, hwc2, hm2⟩
        · exact hnn c hwc
        · have h1 : ¬ c < c2 := fun w => hm2 c w hwc
          have h2 : ¬ c2 < c := fun w => hmin c2 w (hwc2.can hS hits px py pz').1
          omega
  · rw [a0.2, a1.2, a2.2]
    exact ⟨hcan, hmin⟩
  · rw [a0.2, a1.2, a2.2] at hst
    rw [Nat.zero_add] at hj
    subst hj
    exact k π _ hπ (Or.inr ⟨by omega, e, l, hst, rfl⟩)
  · rw [a0.2, a1.2, a2.2] at hno
    exact k π (-1) hπ (Or.inl ⟨rfl, Or.inr (fun e l => hno i (by omega) e l)⟩)
theorem pcB_48 {n : Nat} (hn : n < 2199023255552) : pcB n 48 = pcB n 41 := by
  have z : ∀ k, 41 ≤ k → pcB n k = pcB n 41 := by
    intro k
    induction k with
    | zero => intro h; omega
    | succ k ih =>
      intro h
      by_cases hk : k + 1 = 41
      · rw [hk]
      · have hf : Nat.testBit n k = false := Nat.testBit_lt_two_pow (Nat.lt_of_lt_of_le (show n < 2 ^ 41 from hn) (Nat.pow_le_pow_right (by omega) (by omega)))
        rw [pcB_s1, ih (by omega), hf]
        rfl
  exact z 48 (by omega)
/-- what measurable answers -/
def MSR (n : Nat) (i v : Int) : Prop := (i = -1 ∧ v = (pcB n 48 : Int)) ∨ (i ≠ -1 ∧ NTH n i v)
theorem mk_measOf {σ b : xS} {i : Int} {most n : Nat} {Q : Int → xS → Prop} (h : PRE σ b) (hi : rng i ∧ -1 ≤ i) (hm9 : most ≤ 9) (hn : n < 2199023255552) (hb : ∀ r, Nat.testBit n r = true ↔ (1 ≤ r ∧ r ≤ 40) ∧ Can (uU (pA b) (pS b)) (pA b) (pS b) r most (pv b 0) (pv b 1) (pv b 2)) (k : ∀ (τ : xS) (v : Int), FMd σ τ → RDY τ b → MSR n i v → Q v τ) : vX5_measurableOf i (most : Int) σ Q := by
  unfold vX5_measurableOf
  have hb0 : ¬ Nat.testBit n 0 = true := fun q => by have := ((hb 0).mp q).1; omega
  have p1 : pcB n 1 = 0 := by
    rw [pcB_s1, if_neg hb0]
    rfl
  refine mu_of (fun v => ∃ (q : Nat) (τ : xS), v = (i, (most : Int), (pcB n q : Int), (q : Int), τ) ∧ (1 ≤ q ∧ q ≤ 41) ∧ FMd σ τ ∧ PRE τ b ∧ (1 < q → RDY τ b) ∧ (∀ r, r < q → Nat.testBit n r = true → (pcB n r : Int) ≠ i)) (fun v => 41 - v.2.2.2.1.toNat) ?_ _ ⟨1, σ, by rw [p1]; rfl, by omega, FMd.refl σ, h, fun w => by omega, fun r hr hbr => by
    have : r = 0 := by omega
    subst this
    exact absurd hbr hb0⟩
  rintro K _ ⟨q, τ, rfl, hq, hf, hp, hr, hno⟩ hK
  have hple := pcB_le n q
  unfold vX5_measurableOf_5
  refine ⟨⟨by omega, by omega⟩, fun z => ⟨hi.1, fun z2 => k τ (-1) hf (hr (by omega)) (Or.inr ⟨z2, Or.inl ⟨rfl, fun r hr hbr => hno r (by omega) hbr⟩⟩), fun z2 => ?_⟩, fun z => ?_⟩
  · have hq41 : q = 41 := by omega
    subst hq41
    refine k τ _ hf (hr (by omega)) (Or.inl ⟨z2, ?_⟩)
    rw [pcB_48 hn]
  · refine mk_costOf hp ⟨by omega, by omega⟩ (fun ρ v hf2 hr2 hv => ?_)
    have hff := hf.trans hf2
    have hp2 := hp.next hf2 hr2
    have nxt : ∀ x : Int, x = (pcB n (q + 1) : Int) → (Nat.testBit n q = true → (pcB n q : Int) ≠ i) → K (i, (most : Int), x, (q : Int) + 1, ρ) := fun x hx hne => hK _ ⟨q + 1, ρ, by rw [hx, Int.natCast_succ], by omega, hff, hp2, fun _ => hr2, fun r hr hbr => by
      by_cases e1 : r = q
      · subst e1
        exact hne hbr
      · exact hno r (by omega) hbr⟩ (by show 41 - ((q : Int) + 1).toNat < 41 - ((q : Int)).toNat; omega)
    have hvr : -1 ≤ v ∧ v ≤ 120 := by
      rcases hv with ⟨e1, _⟩ | ⟨c, e1, c1, _⟩ <;> omega
    have hbit : Nat.testBit n q = true ↔ v ≠ -1 ∧ v ≤ (most : Int) := by
      rw [hb q]
      rcases hv with ⟨e1, hnn⟩ | ⟨c, e1, c1, hcan, hmin⟩
      · exact ⟨fun w => absurd w.2 (hnn most), fun w => absurd e1 w.1⟩
      · constructor
        · intro w
          refine ⟨by omega, ?_⟩
          by_cases hle : c ≤ most
          · omega
          · exact absurd w.2 (hmin most (by omega))
        · intro w
          exact ⟨⟨by omega, by omega⟩, hcan.mono (by omega)⟩
    refine ⟨⟨by omega, by omega⟩, fun z2 => nxt _ ?_ (fun w => absurd z2 (hbit.mp w).1), fun z2 => ⟨⟨by omega, by omega⟩, fun z3 => nxt _ ?_ (fun w => absurd (hbit.mp w).2 (by omega)), fun z3 => ⟨⟨by omega, by omega⟩, hi.1, fun z4 => nxt _ ?_ (fun _ => z4), fun z4 => k ρ (q : Int) hff hr2 (Or.inr ⟨by omega, Or.inr ⟨q, rfl, by omega, hbit.mpr ⟨z2, by omega⟩, z4⟩⟩)⟩⟩⟩
    · rw [pcB_s1, if_neg (fun w => (hbit.mp w).1 z2)]
      rfl
    · rw [pcB_s1, if_neg (fun w => by have := (hbit.mp w).2; omega)]
      rfl
    · rw [pcB_s1, if_pos (hbit.mpr ⟨z2, by omega⟩)]
      rfl
