/-! the class's planner: what holds of its tables -/
def SPN (A S : Nat → Nat) (c x y z : Nat) (w : Int) : Prop := ∃ n : Nat, w = (n : Int) ∧ n < 2199023255552 ∧ ∀ r, (Nat.testBit n r = true ↔ (1 ≤ r ∧ r ≤ 40) ∧ Can (uU A S) A S r c x y z)
def T3 (σ : xS) (A S : Nat → Nat) : Prop := ∀ p, p < 4096 → isM A p = true → ∀ e, e < 8 → WY A S (nb p 0) (nb p 1) (nb p 2) e (σ 13 (8 * cm A p + e))
def TS (σ : xS) (A S : Nat → Nat) (x y z : Nat) : Prop := ∀ e, e < 8 → WY A S x y z e (σ 13 (3752 + e))
def T4K (σ : xS) (A S : Nat → Nat) (K i : Nat) : Prop := σ 9 9 = (K : Int) ∧ σ 9 10 = (i : Int) ∧ (K * cm A 4096 ≤ 11725 ∧ K ≤ 121) ∧ (i ≤ 3 ∧ (i = 0 ∨ i < K)) ∧ (∀ c, c < K → ∀ p, p < 4096 → isM A p = true → SPN A S c (nb p 0) (nb p 1) (nb p 2) (σ 14 (c * cm A 4096 + cm A p))) ∧ ∀ t, t < i → ∀ p, p < 4096 → isM A p = true → ∀ r, 1 ≤ r → r ≤ 40 → Can (uU A S) A S r (K - 1 - t) (nb p 0) (nb p 1) (nb p 2) → Can (uU A S) A S r (K - 2 - t) (nb p 0) (nb p 1) (nb p 2)
def T4 (σ : xS) (A S : Nat → Nat) : Prop := ∃ K i, T4K σ A S K i
def PT (σ : xS) (A S : Nat → Nat) : Prop := AOK A ∧ (∀ g, g < 3 → S g < 3) ∧ T0 σ A S ∧ T1 σ A ∧ σ 9 6 = (cm A 4096 : Int) ∧ T3 σ A S ∧ T4 σ A S
def PCl (σ : xS) : Prop := σ 9 0 = -1 ∨ ∃ a0 a1 a2 s0 s1 s2 : Nat, σ 9 0 = ((cod a0 a1 a2 + 4096 * cod s0 s1 s2 : Nat) : Int) ∧ PT σ (f3 a0 a1 a2) (f3 s0 s1 s2)
def FP (σ σ' : xS) : Prop := ∀ r, r ≠ 9 → r ≠ 10 → r ≠ 11 → r ≠ 12 → r ≠ 13 → r ≠ 14 → σ' r = σ r
theorem FP.refl (σ : xS) : FP σ σ := fun _ _ _ _ _ _ _ => rfl
theorem FP.trans {σ τ ρ : xS} (h1 : FP σ τ) (h2 : FP τ ρ) : FP σ ρ := fun r a b c d e f => (h2 r a b c d e f).trans (h1 r a b c d e f)
theorem pS_lt {T : Int} {b : xS} (hw : WFt T b) : ∀ g, g < 3 → pS b g < 3 := fun g hg => by
  unfold pS
  rw [f3_g (pz b) g hg]
  have := (p_in hw g).2.1
  omega
theorem pv_le {T : Int} {b : xS} (hw : WFt T b) : pv b 0 ≤ pA b 0 ∧ pv b 1 ≤ pA b 1 ∧ pv b 2 ≤ pA b 2 := ⟨(p_in hw 0).2.2.1, (p_in hw 1).2.2.1, (p_in hw 2).2.2.1⟩
theorem ok_look73 {σ : xS} {b : xS} {Q : xS → Prop} {T : Int} (hw : WFt T b) (h : CB (σ 8) b) (hp : PT σ (pA b) (pS b)) (k : ∀ σ', FP σ σ' → σ' 9 0 = σ 9 0 → PT σ' (pA b) (pS b) → TS σ' (pA b) (pS b) (pv b 0) (pv b 1) (pv b 2) → Q σ') : vX2_lookAt_73 Q σ := by
  obtain ⟨hA, hS, h0, h1, h6, h3, h4⟩ := hp
  have hv := pv_le hw
  unfold vX2_lookAt_73
  refine ok_sand hw h ?_
  refine ok_findWays (pl := 469) hA hv.1 hv.2.1 hv.2.2 (by omega) h0 h1 (fun w hw1 hw2 => k _ (fun r a b c d e f => xset_ne e) (by rw [xset_ne (by omega)]) ⟨hA, hS, h0.congr (by rw [xset_ne (by omega)]) (by rw [xset_ne (by omega)]) (by rw [xset_ne (by omega)]), h1.congr (by rw [xset_ne (by omega)]) (by rw [xset_ne (by omega)]), by rw [xset_ne (by omega)]; exact h6, ?_, ?_⟩ ?_)
  · intro p hp hm e he
    have := cm_lt _ hm hp
    have := cm_469 hA
    rw [xset_eq, hw2 _ (by omega)]
    exact h3 p hp hm e he
  · obtain ⟨K, i, h4⟩ := h4
    refine ⟨K, i, ?_⟩
    unfold T4K
    rw [xset_ne (by omega), xset_ne (by omega)]
    exact h4
  · intro e he
    rw [xset_eq]
    exact hw1 e he
theorem ok_look {σ : xS} {b : xS} {Q : xS → Prop} {T : Int} (hw : WFt T b) (h : CB (σ 8) b) (hp : PCl σ) (k : ∀ σ', FP σ σ' → σ' 9 0 = (shp b : Int) → PT σ' (pA b) (pS b) → TS σ' (pA b) (pS b) (pv b 0) (pv b 1) (pv b 2) → Q σ') : vX2_lookAt σ Q := by
  have p0 := p_in hw 0
  have p1 := p_in hw 1
  have p2 := p_in hw 2
  have hA := pA_ok hw
  have hcA := cod_lt (x := pa b 0) (y := pa b 1) (z := pa b 2) (by omega) (by omega) (by omega)
  have hcS := cod_lt (x := pz b 0) (y := pz b 1) (z := pz b 2) (by omega) (by omega) (by omega)
  unfold vX2_lookAt
  refine ok_shape hw h ?_
  have hr9 : rng (σ 9 0) := by
    rcases hp with hp | ⟨a0, a1, a2, s0, s1, s2, e, hA2, hS2, _⟩
    · rw [hp]; constructor <;> decide
    · have t0 := hS2 0 (by omega)
      have t1 := hS2 1 (by omega)
      have t2 := hS2 2 (by omega)
      rw [f3_0] at t0
      rw [f3_1] at t1
      rw [f3_2] at t2
      obtain ⟨b0, b1, b2⟩ := hA2
      rw [f3_0] at b0
      rw [f3_1] at b1
      rw [f3_2] at b2
      rw [e]
      unfold cod
      constructor <;> omega
  refine ⟨by unfold shp; constructor <;> omega, hr9, fun q => ?_, fun q s1 hs1 s2 hs2 => ?_⟩
  · rcases hp with hp | ⟨a0, a1, a2, s0, s1, s2, e, hP⟩
    · rw [hp] at q
      omega
    · have t0 := hP.2.1 0 (by omega)
      have t1 := hP.2.1 1 (by omega)
      have t2 := hP.2.1 2 (by omega)
      rw [f3_0] at t0
      rw [f3_1] at t1
      rw [f3_2] at t2
      have b0 := hP.1.1
      have b1 := hP.1.2.1
      have b2 := hP.1.2.2
      rw [f3_0] at b0
      rw [f3_1] at b1
      rw [f3_2] at b2
      rw [e] at q
      unfold shp cod at q
      have e0 : a0 = pa b 0 ∧ a1 = pa b 1 ∧ a2 = pa b 2 ∧ s0 = pz b 0 ∧ s1 = pz b 1 ∧ s2 = pz b 2 := by omega
      obtain ⟨rfl, rfl, rfl, rfl, rfl, rfl⟩ := e0
      exact ok_look73 hw h hP (fun σ' a b c d => k σ' a (b.trans e) c d)
  · have e1 : s2 = xset σ 9 (cu (cu (σ 9) 0 (shp b : Int)) 1 (cod (pa b 0) (pa b 1) (pa b 2) : Int)) := by
      rw [show (4095 : Int) = ((4095 : Nat) : Int) from rfl, jand_nat (by unfold shp; omega)] at hs2
      have em : shp b &&& 4095 = cod (pa b 0) (pa b 1) (pa b 2) := by
        rw [show (4095 : Nat) = 2 ^ 12 - 1 from rfl, Nat.and_two_pow_sub_one_eq_mod]
        unfold shp
        omega
      rw [hs2, hs1, em, xup_set σ, xup_cu]
      rfl
    subst e1
    have a91 : xset σ 9 (cu (cu (σ 9) 0 (shp b : Int)) 1 (cod (pa b 0) (pa b 1) (pa b 2) : Int)) 9 1 = (cod (pa b 0) (pa b 1) (pa b 2) : Int) := by
      rw [xset_eq, cu_app, if_pos rfl]
    have a90 : xset σ 9 (cu (cu (σ 9) 0 (shp b : Int)) 1 (cod (pa b 0) (pa b 1) (pa b 2) : Int)) 9 0 = (shp b : Int) := by
      rw [xset_eq, cu_app, if_neg (by omega), cu_app, if_pos rfl]
    have a8 : CB (xset σ 9 (cu (cu (σ 9) 0 (shp b : Int)) 1 (cod (pa b 0) (pa b 1) (pa b 2) : Int)) 8) b := by
      rw [xset_ne (by omega)]; exact h
    have afp : FP σ (xset σ 9 (cu (cu (σ 9) 0 (shp b : Int)) 1 (cod (pa b 0) (pa b 1) (pa b 2) : Int))) := fun r a _ _ _ _ _ => xset_ne a
    generalize xset σ 9 (cu (cu (σ 9) 0 (shp b : Int)) 1 (cod (pa b 0) (pa b 1) (pa b 2) : Int)) = τ at a91 a90 a8 afp ⊢
    refine ok_turned hw a8 a91 (fun f g hf h0 => ?_)
    have b90 : xset (xset τ 9 f) 10 g 9 0 = (shp b : Int) := by rw [xset_ne (by omega), xset_eq, hf 0 (by omega), a90]
    have b8 : CB (xset (xset τ 9 f) 10 g 8) b := by rw [xset_ne (by omega), xset_ne (by omega)]; exact a8
    have bfp : FP τ (xset (xset τ 9 f) 10 g) := fun r a1 a2 _ _ _ _ => by rw [xset_ne a2, xset_ne a1]
    have b91 := h0.1
    have bfp2 := afp.trans bfp
    clear afp bfp
    generalize xset (xset τ 9 f) 10 g = ρ at h0 b90 b8 b91 bfp2 ⊢
    refine ok_number (A := pA b) hA b91 (fun f2 h2 m2 hf2 h6 h1 => ?_)
    have c90 : xset (xset (xset ρ 9 f2) 11 h2) 12 m2 9 0 = (shp b : Int) := by rw [xset_ne (by omega), xset_ne (by omega), xset_eq, hf2 0 (by omega), b90]
    have c8 : CB (xset (xset (xset ρ 9 f2) 11 h2) 12 m2 8) b := by rw [xset_ne (by omega), xset_ne (by omega), xset_ne (by omega)]; exact b8
    have cfp : FP σ (xset (xset (xset ρ 9 f2) 11 h2) 12 m2) := bfp2.trans (fun r a1 _ a2 a3 _ _ => by rw [xset_ne a3, xset_ne a2, xset_ne a1])
    have c0 : T0 (xset (xset (xset ρ 9 f2) 11 h2) 12 m2) (pA b) (pS b) := h0.congr (by rw [xset_ne (by omega), xset_ne (by omega), xset_eq, hf2 1 (by omega)]) (by rw [xset_ne (by omega), xset_ne (by omega), xset_eq, hf2 3 (by omega)]) (by rw [xset_ne (by omega), xset_ne (by omega), xset_ne (by omega)])
    have c6 : xset (xset (xset ρ 9 f2) 11 h2) 12 m2 9 6 = (cm (pA b) 4096 : Int) := by rw [xset_ne (by omega), xset_ne (by omega), xset_eq, h6]
    generalize xset (xset (xset ρ 9 f2) 11 h2) 12 m2 = π at c90 c8 cfp c0 c6 h1 ⊢
    have h469 := cm_469 hA
    refine mu_of (fun a => ∃ (q : Nat) (w : Nat → Int), a = ((q : Int), xset π 13 w) ∧ q ≤ cm (pA b) 4096 ∧ ∀ p, p < 4096 → isM (pA b) p = true → cm (pA b) p < q → ∀ e, e < 8 → WY (pA b) (pS b) (nb p 0) (nb p 1) (nb p 2) e (w (8 * cm (pA b) p + e))) (fun a => 469 - a.1.toNat) ?_ _ ⟨0, π 13, by rw [xset_self]; rfl, by omega, fun p _ _ hp => absurd hp (Nat.not_lt_zero _)⟩
    rintro K _ ⟨q, w, rfl, hq, hw1⟩ hK
    unfold vX2_lookAt_38
    dsimp only
    rw [show xset π 13 w 9 6 = (cm (pA b) 4096 : Int) by rw [xset_ne (by omega)]; exact c6]
    refine ⟨⟨by omega, by omega⟩, ⟨by omega, by omega⟩, fun r t1 ht1 t2 ht2 => ?_, fun r => ⟨by omega, ?_⟩⟩
    · have hqe : q = cm (pA b) 4096 := by omega
      subst hqe
      have d9 : t2 9 = cu (cu (π 9) 9 0) 10 0 := by
        rw [ht2, ht1, xup_eq, xup_eq, xset_ne (by omega)]
        rfl
      have dr : ∀ r, r ≠ 9 → t2 r = xset π 13 w r := fun r hr => by rw [ht2, ht1, xup_ne hr, xup_ne hr]
      refine ok_look73 hw (by rw [dr 8 (by omega), xset_ne (by omega)]; exact c8) ⟨hA, pS_lt hw, c0.congr ?_ ?_ ?_, h1.congr ?_ ?_, ?_, fun p hp hm e he => ?_, 0, 0, ?_⟩ (fun σ' a1 a2 a3 a4 => k σ' (cfp.trans (FP.trans (fun r x1 x2 x3 x4 x5 x6 => by rw [dr r x1, xset_ne x5]) a1)) ?_ a3 a4)
      · rw [d9]; rfl
      · rw [d9]; rfl
      · rw [dr 10 (by omega), xset_ne (by omega)]
      · rw [dr 11 (by omega), xset_ne (by omega)]
      · rw [dr 12 (by omega), xset_ne (by omega)]
      · rw [d9]; exact c6
      · rw [dr 13 (by omega), xset_eq]
        exact hw1 p hp hm (cm_lt _ hm hp) e he
      · refine ⟨by rw [d9]; rfl, by rw [d9]; rfl, ⟨by omega, by omega⟩, ⟨by omega, Or.inl rfl⟩, fun c hc => absurd hc (Nat.not_lt_zero c), fun t ht => absurd ht (Nat.not_lt_zero t)⟩
      · rw [a2, d9]
        exact c90
    · obtain ⟨p, hp, hm, hcm⟩ := cm_of (pA b) (m := q) (n := 4096) (by omega)
      obtain ⟨⟨m0, m1, m2⟩, _⟩ := (isM_iff (pA b) p).mp hm
      have e11 : xset π 13 w 11 ((q : Int).toNat) = (cod (nb p 0) (nb p 1) (nb p 2) : Int) := by
        rw [xset_ne (by omega), Int.toNat_natCast, ← hcm, (h1 p hp hm).1, cod_nb hp]
      rw [e11]
      refine ok_findWays (A := pA b) (S := pS b) hA m0 m1 m2 (by omega) (c0.congr (by rw [xset_ne (by omega)]) (by rw [xset_ne (by omega)]) (by rw [xset_ne (by omega)])) (h1.congr (by rw [xset_ne (by omega)]) (by rw [xset_ne (by omega)])) (fun w2 hw2 hw3 => ?_)
      rw [xset_set]
      refine hK _ ⟨q + 1, w2, by rw [Int.natCast_succ], by omega, fun p' hp' hm' hlt e he => ?_⟩ (by show 469 - ((q : Int) + 1).toNat < 469 - ((q : Int)).toNat; omega)
      by_cases e1 : cm (pA b) p' = q
      · have : p' = p := cm_inj _ hm' hm (by omega)
        subst this
        rw [e1]
        exact hw2 e he
      · rw [hw3 _ (by omega), xset_eq]
        exact hw1 p' hp' hm' (by omega) e he
