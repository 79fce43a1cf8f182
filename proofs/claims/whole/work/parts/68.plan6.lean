/-! the class's planner: costs -/
theorem pcs_3 (e : Nat) : pcs e ≤ 3 := by unfold pcs; omega
theorem stable {σ : xS} {A S : Nat → Nat} {K : Nat} (hA : AOK A) (hS : ∀ g, g < 3 → S g < 3) (h4 : T4K σ A S K 3) : ∀ n r : Nat, r ≤ n → 1 ≤ r → r ≤ 40 → ∀ c p, p < 4096 → isM A p = true → Can (uU A S) A S r c (nb p 0) (nb p 1) (nb p 2) → Can (uU A S) A S r (K - 4) (nb p 0) (nb p 1) (nb p 2)
  | 0, r, hn, h1, _ => by omega
  | n + 1, r, hn, h1, h40 => by
    have ih := stable hA hS h4 n
    intro c p hp hm h
    have hK : 3 < K := h4.2.2.2.1.2.resolve_left (by omega)
    obtain ⟨⟨m0, m1, m2⟩, _⟩ := (isM_iff A p).mp hm
    have hA' := hA
    have hK1 : Can (uU A S) A S r (K - 1) (nb p 0) (nb p 1) (nb p 2) := by
      obtain ⟨e, he, hv, hpc, hs, hsr, hc⟩ := (Can.ways hS).mp h
      have h3 := pcs_3 e
      refine (Can.ways hS).mpr ⟨e, he, hv, by omega, hs, hsr, ?_⟩
      rcases hc with hc | hc
      · exact Or.inl hc
      · by_cases heq : sc A S (nb p 0) (nb p 1) (nb p 2) e = r
        · exact Or.inl heq
        · have t0 : tE A S e 0 (nb p 0) ≤ A 0 := tE_le m0
          have t1 : tE A S e 1 (nb p 1) ≤ A 1 := tE_le m1
          have t2 : tE A S e 2 (nb p 2) ≤ A 2 := tE_le m2
          obtain ⟨n1, n2⟩ := tg_mom (S := S) (e := e) hA m0 m1 m2 hs
          have hnb := nb_cod (x := tE A S e 0 (nb p 0) - sc A S (nb p 0) (nb p 1) (nb p 2) e) (y := tE A S e 1 (nb p 1) - sc A S (nb p 0) (nb p 1) (nb p 2) e) (z := tE A S e 2 (nb p 2) - sc A S (nb p 0) (nb p 1) (nb p 2) e) (by omega) (by omega) (by omega)
          have hsr' : sc A S (nb p 0) (nb p 1) (nb p 2) e ≤ r := hsr
          have hs' : 0 < sc A S (nb p 0) (nb p 1) (nb p 2) e := hs
          have := ih (r - sc A S (nb p 0) (nb p 1) (nb p 2) e) (by omega) (by omega) (by omega) (c - pcs e) _ n1 n2
          rw [hnb.1, hnb.2.1, hnb.2.2] at this
          exact Or.inr ((this hc).mono (by omega))
    have s0 := h4.2.2.2.2.2 0 (by omega) p hp hm r h1 h40
    have s1 := h4.2.2.2.2.2 1 (by omega) p hp hm r h1 h40
    have s2 := h4.2.2.2.2.2 2 (by omega) p hp hm r h1 h40
    rw [show K - 1 - 0 = K - 1 by omega, show K - 2 - 0 = K - 2 by omega] at s0
    rw [show K - 1 - 1 = K - 2 by omega, show K - 2 - 1 = K - 3 by omega] at s1
    rw [show K - 1 - 2 = K - 3 by omega, show K - 2 - 2 = K - 4 by omega] at s2
    exact s2 (s1 (s0 hK1))
theorem stableS {σ : xS} {A S : Nat → Nat} {K : Nat} (hA : AOK A) (hS : ∀ g, g < 3 → S g < 3) (h4 : T4K σ A S K 3) {r c x y z : Nat} (h1 : 1 ≤ r) (h40 : r ≤ 40) (hx : x ≤ A 0) (hy : y ≤ A 1) (hz : z ≤ A 2) (h : Can (uU A S) A S r c x y z) : Can (uU A S) A S r (K - 1) x y z := by
  have hK : 3 < K := h4.2.2.2.1.2.resolve_left (by omega)
  have hA' := hA
  obtain ⟨e, he, hv, hpc, hs, hsr, hc⟩ := (Can.ways hS).mp h
  have h3 := pcs_3 e
  refine (Can.ways hS).mpr ⟨e, he, hv, by omega, hs, hsr, ?_⟩
  rcases hc with hc | hc
  · exact Or.inl hc
  · by_cases heq : sc A S x y z e = r
    · exact Or.inl heq
    · have t0 : tE A S e 0 x ≤ A 0 := tE_le hx
      have t1 : tE A S e 1 y ≤ A 1 := tE_le hy
      have t2 : tE A S e 2 z ≤ A 2 := tE_le hz
      obtain ⟨n1, n2⟩ := tg_mom (S := S) (e := e) hA hx hy hz hs
      have hnb := nb_cod (x := tE A S e 0 x - sc A S x y z e) (y := tE A S e 1 y - sc A S x y z e) (z := tE A S e 2 z - sc A S x y z e) (by omega) (by omega) (by omega)
      have hsr' : sc A S x y z e ≤ r := hsr
      have hs' : 0 < sc A S x y z e := hs
      have := stable hA hS h4 40 (r - sc A S x y z e) (by omega) (by omega) (by omega) (c - pcs e) _ n1 n2
      rw [hnb.1, hnb.2.1, hnb.2.2] at this
      exact Or.inr ((this hc).mono (by omega))
theorem ok_isIn {σ : xS} {n r : Nat} {Q : Int → xS → Prop} (hn : n < 9007199254740992) (hr : r < 64) (k1 : Nat.testBit n r = true → Q 1 σ) (k0 : ¬ Nat.testBit n r = true → Q 0 σ) : vX2_isIn (n : Int) (r : Int) σ Q := by
  have hd := Nat.div_le_self n (2 ^ r)
  unfold vX2_isIn
  have e : kand (kshr (n : Int) (r : Int)) 1 = ((n / 2 ^ r % 2 : Nat) : Int) := by
    rw [kshr_nat hr (by omega), show (1 : Int) = ((1 : Nat) : Int) from rfl, kand_nat (by omega), show (1 : Nat) = 2 ^ 1 - 1 from rfl, Nat.and_two_pow_sub_one_eq_mod]
  have hb : Nat.testBit n r = true ↔ n / 2 ^ r % 2 = 1 := by
    rw [Nat.testBit_eq_decide_div_mod_eq, decide_eq_true_iff]
  rw [e]
  generalize n / 2 ^ r = m at hb hd e
  have hj : jlcmp ((m % 2 : Nat) : Int) 1 = 0 ↔ m % 2 = 1 := by
    rw [jlcmp_0 ⟨by omega, by omega⟩ ⟨by omega, by omega⟩]
    omega
  exact ⟨jlcmp_rng _ _, fun z => k0 (fun q => z (hj.mpr (hb.mp q))), fun z => k1 (hb.mpr (hj.mp z))⟩
def Fq (σ σ' : xS) : Prop := (∀ r, r ≠ 9 → r ≠ 14 → σ' r = σ r) ∧ ∀ j, j ≠ 9 → j ≠ 10 → σ' 9 j = σ 9 j
theorem Fq.refl (σ : xS) : Fq σ σ := ⟨fun _ _ _ => rfl, fun _ _ _ => rfl⟩
theorem Fq.trans {σ τ ρ : xS} (h1 : Fq σ τ) (h2 : Fq τ ρ) : Fq σ ρ := ⟨fun r a b => (h2.1 r a b).trans (h1.1 r a b), fun r a b => (h2.2 r a b).trans (h1.2 r a b)⟩
/-- what of the tables stays whatever costs are found -/
def PB (σ : xS) (A S : Nat → Nat) : Prop := AOK A ∧ (∀ g, g < 3 → S g < 3) ∧ T0 σ A S ∧ T1 σ A ∧ σ 9 6 = (cm A 4096 : Int) ∧ T3 σ A S
theorem PB.congr {σ σ' : xS} {A S : Nat → Nat} (h : PB σ A S) (hf : Fq σ σ') : PB σ' A S := by
  obtain ⟨hA, hS, h0, h1, h6, h3⟩ := h
  refine ⟨hA, hS, h0.congr (hf.2 1 (by omega) (by omega)) (hf.2 3 (by omega) (by omega)) (hf.1 10 (by omega) (by omega)), h1.congr (hf.1 11 (by omega) (by omega)) (hf.1 12 (by omega) (by omega)), (hf.2 6 (by omega) (by omega)).trans h6, ?_⟩
  unfold T3
  rw [hf.1 13 (by omega) (by omega)]
  exact h3
theorem ok_upTo {σ : xS} {A S : Nat → Nat} {K i cost : Nat} {Q : Int → xS → Prop} (hP : PB σ A S) (h4 : T4K σ A S K i) (hcost : cost ≤ 120) (k1 : ∀ σ' K' i', Fq σ σ' → T4K σ' A S K' i' → cost < K' → Q 1 σ') (k0 : ∀ σ' K' i', Fq σ σ' → T4K σ' A S K' i' → K' ≤ cost → (i' = 3 ∨ 11725 < (K' + 1) * cm A 4096) → Q 0 σ') : vX2_findUpTo (cost : Int) σ Q := by
  unfold vX2_findUpTo
  refine mu_of (fun a => ∃ (τ : xS) (K i : Nat), a = ((cost : Int), τ) ∧ Fq σ τ ∧ T4K τ A S K i) (fun a => 121 - (a.2 9 9).toNat) ?_ _ ⟨σ, K, i, rfl, Fq.refl σ, h4⟩
  rintro KK _ ⟨τ, K, i, rfl, hf, h4⟩ hK
  obtain ⟨hA, hS, h0, h1, h6, h3⟩ := hP.congr hf
  have h469 := cm_469 hA
  have h9 := h4.1
  have h10 := h4.2.1
  have hi := h4.2.2.2.1
  have hK121 := h4.2.2.1.2
  have hroom0 := h4.2.2.1.1
  have stop : (cost < K ∨ i = 3 ∨ 11725 < (K + 1) * cm A 4096) → vX2_findUpTo_61 Q (cost : Int) τ := fun hst => by
    unfold vX2_findUpTo_61
    rw [h9]
    refine ⟨⟨by omega, by omega⟩, ⟨by omega, by omega⟩, fun z => k0 τ K i hf h4 (by omega) ?_, fun z => k1 τ K i hf h4 (by omega)⟩
    rcases hst with q | q
    · omega
    · exact q
  unfold vX2_findUpTo_0
  dsimp only
  rw [h9, h10]
  refine ⟨⟨by omega, by omega⟩, ⟨by omega, by omega⟩, fun z => stop (Or.inl (by omega)), fun z => ⟨⟨by omega, by omega⟩, fun z2 => stop (Or.inr (Or.inl (by omega))), fun z2 => ?_⟩⟩
  have hmul := Nat.succ_mul K (cm A 4096)
  rw [Nat.succ_eq_add_one] at hmul
  unfold vX2_hasRoom
  rw [h9, h6, show ((K : Int) + 1) * (cm A 4096 : Int) = (((K + 1) * cm A 4096 : Nat) : Int) by push_cast; rfl]
  refine ⟨⟨by omega, by omega⟩, fun z3 => ⟨rng0, fun _ => stop (Or.inr (Or.inr (by omega))), fun w => absurd rfl w⟩, fun z3 => ⟨⟨by omega, by omega⟩, fun w => absurd w (by omega), fun _ => ?_⟩⟩
  rw [h9]
  refine ok_spans hA hS h6 h1 h3 h4 (by omega) (fun w fl hfl hold hnew hfz => ?_)
  have e9 : xset τ 14 w 9 9 = (K : Int) := by rw [xset_ne (by omega)]; exact h9
  have e10 : xset τ 14 w 9 10 = (i : Int) := by rw [xset_ne (by omega)]; exact h10
  have blk : ∀ i2 : Nat, (i2 ≤ 3 ∧ (i2 = 0 ∨ i2 < K + 1)) → (∀ t, t < i2 → ∀ p, p < 4096 → isM A p = true → ∀ r, 1 ≤ r → r ≤ 40 → Can (uU A S) A S r (K + 1 - 1 - t) (nb p 0) (nb p 1) (nb p 2) → Can (uU A S) A S r (K + 1 - 2 - t) (nb p 0) (nb p 1) (nb p 2)) → vX2_findUpTo_45 KK Q (cost : Int) (i2 : Int) (xset τ 14 w) := by
    intro i2 hi2 hlev
    unfold vX2_findUpTo_45
    intro s hs s2 hs2
    have e : s2 = xset (xset τ 14 w) 9 (cu (cu (τ 9) 10 (i2 : Int)) 9 ((K : Int) + 1)) := by
      rw [hs2, hs, xup_app, if_neg (by omega), e9, xup_set (xset τ 14 w), xset_ne (show (9 : Nat) ≠ 14 by omega), xup_cu]
      rfl
    subst e
    have a99 : xset (xset τ 14 w) 9 (cu (cu (τ 9) 10 (i2 : Int)) 9 ((K : Int) + 1)) 9 9 = ((K + 1 : Nat) : Int) := by rw [xset_eq, cu_app, if_pos rfl]; push_cast; rfl
    have a910 : xset (xset τ 14 w) 9 (cu (cu (τ 9) 10 (i2 : Int)) 9 ((K : Int) + 1)) 9 10 = (i2 : Int) := by rw [xset_eq, cu_app, if_neg (by omega), cu_app, if_pos rfl]
    refine hK _ ⟨_, K + 1, i2, rfl, hf.trans ⟨fun r a b => by rw [xset_ne a, xset_ne b], fun j a b => by rw [xset_eq, cu_app, if_neg a, cu_app, if_neg b]⟩, a99, a910, ⟨by omega, by omega⟩, hi2, fun c hc p hp hm => ?_, hlev⟩ ?_
    · have mc := cm_lt A hm hp
      rw [xset_ne (by omega), xset_eq]
      by_cases hcK : c = K
      · subst hcK
        exact hnew p hp hm
      · have hm2 := Nat.mul_le_mul_right (cm A 4096) (show c + 1 ≤ K by omega)
        rw [Nat.succ_mul] at hm2
        rw [hold _ (by omega)]
        exact h4.2.2.2.2.1 c (by omega) p hp hm
    · show 121 - ((xset (xset τ 14 w) 9 (cu (cu (τ 9) 10 (i2 : Int)) 9 ((K : Int) + 1))) 9 9).toNat < 121 - (τ 9 9).toNat
      rw [a99, h9]
      omega
  refine ⟨⟨by omega, by omega⟩, fun z4 => ?_, fun z4 => blk 0 ⟨by omega, Or.inl rfl⟩ (fun t ht => absurd ht (Nat.not_lt_zero t))⟩
  rw [e10, show (i : Int) + 1 = ((i + 1 : Nat) : Int) by push_cast; rfl]
  obtain ⟨f1, f2⟩ := hfz z4
  refine blk (i + 1) ⟨by omega, by omega⟩ (fun t ht p hp hm r hr1 hr2 hcan => ?_)
  by_cases ht0 : t = 0
  · subst ht0
    rw [show K + 1 - 1 - 0 = K by omega] at hcan
    rw [show K + 1 - 2 - 0 = K - 1 by omega]
    have s1 := hnew p hp hm
    have s2 := h4.2.2.2.2.1 (K - 1) (by omega) p hp hm
    rw [← f2 p hp hm] at s2
    exact s1.uniq s2 ⟨hr1, hr2⟩ hcan
  · have := h4.2.2.2.2.2 (t - 1) (by omega) p hp hm r hr1 hr2
    rw [show K - 1 - (t - 1) = K + 1 - 1 - t by omega, show K - 2 - (t - 1) = K + 1 - 2 - t by omega] at this
    exact this hcan
/-- the least cost, -1 if there is none -/
def MinC (A S : Nat → Nat) (r x y z : Nat) (v : Int) : Prop := (v = -1 ∧ ∀ c, ¬ Can (uU A S) A S r c x y z) ∨ ∃ c : Nat, v = (c : Int) ∧ c ≤ 120 ∧ Can (uU A S) A S r c x y z ∧ ∀ c', c' < c → ¬ Can (uU A S) A S r c' x y z
theorem MinC.uniq {A S : Nat → Nat} {r x y z : Nat} {v w : Int} (h1 : MinC A S r x y z v) (h2 : MinC A S r x y z w) : v = w := by
  rcases h1 with ⟨e1, h1⟩ | ⟨c, e1, _, a1, b1⟩
  · rcases h2 with ⟨e2, _⟩ | ⟨c', _, _, a2, _⟩
    · omega
    · exact absurd a2 (h1 c')
  · rcases h2 with ⟨_, h2⟩ | ⟨c', e2, _, a2, b2⟩
    · exact absurd a1 (h2 c)
    · rcases Nat.lt_trichotomy c c' with q | q | q
      · exact absurd a1 (b2 c q)
      · omega
      · exact absurd a2 (b1 c' q)
theorem ok_least {σ : xS} {A S : Nat → Nat} {K i r x y z : Nat} {Q : Int → xS → Prop} (hP : PB σ A S) (h4 : T4K σ A S K i) (hT : TS σ A S x y z) (hx : x ≤ A 0) (hy : y ≤ A 1) (hz : z ≤ A 2) (hr : 1 ≤ r ∧ r ≤ 40) (hbd : ∀ K c, 11725 < (K + 1) * cm A 4096 → K ≤ 121 → Can (uU A S) A S r c x y z → Can (uU A S) A S r (K - 1) x y z) (k : ∀ σ' K' i' v, Fq σ σ' → T4K σ' A S K' i' → MinC A S r x y z v → v < (K' : Int) → Q v σ') : vX2_leastCost (r : Int) σ Q := by
  obtain ⟨hA, hS, _⟩ := id hP
  have h469 := cm_469 hA
  unfold vX2_leastCost
  refine mu_of (fun a => ∃ (τ : xS) (K i q : Nat), a = ((r : Int), (q : Int), τ) ∧ Fq σ τ ∧ T4K τ A S K i ∧ q ≤ 121 ∧ ∀ c, c < q → ¬ Can (uU A S) A S r c x y z) (fun a => 121 - a.2.1.toNat) ?_ _ ⟨σ, K, i, 0, rfl, Fq.refl σ, h4, by omega, fun c hc => absurd hc (Nat.not_lt_zero c)⟩
  rintro KK _ ⟨τ, K, i, q, rfl, hf, h4, hq, hno⟩ hK
  have none : ∀ c', c' < q → (∀ c, Can (uU A S) A S r c x y z → Can (uU A S) A S r c' x y z) → MinC A S r x y z (-1) := fun c' hc' hall => Or.inl ⟨rfl, fun c hc => hno c' hc' (hall c hc)⟩
  unfold vX2_leastCost_2
  refine ⟨⟨by omega, by omega⟩, fun z1 => k τ K i (-1) hf h4 (none 120 (by omega) (fun c hc => Can.triv' (n0 := 1) (n1 := 1) (n2 := 1) (fun _ => by omega) (fun _ => by omega) (fun _ => by omega) hr (by omega) hc)) (by omega), fun z1 => ?_⟩
  refine ok_upTo (hP.congr hf) h4 (by omega) (fun σ' K' i' hf' h4' hlt => ⟨⟨by omega, by omega⟩, fun w => absurd w (by omega), fun _ => ?_⟩) (fun σ' K' i' hf' h4' hle hst => ⟨rng0, fun _ => k σ' K' i' (-1) (hf.trans hf') h4' ?_ (by omega), fun w => absurd rfl w⟩)
  · have hP' := hP.congr (hf.trans hf')
    obtain ⟨_, _, _, _, h6, _⟩ := hP'
    refine ok_from (A := A) (S := S) (x := x) (y := y) (z := z) (pl := 469) hA hS hx hy hz (by omega) (by omega) h6 (fun e he => ?_) (fun e he => av_done hA hx hy hz h4' (by omega)) (fun w hw => ?_)
    · rw [(hf.trans hf').1 13 (by omega) (by omega)]
      exact hT e he
    · obtain ⟨n, rfl, hn, hb⟩ := hw
      refine ok_isIn (by omega) (by omega) (fun hbit => ⟨⟨by omega, by omega⟩, fun w => absurd w (by omega), fun _ => ?_⟩) (fun hbit => ⟨rng0, fun _ => ?_, fun w => absurd rfl w⟩)
      · exact k σ' K' i' _ (hf.trans hf') h4' (Or.inr ⟨q, rfl, by omega, ((hb r).mp hbit).2, hno⟩) (by omega)
      · refine hK _ ⟨σ', K', i', q + 1, by rw [Int.natCast_succ], hf.trans hf', h4', by omega, fun c hc => ?_⟩ (by show 121 - ((q : Int) + 1).toNat < 121 - ((q : Int)).toNat; omega)
        by_cases hcq : c = q
        · subst hcq
          exact fun hcan => hbit ((hb r).mpr ⟨hr, hcan⟩)
        · exact hno c (by omega)
  · rcases hst with hi | hroom
    · subst hi
      have hK' : 3 < K' := h4'.2.2.2.1.2.resolve_left (by omega)
      exact none (K' - 1) (by omega) (fun c hc => stableS hA hS h4' hr.1 hr.2 hx hy hz hc)
    · have hK0 : 0 < K' := by
        by_cases h0 : K' = 0
        · subst h0
          omega
        · omega
      exact none (K' - 1) (by omega) (fun c hc => hbd K' c hroom h4'.2.2.1.2 hc)
theorem ok_within {σ : xS} {A S : Nat → Nat} {K i most x y z : Nat} {Q : Int → xS → Prop} (hP : PB σ A S) (h4 : T4K σ A S K i) (hT : TS σ A S x y z) (hx : x ≤ A 0) (hy : y ≤ A 1) (hz : z ≤ A 2) (hm : most ≤ 9) (k : ∀ σ' K' i' w, Fq σ σ' → T4K σ' A S K' i' → SPN A S most x y z w → Q w σ') : vX2_spansWithin (most : Int) σ Q := by
  obtain ⟨hA, hS, _⟩ := id hP
  have h469 := cm_469 hA
  unfold vX2_spansWithin
  refine ok_upTo hP h4 (by omega) (fun σ' K' i' hf' h4' hlt => ⟨⟨by omega, by omega⟩, fun w => absurd w (by omega), fun _ => ?_⟩) (fun σ' K' i' hf' h4' hle hst => ⟨rng0, fun _ => ?_, fun w => absurd rfl w⟩)
  · obtain ⟨_, _, _, _, h6, _⟩ := hP.congr hf'
    unfold vX2_spansWithin_22
    refine ok_from (A := A) (S := S) (x := x) (y := y) (z := z) (pl := 469) hA hS hx hy hz (by omega) (by omega) h6 (fun e he => ?_) (fun e he => av_done hA hx hy hz h4' (by omega)) (fun w hw => k σ' K' i' w hf' h4' hw)
    rw [hf'.1 13 (by omega) (by omega)]
    exact hT e he
  · obtain ⟨_, _, _, _, h6, _⟩ := hP.congr hf'
    have hi : i' = 3 := by
      rcases hst with hi | hroom
      · exact hi
      · have := Nat.mul_le_mul (show K' + 1 ≤ 10 by omega) h469
        omega
    subst hi
    have hK' : 3 < K' := h4'.2.2.2.1.2.resolve_left (by omega)
    unfold vX2_spansWithin_22
    rw [h4'.1, show (K' : Int) - 1 = ((K' - 1 : Nat) : Int) by omega]
    refine ok_from (A := A) (S := S) (x := x) (y := y) (z := z) (pl := 469) hA hS hx hy hz (by omega) (by omega) h6 (fun e he => ?_) (fun e he => av_done hA hx hy hz h4' (by omega)) (fun w hw => k σ' K' 3 w hf' h4' ?_)
    · rw [hf'.1 13 (by omega) (by omega)]
      exact hT e he
    · obtain ⟨n, e, hn, hb⟩ := hw
      refine ⟨n, e, hn, fun r => (hb r).trans ⟨fun q => ⟨q.1, q.2.mono (by omega)⟩, fun q => ⟨q.1, stableS hA hS h4' q.1.1 q.1.2 hx hy hz q.2⟩⟩⟩
