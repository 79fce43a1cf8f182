/-! the reference's plans: what a set costs -/
def VS (b : xS) (e : Nat) : Prop := ∀ g : Nat, g < 3 → Nat.testBit e g = true → (g : Int) < b 3 0 ∧ b g 5 = (g : Int)
noncomputable def vsf (b : xS) (e : Nat) : Nat → Int
  | 0 => 1
  | q + 1 => if vsf b e q = 0 then 0 else if Nat.testBit e q = true then (if (q : Int) < b 3 0 ∧ b q 5 = (q : Int) then 1 else 0) else 1
theorem vsf_is (b : xS) (e : Nat) : ∀ q, (vsf b e q = 0 ∨ vsf b e q = 1) ∧ (vsf b e q = 1 ↔ ∀ g : Nat, g < q → Nat.testBit e g = true → (g : Int) < b 3 0 ∧ b g 5 = (g : Int))
  | 0 => ⟨Or.inr rfl, ⟨fun _ g hg => absurd hg (Nat.not_lt_zero g), fun _ => rfl⟩⟩
  | q + 1 => by
    obtain ⟨h1, h2⟩ := vsf_is b e q
    unfold vsf
    by_cases h0 : vsf b e q = 0
    · rw [if_pos h0]
      refine ⟨Or.inl rfl, ⟨fun h => absurd h (by decide), fun h => ?_⟩⟩
      have := h2.mpr (fun g hg => h g (by omega))
      omega
    · have h2' := h2.mp (by omega)
      rw [if_neg h0]
      by_cases hb : Nat.testBit e q = true
      · rw [if_pos hb]
        by_cases hc : (q : Int) < b 3 0 ∧ b q 5 = (q : Int)
        · rw [if_pos hc]
          refine ⟨Or.inr rfl, ⟨fun _ g hg hg2 => ?_, fun _ => rfl⟩⟩
          by_cases e1 : g = q
          · rw [e1]; exact hc
          · exact h2' g (by omega) hg2
        · rw [if_neg hc]
          exact ⟨Or.inl rfl, ⟨fun h => absurd h (by decide), fun h => absurd (h q (by omega) hb) hc⟩⟩
      · rw [if_neg hb]
        refine ⟨Or.inr rfl, ⟨fun _ g hg hg2 => ?_, fun _ => rfl⟩⟩
        by_cases e1 : g = q
        · rw [e1] at hg2; exact absurd hg2 hb
        · exact h2' g (by omega) hg2
theorem mk_isStacks {σ b : xS} {e : Nat} {T : Int} {Q : Int → xS → Prop} (hm : MB (σ 21) b) (hw : WFt T b) (he : e < 8) (k1 : VS b e → Q 1 σ) (k0 : ¬ VS b e → Q 0 σ) : vX5_isStacks (e : Int) σ Q := by
  have hn := hw.1
  unfold vX5_isStacks
  refine mu_of (fun v => ∃ q : Nat, v = ((e : Int), vsf b e q, (q : Int), σ) ∧ q ≤ 3) (fun v => 3 - v.2.2.1.toNat) ?_ _ ⟨0, rfl, by omega⟩
  rintro K _ ⟨q, rfl, hq⟩ hK
  obtain ⟨f1, f2⟩ := vsf_is b e q
  unfold vX5_isStacks_4
  refine ⟨⟨by omega, by omega⟩, fun r => ⟨f1, ?_⟩, fun r => ?_⟩
  · have hq3 : q = 3 := by omega
    subst hq3
    rcases f1 with f | f
    · rw [f]
      exact k0 (fun h => by have := f2.mpr h; omega)
    · rw [f]
      exact k1 (f2.mp f)
  · have hq3 : q < 3 := by omega
    have nxt : ∀ x : Int, x = vsf b e (q + 1) → K ((e : Int), x, (q : Int) + 1, σ) := fun x hx => hK _ ⟨q + 1, by rw [hx, Int.natCast_succ], by omega⟩ (by show 3 - ((q : Int) + 1).toNat < 3 - ((q : Int)).toNat; omega)
    refine ⟨⟨by omega, by omega⟩, fun z => nxt 0 (by rw [vsf, if_pos z]), fun z => ?_⟩
    rw [bitj he (by omega)]
    by_cases hb : Nat.testBit e q = true
    · rw [if_pos hb]
      refine ⟨⟨by omega, by omega⟩, fun w => absurd w (by omega), fun _ => ?_⟩
      rw [show σ 21 21 = b 3 0 from hm.n 0 (by omega)]
      refine ⟨⟨by omega, by omega⟩, fun z2 => nxt 0 (by rw [vsf, if_neg z, if_pos hb, if_neg (by omega)]), fun z2 => ?_⟩
      have hq1 : (q : Int) < b 3 0 := by omega
      have hro := hw.root hq1
      refine mkR' hm q 5 hq3 hq1 (by omega) rfl rfl ⟨⟨by omega, by omega⟩, fun z3 => nxt 0 (by rw [vsf, if_neg z, if_pos hb, if_neg (fun w => z3 w.2)]), fun z3 => nxt 1 (by rw [vsf, if_neg z, if_pos hb, if_pos ⟨hq1, z3⟩])⟩
    · rw [if_neg hb]
      exact ⟨rng0, fun _ => nxt 1 (by rw [vsf, if_neg z, if_neg hb]), fun w => absurd rfl w⟩
theorem bits_is : ∀ e : Nat, e < 8 → (jand (e : Int) 1 + jand (jshr (e : Int) 1) 1) + jand (jshr (e : Int) 2) 1 = (pcs e : Int) := by
  intro e he
  rcases (show e = 0 ∨ e = 1 ∨ e = 2 ∨ e = 3 ∨ e = 4 ∨ e = 5 ∨ e = 6 ∨ e = 7 by omega) with rfl | rfl | rfl | rfl | rfl | rfl | rfl | rfl <;> decide
def WAYc (A S : Nat → Nat) (r x y z e c : Nat) : Prop := 0 < sc A S x y z e ∧ sc A S x y z e ≤ r ∧ pcs e ≤ c ∧ (sc A S x y z e = r ∨ Can (uU A S) A S (r - sc A S x y z e) (c - pcs e) (tE A S e 0 x - sc A S x y z e) (tE A S e 1 y - sc A S x y z e) (tE A S e 2 z - sc A S x y z e))
def CWV (A S : Nat → Nat) (r x y z e : Nat) (v : Int) : Prop := (1000 ≤ v ∧ v ≤ 1003 ∧ ∀ c, ¬ WAYc A S r x y z e c) ∨ ∃ c : Nat, v = (c : Int) ∧ c ≤ 123 ∧ WAYc A S r x y z e c ∧ ∀ c', c' < c → ¬ WAYc A S r x y z e c'
def CEL (A S : Nat → Nat) (r x y z : Nat) (v : Int) : Prop := (v = 1000 ∧ ∀ c, ¬ Can (uU A S) A S r c x y z) ∨ ∃ c : Nat, v = (c : Int) ∧ c ≤ 120 ∧ Can (uU A S) A S r c x y z ∧ ∀ c', c' < c → ¬ Can (uU A S) A S r c' x y z
def CELLS (b : xS) (w : Nat → Int) (r : Nat) : Prop := ∀ a : Nat → Nat, (∀ g, g < 3 → a g ≤ am b g) → CEL (pA b) (pS b) r (pj b 0 (a 0)) (pj b 1 (a 1)) (pj b 2 (a 2)) (w (2197 * r + 169 * a 0 + 13 * a 1 + a 2))
theorem mk_costWith {σ b : xS} {e r : Nat} {a : Nat → Nat} {x0 x1 x2 : Int} {Q : Int → xS → Prop} (hB : BK σ b) (he : e < 8) (hr : 1 ≤ r ∧ r ≤ 40) (h0 : x0 = (a 0 : Int)) (h1 : x1 = (a 1 : Int)) (h2 : x2 = (a 2 : Int)) (ha : ∀ g, g < 3 → a g ≤ am b g) (hc : ∀ r', 1 ≤ r' → r' < r → CELLS b (σ 29) r') (k : ∀ (f h : Nat → Int) (v : Int), (∀ j, j ≠ 20 → f j = σ 20 j) → CWV (pA b) (pS b) r (pj b 0 (a 0)) (pj b 1 (a 1)) (pj b 2 (a 2)) e v → Q v (xset (xset σ 20 f) 33 h)) : vX5_costWith (e : Int) (r : Int) x0 x1 x2 σ Q := by
  have hw := hB.2.1
  have hp3 := pcs_3 e
  unfold vX5_costWith
  refine mk_chooses hB he h0 h1 h2 ha (fun t ht h hh => ?_)
  have e20 : xset (xset σ 20 (cu (σ 20) 20 (sgn (sc (pA b) (pS b) (pj b 0 (a 0)) (pj b 1 (a 1)) (pj b 2 (a 2)) e)))) 33 h 20 20 = sgn (sc (pA b) (pS b) (pj b 0 (a 0)) (pj b 1 (a 1)) (pj b 2 (a 2)) e) := by
    rw [xset_ne (by omega), xset_eq, cu_app, if_pos rfl]
  have hs12 : sc (pA b) (pS b) (pj b 0 (a 0)) (pj b 1 (a 1)) (pj b 2 (a 2)) e ≤ 12 := by
    have hi := sc_is (pA b) (pS b) (pj b 0 (a 0)) (pj b 1 (a 1)) (pj b 2 (a 2)) e
    have q : ∀ g, g < 3 → tE (pA b) (pS b) e g (pj b g (a g)) ≤ 12 := fun g hg => by
      rw [← uT_pj hw hg]
      have h1 := uT_le (e := e) (ha g hg)
      have h2 := (am_in hw g).1
      unfold pj
      split <;> omega
    have q0 := q 0 (by omega)
    have q1 := q 1 (by omega)
    have q2 := q 2 (by omega)
    omega
  have k' := fun v hv => k (cu (σ 20) 20 (sgn (sc (pA b) (pS b) (pj b 0 (a 0)) (pj b 1 (a 1)) (pj b 2 (a 2)) e))) h v (fun j hj => by rw [cu_app, if_neg hj]) hv
  rw [e20]
  have a29 : xset (xset σ 20 (cu (σ 20) 20 (sgn (sc (pA b) (pS b) (pj b 0 (a 0)) (pj b 1 (a 1)) (pj b 2 (a 2)) e)))) 33 h 29 = σ 29 := by rw [xset_ne (by omega), xset_ne (by omega)]
  have a33 : ∀ g, g < 3 → xset (xset σ 20 (cu (σ 20) 20 (sgn (sc (pA b) (pS b) (pj b 0 (a 0)) (pj b 1 (a 1)) (pj b 2 (a 2)) e)))) 33 h 33 g = (t g : Int) := fun g hg => by rw [xset_eq, hh g hg]
  have t0 := ht 0 (by omega)
  have t1 := ht 1 (by omega)
  have t2 := ht 2 (by omega)
  have m0 := (am_in hw 0).1
  have m1 := (am_in hw 1).1
  have m2 := (am_in hw 2).1
  generalize xset (xset σ 20 (cu (σ 20) 20 (sgn (sc (pA b) (pS b) (pj b 0 (a 0)) (pj b 1 (a 1)) (pj b 2 (a 2)) e)))) 33 h = τ at k' e20 a29 a33 ⊢
  by_cases hs0 : sc (pA b) (pS b) (pj b 0 (a 0)) (pj b 1 (a 1)) (pj b 2 (a 2)) e = 0
  · have none := k' 1000 (Or.inl ⟨by omega, by omega, fun c hc => by have := hc.1; omega⟩)
    rw [hs0]
    exact ⟨⟨by decide, by decide⟩, fun _ => none, fun w => absurd rfl w⟩
  · have esg : sgn (sc (pA b) (pS b) (pj b 0 (a 0)) (pj b 1 (a 1)) (pj b 2 (a 2)) e) = ((sc (pA b) (pS b) (pj b 0 (a 0)) (pj b 1 (a 1)) (pj b 2 (a 2)) e : Nat) : Int) := by unfold sgn; rw [if_neg hs0]
    rw [esg]
    rw [esg] at e20
    refine ⟨⟨by omega, by omega⟩, fun w => by omega, fun _ => ⟨⟨by omega, by omega⟩, fun z => ?_, fun z => k' 1000 (Or.inl ⟨by omega, by omega, fun c hc => by have := hc.2.1; omega⟩)⟩⟩
    unfold vX5_bits vX5_place
    rw [bits_is e he]
    dsimp only
    rw [e20]
    refine ⟨⟨by omega, by omega⟩, fun z2 => ?_, fun z2 => k' _ (Or.inr ⟨pcs e, by omega, by omega, ⟨by omega, by omega, Nat.le_refl _, Or.inl (by omega)⟩, fun c' hc' hwc => by have := hwc.2.2.1; omega⟩)⟩
    have eix : 2197 * ((r : Int) - ((sc (pA b) (pS b) (pj b 0 (a 0)) (pj b 1 (a 1)) (pj b 2 (a 2)) e : Nat) : Int)) + 169 * (τ 33 0) + 13 * (τ 33 1) + τ 33 2 = ((2197 * (r - sc (pA b) (pS b) (pj b 0 (a 0)) (pj b 1 (a 1)) (pj b 2 (a 2)) e) + 169 * t 0 + 13 * t 1 + t 2 : Nat) : Int) := by
      rw [a33 0 (by omega), a33 1 (by omega), a33 2 (by omega)]
      omega
    rw [eix, Int.toNat_natCast, a29]
    have hcell := hc (r - sc (pA b) (pS b) (pj b 0 (a 0)) (pj b 1 (a 1)) (pj b 2 (a 2)) e) (by omega) (by omega) t (fun g hg => (ht g hg).1)
    rw [t0.2, t1.2, t2.2] at hcell
    refine ⟨by omega, k' _ ?_⟩
    rcases hcell with ⟨e1, hno⟩ | ⟨c, e1, c120, hcan, hmin⟩
    · refine Or.inl ⟨by omega, by omega, fun c hwc => ?_⟩
      rcases hwc.2.2.2 with q | q
      · omega
      · exact hno _ q
    · refine Or.inr ⟨pcs e + c, by omega, by omega, ⟨by omega, by omega, by omega, Or.inr ?_⟩, fun c' hc' hwc => ?_⟩
      · rw [show pcs e + c - pcs e = c by omega]
        exact hcan
      · rcases hwc.2.2.2 with q | q
        · omega
        · exact hmin (c' - pcs e) (by have := hwc.2.2.1; omega) q
/-- useless stacks don't help -/
theorem restrict {A S : Nat → Nat} (hS : ∀ g, g < 3 → S g < 3) {e : Nat} (he : e < 8) : ∃ e', e' < 8 ∧ vE (uU A S) e' ∧ pcs e' ≤ pcs e ∧ (pcs e' = pcs e → vE (uU A S) e) ∧ ∀ g x, g < 3 → x ≤ A g → tE A S e' g x = tE A S e g x := by
  have pick : ∀ j, ∃ b : Bool, (b = true → Nat.testBit e j = true ∧ uU A S j) ∧ (b = false → ¬ (Nat.testBit e j = true ∧ uU A S j)) := fun j => by
    by_cases h : Nat.testBit e j = true ∧ uU A S j
    · exact ⟨true, fun _ => h, fun q => absurd q (by decide)⟩
    · exact ⟨false, fun q => absurd q (by decide), fun _ => h⟩
  obtain ⟨b0, p0, n0⟩ := pick 0
  obtain ⟨b1, p1, n1⟩ := pick 1
  obtain ⟨b2, p2, n2⟩ := pick 2
  obtain ⟨c0, c1, c2, rfl⟩ := e8_of e he
  obtain ⟨x0, x1, x2⟩ := e8_bit c0 c1 c2
  obtain ⟨y0, y1, y2⟩ := e8_bit b0 b1 b2
  rw [x0] at p0 n0
  rw [x1] at p1 n1
  rw [x2] at p2 n2
  have l0 : b0.toNat ≤ c0.toNat := by
    cases b0 with
    | false => exact Nat.zero_le _
    | true => rw [(p0 rfl).1]; exact Nat.le_refl _
  have l1 : b1.toNat ≤ c1.toNat := by
    cases b1 with
    | false => exact Nat.zero_le _
    | true => rw [(p1 rfl).1]; exact Nat.le_refl _
  have l2 : b2.toNat ≤ c2.toNat := by
    cases b2 with
    | false => exact Nat.zero_le _
    | true => rw [(p2 rfl).1]; exact Nat.le_refl _
  refine ⟨e8 b0 b1 b2, e8_lt _ _ _, fun j hj hb => ?_, by rw [e8_pcs, e8_pcs]; omega, fun heq j hj hb => ?_, fun g x hg hx => ?_⟩
  · rcases (show j = 0 ∨ j = 1 ∨ j = 2 by omega) with rfl | rfl | rfl
    · exact (p0 (y0 ▸ hb)).2
    · exact (p1 (y1 ▸ hb)).2
    · exact (p2 (y2 ▸ hb)).2
  · rw [e8_pcs, e8_pcs] at heq
    have bt : ∀ c d : Bool, c = true → d.toNat = c.toNat → d = true := fun c d h1 h2 => by
      cases d with
      | true => rfl
      | false => rw [h1] at h2; exact absurd h2 (by decide)
    rcases (show j = 0 ∨ j = 1 ∨ j = 2 by omega) with rfl | rfl | rfl
    · exact (p0 (bt c0 b0 (x0 ▸ hb) (by omega))).2
    · exact (p1 (bt c1 b1 (x1 ▸ hb) (by omega))).2
    · exact (p2 (bt c2 b2 (x2 ▸ hb) (by omega))).2
  · unfold tE
    by_cases hA : 0 < A g
    · have hu : uU A S (S g) := ⟨g, hg, hA, rfl⟩
      have hs := hS g hg
      have key : Nat.testBit (e8 b0 b1 b2) (S g) = Nat.testBit (e8 c0 c1 c2) (S g) := by
        rcases (show S g = 0 ∨ S g = 1 ∨ S g = 2 by omega) with e1 | e1 | e1 <;> rw [e1] at hu ⊢
        · rw [x0, y0]
          cases b0 with
          | true => exact (p0 rfl).1.symm
          | false =>
            cases c0 with
            | false => rfl
            | true => exact absurd ⟨rfl, hu⟩ (n0 rfl)
        · rw [x1, y1]
          cases b1 with
          | true => exact (p1 rfl).1.symm
          | false =>
            cases c1 with
            | false => rfl
            | true => exact absurd ⟨rfl, hu⟩ (n1 rfl)
        · rw [x2, y2]
          cases b2 with
          | true => exact (p2 rfl).1.symm
          | false =>
            cases c2 with
            | false => rfl
            | true => exact absurd ⟨rfl, hu⟩ (n2 rfl)
      rw [key]
    · have h0 : x = 0 := by omega
      subst h0
      split <;> split <;> omega
theorem WAYc.can {A S : Nat → Nat} (hS : ∀ g, g < 3 → S g < 3) {r x y z e c : Nat} (he : e < 8) (hx : x ≤ A 0) (hy : y ≤ A 1) (hz : z ≤ A 2) (h : WAYc A S r x y z e c) : Can (uU A S) A S r c x y z ∧ (¬ vE (uU A S) e → ∃ c', c' < c ∧ Can (uU A S) A S r c' x y z) := by
  obtain ⟨e', he', hv, hp, heq, ht⟩ := restrict hS he
  have s : sc A S x y z e' = sc A S x y z e := by
    show secN _ _ _ = secN _ _ _
    rw [ht 0 x (by omega) hx, ht 1 y (by omega) hy, ht 2 z (by omega) hz]
  obtain ⟨h1, h2, h3, h4⟩ := h
  have key : ∀ c', pcs e' ≤ c' → c - pcs e ≤ c' - pcs e' → Can (uU A S) A S r c' x y z := fun c' hc' hd => by
    refine (Can.ways hS).mpr ⟨e', he', hv, hc', ?_⟩
    show 0 < sc A S x y z e' ∧ sc A S x y z e' ≤ r ∧ (sc A S x y z e' = r ∨ Can (uU A S) A S (r - sc A S x y z e') (c' - pcs e') (tE A S e' 0 x - sc A S x y z e') (tE A S e' 1 y - sc A S x y z e') (tE A S e' 2 z - sc A S x y z e'))
    rw [s, ht 0 x (by omega) hx, ht 1 y (by omega) hy, ht 2 z (by omega) hz]
    exact ⟨h1, h2, h4.imp id (fun q => q.mono hd)⟩
  refine ⟨key c (by omega) (by omega), fun hn => ?_⟩
  have : pcs e' ≠ pcs e := fun q => hn (heq q)
  exact ⟨c - 1, by omega, key (c - 1) (by omega) (by omega)⟩
theorem Can.wayc {A S : Nat → Nat} (hS : ∀ g, g < 3 → S g < 3) {r x y z c : Nat} (h : Can (uU A S) A S r c x y z) : ∃ e, e < 8 ∧ vE (uU A S) e ∧ WAYc A S r x y z e c := by
  obtain ⟨e, he, hv, hp, h1, h2, h3⟩ := (Can.ways hS).mp h
  exact ⟨e, he, hv, h1, h2, hp, h3⟩
theorem vE_VS {T : Int} {b : xS} (hw : WFt T b) {e : Nat} (h : vE (uU (pA b) (pS b)) e) : VS b e := by
  intro g hg hb
  obtain ⟨i, hi, hA, hSi⟩ := h g hg hb
  unfold pA at hA
  unfold pS at hSi
  rw [f3_g (pa b) i hi] at hA
  rw [f3_g (pz b) i hi] at hSi
  have hp := p_in hw i
  have hl : (i : Int) < b 3 0 ∧ b i 2 ≠ 2 := by
    by_cases q : (i : Int) < b 3 0 ∧ b i 2 ≠ 2
    · exact q
    · have := (hp.2.2.2.2.1 q).1
      omega
  have hz := hp.2.2.2.2.2 hl
  have hro := hw.root hl.1
  have e5 : (b i 5).toNat = g := by omega
  rw [e5] at hro
  exact ⟨by omega, by omega⟩
def BST (b : xS) (r x y z q : Nat) (v : Int) : Prop := (v = 1000 ∧ ∀ e, e < q → VS b e → ∀ c, ¬ WAYc (pA b) (pS b) r x y z e c) ∨ ∃ c : Nat, v = (c : Int) ∧ c ≤ 123 ∧ (∃ e, e < q ∧ VS b e ∧ WAYc (pA b) (pS b) r x y z e c) ∧ ∀ e, e < q → VS b e → ∀ c', c' < c → ¬ WAYc (pA b) (pS b) r x y z e c'
theorem pj_le {T : Int} {b : xS} (hw : WFt T b) {g x : Nat} (hg : g < 3) (h : x ≤ am b g) : pj b g x ≤ pA b g := by
  have ha := am_in hw g
  have eA : pA b g = pa b g := by unfold pA; exact f3_g (pa b) g hg
  unfold pj
  rw [eA]
  split
  · rename_i hl
    rw [ha.2.2.2 hl]
    exact h
  · exact Nat.zero_le _
theorem mk_best {σ b : xS} {r : Nat} {a : Nat → Nat} {x0 x1 x2 : Int} {Q : Int → xS → Prop} (hB : BK σ b) (hr : 1 ≤ r ∧ r ≤ 40) (h0 : x0 = (a 0 : Int)) (h1 : x1 = (a 1 : Int)) (h2 : x2 = (a 2 : Int)) (ha : ∀ g, g < 3 → a g ≤ am b g) (hc : ∀ r', 1 ≤ r' → r' < r → CELLS b (σ 29) r') (k : ∀ (f h : Nat → Int) (v : Int), (∀ j, j ≠ 20 → f j = σ 20 j) → CEL (pA b) (pS b) r (pj b 0 (a 0)) (pj b 1 (a 1)) (pj b 2 (a 2)) v → Q v (xset (xset σ 20 f) 33 h)) : vX5_best (r : Int) x0 x1 x2 σ Q := by
  have hw := hB.2.1
  have hS := pS_lt hw
  have px := pj_le hw (show 0 < 3 by omega) (ha 0 (by omega))
  have py := pj_le hw (show 1 < 3 by omega) (ha 1 (by omega))
  have pz' := pj_le hw (show 2 < 3 by omega) (ha 2 (by omega))
  unfold vX5_best
  refine mu_of (fun v => ∃ (q : Nat) (bv : Int) (f h : Nat → Int), v = ((r : Int), x0, x1, x2, bv, (q : Int), xset (xset σ 20 f) 33 h) ∧ q ≤ 8 ∧ (∀ j, j ≠ 20 → f j = σ 20 j) ∧ BST b r (pj b 0 (a 0)) (pj b 1 (a 1)) (pj b 2 (a 2)) q bv) (fun v => 8 - v.2.2.2.2.2.1.toNat) ?_ _ ⟨0, 1000, σ 20, σ 33, by rw [xset_self, xset_self]; rfl, by omega, fun _ _ => rfl, Or.inl ⟨rfl, fun e he => absurd he (Nat.not_lt_zero e)⟩⟩
  rintro K _ ⟨q, bv, f, h, rfl, hq, hf, hb⟩ hK
  have hbr : 0 ≤ bv ∧ bv ≤ 1000 := by
    rcases hb with ⟨e1, _⟩ | ⟨c, e1, c1, _⟩ <;> omega
  have hB' : BK (xset (xset σ 20 f) 33 h) b := hB.congr (by rw [xset_ne (by omega), xset_ne (by omega)]) (by rw [xset_ne (by omega), xset_ne (by omega)]) (by rw [xset_ne (by omega), xset_ne (by omega)])
  unfold vX5_best_8
  refine ⟨⟨by omega, by omega⟩, fun z => ?_, fun z => ?_⟩
  · have hq8 : q = 8 := by omega
    subst hq8
    refine k f h bv hf ?_
    rcases hb with ⟨e1, hno⟩ | ⟨c, e1, c1, ⟨e, he, hvs, hwc⟩, hmin⟩
    · refine Or.inl ⟨e1, fun c hcan => ?_⟩
      obtain ⟨e, he, hv, hwc⟩ := hcan.wayc hS
      exact hno e he (vE_VS hw hv) c hwc
    · have hcan := (hwc.can hS he px py pz').1
      have hmin' : ∀ c', c' < c → ¬ Can (uU (pA b) (pS b)) (pA b) (pS b) r c' (pj b 0 (a 0)) (pj b 1 (a 1)) (pj b 2 (a 2)) := fun c' hc' hcan' => by
        obtain ⟨e', he', hv', hwc'⟩ := hcan'.wayc hS
        exact hmin e' he' (vE_VS hw hv') c' hc' hwc'
      refine Or.inr ⟨c, e1, ?_, hcan, hmin'⟩
      have h120 : Can (uU (pA b) (pS b)) (pA b) (pS b) r 120 (pj b 0 (a 0)) (pj b 1 (a 1)) (pj b 2 (a 2)) := Can.triv' (n0 := 1) (n1 := 1) (n2 := 1) (fun _ => by omega) (fun _ => by omega) (fun _ => by omega) hr (by omega) hcan
      by_cases hle : c ≤ 120
      · exact hle
      · exact absurd h120 (hmin' 120 (by omega))
  · have hq8 : q < 8 := by omega
    have nxt : ∀ (x : Int) (f' h' : Nat → Int), (∀ j, j ≠ 20 → f' j = σ 20 j) → BST b r (pj b 0 (a 0)) (pj b 1 (a 1)) (pj b 2 (a 2)) (q + 1) x → K ((r : Int), x0, x1, x2, x, (q : Int) + 1, xset (xset σ 20 f') 33 h') := fun x f' h' a1 a2 => hK _ ⟨q + 1, x, f', h', by rw [Int.natCast_succ], by omega, a1, a2⟩ (by show 8 - ((q : Int) + 1).toNat < 8 - ((q : Int)).toNat; omega)
    refine mk_isStacks hB'.1 hw hq8 (fun hvs => ⟨⟨by omega, by omega⟩, fun w => absurd w (by omega), fun _ => ?_⟩) (fun hvs => ⟨rng0, fun _ => ?_, fun w => absurd rfl w⟩)
    · refine mk_costWith hB' hq8 hr h0 h1 h2 ha (fun r' h1 h2 => ?_) (fun f2 g2 v hf2 hv => ?_)
      · rw [xset_ne (by omega), xset_ne (by omega)]
        exact hc r' h1 h2
      · have e33 : xset (xset (xset (xset σ 20 f) 33 h) 20 f2) 33 g2 = xset (xset σ 20 f2) 33 g2 := by
          rw [xset_comm _ 33 20 _ _ (by omega), xset_set, xset_set]
        rw [e33]
        have hf2' : ∀ j, j ≠ 20 → f2 j = σ 20 j := fun j hj => by rw [hf2 j hj, xset_ne (by omega), xset_eq, hf j hj]
        have hvr : 0 ≤ v ∧ v ≤ 1003 := by
          rcases hv with ⟨e1, e2, _⟩ | ⟨c, e1, c1, _⟩ <;> omega
        unfold vX5_best_41
        refine ⟨⟨by omega, by omega⟩, ⟨by omega, by omega⟩, fun z2 => nxt bv f2 g2 hf2' ?_, fun z2 => nxt v f2 g2 hf2' ?_⟩
        · rcases hb with ⟨e1, hno⟩ | ⟨c, e1, c1, ⟨e, he, hve, hwc⟩, hmin⟩
          · refine Or.inl ⟨e1, fun e he hve c hwc => ?_⟩
            by_cases heq : e = q
            · subst heq
              rcases hv with ⟨_, _, hn⟩ | ⟨c2, e2, c3, _⟩
              · exact hn c hwc
              · omega
            · exact hno e (by omega) hve c hwc
          · refine Or.inr ⟨c, e1, c1, ⟨e, by omega, hve, hwc⟩, fun e' he' hve' c' hc' hwc' => ?_⟩
            by_cases heq : e' = q
            · subst heq
              rcases hv with ⟨_, _, hn⟩ | ⟨c2, e2, c3, _, hm2⟩
              · exact hn c' hwc'
              · exact hm2 c' (by omega) hwc'
            · exact hmin e' (by omega) hve' c' hc' hwc'
        · rcases hv with ⟨e2, e3, hn⟩ | ⟨c2, e2, c3, hw2, hm2⟩
          · omega
          · refine Or.inr ⟨c2, e2, c3, ⟨q, by omega, hvs, hw2⟩, fun e' he' hve' c' hc' hwc' => ?_⟩
            by_cases heq : e' = q
            · subst heq
              exact hm2 c' hc' hwc'
            · rcases hb with ⟨e1, hno⟩ | ⟨c, e1, c1, _, hmin⟩
              · exact hno e' (by omega) hve' c' hwc'
              · exact hmin e' (by omega) hve' c' (by omega) hwc'
    · unfold vX5_best_41
      refine ⟨⟨by omega, by omega⟩, ⟨by omega, by omega⟩, fun z2 => nxt bv f h hf ?_, fun z2 => by omega⟩
      rcases hb with ⟨e1, hno⟩ | ⟨c, e1, c1, ⟨e, he, hve, hwc⟩, hmin⟩
      · refine Or.inl ⟨e1, fun e he hve c hwc => ?_⟩
        by_cases heq : e = q
        · subst heq
          exact hvs hve
        · exact hno e (by omega) hve c hwc
      · refine Or.inr ⟨c, e1, c1, ⟨e, by omega, hve, hwc⟩, fun e' he' hve' c' hc' hwc' => ?_⟩
        by_cases heq : e' = q
        · subst heq
          exact hvs hve'
        · exact hmin e' (by omega) hve' c' hc' hwc'
