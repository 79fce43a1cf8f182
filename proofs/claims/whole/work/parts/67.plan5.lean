/-! the class's planner: spans -/
def BY (A S : Nat → Nat) (c x y z e r : Nat) : Prop := vE (uU A S) e ∧ pcs e ≤ c ∧ 0 < sc A S x y z e ∧ sc A S x y z e ≤ r ∧ (r = sc A S x y z e ∨ (r - sc A S x y z e ≤ 40 ∧ Can (uU A S) A S (r - sc A S x y z e) (c - pcs e) (tE A S e 0 x - sc A S x y z e) (tE A S e 1 y - sc A S x y z e) (tE A S e 2 z - sc A S x y z e)))
theorem BY_ways {A S : Nat → Nat} (hS : ∀ g, g < 3 → S g < 3) {c x y z r : Nat} (hr : r ≤ 40) : (∃ e, e < 8 ∧ BY A S c x y z e r) ↔ Can (uU A S) A S r c x y z := by
  rw [Can.ways hS]
  constructor
  · rintro ⟨e, h1, h2, h3, h4, h5, h6⟩
    exact ⟨e, h1, h2, h3, h4, h5, h6.elim (fun q => Or.inl q.symm) (fun q => Or.inr q.2)⟩
  · rintro ⟨e, h1, h2, h3, h4, h5, h6⟩
    exact ⟨e, h1, h2, h3, h4, h5, h6.elim (fun q => Or.inl q.symm) (fun q => Or.inr ⟨by omega, q⟩)⟩
/-- the spans that a way needs stand in the table -/
def AV (σ : xS) (A S : Nat → Nat) (c x y z e : Nat) : Prop := vE (uU A S) e → pcs e ≤ c → 0 < sc A S x y z e → ((c - pcs e) * cm A 4096 + cm A (tg A S x y z e) < 11725) ∧ SPN A S (c - pcs e) (tE A S e 0 x - sc A S x y z e) (tE A S e 1 y - sc A S x y z e) (tE A S e 2 z - sc A S x y z e) (σ 14 ((c - pcs e) * cm A 4096 + cm A (tg A S x y z e)))
theorem ok_by {σ : xS} {A S : Nat → Nat} {c x y z e : Nat} {w cc : Int} {Q : Int → xS → Prop} (hA : AOK A) (hx : x ≤ A 0) (hy : y ≤ A 1) (hz : z ≤ A 2) (hc : c ≤ 1000) (he : e < 8) (h6 : σ 9 6 = (cm A 4096 : Int)) (hw : WY A S x y z e w) (hcc : cc = (c : Int) - (pcs e : Int)) (hav : AV σ A S c x y z e) (k : ∀ n : Nat, n < 9007199254740992 → (∀ r, Nat.testBit n r = true ↔ BY A S c x y z e r) → Q (n : Int) σ) : vX2_spansBy w cc σ Q := by
  have t0 : tE A S e 0 x ≤ A 0 := tE_le hx
  have t1 : tE A S e 1 y ≤ A 1 := tE_le hy
  have t2 : tE A S e 2 z ≤ A 2 := tE_le hz
  have hA' := hA
  have hi := sc_is A S x y z e
  have hs12 : sc A S x y z e ≤ 12 := by omega
  have h469 := cm_469 hA
  have hpc : pcs e ≤ 3 := by unfold pcs; omega
  obtain ⟨w1, w2, w3⟩ := hw
  have none : ¬ (vE (uU A S) e ∧ pcs e ≤ c ∧ 0 < sc A S x y z e) → Q 0 σ := fun hn => by
    refine k 0 (by omega) (fun r => ?_)
    rw [Nat.zero_testBit]
    exact ⟨fun q => absurd q (by decide), fun q => absurd ⟨q.1, q.2.1, q.2.2.1⟩ hn⟩
  unfold vX2_spansBy
  by_cases hv : vE (uU A S) e
  · by_cases hs : 0 < sc A S x y z e
    · obtain ⟨m1, m2⟩ := tg_mom (S := S) (e := e) hA hx hy hz hs
      have mc := cm_lt A m2 m1
      have ew := w3 hv hs
      have hw0 : w = ((16 * cm A (tg A S x y z e) + sc A S x y z e : Nat) : Int) := ew
      generalize hT : cm A (tg A S x y z e) = T at *
      generalize hsc : sc A S x y z e = s at *
      refine ⟨⟨by omega, by omega⟩, fun q => by omega, fun _ => ⟨⟨by omega, by omega⟩, fun q => ?_, fun q => none (fun w => by omega)⟩⟩
      have hple : pcs e ≤ c := by omega
      obtain ⟨a1, n, a2, a3, a4⟩ := hav hv hple (by omega)
      rw [hT] at a1 a2
      simp only [hsc] at a4
      have ejs : jshr w 4 = (T : Int) := by
        rw [hw0, show (4 : Int) = ((4 : Nat) : Int) from rfl, jshr_nat (by omega) (by omega)]
        congr 1
        show (16 * T + s) / 16 = T
        omega
      have eja : jand w 15 = (s : Int) := by
        rw [hw0, show (15 : Int) = ((15 : Nat) : Int) from rfl, jand_nat (by omega), show (15 : Nat) = 2 ^ 4 - 1 from rfl, Nat.and_two_pow_sub_one_eq_mod]
        congr 1
        show (16 * T + s) % 16 = s
        omega
      have eix : cc * (σ 9 6) + jshr w 4 = (((c - pcs e) * cm A 4096 + T : Nat) : Int) := by
        rw [ejs, h6, hcc, show (c : Int) - (pcs e : Int) = ((c - pcs e : Nat) : Int) by omega]
        push_cast
        rfl
      rw [eix, eja, Int.toNat_natCast, a2]
      refine ⟨by omega, ?_⟩
      have hp : 2 ^ s ≤ 2 ^ 12 := Nat.pow_le_pow_right (by omega) hs12
      have hn1 : n ||| 1 < 2 ^ 41 := Nat.or_lt_two_pow a3 (by omega)
      have hmul : (n ||| 1) * 2 ^ s < 9007199254740992 := by
        have h1 : (n ||| 1) * 2 ^ s ≤ (n ||| 1) * 2 ^ 12 := Nat.mul_le_mul_left _ hp
        omega
      rw [show (1 : Int) = ((1 : Nat) : Int) from rfl, kor_nat (by omega) (by omega), kshl_nat (by omega) (by omega)]
      refine k _ hmul (fun r => ?_)
      rw [← Nat.shiftLeft_eq, Nat.testBit_shiftLeft, Bool.and_eq_true, decide_eq_true_iff, Nat.testBit_or, Bool.or_eq_true, a4]
      have e1 : Nat.testBit 1 (r - s) = true ↔ r - s = 0 := by
        rw [show (1 : Nat) = 2 ^ 0 from rfl, Nat.testBit_two_pow]
        simp
        omega
      rw [e1]
      unfold BY
      rw [hsc]
      constructor
      · rintro ⟨b1, b2 | b2⟩
        · exact ⟨hv, hple, by omega, b1, Or.inr ⟨b2.1.2, b2.2⟩⟩
        · exact ⟨hv, hple, by omega, b1, Or.inl (by omega)⟩
      · rintro ⟨_, _, b3, b4, b5 | b5⟩
        · exact ⟨b4, Or.inr (by omega)⟩
        · by_cases hrs : r - s = 0
          · exact ⟨b4, Or.inr hrs⟩
          · exact ⟨b4, Or.inl ⟨⟨by omega, b5.1⟩, b5.2⟩⟩
    · have ew := w2 hv (by omega)
      rw [ew]
      exact ⟨rng0, fun _ => none (fun q => hs q.2.2), fun q => absurd rfl q⟩
  · have ew := w1 hv
    rw [ew]
    exact ⟨rng0, fun _ => none (fun q => hv q.1), fun q => absurd rfl q⟩
theorem stk_pcs : ∀ e : Nat, e < 8 → stk e = (pcs e : Int) := by
  intro e he
  rcases (show e = 0 ∨ e = 1 ∨ e = 2 ∨ e = 3 ∨ e = 4 ∨ e = 5 ∨ e = 6 ∨ e = 7 by omega) with rfl | rfl | rfl | rfl | rfl | rfl | rfl | rfl <;> rfl
theorem ok_from {σ : xS} {A S : Nat → Nat} {c x y z pl : Nat} {Q : Int → xS → Prop} (hA : AOK A) (hS : ∀ g, g < 3 → S g < 3) (hx : x ≤ A 0) (hy : y ≤ A 1) (hz : z ≤ A 2) (hc : c ≤ 1000) (hpl : pl < 470) (h6 : σ 9 6 = (cm A 4096 : Int)) (hw : ∀ e, e < 8 → WY A S x y z e (σ 13 (8 * pl + e))) (hav : ∀ e, e < 8 → AV σ A S c x y z e) (k : ∀ w, SPN A S c x y z w → Q w σ) : vX2_spansFrom (pl : Int) (c : Int) σ Q := by
  unfold vX2_spansFrom
  refine mu_of (fun a => ∃ q n : Nat, a = ((pl : Int), (c : Int), (n : Int), (q : Int), σ) ∧ q ≤ 8 ∧ n < 9007199254740992 ∧ ∀ r, (Nat.testBit n r = true ↔ ∃ e, e < q ∧ BY A S c x y z e r)) (fun a => (8 - a.2.2.2.1).toNat) ?_ _ ⟨0, 0, rfl, by omega, by omega, fun r => ⟨fun q => by rw [Nat.zero_testBit] at q; exact absurd q (by decide), fun ⟨e, q, _⟩ => absurd q (Nat.not_lt_zero e)⟩⟩
  rintro K _ ⟨q, n, rfl, hq, hn, hb⟩ hK
  unfold vX2_spansFrom_5
  refine ⟨⟨by omega, by omega⟩, fun r => ?_, fun r => ⟨by omega, by omega, ?_⟩⟩
  · have hq8 : q = 8 := by omega
    subst hq8
    rw [show (2199023255550 : Int) = ((2199023255550 : Nat) : Int) from rfl, kand_nat (by omega)]
    have hlt : n &&& 2199023255550 ≤ 2199023255550 := Nat.and_le_right
    refine k _ ⟨n &&& 2199023255550, rfl, by omega, fun r => ?_⟩
    rw [Nat.testBit_and, Bool.and_eq_true, hb]
    have em : Nat.testBit 2199023255550 r = true ↔ 1 ≤ r ∧ r ≤ 40 := by
      by_cases h41 : r < 41
      · have key : ∀ r, r < 41 → (Nat.testBit 2199023255550 r = true ↔ 1 ≤ r ∧ r ≤ 40) := by decide +kernel
        exact key r h41
      · have h1 : Nat.testBit 2199023255550 r = false := Nat.testBit_lt_two_pow (Nat.lt_of_lt_of_le (show 2199023255550 < 2 ^ 41 by decide) (Nat.pow_le_pow_right (by omega) (by omega)))
        rw [h1]
        exact ⟨fun q => absurd q (by decide), fun q => by omega⟩
    rw [em]
    constructor
    · rintro ⟨h1, h2⟩
      exact ⟨h2, (BY_ways hS h2.2).mp h1⟩
    · rintro ⟨h2, h1⟩
      exact ⟨(BY_ways hS h2.2).mpr h1, h2⟩
  · have hq8 : q < 8 := by omega
    rw [show ((pl : Int) * 8 + (q : Int)).toNat = 8 * pl + q by omega, Int.toNat_natCast, stk_pcs q hq8]
    refine ok_by hA hx hy hz hc hq8 h6 (hw q hq8) rfl (hav q hq8) (fun m hm hmb => ?_)
    have hor : n ||| m < 2 ^ 53 := Nat.or_lt_two_pow hn hm
    rw [kor_nat (by omega) (by omega)]
    refine hK _ ⟨q + 1, n ||| m, by rw [Int.natCast_succ], by omega, hor, fun r => ?_⟩ (by show (8 - ((q : Int) + 1)).toNat < (8 - (q : Int)).toNat; omega)
    rw [Nat.testBit_or, Bool.or_eq_true, hb, hmb]
    constructor
    · rintro (⟨e, h1, h2⟩ | h)
      · exact ⟨e, by omega, h2⟩
      · exact ⟨q, by omega, h⟩
    · rintro ⟨e, h1, h2⟩
      by_cases he : e = q
      · subst he
        exact Or.inr h2
      · exact Or.inl ⟨e, by omega, h2⟩
/-- the ways to other levels, of a moment or the start -/
theorem av_done {σ : xS} {A S : Nat → Nat} {K i c x y z e : Nat} (hA : AOK A) (hx : x ≤ A 0) (hy : y ≤ A 1) (hz : z ≤ A 2) (h4 : T4K σ A S K i) (hc : c - pcs e < K) : AV σ A S c x y z e := by
  intro hv hp hs
  obtain ⟨m1, m2⟩ := tg_mom (S := S) (e := e) hA hx hy hz hs
  have mc := cm_lt A m2 m1
  have t0 : tE A S e 0 x ≤ A 0 := tE_le hx
  have t1 : tE A S e 1 y ≤ A 1 := tE_le hy
  have t2 : tE A S e 2 z ≤ A 2 := tE_le hz
  have hA' := hA
  have hn := nb_cod (x := tE A S e 0 x - sc A S x y z e) (y := tE A S e 1 y - sc A S x y z e) (z := tE A S e 2 z - sc A S x y z e) (by omega) (by omega) (by omega)
  have hm := Nat.mul_le_mul_right (cm A 4096) (show c - pcs e + 1 ≤ K by omega)
  rw [Nat.succ_mul] at hm
  have hroom := h4.2.2.1.1
  refine ⟨by omega, ?_⟩
  have := h4.2.2.2.2.1 (c - pcs e) hc (tg A S x y z e) m1 m2
  rw [hn.1, hn.2.1, hn.2.2] at this
  exact this
theorem SPN.uniq {A S : Nat → Nat} {c c' x y z : Nat} {w : Int} (h1 : SPN A S c x y z w) (h2 : SPN A S c' x y z w) {r : Nat} (hr : 1 ≤ r ∧ r ≤ 40) (h : Can (uU A S) A S r c x y z) : Can (uU A S) A S r c' x y z := by
  obtain ⟨n, e, _, b⟩ := h1
  obtain ⟨n', e', _, b'⟩ := h2
  have : n = n' := by omega
  subst this
  exact ((b' r).mp ((b r).mpr ⟨hr, h⟩)).2
theorem SPN.rngL {A S : Nat → Nat} {c x y z : Nat} {w : Int} (h : SPN A S c x y z w) : rngL w := by
  obtain ⟨n, e, h1, _⟩ := h
  constructor <;> omega
theorem e0_id {A S : Nat → Nat} {g x : Nat} : tE A S 0 g x = x := by
  unfold tE
  rw [Nat.zero_testBit]
  rfl
theorem pcs_0 : ∀ e, e < 8 → pcs e = 0 → e = 0 := by decide
theorem ok_spans {σ : xS} {A S : Nat → Nat} {K i : Nat} {Q : Int → xS → Prop} (hA : AOK A) (hS : ∀ g, g < 3 → S g < 3) (h6 : σ 9 6 = (cm A 4096 : Int)) (h1 : T1 σ A) (h3 : T3 σ A S) (h4 : T4K σ A S K i) (hroom : (K + 1) * cm A 4096 ≤ 11725) (k : ∀ (w : Nat → Int) (fl : Int), (fl = 0 ∨ fl = 1) → (∀ j, j < K * cm A 4096 → w j = σ 14 j) → (∀ p, p < 4096 → isM A p = true → SPN A S K (nb p 0) (nb p 1) (nb p 2) (w (K * cm A 4096 + cm A p))) → (fl = 0 → 0 < K ∧ ∀ p, p < 4096 → isM A p = true → w (K * cm A 4096 + cm A p) = σ 14 ((K - 1) * cm A 4096 + cm A p)) → Q fl (xset σ 14 w)) : vX2_findSpans (K : Int) σ Q := by
  have h469 := cm_469 hA
  have hK121 := h4.2.2.1.2
  rw [Nat.succ_mul] at hroom
  have main : ∀ x : Int, (x = 0 ∧ 0 < K ∨ x = 1 ∧ K = 0) → mu (vX2_findSpans_12 Q) ((K : Int), x, 0, σ) := by
    intro x hx
    refine mu_of (fun a => ∃ (q : Nat) (w : Nat → Int) (fl : Int), a = ((K : Int), fl, (q : Int), xset σ 14 w) ∧ q ≤ cm A 4096 ∧ (fl = 0 ∨ fl = 1) ∧ (∀ j, j < K * cm A 4096 → w j = σ 14 j) ∧ (∀ p, p < 4096 → isM A p = true → cm A p < q → SPN A S K (nb p 0) (nb p 1) (nb p 2) (w (K * cm A 4096 + cm A p))) ∧ (fl = 0 → 0 < K ∧ ∀ p, p < 4096 → isM A p = true → cm A p < q → w (K * cm A 4096 + cm A p) = σ 14 ((K - 1) * cm A 4096 + cm A p))) (fun a => 469 - a.2.2.1.toNat) ?_ _ ⟨0, σ 14, x, by rw [xset_self]; rfl, by omega, by omega, fun _ _ => rfl, fun p _ _ hp => absurd hp (Nat.not_lt_zero _), fun q => ⟨by omega, fun p _ _ hp => absurd hp (Nat.not_lt_zero _)⟩⟩
    rintro KK _ ⟨q, w, fl, rfl, hq, hfl, hold, hnew, hfz⟩ hK
    unfold vX2_findSpans_12
    dsimp only
    rw [show xset σ 14 w 9 6 = (cm A 4096 : Int) by rw [xset_ne (by omega)]; exact h6]
    refine ⟨⟨by omega, by omega⟩, ⟨by omega, by omega⟩, fun r => ⟨hfl, ?_⟩, fun r => ?_⟩
    · have hqe : q = cm A 4096 := by omega
      subst hqe
      exact k w fl hfl hold (fun p hp hm => hnew p hp hm (cm_lt A hm hp)) (fun z => ⟨(hfz z).1, fun p hp hm => (hfz z).2 p hp hm (cm_lt A hm hp)⟩)
    · obtain ⟨p, hp, hm, hcm⟩ := cm_of A (m := q) (n := 4096) (by omega)
      obtain ⟨⟨m0, m1, m2⟩, _⟩ := (isM_iff A p).mp hm
      have hA' := hA
      have h4' : T4K (xset σ 14 w) A S K i := by
        obtain ⟨x1, x2, x3, x4, x5, x6⟩ := h4
        refine ⟨by rw [xset_ne (by omega)]; exact x1, by rw [xset_ne (by omega)]; exact x2, x3, x4, fun c hc p' hp' hm' => ?_, x6⟩
        have mc := cm_lt A hm' hp'
        have hmul := Nat.mul_le_mul_right (cm A 4096) (show c + 1 ≤ K by omega)
        rw [Nat.succ_mul] at hmul
        rw [xset_eq, hold _ (by omega)]
        exact x5 c hc p' hp' hm'
      refine ok_from (A := A) (S := S) (x := nb p 0) (y := nb p 1) (z := nb p 2) (pl := q) hA hS m0 m1 m2 (by omega) (by omega) (by rw [xset_ne (by omega)]; exact h6) (fun e he => ?_) (fun e he => ?_) (fun v hv => ?_)
      · rw [xset_ne (by omega), ← hcm]
        exact h3 p hp hm e he
      · by_cases hpe : pcs e = 0
        · have e0 := pcs_0 e he hpe
          subst e0
          intro hvE hpc hs
          obtain ⟨n1, n2⟩ := tg_mom (S := S) (e := 0) hA m0 m1 m2 hs
          have hi := sc_is A S (nb p 0) (nb p 1) (nb p 2) 0
          have hlt : tg A S (nb p 0) (nb p 1) (nb p 2) 0 < p := by
            have hcp := cod_nb hp
            unfold tg
            rw [e0_id, e0_id, e0_id] at hi ⊢
            unfold cod at hcp ⊢
            omega
          have hcl := cm_lt A n2 hlt
          have hcl2 := cm_lt A n2 n1
          have hn := nb_cod (x := tE A S 0 0 (nb p 0) - sc A S (nb p 0) (nb p 1) (nb p 2) 0) (y := tE A S 0 1 (nb p 1) - sc A S (nb p 0) (nb p 1) (nb p 2) 0) (z := tE A S 0 2 (nb p 2) - sc A S (nb p 0) (nb p 1) (nb p 2) 0) (by rw [e0_id]; omega) (by rw [e0_id]; omega) (by rw [e0_id]; omega)
          have := hnew _ n1 n2 (by omega)
          rw [hn.1, hn.2.1, hn.2.2] at this
          rw [hpe, Nat.sub_zero, xset_eq]
          exact ⟨by omega, this⟩
        · by_cases hpk : pcs e ≤ K
          · exact av_done hA m0 m1 m2 h4' (by omega)
          · intro _ w2
            exact absurd w2 hpk
      · have eix : (K : Int) * (xset σ 14 w 9 6) + (q : Int) = ((K * cm A 4096 + q : Nat) : Int) := by
          rw [xset_ne (by omega), h6]
          push_cast
          rfl
        rw [eix, Int.toNat_natCast]
        refine ⟨by omega, fun s hs => ?_⟩
        rw [xup_cu] at hs
        subst hs
        rw [show xset σ 14 (cu w (K * cm A 4096 + q) v) 9 6 = (cm A 4096 : Int) by rw [xset_ne (by omega)]; exact h6]
        have nxt : ∀ fl' : Int, (fl' = 0 ∨ fl' = 1) → (fl' = 0 → fl = 0 ∧ 0 < K ∧ v = w ((K - 1) * cm A 4096 + q)) → KK ((K : Int), fl', (q : Int) + 1, xset σ 14 (cu w (K * cm A 4096 + q) v)) := fun fl' a1 a2 => hK _ ⟨q + 1, _, fl', by rw [Int.natCast_succ], by omega, a1, fun j hj => by rw [cu_app, if_neg (by omega)]; exact hold j hj, fun p' hp' hm' hlt' => by
            rw [cu_app]
            by_cases e1 : cm A p' = q
            · have : p' = p := cm_inj _ hm' hm (by omega)
              subst this
              rw [if_pos (by omega)]
              exact hv
            · rw [if_neg (by omega)]
              exact hnew p' hp' hm' (by omega), fun z => ⟨(a2 z).2.1, fun p' hp' hm' hlt' => by
            obtain ⟨b1, b2, b3⟩ := a2 z
            have hmul : (K - 1 + 1) * cm A 4096 = (K - 1) * cm A 4096 + cm A 4096 := Nat.succ_mul _ _
            rw [show K - 1 + 1 = K by omega] at hmul
            rw [cu_app]
            by_cases e1 : cm A p' = q
            · rw [if_pos (by omega), b3, hold _ (by omega), e1]
            · rw [if_neg (by omega)]
              exact (hfz b1).2 p' hp' hm' (by omega)⟩⟩ (by show 469 - ((q : Int) + 1).toNat < 469 - ((q : Int)).toNat; omega)
        refine ⟨⟨by omega, by omega⟩, fun z => nxt fl hfl (fun zf => absurd (hfz zf).1 (by omega)), fun z => ?_⟩
        have hmul : (K - 1 + 1) * cm A 4096 = (K - 1) * cm A 4096 + cm A 4096 := Nat.succ_mul _ _
        rw [show K - 1 + 1 = K by omega] at hmul
        have eix2 : ((K : Int) - 1) * (cm A 4096 : Int) + (q : Int) = (((K - 1) * cm A 4096 + q : Nat) : Int) := by
          rw [show (K : Int) - 1 = ((K - 1 : Nat) : Int) by omega]
          push_cast
          rfl
        rw [eix2, Int.toNat_natCast, xset_eq, cu_app, if_neg (by omega)]
        have hprev : SPN A S (K - 1) (nb p 0) (nb p 1) (nb p 2) (w ((K - 1) * cm A 4096 + q)) := by
          have := h4.2.2.2.2.1 (K - 1) (by omega) p hp hm
          rw [hold _ (by omega), ← hcm]
          exact this
        refine ⟨by omega, jlcmp_rng _ _, fun z2 => nxt fl hfl (fun zf => ⟨zf, (hfz zf).1, (jlcmp_0 hv.rngL hprev.rngL).mp z2⟩), fun z2 => nxt 1 (Or.inr rfl) (fun zf => absurd zf (by omega))⟩
  unfold vX2_findSpans
  refine ⟨⟨by omega, by omega⟩, fun z => main 0 (Or.inl ⟨rfl, by omega⟩), fun z => main 1 (Or.inr ⟨rfl, by omega⟩)⟩
