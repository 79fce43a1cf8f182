/-! the class's planner: what it is made for, ways of a place -/
noncomputable def pa (b : xS) (g : Nat) : Nat := if (g : Int) < b 3 0 ∧ b g 2 ≠ 2 then (b g 0).toNat else 0
noncomputable def pz (b : xS) (g : Nat) : Nat := if (g : Int) < b 3 0 ∧ b g 2 ≠ 2 then (b g 5).toNat else 0
noncomputable def pv (b : xS) (g : Nat) : Nat := if (g : Int) < b 3 0 ∧ b g 2 ≠ 2 then (b g 1).toNat else 0
noncomputable def pA (b : xS) : Nat → Nat := f3 (pa b 0) (pa b 1) (pa b 2)
noncomputable def pS (b : xS) : Nat → Nat := f3 (pz b 0) (pz b 1) (pz b 2)
theorem p_in {T : Int} {b : xS} (hw : WFt T b) (g : Nat) : pa b g ≤ 12 ∧ pz b g ≤ g ∧ pv b g ≤ pa b g ∧ (pa b g = 0 → ¬ ((g : Int) < b 3 0 ∧ b g 2 ≠ 2)) ∧ (¬ ((g : Int) < b 3 0 ∧ b g 2 ≠ 2) → pa b g = 0 ∧ pz b g = 0 ∧ pv b g = 0) ∧ (((g : Int) < b 3 0 ∧ b g 2 ≠ 2) → (pa b g : Int) = b g 0 ∧ (pz b g : Int) = b g 5 ∧ (pv b g : Int) = b g 1) := by
  unfold pa pz pv
  by_cases h : (g : Int) < b 3 0 ∧ b g 2 ≠ 2
  · have hr := hw.row h.1
    have ho := hw.root h.1
    unfold RowOK at hr
    simp only [if_pos h]
    refine ⟨by omega, by omega, by omega, fun q => by omega, fun q => absurd h q, fun _ => ⟨by omega, by omega, by omega⟩⟩
  · simp only [if_neg h]
    exact ⟨by omega, by omega, by omega, fun _ => h, fun _ => by simp, fun q => absurd q h⟩
theorem pA_ok {T : Int} {b : xS} (hw : WFt T b) : AOK (pA b) := ⟨(p_in hw 0).1, (p_in hw 1).1, (p_in hw 2).1⟩
theorem f3_g (v : Nat → Nat) : ∀ g, g < 3 → f3 (v 0) (v 1) (v 2) g = v g := by
  intro g hg
  rcases (show g = 0 ∨ g = 1 ∨ g = 2 by omega) with rfl | rfl | rfl <;> rfl
theorem cdq_ext {v : Nat → Nat} {n : Nat} (hv : ∀ g, n ≤ g → v g = 0) : ∀ q, n ≤ q → cdq v q = cdq v n
  | 0, h => by rw [Nat.le_zero.mp h]
  | q + 1, h => by
    by_cases hq : n = q + 1
    · rw [hq]
    · rw [cdq, cdq_ext hv q (by omega), hv q (by omega)]
      omega
theorem lo_or {s a d : Nat} (ha : a < 4096) (hd : d < 4096) : (a + 4096 * s) ||| d = (a ||| d) + 4096 * s := by
  have h1 : a ||| d < 2 ^ 12 := Nat.or_lt_two_pow ha hd
  rw [Nat.add_comm a, show 4096 * s = 2 ^ 12 * s from rfl, Nat.two_pow_add_eq_or_of_lt (show a < 2 ^ 12 from ha), Nat.or_assoc, ← Nat.two_pow_add_eq_or_of_lt h1, Nat.add_comm]
theorem hi_or {s a t : Nat} (ha : a < 4096) : (a + 4096 * s) ||| (4096 * t) = a + 4096 * (s ||| t) := by
  rw [Nat.add_comm a, Nat.add_comm a]
  apply Nat.eq_of_testBit_eq
  intro i
  rw [Nat.testBit_or, show 4096 * s = 2 ^ 12 * s from rfl, show 4096 * t = 2 ^ 12 * t + 0 from rfl, show 4096 * (s ||| t) = 2 ^ 12 * (s ||| t) from rfl, Nat.testBit_two_pow_mul_add _ (show a < 2 ^ 12 from ha), Nat.testBit_two_pow_mul_add _ (show a < 2 ^ 12 from ha), Nat.testBit_two_pow_mul_add _ (show 0 < 2 ^ 12 by omega)]
  split
  · rw [Nat.zero_testBit, Bool.or_false]
  · rw [Nat.testBit_or]
noncomputable def shp (b : xS) : Nat := cod (pa b 0) (pa b 1) (pa b 2) + 4096 * cod (pz b 0) (pz b 1) (pz b 2)
theorem ok_shape {σ : xS} {b : xS} {Q : Int → xS → Prop} {T : Int} (hw : WFt T b) (h : CB (σ 8) b) (k : Q (shp b : Int) σ) : vX2_shapeOf σ Q := by
  have hn := hw.1
  have ha : ∀ g, g < 3 → pa b g < 16 := fun g _ => by have := (p_in hw g).1; omega
  have hz : ∀ g, g < 3 → pz b g < 16 := fun g hg => by have := (p_in hw g).2.1; omega
  unfold vX2_shapeOf
  refine mu_of (fun a => ∃ q : Nat, a = (((cdq (pa b) q + 4096 * cdq (pz b) q : Nat) : Int), (q : Int), σ) ∧ (q : Int) ≤ b 3 0) (fun a => (3 - a.2.1).toNat) ?_ _ ⟨0, rfl, by omega⟩
  rintro K _ ⟨q, rfl, hq⟩ hK
  have nxt : ∀ x : Int, (q : Int) < b 3 0 → x = ((cdq (pa b) (q + 1) + 4096 * cdq (pz b) (q + 1) : Nat) : Int) → K (x, (q : Int) + 1, σ) := fun x hlt he => hK _ ⟨q + 1, by rw [he]; rfl, by omega⟩ (by show (3 - ((q : Int) + 1)).toNat < (3 - (q : Int)).toNat; omega)
  unfold vX2_shapeOf_4 vX0_glasses
  dsimp only
  rw [show σ 8 57 = b 3 0 from h.n 0 (by omega)]
  refine ⟨⟨by omega, by omega⟩, ⟨by omega, by omega⟩, fun r => ?_, fun r => ?_⟩
  · have e : ∀ v : Nat → Nat, (∀ g : Nat, ¬ ((g : Int) < b 3 0 ∧ b g 2 ≠ 2) → v g = 0) → cdq v q = cod (v 0) (v 1) (v 2) := fun v hv => by
      rw [← cdq_3, cdq_ext (n := q) (fun g hg => hv g (fun q2 => by omega)) 3 (by omega)]
    rw [e (pa b) (fun g hg => ((p_in hw g).2.2.2.2.1 hg).1), e (pz b) (fun g hg => ((p_in hw g).2.2.2.2.1 hg).2.1)]
    exact k
  · have hq1 : (q : Int) < b 3 0 := by omega
    have hq3 : q < 3 := by omega
    have hr := hw.row hq1
    unfold RowOK at hr
    have hp := p_in hw q
    refine okR' h q 2 hq3 hq1 (by omega) rfl rfl ⟨⟨by omega, by omega⟩, fun z => nxt _ hq1 ?_, fun z => ?_⟩
    · obtain ⟨z1, z2, _⟩ := hp.2.2.2.2.1 (fun w => w.2 z)
      rw [cdq, cdq, z1, z2]
      simp
    · refine okR' h q 0 hq3 hq1 (by omega) rfl rfl (okR' h q 5 hq3 hq1 (by omega) rfl rfl (fun t ht => ?_))
      obtain ⟨e0, e5, _⟩ := hp.2.2.2.2.2 ⟨hq1, z⟩
      have l1 := cdq_lt ha q (by omega)
      have l2 := cdq_lt hz q (by omega)
      have h4 := p4_le hq3
      have m1 : pa b q * 2 ^ (4 * q) ≤ 15 * 2 ^ (4 * q) := Nat.mul_le_mul_right _ (by have := ha q hq3; omega)
      have m2 : pz b q * 2 ^ (4 * q) ≤ 15 * 2 ^ (4 * q) := Nat.mul_le_mul_right _ (by have := hz q hq3; omega)
      have e4 : 2 ^ (4 * (3 + q)) = 4096 * 2 ^ (4 * q) := by rw [show 4 * (3 + q) = 12 + 4 * q by omega, Nat.pow_add]
      have e5' : pz b q * 2 ^ (4 * (3 + q)) = 4096 * (pz b q * 2 ^ (4 * q)) := by rw [e4, Nat.mul_left_comm]
      rw [← e0, ← e5, show 4 * (q : Int) = ((4 * q : Nat) : Int) by push_cast; rfl, show 4 * (3 + (q : Int)) = ((4 * (3 + q) : Nat) : Int) by push_cast; rfl, jshl_nat (by omega) (by omega), jshl_nat (by omega) (by omega), jor_nat (by omega) (by omega), lo_or (by omega) (by omega), cdq_or ha hq3] at ht
      have l3 := cdq_lt ha (q + 1) (by omega)
      have h5 : 2 ^ (4 * (q + 1)) = 16 * 2 ^ (4 * q) := by rw [show 4 * (q + 1) = 4 + 4 * q by omega, Nat.pow_add]
      rw [jor_nat (by omega) (by omega), e5', hi_or (by omega), cdq_or hz hq3] at ht
      exact nxt _ hq1 ht
theorem ok_sand {σ : xS} {b : xS} {Q : Int → xS → Prop} {T : Int} (hw : WFt T b) (h : CB (σ 8) b) (k : Q (cod (pv b 0) (pv b 1) (pv b 2) : Int) σ) : vX2_sandAbove σ Q := by
  have hn := hw.1
  have ha : ∀ g, g < 3 → pv b g < 16 := fun g _ => by have := p_in hw g; omega
  unfold vX2_sandAbove
  refine mu_of (fun a => ∃ q : Nat, a = (((cdq (pv b) q : Nat) : Int), (q : Int), σ) ∧ (q : Int) ≤ b 3 0) (fun a => (3 - a.2.1).toNat) ?_ _ ⟨0, rfl, by omega⟩
  rintro K _ ⟨q, rfl, hq⟩ hK
  have nxt : ∀ x : Int, (q : Int) < b 3 0 → x = ((cdq (pv b) (q + 1) : Nat) : Int) → K (x, (q : Int) + 1, σ) := fun x hlt he => hK _ ⟨q + 1, by rw [he]; rfl, by omega⟩ (by show (3 - ((q : Int) + 1)).toNat < (3 - (q : Int)).toNat; omega)
  unfold vX2_sandAbove_4 vX0_glasses
  dsimp only
  rw [show σ 8 57 = b 3 0 from h.n 0 (by omega)]
  refine ⟨⟨by omega, by omega⟩, ⟨by omega, by omega⟩, fun r => ?_, fun r => ?_⟩
  · rw [← cdq_3, cdq_ext (v := pv b) (n := q) (fun g hg => ((p_in hw g).2.2.2.2.1 (fun q2 => by omega)).2.2) 3 (by omega)] at k
    exact k
  · have hq1 : (q : Int) < b 3 0 := by omega
    have hq3 : q < 3 := by omega
    have hr := hw.row hq1
    unfold RowOK at hr
    have hp := p_in hw q
    refine okR' h q 2 hq3 hq1 (by omega) rfl rfl ⟨⟨by omega, by omega⟩, fun z => nxt _ hq1 ?_, fun z => ?_⟩
    · obtain ⟨_, _, z1⟩ := hp.2.2.2.2.1 (fun w => w.2 z)
      rw [cdq, z1]
      simp
    · refine okR' h q 1 hq3 hq1 (by omega) rfl rfl (nxt _ hq1 ?_)
      obtain ⟨_, _, e1⟩ := hp.2.2.2.2.2 ⟨hq1, z⟩
      have l1 := cdq_lt ha q (by omega)
      have h4 := p4_le hq3
      have m1 : pv b q * 2 ^ (4 * q) ≤ 15 * 2 ^ (4 * q) := Nat.mul_le_mul_right _ (by have := ha q hq3; omega)
      rw [← e1, show 4 * (q : Int) = ((4 * q : Nat) : Int) by push_cast; rfl, jshl_nat (by omega) (by omega), jor_nat (by omega) (by omega), cdq_or ha hq3]
/-! the tables -/
def T0 (σ : xS) (A S : Nat → Nat) : Prop := σ 9 1 = (cod (A 0) (A 1) (A 2) : Int) ∧ (∃ us : Nat, us < 8 ∧ σ 9 3 = (us : Int) ∧ ∀ j, j < 3 → (Nat.testBit us j = true ↔ uU A S j)) ∧ ∀ e, e < 8 → σ 10 e = (cod (mkG A S e 0) (mkG A S e 1) (mkG A S e 2) : Int)
def T1 (σ : xS) (A : Nat → Nat) : Prop := ∀ p, p < 4096 → isM A p = true → σ 11 (cm A p) = (p : Int) ∧ σ 12 p = (cm A p : Int)
theorem T0.congr {σ σ' : xS} {A S : Nat → Nat} (h : T0 σ A S) (h1 : σ' 9 1 = σ 9 1) (h3 : σ' 9 3 = σ 9 3) (h10 : σ' 10 = σ 10) : T0 σ' A S := by
  unfold T0
  rw [h1, h3, h10]
  exact h
theorem T1.congr {σ σ' : xS} {A : Nat → Nat} (h : T1 σ A) (h11 : σ' 11 = σ 11) (h12 : σ' 12 = σ 12) : T1 σ' A := by
  unfold T1
  rw [h11, h12]
  exact h
theorem us_is : ∀ us, us < 8 → ∀ e, e < 8 → (e ^^^ (e &&& us) = 0 ↔ ∀ j, j < 3 → Nat.testBit e j = true → Nat.testBit us j = true) := by decide +kernel
theorem ok_findWays {σ : xS} {A S : Nat → Nat} {x y z pl : Nat} {Q : xS → Prop} (hA : AOK A) (hx : x ≤ A 0) (hy : y ≤ A 1) (hz : z ≤ A 2) (hpl : pl < 470) (h0 : T0 σ A S) (h1 : T1 σ A) (k : ∀ w : Nat → Int, (∀ e, e < 8 → WY A S x y z e (w (8 * pl + e))) → (∀ j, (j < 8 * pl ∨ 8 * pl + 8 ≤ j) → w j = σ 13 j) → Q (xset σ 13 w)) : vX2_findWays (pl : Int) (cod x y z : Int) σ Q := by
  obtain ⟨t1, ⟨us, hus, t3, hu⟩, t10⟩ := h0
  unfold vX2_findWays
  refine mu_of (fun a => ∃ (q : Nat) (w : Nat → Int), a = ((pl : Int), (cod x y z : Int), (q : Int), xset σ 13 w) ∧ q ≤ 8 ∧ (∀ e, e < q → WY A S x y z e (w (8 * pl + e))) ∧ (∀ j, (j < 8 * pl ∨ 8 * pl + 8 ≤ j) → w j = σ 13 j)) (fun a => (8 - a.2.2.1).toNat) ?_ _ ⟨0, σ 13, by rw [xset_self]; rfl, by omega, fun e he => absurd he (Nat.not_lt_zero e), fun _ _ => rfl⟩
  rintro K _ ⟨q, w, rfl, hq, hw1, hw2⟩ hK
  unfold vX2_findWays_2
  refine ⟨⟨by omega, by omega⟩, fun r => ?_, fun r => ⟨i32_rng _, ?_⟩⟩
  · have hq8 : q = 8 := by omega
    subst hq8
    exact k w hw1 hw2
  · have hq8 : q < 8 := by omega
    have ev : (jand (q : Int) (jxor (us : Int) (-1)) = 0) ↔ vE (uU A S) q := by
      rw [jandn_nat (by omega)]
      have := us_is us hus q hq8
      constructor
      · intro h j hj hb
        exact (hu j hj).mp (this.mp (by omega) j hj hb)
      · intro h
        have := this.mpr (fun j hj hb => (hu j hj).mpr (h j hj hb))
        omega
    have fin : ∀ v : Int, WY A S x y z q v → vX2_findWays_39 K Q (pl : Int) (cod x y z : Int) (q : Int) (((pl : Int) * 8) + (q : Int)) v (xset σ 13 w) := fun v hv => by
      unfold vX2_findWays_39
      refine ⟨by omega, fun s hs => ?_⟩
      rw [xup_cu, show ((pl : Int) * 8 + (q : Int)).toNat = 8 * pl + q by omega] at hs
      subst hs
      refine hK _ ⟨q + 1, _, by push_cast; rfl, by omega, fun e he => ?_, fun j hj => ?_⟩ (by show (8 - ((q : Int) + 1)).toNat < (8 - (q : Int)).toNat; omega)
      · rw [cu_app]
        by_cases e1 : e = q
        · subst e1
          rw [if_pos rfl]
          exact hv
        · rw [if_neg (by omega)]
          exact hw1 e (by omega)
      · rw [cu_app, if_neg (by omega)]
        exact hw2 j hj
    rw [show xset σ 13 w 9 3 = (us : Int) by rw [xset_ne (by omega)]; exact t3]
    refine ⟨fun z1 => fin 0 ⟨fun _ => rfl, fun z2 => absurd (ev.mpr z2) z1, fun z2 => absurd (ev.mpr z2) z1⟩, fun z1 => ?_⟩
    refine ok_wayFrom hA hx hy hz hq8 (ev.mp z1) ?_ ?_ (fun p hp hm => ?_) (fun v hv => fin v hv)
    · rw [xset_ne (by omega)]; exact t1
    · rw [xset_ne (by omega)]; exact t10 q hq8
    · rw [xset_ne (by omega)]; exact (h1 p hp hm).2
