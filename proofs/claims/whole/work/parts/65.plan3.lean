/-! the class's planner: the tables are made -/
def usq (A S : Nat → Nat) : Nat → Nat
  | 0 => 0
  | q + 1 => if 0 < A q then usq A S q ||| 2 ^ S q else usq A S q
theorem usq_is {A S : Nat → Nat} (hS : ∀ g, g < 3 → S g < 3) : ∀ q, q ≤ 3 → usq A S q < 8 ∧ ∀ j, j < 3 → (Nat.testBit (usq A S q) j = true ↔ ∃ g, g < q ∧ 0 < A g ∧ S g = j)
  | 0, _ => ⟨by unfold usq; omega, fun j _ => ⟨fun h => by unfold usq at h; rw [Nat.zero_testBit] at h; exact absurd h (by decide), fun ⟨g, h, _⟩ => absurd h (Nat.not_lt_zero g)⟩⟩
  | q + 1, h => by
    obtain ⟨h1, h2⟩ := usq_is (A := A) hS q (by omega)
    have hs := hS q (by omega)
    unfold usq
    by_cases ha : 0 < A q
    · rw [if_pos ha]
      have hp : 2 ^ S q < 2 ^ 3 := Nat.pow_lt_pow_right (by omega) hs
      refine ⟨Nat.or_lt_two_pow (n := 3) h1 hp, fun j hj => ?_⟩
      rw [Nat.testBit_or, Nat.testBit_two_pow, Bool.or_eq_true, h2 j hj, decide_eq_true_iff]
      constructor
      · rintro (⟨g, a, b⟩ | e)
        · exact ⟨g, by omega, b⟩
        · exact ⟨q, by omega, ha, e⟩
      · rintro ⟨g, a, b, c⟩
        by_cases e : g = q
        · subst e
          exact Or.inr c
        · exact Or.inl ⟨g, by omega, b, c⟩
    · rw [if_neg ha]
      refine ⟨h1, fun j hj => (h2 j hj).trans ⟨fun ⟨g, a, b⟩ => ⟨g, by omega, b⟩, fun ⟨g, a, b, c⟩ => ⟨g, ?_, b, c⟩⟩⟩
      by_cases e : g = q
      · subst e
        exact absurd b ha
      · omega
theorem bit_and : ∀ e, e < 8 → ∀ s, s < 3 → (e &&& 2 ^ s = 0 ↔ Nat.testBit e s = false) := by decide +kernel
theorem ok_zero {σ : xS} {Q : xS → Prop} (k : ∀ h : Nat → Int, (∀ j, j < 8 → h j = 0) → Q (xset σ 10 h)) : vJ7_fill_53178 0 σ Q := by
  unfold vJ7_fill_53178
  refine mu_of (fun a => ∃ (q : Nat) (h : Nat → Int), a = (0, (q : Int), 8, xset σ 10 h) ∧ q ≤ 8 ∧ ∀ j, j < q → h j = 0) (fun a => (8 - a.2.1).toNat) ?_ _ ⟨0, σ 10, by rw [xset_self]; rfl, by omega, fun j hj => absurd hj (Nat.not_lt_zero j)⟩
  rintro K _ ⟨q, h, rfl, hq, h1⟩ hK
  unfold vJ7_fill_53178_5
  refine ⟨⟨by omega, by omega⟩, ⟨by omega, by omega⟩, fun r => ?_, fun r => ⟨by omega, fun s hs => ?_⟩⟩
  · have hq8 : q = 8 := by omega
    subst hq8
    exact k h h1
  · rw [xup_cu, Int.toNat_natCast] at hs
    subst hs
    refine hK _ ⟨q + 1, _, rfl, by omega, fun j hj => ?_⟩ (by show (8 - ((q : Int) + 1)).toNat < (8 - (q : Int)).toNat; omega)
    rw [cu_app]
    by_cases e : j = q
    · rw [if_pos e]
    · rw [if_neg e]
      exact h1 j (by omega)
theorem ok_turned {σ : xS} {b : xS} {Q : xS → Prop} {T : Int} (hw : WFt T b) (h : CB (σ 8) b) (h91 : σ 9 1 = (cod (pa b 0) (pa b 1) (pa b 2) : Int)) (k : ∀ f g : Nat → Int, (∀ j, j ≠ 3 → f j = σ 9 j) → T0 (xset (xset σ 9 f) 10 g) (pA b) (pS b) → Q (xset (xset σ 9 f) 10 g)) : vX2_findTurned σ Q := by
  have hn := hw.1
  have hpz : ∀ g, g < 3 → pz b g < 3 := fun g hg => by have := (p_in hw g).2.1; omega
  have hmk : ∀ e g, g < 3 → mkG (pa b) (pz b) e g < 16 := fun e g _ => by unfold mkG; split <;> omega
  have hu : ∀ g : Nat, g < 3 → jand (jshr (cod (pa b 0) (pa b 1) (pa b 2) : Int) (4 * (g : Int))) 15 = ((pa b g : Nat) : Int) := fun g hg => by
    rw [units (by have := (p_in hw 0).1; omega) (by have := (p_in hw 1).1; omega) (by have := (p_in hw 2).1; omega) g hg, f3_g (pa b) g hg]
  unfold vX2_findTurned
  refine ok_zero (fun h0 hz0 s hs => ?_)
  have es : s = xset (xset σ 9 (cu (σ 9) 3 0)) 10 h0 := by
    rw [hs, xup_set, xset_ne (by omega), xset_comm _ _ _ _ _ (by omega)]
    rfl
  subst es
  refine mu_of (fun a => ∃ (q : Nat) (f g : Nat → Int), a = ((q : Int), xset (xset σ 9 f) 10 g) ∧ (q : Int) ≤ b 3 0 ∧ (∀ j, j ≠ 3 → f j = σ 9 j) ∧ f 3 = (usq (pa b) (pz b) q : Int) ∧ ∀ e, e < 8 → g e = (cdq (mkG (pa b) (pz b) e) q : Int)) (fun a => (3 - a.1).toNat) ?_ _ ⟨0, _, _, rfl, by omega, fun j hj => by rw [cu_app, if_neg hj], by rw [cu_app, if_pos rfl]; rfl, fun e he => hz0 e he⟩
  rintro K _ ⟨q, f, g, rfl, hq, hf, hf3, hg⟩ hK
  have c8 : CB ((xset (xset σ 9 f) 10 g) 8) b := by rw [xset_ne (by omega), xset_ne (by omega)]; exact h
  have nxt : ∀ f' g' : Nat → Int, (q : Int) < b 3 0 → (∀ j, j ≠ 3 → f' j = σ 9 j) → f' 3 = (usq (pa b) (pz b) (q + 1) : Int) → (∀ e, e < 8 → g' e = (cdq (mkG (pa b) (pz b) e) (q + 1) : Int)) → K ((q : Int) + 1, xset (xset σ 9 f') 10 g') := fun f' g' hlt a1 a2 a3 => hK _ ⟨q + 1, f', g', rfl, by omega, a1, a2, a3⟩ (by show (3 - ((q : Int) + 1)).toNat < (3 - (q : Int)).toNat; omega)
  unfold vX2_findTurned_15 vX0_glasses vX2_unitsOf
  dsimp only
  rw [show (xset (xset σ 9 f) 10 g) 8 57 = b 3 0 from c8.n 0 (by omega), xset_at2 _ _ _ _ _ (by omega), hf 1 (by omega), h91]
  refine ⟨⟨by omega, by omega⟩, ⟨by omega, by omega⟩, fun r => ?_, fun r => ?_⟩
  · have ext : ∀ e, cdq (mkG (pa b) (pz b) e) q = cod (mkG (pa b) (pz b) e 0) (mkG (pa b) (pz b) e 1) (mkG (pa b) (pz b) e 2) := fun e => by
      rw [← cdq_3, cdq_ext (n := q) (fun g hg2 => by
        unfold mkG
        rw [if_neg (fun w => by have := ((p_in hw g).2.2.2.2.1 (fun q2 => by omega)).1; omega)]) 3 (by omega)]
    have u3 : usq (pa b) (pz b) q = usq (pa b) (pz b) 3 := by
      have z : ∀ g : Nat, q ≤ g → ¬ 0 < pa b g := fun g hg2 w => by
        have := ((p_in hw g).2.2.2.2.1 (fun q2 => by omega)).1
        omega
      rcases (show q = 1 ∨ q = 2 ∨ q = 3 by omega) with rfl | rfl | rfl
      · show usq (pa b) (pz b) 1 = if 0 < pa b 2 then _ else if 0 < pa b 1 then _ else _
        rw [if_neg (z 2 (by omega)), if_neg (z 1 (by omega))]
      · show usq (pa b) (pz b) 2 = if 0 < pa b 2 then _ else _
        rw [if_neg (z 2 (by omega))]
      · rfl
    obtain ⟨u8, ub⟩ := usq_is (A := pa b) hpz 3 (by omega)
    refine k f g hf ⟨?_, ⟨usq (pa b) (pz b) 3, u8, ?_, fun j hj => ?_⟩, fun e he => ?_⟩
    · rw [xset_at2 _ _ _ _ _ (by omega), hf 1 (by omega), h91]
      rfl
    · rw [xset_at2 _ _ _ _ _ (by omega), hf3, u3]
    · rw [ub j hj]
      unfold uU
      constructor
      · rintro ⟨g2, a1, a2, a3⟩
        refine ⟨g2, a1, ?_, ?_⟩
        · unfold pA; rw [f3_g (pa b) g2 a1]; exact a2
        · unfold pS; rw [f3_g (pz b) g2 a1]; exact a3
      · rintro ⟨g2, a1, a2, a3⟩
        unfold pA at a2
        unfold pS at a3
        rw [f3_g (pa b) g2 a1] at a2
        rw [f3_g (pz b) g2 a1] at a3
        exact ⟨g2, a1, a2, a3⟩
    · rw [xset_eq, hg e he, ext e]
      rfl
  · have hq1 : (q : Int) < b 3 0 := by omega
    have hq3 : q < 3 := by omega
    have hp := p_in hw q
    rw [hu q hq3]
    refine ⟨⟨by omega, by omega⟩, fun z => ?_, fun z => ?_⟩
    · have z0 : ¬ 0 < pa b q := by omega
      refine nxt f g hq1 hf ?_ (fun e he => ?_)
      · rw [usq, if_neg z0]; exact hf3
      · rw [cdq, hg e he]
        unfold mkG
        rw [if_neg (fun w => z0 w.1), Nat.zero_mul, Nat.add_zero]
    · have z0 : 0 < pa b q := by omega
      have hlive : (q : Int) < b 3 0 ∧ b q 2 ≠ 2 := by
        by_cases w : (q : Int) < b 3 0 ∧ b q 2 ≠ 2
        · exact w
        · have := (hp.2.2.2.2.1 w).1
          omega
      obtain ⟨_, e5, _⟩ := hp.2.2.2.2.2 hlive
      have hz3 := hpz q hq3
      have h2s : 2 ^ pz b q < 2 ^ 3 := Nat.pow_lt_pow_right (by omega) hz3
      obtain ⟨u8, ub⟩ := usq_is (A := pa b) hpz q (by omega)
      refine okR' c8 q 5 hq3 hq1 (by omega) rfl rfl (fun s hs => ?_)
      rw [xset_at2 _ _ _ _ _ (by omega), hf3, ← e5] at hs
      rw [← e5]
      have ebit : jshl 1 (pz b q : Int) = ((2 ^ pz b q : Nat) : Int) := by
        rw [show (1 : Int) = ((1 : Nat) : Int) from rfl, jshl_nat (by omega) (by omega), Nat.one_mul]
      rw [ebit, jor_nat (by omega) (by omega), xup_2 _ _ _ _ _ _ _ (by omega)] at hs
      subst hs
      rw [ebit]
      refine mu_of (fun a => ∃ (e : Nat) (g' : Nat → Int), a = ((q : Int), ((2 ^ pz b q : Nat) : Int), (e : Int), xset (xset σ 9 (cu f 3 ((usq (pa b) (pz b) q ||| 2 ^ pz b q : Nat) : Int))) 10 g') ∧ e ≤ 8 ∧ ∀ e', e' < 8 → g' e' = if e' < e then (cdq (mkG (pa b) (pz b) e') (q + 1) : Int) else (cdq (mkG (pa b) (pz b) e') q : Int)) (fun a => (8 - a.2.2.1).toNat) ?_ _ ⟨0, g, rfl, by omega, fun e' he' => by rw [if_neg (by omega)]; exact hg e' he'⟩
      rintro K2 _ ⟨e, g', rfl, he, hg'⟩ hK2
      unfold vX2_findTurned_56
      refine ⟨⟨by omega, by omega⟩, fun r2 => ?_, fun r2 => ⟨i32_rng _, ?_⟩⟩
      · refine nxt _ _ hq1 (fun j hj => by rw [cu_app, if_neg hj]; exact hf j hj) ?_ (fun e' he' => ?_)
        · rw [cu_app, if_pos rfl, usq, if_pos z0]
        · rw [hg' e' he', if_pos (by omega)]
      · have he8 : e < 8 := by omega
        have ba := bit_and e he8 (pz b q) hz3
        rw [jand_nat (by omega)]
        have nxt2 : ∀ g2 : Nat → Int, (∀ e', e' < 8 → g2 e' = if e' < e + 1 then (cdq (mkG (pa b) (pz b) e') (q + 1) : Int) else (cdq (mkG (pa b) (pz b) e') q : Int)) → K2 ((q : Int), ((2 ^ pz b q : Nat) : Int), (e : Int) + 1, xset (xset σ 9 (cu f 3 ((usq (pa b) (pz b) q ||| 2 ^ pz b q : Nat) : Int))) 10 g2) := fun g2 h2 => hK2 _ ⟨e + 1, g2, rfl, by omega, h2⟩ (by show (8 - ((e : Int) + 1)).toNat < (8 - (e : Int)).toNat; omega)
        refine ⟨fun zb => ?_, fun zb => ⟨by omega, fun t ht s hs => ?_⟩⟩
        · have hb : Nat.testBit e (pz b q) = false := ba.mp (by omega)
          refine nxt2 g' (fun e' he' => ?_)
          rw [hg' e' he']
          by_cases c1 : e' = e
          · subst c1
            rw [if_neg (by omega), if_pos (by omega), cdq]
            unfold mkG
            rw [if_neg (fun w => by rw [hb] at w; exact absurd w.2 (by decide)), Nat.zero_mul, Nat.add_zero]
          · by_cases c2 : e' < e
            · rw [if_pos c2, if_pos (by omega)]
            · rw [if_neg c2, if_neg (by omega)]
        · have hb : Nat.testBit e (pz b q) = true := by
            cases hbb : Nat.testBit e (pz b q) with
            | false => exact absurd (ba.mpr hbb) (by omega)
            | true => rfl
          have hm15 : mkG (pa b) (pz b) e q = 15 := by unfold mkG; rw [if_pos ⟨z0, hb⟩]
          have l1 := cdq_lt (hmk e) q (by omega)
          have h4 := p4_le hq3
          rw [Int.toNat_natCast, xset_eq, hg' e he8, if_neg (by omega), show (15 : Int) = ((15 : Nat) : Int) from rfl, show 4 * (q : Int) = ((4 * q : Nat) : Int) by push_cast; rfl, jshl_nat (by omega) (by omega), jor_nat (by omega) (by omega), ← hm15, cdq_or (hmk e) hq3] at ht
          rw [ht, Int.toNat_natCast, xup_cu] at hs
          subst hs
          refine nxt2 _ (fun e' he' => ?_)
          rw [cu_app]
          by_cases c1 : e' = e
          · subst c1
            rw [if_pos rfl, if_pos (by omega)]
          · rw [if_neg c1, hg' e' he']
            by_cases c2 : e' < e
            · rw [if_pos c2, if_pos (by omega)]
            · rw [if_neg c2, if_neg (by omega)]
theorem ok_number {σ : xS} {A : Nat → Nat} {Q : xS → Prop} (hA : AOK A) (h91 : σ 9 1 = (cod (A 0) (A 1) (A 2) : Int)) (k : ∀ f h m : Nat → Int, (∀ j, j ≠ 6 → f j = σ 9 j) → f 6 = (cm A 4096 : Int) → T1 (xset (xset (xset σ 9 f) 11 h) 12 m) A → Q (xset (xset (xset σ 9 f) 11 h) 12 m)) : vX2_numberMoments σ Q := by
  have hA' := hA
  have hfull := cod_lt (x := A 0) (y := A 1) (z := A 2) (by omega) (by omega) (by omega)
  have h469 := cm_469 hA
  unfold vX2_numberMoments
  intro s hs
  have es : s = xset (xset (xset σ 9 (cu (σ 9) 6 0)) 11 (σ 11)) 12 (σ 12) := by
    rw [hs]
    have e1 : xset (xset σ 9 (cu (σ 9) 6 0)) 11 (σ 11) = xset σ 9 (cu (σ 9) 6 0) := by
      have := xset_self (xset σ 9 (cu (σ 9) 6 0)) 11
      rw [xset_ne (show (11 : Nat) ≠ 9 by omega)] at this
      exact this
    have e2 : xset (xset σ 9 (cu (σ 9) 6 0)) 12 (σ 12) = xset σ 9 (cu (σ 9) 6 0) := by
      have := xset_self (xset σ 9 (cu (σ 9) 6 0)) 12
      rw [xset_ne (show (12 : Nat) ≠ 9 by omega)] at this
      exact this
    rw [e1, e2]
    rfl
  subst es
  refine mu_of (fun a => ∃ (q : Nat) (f h m : Nat → Int), a = ((q : Int), xset (xset (xset σ 9 f) 11 h) 12 m) ∧ q ≤ cod (A 0) (A 1) (A 2) + 1 ∧ (∀ j, j ≠ 6 → f j = σ 9 j) ∧ f 6 = (cm A q : Int) ∧ ∀ p, p < q → isM A p = true → h (cm A p) = (p : Int) ∧ m p = (cm A p : Int)) (fun a => 4096 - a.1.toNat) ?_ _ ⟨0, _, _, _, rfl, by omega, fun j hj => by rw [cu_app, if_neg hj], by rw [cu_app, if_pos rfl]; rfl, fun p hp => absurd hp (Nat.not_lt_zero p)⟩
  rintro K _ ⟨q, f, h, m, rfl, hq, hf, hf6, hm⟩ hK
  have a9 : ∀ j, xset (xset (xset σ 9 f) 11 h) 12 m 9 j = f j := fun j => by rw [xset_ne (by omega), xset_ne (by omega), xset_eq]
  have hcq := cm_le A (show q ≤ 4096 by omega)
  unfold vX2_numberMoments_7
  dsimp only
  rw [a9, hf 1 (by omega), h91]
  refine ⟨⟨by omega, by omega⟩, ⟨by omega, by omega⟩, fun r => ?_, fun r => ?_⟩
  · have hqe : q = cod (A 0) (A 1) (A 2) + 1 := by omega
    have hcm : cm A q = cm A 4096 := by
      by_cases hlt : cm A q < cm A 4096
      · obtain ⟨p, hp1, hp2, hp3⟩ := cm_of A (m := cm A q) hlt
        have := isM_le hp1 hp2
        have := cm_lt A hp2 (show p < q by omega)
        omega
      · omega
    refine k f h m hf (by rw [hf6, hcm]) (fun p hp hp2 => ?_)
    have := isM_le hp hp2
    have := hm p (by omega) hp2
    rw [xset_ne (by omega), xset_eq, xset_eq]
    exact this
  · have hq4 : q < 4096 := by omega
    have nxt : ∀ f' h' m' : Nat → Int, (∀ j, j ≠ 6 → f' j = σ 9 j) → f' 6 = (cm A (q + 1) : Int) → (∀ p, p < q + 1 → isM A p = true → h' (cm A p) = (p : Int) ∧ m' p = (cm A p : Int)) → K ((q : Int) + 1, xset (xset (xset σ 9 f') 11 h') 12 m') := fun f' h' m' a1 a2 a3 => hK _ ⟨q + 1, f', h', m', by rw [Int.natCast_succ], by omega, a1, a2, a3⟩ (by show 4096 - ((q : Int) + 1).toNat < 4096 - ((q : Int)).toNat; omega)
    refine ok_isM hA (by rw [a9, hf 1 (by omega), h91]) hq4 (fun hM => ⟨⟨by omega, by omega⟩, fun w => absurd w (by omega), fun _ => ?_⟩) (fun hM => ⟨rng0, fun _ => ?_, fun w => absurd rfl w⟩)
    · have hlt := cm_lt A hM hq4
      rw [a9, hf6]
      refine ⟨⟨by omega, by omega⟩, fun w => absurd w (by omega), fun _ => ⟨by omega, fun s1 hs1 => ⟨by omega, fun s2 hs2 s3 hs3 => ?_⟩⟩⟩
      have e1 : s1 = xset (xset (xset σ 9 f) 11 (cu h (cm A q) (q : Int))) 12 m := by
        rw [hs1, Int.toNat_natCast, xset_comm _ 11 12 _ _ (by omega), xup_cu, xset_comm _ 12 11 _ _ (by omega)]
      subst e1
      rw [xset_ne (by omega), xset_ne (by omega), xset_eq, hf6, Int.toNat_natCast, xup_cu] at hs2
      subst hs2
      have e3 : s3 = xset (xset (xset σ 9 (cu f 6 ((cm A q : Int) + 1))) 11 (cu h (cm A q) (q : Int))) 12 (cu m q (cm A q : Int)) := by
        rw [hs3, xset_ne (by omega), xset_ne (by omega), xset_eq, hf6]
        funext r
        by_cases r12 : r = 12
        · subst r12
          rw [xup_ne (by omega), xset_eq, xset_eq]
        · by_cases r11 : r = 11
          · subst r11
            rw [xup_ne (by omega), xset_ne (by omega), xset_eq, xset_ne (by omega), xset_eq]
          · by_cases r9 : r = 9
            · subst r9
              rw [xup_eq, xset_ne (by omega), xset_ne (by omega), xset_eq, xset_ne (by omega), xset_ne (by omega), xset_eq]
              rfl
            · rw [xup_ne r9, xset_ne r12, xset_ne r11, xset_ne r9, xset_ne r12, xset_ne r11, xset_ne r9]
      subst e3
      refine nxt _ _ _ (fun j hj => by rw [cu_app, if_neg hj]; exact hf j hj) ?_ (fun p hp hpM => ?_)
      · rw [cu_app, if_pos rfl, cm_s, if_pos hM]
        rfl
      · rw [cu_app, cu_app]
        by_cases e : p = q
        · subst e
          rw [if_pos rfl, if_pos rfl]
          exact ⟨rfl, rfl⟩
        · have hpl : p < q := by omega
          have := cm_lt A hpM hpl
          rw [if_neg (by omega), if_neg e]
          exact hm p hpl hpM
    · refine nxt f h m hf ?_ (fun p hp hpM => ?_)
      · rw [cm_s, if_neg hM]
        exact hf6
      · by_cases e : p = q
        · subst e
          exact absurd hpM hM
        · exact hm p (by omega) hpM
