/-! the reference's plans: small methods -/
noncomputable def am (b : xS) (g : Nat) : Nat := if (g : Int) < b 3 0 then (b g 0).toNat else 0
noncomputable def pj (b : xS) (g x : Nat) : Nat := if (g : Int) < b 3 0 ∧ b g 2 ≠ 2 then x else 0
noncomputable def lyI (b : xS) (g : Nat) : Int := if (g : Int) < b 3 0 ∧ b g 2 ≠ 2 then 0 else 1
theorem am_in {T : Int} {b : xS} (hw : WFt T b) (g : Nat) : am b g ≤ 12 ∧ ((g : Int) < b 3 0 → (am b g : Int) = b g 0) ∧ (¬ (g : Int) < b 3 0 → am b g = 0) ∧ (((g : Int) < b 3 0 ∧ b g 2 ≠ 2) → pa b g = am b g) := by
  unfold am pa
  by_cases h : (g : Int) < b 3 0
  · have hr := hw.row h
    unfold RowOK at hr
    simp only [if_pos h]
    refine ⟨by omega, fun _ => by omega, fun q => absurd h q, fun q => by rw [if_pos q]⟩
  · simp only [if_neg h]
    exact ⟨by omega, fun q => absurd q h, fun _ => by simp, fun q => absurd q.1 h⟩
def BK (σ b : xS) : Prop := MB (σ 21) b ∧ WF b ∧ ∀ g, g < 3 → σ 31 g = (am b g : Int) ∧ σ 32 g = lyI b g
theorem BK.congr {σ σ' b : xS} (h : BK σ b) (h21 : σ' 21 = σ 21) (h31 : σ' 31 = σ 31) (h32 : σ' 32 = σ 32) : BK σ' b := by
  unfold BK
  rw [h21, h31, h32]
  exact h
/-- sand above behind a turn, and behind the seconds -/
noncomputable def uT (b : xS) (e g x : Nat) : Nat := if (g : Int) < b 3 0 ∧ Nat.testBit e (b g 5).toNat = true then am b g - x else x
theorem uT_le {b : xS} {e g x : Nat} (h : x ≤ am b g) : uT b e g x ≤ am b g := by
  unfold uT
  split <;> omega
theorem uT_pj {T : Int} {b : xS} (hw : WFt T b) {e g x : Nat} (hg : g < 3) : pj b g (uT b e g x) = tE (pA b) (pS b) e g (pj b g x) := by
  have hp := p_in hw g
  have ha := am_in hw g
  have eA : pA b g = pa b g := by unfold pA; exact f3_g (pa b) g hg
  have eS : pS b g = pz b g := by unfold pS; exact f3_g (pz b) g hg
  unfold pj tE uT
  rw [eA, eS]
  by_cases hl : (g : Int) < b 3 0 ∧ b g 2 ≠ 2
  · have hz := hp.2.2.2.2.2 hl
    have e5 : (b g 5).toNat = pz b g := by omega
    simp only [if_pos hl]
    rw [e5, ha.2.2.2 hl]
    by_cases hb : Nat.testBit e (pz b g) = true
    · rw [if_pos ⟨hl.1, hb⟩, if_pos hb]
    · rw [if_neg (fun q => hb q.2), if_neg hb]
  · simp only [if_neg hl]
    rw [(hp.2.2.2.2.1 hl).1]
    split <;> rfl
theorem bitj {e s : Nat} (he : e < 8) (hs : s < 32) : jand (jshr (e : Int) (s : Int)) 1 = if Nat.testBit e s = true then 1 else 0 := by
  have hd := Nat.div_le_self e (2 ^ s)
  rw [jshr_nat hs (by omega), show (1 : Int) = ((1 : Nat) : Int) from rfl, jand_nat (by omega), show (1 : Nat) = 2 ^ 1 - 1 from rfl, Nat.and_two_pow_sub_one_eq_mod]
  have hb : Nat.testBit e s = true ↔ e / 2 ^ s % 2 = 1 := by
    rw [Nat.testBit_eq_decide_div_mod_eq, decide_eq_true_iff]
  by_cases h : Nat.testBit e s = true
  · rw [if_pos h]
    have := hb.mp h
    omega
  · rw [if_neg h]
    have : ¬ e / 2 ^ s % 2 = 1 := fun q => h (hb.mpr q)
    omega
def sgn (s : Nat) : Int := if s = 0 then -1 else (s : Int)
theorem mk_chooses {σ b : xS} {e : Nat} {a : Nat → Nat} {x0 x1 x2 : Int} {Q : xS → Prop} (hB : BK σ b) (he : e < 8) (h0 : x0 = (a 0 : Int)) (h1 : x1 = (a 1 : Int)) (h2 : x2 = (a 2 : Int)) (ha : ∀ g, g < 3 → a g ≤ am b g) (k : ∀ t : Nat → Nat, (∀ g, g < 3 → t g ≤ am b g ∧ pj b g (t g) = tE (pA b) (pS b) e g (pj b g (a g)) - sc (pA b) (pS b) (pj b 0 (a 0)) (pj b 1 (a 1)) (pj b 2 (a 2)) e) → ∀ h : Nat → Int, (∀ g, g < 3 → h g = (t g : Int)) → Q (xset (xset σ 20 (cu (σ 20) 20 (sgn (sc (pA b) (pS b) (pj b 0 (a 0)) (pj b 1 (a 1)) (pj b 2 (a 2)) e)))) 33 h)) : vX5_chooses (e : Int) x0 x1 x2 σ Q := by
  obtain ⟨hm, hw, h31⟩ := hB
  have hn := hw.1
  unfold vX5_chooses
  intro s1 e1 s2 e2 s3 e3 s4 e4
  have es : s4 = xset (xset σ 20 (cu (σ 20) 20 (-1))) 33 (cu (cu (cu (σ 33) 0 x0) 1 x1) 2 x2) := by
    rw [e4, e3, e2, e1, xup_set σ, xup_cu, xup_cu, xup_set, xset_ne (by omega), xset_comm _ 33 20 _ _ (by omega)]
    rfl
  subst es
  clear e1 e2 e3 e4
  have hv12 : ∀ g, g < 3 → (fun g => pj b g (uT b e g (a g))) g < 16 := fun g hg => by
    have := uT_le (e := e) (ha g hg)
    have := (am_in hw g).1
    show pj b g (uT b e g (a g)) < 16
    unfold pj
    split <;> omega
  have hsec : stq (fun g => pj b g (uT b e g (a g))) 3 = sc (pA b) (pS b) (pj b 0 (a 0)) (pj b 1 (a 1)) (pj b 2 (a 2)) e := by
    show stp (stp (stp 0 (pj b 0 (uT b e 0 (a 0)))) (pj b 1 (uT b e 1 (a 1)))) (pj b 2 (uT b e 2 (a 2))) = secN _ _ _
    rw [uT_pj hw (by omega), uT_pj hw (by omega), uT_pj hw (by omega)]
    rfl
  refine mu_of (fun v => ∃ (q : Nat) (h : Nat → Int), v = ((e : Int), (q : Int), xset (xset σ 20 (cu (σ 20) 20 (sgn (stq (fun g => pj b g (uT b e g (a g))) q)))) 33 h) ∧ q ≤ 3 ∧ ∀ g, g < 3 → h g = if g < q then (uT b e g (a g) : Int) else (a g : Int)) (fun v => 3 - v.2.1.toNat) ?_ _ ⟨0, _, rfl, by omega, fun g hg => by
    rw [if_neg (by omega)]
    rcases (show g = 0 ∨ g = 1 ∨ g = 2 by omega) with rfl | rfl | rfl
    · rw [cu_app, if_neg (by omega), cu_app, if_neg (by omega), cu_app, if_pos rfl, h0]
    · rw [cu_app, if_neg (by omega), cu_app, if_pos rfl, h1]
    · rw [cu_app, if_pos rfl, h2]⟩
  rintro K _ ⟨q, h, rfl, hq, hh⟩ hK
  have hsl := stq_lt hv12 q hq
  have m21 : MB ((xset (xset σ 20 (cu (σ 20) 20 (sgn (stq (fun g => pj b g (uT b e g (a g))) q)))) 33 h) 21) b := by rw [xset_ne (by omega), xset_ne (by omega)]; exact hm
  unfold vX5_chooses_30
  refine ⟨⟨by omega, by omega⟩, fun r => ?_, fun r => ?_⟩
  · have hq3 : q = 3 := by omega
    subst hq3
    rw [hsec] at hsl ⊢
    have hi := sc_is (pA b) (pS b) (pj b 0 (a 0)) (pj b 1 (a 1)) (pj b 2 (a 2)) e
    rw [← uT_pj hw (by omega), ← uT_pj hw (by omega), ← uT_pj hw (by omega)] at hi
    generalize hs : sc (pA b) (pS b) (pj b 0 (a 0)) (pj b 1 (a 1)) (pj b 2 (a 2)) e = s at *
    have hle : ∀ g, g < 3 → 0 < pj b g (uT b e g (a g)) → 0 < s ∧ s ≤ pj b g (uT b e g (a g)) := fun g hg hpos => by
      rcases (show g = 0 ∨ g = 1 ∨ g = 2 by omega) with rfl | rfl | rfl <;> omega
    refine mu_of (fun v => ∃ (q : Nat) (h : Nat → Int) (t : Nat → Nat), v = ((q : Int), xset (xset σ 20 (cu (σ 20) 20 (sgn s))) 33 h) ∧ q ≤ 3 ∧ (∀ g, g < 3 → h g = if g < q then (t g : Int) else (uT b e g (a g) : Int)) ∧ ∀ g, g < q → t g ≤ am b g ∧ pj b g (t g) = pj b g (uT b e g (a g)) - s) (fun v => 3 - v.1.toNat) ?_ _ ⟨0, h, fun _ => 0, rfl, by omega, fun g hg => by rw [if_neg (by omega), hh g hg, if_pos hg], fun g hg => absurd hg (Nat.not_lt_zero g)⟩
    rintro K2 _ ⟨q, h2, t, rfl, hq, hh2, ht⟩ hK2
    unfold vX5_chooses_165
    refine ⟨⟨by omega, by omega⟩, fun r2 => ?_, fun r2 => ⟨by omega, ?_⟩⟩
    · have hq3 : q = 3 := by omega
      subst hq3
      refine k t (fun g hg => ?_) h2 (fun g hg => by rw [hh2 g hg, if_pos hg])
      have := ht g hg
      rw [uT_pj hw hg] at this
      exact this
    · have hq3 : q < 3 := by omega
      have hul := uT_le (e := e) (ha q hq3)
      have hal := (am_in hw q).1
      have nxt : ∀ v : Nat, v ≤ am b q → pj b q v = pj b q (uT b e q (a q)) - s → ∀ y2 y3 : Int, y2 - y3 = (v : Int) → vX5_chooses_207 K2 Q (q : Int) (q : Int) y2 y3 (xset (xset σ 20 (cu (σ 20) 20 (sgn s))) 33 h2) := fun v hv1 hv2 y2 y3 hy => by
        unfold vX5_chooses_207
        refine ⟨by omega, fun s' hs' => ?_⟩
        rw [xup_cu, Int.toNat_natCast, hy] at hs'
        subst hs'
        refine hK2 _ ⟨q + 1, _, fun g => if g = q then v else t g, by rw [Int.natCast_succ], by omega, fun g hg => ?_, fun g hg => ?_⟩ (by show 3 - ((q : Int) + 1).toNat < 3 - ((q : Int)).toNat; omega)
        · rw [cu_app]
          by_cases e1 : g = q
          · rw [if_pos e1, if_pos (by omega)]
            show (v : Int) = ((if g = q then v else t g : Nat) : Int)
            rw [if_pos e1]
          · rw [if_neg e1, hh2 g hg]
            by_cases e2 : g < q
            · rw [if_pos e2, if_pos (by omega)]
              show (t g : Int) = ((if g = q then v else t g : Nat) : Int)
              rw [if_neg e1]
            · rw [if_neg e2, if_neg (by omega)]
        · show (if g = q then v else t g) ≤ am b g ∧ pj b g (if g = q then v else t g) = _
          by_cases e1 : g = q
          · rw [if_pos e1, e1]
            exact ⟨hv1, hv2⟩
          · rw [if_neg e1]
            exact ht g (by omega)
      have h33 : xset (xset σ 20 (cu (σ 20) 20 (sgn s))) 33 h2 33 ((q : Int).toNat) = (uT b e q (a q) : Int) := by
        rw [xset_eq, Int.toNat_natCast, hh2 q hq3, if_neg (by omega)]
      have h32 : xset (xset σ 20 (cu (σ 20) 20 (sgn s))) 33 h2 32 ((q : Int).toNat) = lyI b q := by
        rw [xset_ne (by omega), xset_ne (by omega), Int.toNat_natCast]
        exact (h31 q hq3).2
      have h20 : xset (xset σ 20 (cu (σ 20) 20 (sgn s))) 33 h2 20 20 = sgn s := by
        rw [xset_ne (by omega), xset_eq, cu_app, if_pos rfl]
      have hlp := hle q hq3
      rw [h33, h32, h20]
      unfold vX5_chooses_206
      unfold lyI
      by_cases hl : (q : Int) < b 3 0 ∧ b q 2 ≠ 2
      · have epj : ∀ w, pj b q w = w := fun w => by unfold pj; rw [if_pos hl]
        rw [epj] at hlp
        rw [if_pos hl]
        refine ⟨rng0, fun w => absurd rfl w, fun _ => ⟨⟨by omega, by omega⟩, fun z => nxt 0 (by omega) (by rw [epj, epj]; omega) _ _ (by omega), fun z => ?_⟩⟩
        have := hlp (by omega)
        refine nxt (uT b e q (a q) - s) (by omega) (by rw [epj, epj]) _ _ ?_
        unfold sgn
        rw [if_neg (by omega)]
        omega
      · have epj : ∀ w, pj b q w = 0 := fun w => by unfold pj; rw [if_neg hl]
        rw [if_neg hl]
        refine ⟨⟨by omega, by omega⟩, fun _ => nxt (uT b e q (a q)) hul (by rw [epj]; omega) _ _ (by omega), fun w => absurd w (by omega)⟩
  · have hq3 : q < 3 := by omega
    have hul := uT_le (e := e) (ha q hq3)
    have hal := am_in hw q
    have haq := ha q hq3
    have hst : stq (fun g => pj b g (uT b e g (a g))) (q + 1) = stp (stq (fun g => pj b g (uT b e g (a g))) q) (pj b q (uT b e q (a q))) := rfl
    have hsp := stp_is (stq (fun g => pj b g (uT b e g (a g))) q) (pj b q (uT b e q (a q)))
    have hsl1 := stq_lt hv12 (q + 1) (by omega)
    generalize hS : stq (fun g => pj b g (uT b e g (a g))) q = S at *
    have nxt : ∀ v y2 : Int, y2 = (uT b e q (a q) : Int) → v = sgn (stq (fun g => pj b g (uT b e g (a g))) (q + 1)) → vX5_chooses_153 K Q (e : Int) (q : Int) v (xset (xset σ 20 (cu (σ 20) 20 (sgn S))) 33 (cu h q y2)) := fun v y2 hy hv => by
      unfold vX5_chooses_153
      intro s' hs'
      have e' : s' = xset (xset σ 20 (cu (σ 20) 20 (sgn (stq (fun g => pj b g (uT b e g (a g))) (q + 1))))) 33 (cu h q y2) := by
        rw [hs', hv, xset_comm _ 20 33 _ _ (by omega), xup_cu, xset_comm _ 33 20 _ _ (by omega)]
        congr 2
        funext j
        rw [cu_app, cu_app, cu_app]
        by_cases hj : j = 20
        · rw [if_pos hj, if_pos hj]
        · rw [if_neg hj, if_neg hj, if_neg hj]
      subst e'
      refine hK _ ⟨q + 1, _, by rw [Int.natCast_succ], by omega, fun g hg => ?_⟩ (by show 3 - ((q : Int) + 1).toNat < 3 - ((q : Int)).toNat; omega)
      rw [cu_app]
      by_cases e1 : g = q
      · rw [if_pos e1, if_pos (by omega), hy, e1]
      · rw [if_neg e1, hh g hg]
        by_cases e2 : g < q
        · rw [if_pos e2, if_pos (by omega)]
        · rw [if_neg e2, if_neg (by omega)]
    have b95 : ∀ y2 : Int, y2 = (uT b e q (a q) : Int) → vX5_chooses_95 K Q (e : Int) (q : Int) (q : Int) y2 (xset (xset σ 20 (cu (σ 20) 20 (sgn S))) 33 h) := fun y2 hy => by
      unfold vX5_chooses_95
      refine ⟨by omega, fun s' hs' => ⟨by omega, ?_⟩⟩
      rw [xup_cu, Int.toNat_natCast] at hs'
      subst hs'
      have h33 : xset (xset σ 20 (cu (σ 20) 20 (sgn S))) 33 (cu h q y2) 33 ((q : Int).toNat) = (uT b e q (a q) : Int) := by
        rw [xset_eq, Int.toNat_natCast, cu_app, if_pos rfl, hy]
      have h32 : xset (xset σ 20 (cu (σ 20) 20 (sgn S))) 33 (cu h q y2) 32 ((q : Int).toNat) = lyI b q := by
        rw [xset_ne (by omega), xset_ne (by omega), Int.toNat_natCast]
        exact (h31 q hq3).2
      have h20 : xset (xset σ 20 (cu (σ 20) 20 (sgn S))) 33 (cu h q y2) 20 20 = sgn S := by
        rw [xset_ne (by omega), xset_eq, cu_app, if_pos rfl]
      rw [h33, h32, h20]
      unfold vX5_chooses_149
      rw [h20]
      unfold lyI
      by_cases hl : (q : Int) < b 3 0 ∧ b q 2 ≠ 2
      · have epj : ∀ w, pj b q w = w := fun w => by unfold pj; rw [if_pos hl]
        rw [epj] at hst hsp
        rw [if_pos hl]
        refine ⟨rng0, fun w => absurd rfl w, fun _ => ⟨⟨by omega, by omega⟩, fun z => nxt _ _ hy ?_, fun z => ⟨?_, fun z2 => nxt _ _ hy ?_, fun z2 => ⟨fun z3 => nxt _ _ hy ?_, fun z3 => nxt _ _ hy ?_⟩⟩⟩⟩
        · rw [hst]
          congr 1
          omega
        · unfold sgn
          split <;> constructor <;> omega
        · unfold sgn at z2
          have hS0 : S = 0 := by
            by_cases h0 : S = 0
            · exact h0
            · rw [if_neg h0] at z2
              omega
          rw [hst]
          unfold sgn
          rw [if_neg (by omega)]
          omega
        · unfold sgn at z2 z3 ⊢
          have hS0 : ¬ S = 0 := fun h0 => by rw [if_pos h0] at z2; exact z2 rfl
          rw [if_neg hS0] at z3 ⊢
          have e2 : stp S (uT b e q (a q)) = S := by omega
          rw [hst, e2, if_neg hS0]
        · unfold sgn at z2 z3 ⊢
          have hS0 : ¬ S = 0 := fun h0 => by rw [if_pos h0] at z2; exact z2 rfl
          rw [if_neg hS0] at z3
          rw [hst, if_neg (by omega)]
          omega
      · have epj : ∀ w, pj b q w = 0 := fun w => by unfold pj; rw [if_neg hl]
        rw [epj] at hst hsp
        rw [if_neg hl]
        refine ⟨⟨by omega, by omega⟩, fun _ => nxt _ _ hy ?_, fun w => absurd w (by omega)⟩
        rw [hst]
        congr 1
    have hhq : h q = (a q : Int) := by rw [hh q hq3, if_neg (by omega)]
    have b88 : ¬ ((q : Int) < b 3 0 ∧ Nat.testBit e (b q 5).toNat = true) → vX5_chooses_88 K Q (e : Int) (q : Int) (q : Int) (xset (xset σ 20 (cu (σ 20) 20 (sgn S))) 33 h) := fun hb => by
      unfold vX5_chooses_88
      refine ⟨by omega, b95 _ ?_⟩
      rw [xset_eq, Int.toNat_natCast, hhq]
      unfold uT
      rw [if_neg hb]
    unfold vX5_of
    refine ⟨by omega, i32_rng _, ?_⟩
    rw [show xset (xset σ 20 (cu (σ 20) 20 (sgn S))) 33 h 21 21 = b 3 0 from m21.n 0 (by omega)]
    by_cases hlt : (q : Int) < b 3 0
    · have hro := hw.root hlt
      have e5 : xset (xset σ 20 (cu (σ 20) 20 (sgn S))) 33 h 21 ((7 * (q : Int) + 6).toNat) = (((b q 5).toNat : Nat) : Int) := by
        have := m21.1 q 5 hlt hq3 (by omega)
        rw [show (7 * (q : Int) + 6).toNat = 7 * q + pip 5 by show _ = 7 * q + 6; omega, this]
        omega
      rw [e5, bitj he (by omega)]
      refine ⟨fun z => b88 (fun w => z (by rw [if_pos w.2])), fun z => ⟨⟨by omega, by omega⟩, fun w => absurd hlt (by omega), fun _ => ⟨by omega, b95 _ ?_⟩⟩⟩
      have hb : Nat.testBit e (b q 5).toNat = true := by
        by_cases hb : Nat.testBit e (b q 5).toNat = true
        · exact hb
        · rw [if_neg hb] at z
          omega
      rw [xset_ne (show (31 : Nat) ≠ 33 by omega), xset_ne (show (31 : Nat) ≠ 20 by omega), Int.toNat_natCast, (h31 q hq3).1, xset_eq, hhq]
      unfold uT
      rw [if_pos ⟨hlt, hb⟩]
      omega
    · exact ⟨fun z => b88 (fun w => hlt w.1), fun z => ⟨⟨by omega, by omega⟩, fun _ => b88 (fun w => hlt w.1), fun w => absurd w (by omega)⟩⟩
