/-! the class's planner: small methods -/
theorem f3_0 (a b c : Nat) : f3 a b c 0 = a := rfl
theorem f3_1 (a b c : Nat) : f3 a b c 1 = b := rfl
theorem f3_2 (a b c : Nat) : f3 a b c 2 = c := rfl
theorem units {x y z : Nat} (hx : x < 16) (hy : y < 16) (hz : z < 16) (g : Nat) (hg : g < 3) : jand (jshr (cod x y z : Int) (4 * (g : Int))) 15 = ((f3 x y z g : Nat) : Int) := by
  have hc := cod_lt hx hy hz
  have hd := Nat.div_le_self (cod x y z) (2 ^ (4 * g))
  rw [show 4 * (g : Int) = ((4 * g : Nat) : Int) by push_cast; rfl, jshr_nat (by omega) (by omega), show (15 : Int) = ((15 : Nat) : Int) from rfl, jand_nat (by omega), cod_unit x y z hx hy hz g hg]
  rcases (show g = 0 ∨ g = 1 ∨ g = 2 by omega) with rfl | rfl | rfl <;> rfl
theorem f3_lt {x y z n : Nat} (hx : x < n) (hy : y < n) (hz : z < n) (g : Nat) (hg : g < 3) : f3 x y z g < n := by
  rcases (show g = 0 ∨ g = 1 ∨ g = 2 by omega) with rfl | rfl | rfl
  · exact hx
  · exact hy
  · exact hz
def mfl (A v : Nat → Nat) : Nat → Int
  | 0 => 0
  | q + 1 => if v q = 0 ∧ 0 < A q then 1 else mfl A v q
theorem mfl_is (A v : Nat → Nat) : ∀ q, (mfl A v q = 0 ∨ mfl A v q = 1) ∧ (mfl A v q = 1 ↔ ∃ g, g < q ∧ v g = 0 ∧ 0 < A g)
  | 0 => ⟨Or.inl rfl, ⟨fun h => absurd (show (0 : Int) = 1 from h) (by decide), fun ⟨g, h, _⟩ => absurd h (Nat.not_lt_zero g)⟩⟩
  | q + 1 => by
    obtain ⟨h1, h2⟩ := mfl_is A v q
    unfold mfl
    by_cases h : v q = 0 ∧ 0 < A q
    · rw [if_pos h]
      exact ⟨Or.inr rfl, ⟨fun _ => ⟨q, by omega, h⟩, fun _ => rfl⟩⟩
    · rw [if_neg h]
      refine ⟨h1, h2.trans ⟨fun ⟨g, a, b⟩ => ⟨g, by omega, b⟩, fun ⟨g, a, b⟩ => ⟨g, ?_, b⟩⟩⟩
      by_cases hg : g = q
      · subst hg
        exact absurd b h
      · omega
theorem momV_of {A v : Nat → Nat} : momV A v ↔ (∀ g, g < 3 → v g ≤ A g) ∧ ∃ g, g < 3 ∧ v g = 0 ∧ 0 < A g := by
  unfold momV
  constructor
  · rintro ⟨⟨h0, h1, h2⟩, h⟩
    refine ⟨fun g hg => ?_, ?_⟩
    · rcases (show g = 0 ∨ g = 1 ∨ g = 2 by omega) with rfl | rfl | rfl
      · exact h0
      · exact h1
      · exact h2
    · rcases h with h | h | h
      · exact ⟨0, by omega, h⟩
      · exact ⟨1, by omega, h⟩
      · exact ⟨2, by omega, h⟩
  · rintro ⟨h, g, hg, h2⟩
    refine ⟨⟨h 0 (by omega), h 1 (by omega), h 2 (by omega)⟩, ?_⟩
    rcases (show g = 0 ∨ g = 1 ∨ g = 2 by omega) with rfl | rfl | rfl
    · exact Or.inl h2
    · exact Or.inr (Or.inl h2)
    · exact Or.inr (Or.inr h2)
theorem jor01 : ∀ x : Int, (x = 0 ∨ x = 1) → jor x 0 = x ∧ jor x 1 = 1 := by
  rintro x (rfl | rfl)
  · exact ⟨by decide, by decide⟩
  · exact ⟨by decide, by decide⟩
theorem ok_isM {σ : xS} {A : Nat → Nat} {p : Nat} {Q : Int → xS → Prop} (hA : AOK A) (h91 : σ 9 1 = (cod (A 0) (A 1) (A 2) : Int)) (hp : p < 4096) (k1 : isM A p = true → Q 1 σ) (k0 : ¬ isM A p = true → Q 0 σ) : vX2_isMoment (p : Int) σ Q := by
  have hu : ∀ g : Nat, g < 3 → jand (jshr (p : Int) (4 * (g : Int))) 15 = ((nb p g : Nat) : Int) := fun g hg => by
    have := units (nb_lt p 0) (nb_lt p 1) (nb_lt p 2) g hg
    rw [cod_nb hp] at this
    rw [this]
    rcases (show g = 0 ∨ g = 1 ∨ g = 2 by omega) with rfl | rfl | rfl <;> rfl
  have hv : ∀ g : Nat, g < 3 → jand (jshr (σ 9 1) (4 * (g : Int))) 15 = ((A g : Nat) : Int) := fun g hg => by
    rw [h91, units (by omega) (by omega) (by omega) g hg]
    rcases (show g = 0 ∨ g = 1 ∨ g = 2 by omega) with rfl | rfl | rfl <;> rfl
  have hA' : ∀ g, g < 3 → A g ≤ 12 := fun g hg => by
    rcases (show g = 0 ∨ g = 1 ∨ g = 2 by omega) with rfl | rfl | rfl <;> omega
  unfold vX2_isMoment
  refine mu_of (fun a => ∃ q : Nat, a = ((p : Int), mfl A (nb p) q, (q : Int), σ) ∧ q ≤ 3 ∧ ∀ g, g < q → nb p g ≤ A g) (fun a => (3 - a.2.2.1).toNat) ?_ _ ⟨0, rfl, by omega, fun g hg => absurd hg (Nat.not_lt_zero g)⟩
  rintro K _ ⟨q, rfl, hq, hle⟩ hK
  obtain ⟨f1, f2⟩ := mfl_is A (nb p) q
  unfold vX2_isMoment_4
  refine ⟨⟨by omega, by omega⟩, fun r => ⟨f1, ?_⟩, fun r => ?_⟩
  · have hq3 : q = 3 := by omega
    subst hq3
    rcases f1 with f | f
    · rw [f]
      refine k0 (fun h => ?_)
      have := f2.mpr (momV_of.mp ((isM_iff A p).mp h)).2
      omega
    · rw [f]
      exact k1 ((isM_iff A p).mpr (momV_of.mpr ⟨hle, f2.mp f⟩))
  · have hq3 : q < 3 := by omega
    have hn := nb_lt p q
    have ha := hA' q hq3
    unfold vX2_unitsOf
    dsimp only
    rw [hu q hq3, hv q hq3]
    obtain ⟨j0, j1⟩ := jor01 _ f1
    rw [j0, j1]
    have nxt : ∀ x, nb p q ≤ A q → x = mfl A (nb p) (q + 1) → K ((p : Int), x, (q : Int) + 1, σ) := fun x hx he => hK _ ⟨q + 1, by rw [he]; push_cast; rfl, by omega, fun g hg => by
      by_cases e : g = q
      · rw [e]; exact hx
      · exact hle g (by omega)⟩ (by show (3 - ((q : Int) + 1)).toNat < (3 - (q : Int)).toNat; omega)
    refine ⟨⟨by omega, by omega⟩, ⟨by omega, by omega⟩, fun z => ⟨fun z2 => nxt _ (by omega) ?_, fun z2 => ⟨fun z3 => nxt _ (by omega) ?_, fun z3 => nxt _ (by omega) ?_⟩⟩, fun z => ?_⟩
    · rw [mfl, if_neg (by omega)]
    · rw [mfl, if_neg (by omega)]
    · rw [mfl, if_pos (by omega)]
    · exact k0 (fun h => by have := (momV_of.mp ((isM_iff A p).mp h)).1 q hq3; omega)
def stq (v : Nat → Nat) : Nat → Nat
  | 0 => 0
  | q + 1 => stp (stq v q) (v q)
theorem stq_lt {v : Nat → Nat} (hv : ∀ g, g < 3 → v g < 16) : ∀ q, q ≤ 3 → stq v q < 16
  | 0, _ => by unfold stq; omega
  | q + 1, h => by
    have h1 := stq_lt hv q (by omega)
    have h2 := hv q (by omega)
    unfold stq stp
    split <;> omega
theorem ok_sec {σ : xS} {x y z : Nat} {Q : Int → xS → Prop} (hx : x < 16) (hy : y < 16) (hz : z < 16) (k : Q (secN x y z : Int) σ) : vX2_secondsToRunOut (cod x y z : Int) σ Q := by
  have hv := f3_lt hx hy hz
  unfold vX2_secondsToRunOut
  refine mu_of (fun a => ∃ q : Nat, a = ((cod x y z : Int), (stq (f3 x y z) q : Int), (q : Int), σ) ∧ q ≤ 3) (fun a => (3 - a.2.2.1).toNat) ?_ _ ⟨0, rfl, by omega⟩
  rintro K _ ⟨q, rfl, hq⟩ hK
  have hl := stq_lt hv q hq
  unfold vX2_secondsToRunOut_4 vX2_unitsOf
  refine ⟨⟨by omega, by omega⟩, fun r => ?_, fun r => ?_⟩
  · have hq3 : q = 3 := by omega
    subst hq3
    exact k
  · have hq3 : q < 3 := by omega
    have hn := hv q hq3
    dsimp only
    rw [units hx hy hz q hq3]
    have nxt : ∀ w : Nat, w = stq (f3 x y z) (q + 1) → K ((cod x y z : Int), (w : Int), (q : Int) + 1, σ) := fun w he => hK _ ⟨q + 1, by rw [he]; push_cast; rfl, by omega⟩ (by show (3 - ((q : Int) + 1)).toNat < (3 - (q : Int)).toNat; omega)
    refine ⟨⟨by omega, by omega⟩, fun z1 => nxt _ ?_, fun z1 => ⟨⟨by omega, by omega⟩, fun z2 => nxt _ ?_, fun z2 => ⟨fun z3 => nxt _ ?_, fun z3 => nxt _ ?_⟩⟩⟩
    · rw [stq, stp, if_neg (by omega)]
    · rw [stq, stp, if_pos (by omega)]
    · rw [stq, stp, if_neg (by omega)]
    · rw [stq, stp, if_pos (by omega)]
def cdq (v : Nat → Nat) : Nat → Nat
  | 0 => 0
  | q + 1 => cdq v q + v q * 2 ^ (4 * q)
theorem cdq_3 (v : Nat → Nat) : cdq v 3 = cod (v 0) (v 1) (v 2) := by
  show 0 + v 0 * 1 + v 1 * 16 + v 2 * 256 = _
  unfold cod
  omega
theorem cdq_lt {v : Nat → Nat} (hv : ∀ g, g < 3 → v g < 16) : ∀ q, q ≤ 3 → cdq v q < 2 ^ (4 * q)
  | 0, _ => by unfold cdq; omega
  | q + 1, h => by
    have h1 := cdq_lt hv q (by omega)
    have h2 : v q * 2 ^ (4 * q) ≤ 15 * 2 ^ (4 * q) := Nat.mul_le_mul_right _ (by have := hv q (by omega); omega)
    have e : 2 ^ (4 * (q + 1)) = 16 * 2 ^ (4 * q) := by rw [show 4 * (q + 1) = 4 + 4 * q by omega, Nat.pow_add]
    unfold cdq
    omega
theorem cdq_or {v : Nat → Nat} (hv : ∀ g, g < 3 → v g < 16) {q : Nat} (hq : q < 3) : cdq v q ||| (v q * 2 ^ (4 * q)) = cdq v (q + 1) := by
  have h1 := cdq_lt hv q (by omega)
  rw [Nat.or_comm, Nat.mul_comm, ← Nat.two_pow_add_eq_or_of_lt h1, cdq, Nat.mul_comm]
  omega
theorem p4_le {q : Nat} (hq : q < 3) : 2 ^ (4 * q) ≤ 256 := by
  rcases (show q = 0 ∨ q = 1 ∨ q = 2 by omega) with rfl | rfl | rfl <;> decide
theorem ok_behind {σ : xS} {x y z s : Nat} {Q : Int → xS → Prop} (hx : x < 16) (hy : y < 16) (hz : z < 16) (hs : s < 16) (k : Q (cod (x - s) (y - s) (z - s) : Int) σ) : vX2_behind (cod x y z : Int) (s : Int) σ Q := by
  have hv := f3_lt hx hy hz
  have hw : ∀ g, g < 3 → (fun g => f3 x y z g - s) g < 16 := fun g hg => by have := hv g hg; show f3 x y z g - s < 16; omega
  unfold vX2_behind
  refine mu_of (fun a => ∃ q : Nat, a = ((cod x y z : Int), (s : Int), (cdq (fun g => f3 x y z g - s) q : Int), (q : Int), σ) ∧ q ≤ 3) (fun a => (3 - a.2.2.2.1).toNat) ?_ _ ⟨0, rfl, by omega⟩
  rintro K _ ⟨q, rfl, hq⟩ hK
  unfold vX2_behind_4 vX2_unitsOf
  refine ⟨⟨by omega, by omega⟩, fun r => ?_, fun r => ?_⟩
  · have hq3 : q = 3 := by omega
    subst hq3
    rw [cdq_3]
    exact k
  · have hq3 : q < 3 := by omega
    have hn := hv q hq3
    have h1 := cdq_lt hw q (by omega)
    have h4 := p4_le hq3
    have h2 : (f3 x y z q - s) * 2 ^ (4 * q) ≤ 15 * 2 ^ (4 * q) := Nat.mul_le_mul_right _ (by omega)
    dsimp only
    rw [units hx hy hz q hq3]
    refine ⟨⟨by omega, by omega⟩, fun t ht => ?_⟩
    have e : jmax 0 ((f3 x y z q : Int) - (s : Int)) = ((f3 x y z q - s : Nat) : Int) := by unfold jmax; split <;> omega
    rw [e, show 4 * (q : Int) = ((4 * q : Nat) : Int) by push_cast; rfl, jshl_nat (by omega) (by omega), jor_nat (by omega) (by omega), cdq_or hw hq3] at ht
    rw [ht]
    exact hK _ ⟨q + 1, by push_cast; rfl, by omega⟩ (by show (3 - ((q : Int) + 1)).toNat < (3 - (q : Int)).toNat; omega)
/-- what a way says -/
def uU (A S : Nat → Nat) (j : Nat) : Prop := ∃ g, g < 3 ∧ 0 < A g ∧ S g = j
abbrev sc (A S : Nat → Nat) (x y z e : Nat) : Nat := secN (tE A S e 0 x) (tE A S e 1 y) (tE A S e 2 z)
theorem sc_is (A S : Nat → Nat) (x y z e : Nat) : (0 < tE A S e 0 x → sc A S x y z e ≤ tE A S e 0 x) ∧ (0 < tE A S e 1 y → sc A S x y z e ≤ tE A S e 1 y) ∧ (0 < tE A S e 2 z → sc A S x y z e ≤ tE A S e 2 z) ∧ ((sc A S x y z e = 0 ∧ tE A S e 0 x = 0 ∧ tE A S e 1 y = 0 ∧ tE A S e 2 z = 0) ∨ (0 < sc A S x y z e ∧ (sc A S x y z e = tE A S e 0 x ∨ sc A S x y z e = tE A S e 1 y ∨ sc A S x y z e = tE A S e 2 z))) := secN_is _ _ _
abbrev tg (A S : Nat → Nat) (x y z e : Nat) : Nat := cod (tE A S e 0 x - sc A S x y z e) (tE A S e 1 y - sc A S x y z e) (tE A S e 2 z - sc A S x y z e)
def WY (A S : Nat → Nat) (x y z e : Nat) (w : Int) : Prop := (¬ vE (uU A S) e → w = 0) ∧ (vE (uU A S) e → sc A S x y z e = 0 → w = 0) ∧ (vE (uU A S) e → 0 < sc A S x y z e → w = ((16 * cm A (tg A S x y z e) + sc A S x y z e : Nat) : Int))
theorem tE_le {A S : Nat → Nat} {e g x : Nat} (h : x ≤ A g) : tE A S e g x ≤ A g := by
  unfold tE
  split <;> omega
theorem tg_mom {A S : Nat → Nat} {x y z e : Nat} (hA : AOK A) (hx : x ≤ A 0) (hy : y ≤ A 1) (hz : z ≤ A 2) (hs : 0 < sc A S x y z e) : tg A S x y z e < 4096 ∧ isM A (tg A S x y z e) = true := by
  have t0 : tE A S e 0 x ≤ A 0 := tE_le hx
  have t1 : tE A S e 1 y ≤ A 1 := tE_le hy
  have t2 : tE A S e 2 z ≤ A 2 := tE_le hz
  have hi := sc_is A S x y z e
  have n := nb_cod (x := tE A S e 0 x - sc A S x y z e) (y := tE A S e 1 y - sc A S x y z e) (z := tE A S e 2 z - sc A S x y z e) (by omega) (by omega) (by omega)
  refine ⟨cod_lt (by omega) (by omega) (by omega), (isM_iff A _).mpr ?_⟩
  unfold momV tg
  rw [n.1, n.2.1, n.2.2]
  omega
theorem ok_wayFrom {σ : xS} {A S : Nat → Nat} {x y z e : Nat} {Q : Int → xS → Prop} (hA : AOK A) (hx : x ≤ A 0) (hy : y ≤ A 1) (hz : z ≤ A 2) (he : e < 8) (hv : vE (uU A S) e) (h91 : σ 9 1 = (cod (A 0) (A 1) (A 2) : Int)) (h10 : σ 10 e = (cod (mkG A S e 0) (mkG A S e 1) (mkG A S e 2) : Int)) (h12 : ∀ p, p < 4096 → isM A p = true → σ 12 p = (cm A p : Int)) (k : ∀ w, WY A S x y z e w → Q w σ) : vX2_wayFrom (cod x y z : Int) (e : Int) σ Q := by
  have t0 : tE A S e 0 x ≤ A 0 := tE_le hx
  have t1 : tE A S e 1 y ≤ A 1 := tE_le hy
  have t2 : tE A S e 2 z ≤ A 2 := tE_le hz
  have hA' := hA
  have hi := secN_is (tE A S e 0 x) (tE A S e 1 y) (tE A S e 2 z)
  have hc := cod_lt (x := x) (y := y) (z := z) (by omega) (by omega) (by omega)
  have hcA := cod_lt (x := A 0) (y := A 1) (z := A 2) (by omega) (by omega) (by omega)
  have ht := turn_cod (S := S) (e := e) hA hx hy hz
  unfold vX2_wayFrom
  refine ⟨by omega, fun t htt => ?_⟩
  rw [Int.toNat_natCast, h10, h91, jandn_nat (by omega), jand_nat (by omega), jand_nat (by omega)] at htt
  have et : t = (cod (tE A S e 0 x) (tE A S e 1 y) (tE A S e 2 z) : Int) := by
    rw [htt]
    omega
  rw [et]
  refine ok_sec (by omega) (by omega) (by omega) ⟨⟨by omega, by omega⟩, fun q => ?_, fun q => ?_⟩
  · have hs : 0 < sc A S x y z e := by
      show 0 < secN _ _ _
      omega
    obtain ⟨m1, m2⟩ := tg_mom (S := S) (e := e) hA hx hy hz hs
    have mc := cm_lt A m2 m1
    have m469 := cm_469 hA'
    refine ok_behind (by omega) (by omega) (by omega) (by omega) ⟨⟨by omega, show ((tg A S x y z e : Nat) : Int) < ((4096 : Nat) : Int) from Int.ofNat_lt.mpr m1⟩, ?_⟩
    have e12 : σ 12 ((cod (tE A S e 0 x - secN (tE A S e 0 x) (tE A S e 1 y) (tE A S e 2 z)) (tE A S e 1 y - secN (tE A S e 0 x) (tE A S e 1 y) (tE A S e 2 z)) (tE A S e 2 z - secN (tE A S e 0 x) (tE A S e 1 y) (tE A S e 2 z)) : Int).toNat) = (cm A (tg A S x y z e) : Int) := by
      rw [Int.toNat_natCast]
      exact h12 _ m1 m2
    rw [e12, show (4 : Int) = ((4 : Nat) : Int) from rfl, jshl_nat (by omega) (by omega), jor_nat (by omega) (by omega)]
    refine k _ ⟨fun w => absurd hv w, fun _ w => by omega, fun _ _ => ?_⟩
    have hlt : secN (tE A S e 0 x) (tE A S e 1 y) (tE A S e 2 z) < 2 ^ 4 := by omega
    rw [Nat.mul_comm, ← Nat.two_pow_add_eq_or_of_lt hlt]
  · refine k _ ⟨fun _ => rfl, fun _ _ => rfl, fun _ w => ?_⟩
    have : sc A S x y z e = 0 := by
      show secN _ _ _ = 0
      omega
    omega
