/-! ways: a set of stacks is turned, then time passes until a glass runs out -/
def pcs (e : Nat) : Nat := e % 2 + e / 2 % 2 + e / 4 % 2
def tE (A S : Nat → Nat) (e g x : Nat) : Nat := if Nat.testBit e (S g) = true then A g - x else x
def vE (st : Nat → Prop) (e : Nat) : Prop := ∀ j, j < 3 → Nat.testBit e j = true → st j
def opt (A S : Nat → Nat) (b : Bool) (j g x : Nat) : Nat := if b = true then tnG A S j g x else x
theorem chs_b {st : Nat → Prop} {A S : Nat → Nat} {j : Nat} {P : Nat → Nat → Nat → Nat → Prop} {c x y z : Nat} : chs dnN st A S j P c x y z ↔ ∃ b : Bool, (b = true → st j) ∧ b.toNat ≤ c ∧ P (c - b.toNat) (opt A S b j 0 x) (opt A S b j 1 y) (opt A S b j 2 z) := by
  constructor
  · rintro (h | ⟨h1, c', h2, h3⟩)
    · exact ⟨false, fun q => absurd q (by decide), Nat.zero_le _, h⟩
    · unfold dnN at h2
      subst h2
      exact ⟨true, fun _ => h1, Nat.le_add_left 1 c', h3⟩
  · rintro ⟨b, h1, h2, h3⟩
    cases b with
    | false => exact Or.inl h3
    | true => exact Or.inr ⟨h1 rfl, c - 1, by unfold dnN; have : 1 ≤ c := h2; omega, h3⟩
def e8 (b0 b1 b2 : Bool) : Nat := b0.toNat + 2 * b1.toNat + 4 * b2.toNat
theorem e8_lt : ∀ b0 b1 b2 : Bool, e8 b0 b1 b2 < 8 := by decide
theorem e8_pcs : ∀ b0 b1 b2 : Bool, pcs (e8 b0 b1 b2) = b0.toNat + b1.toNat + b2.toNat := by decide
theorem e8_bit : ∀ b0 b1 b2 : Bool, Nat.testBit (e8 b0 b1 b2) 0 = b0 ∧ Nat.testBit (e8 b0 b1 b2) 1 = b1 ∧ Nat.testBit (e8 b0 b1 b2) 2 = b2 := by decide
theorem e8_of : ∀ e, e < 8 → ∃ b0 b1 b2 : Bool, e = e8 b0 b1 b2 := by decide
theorem tE_8 {A S : Nat → Nat} {g x : Nat} (hS : S g < 3) (b0 b1 b2 : Bool) : opt A S b0 0 g (opt A S b1 1 g (opt A S b2 2 g x)) = tE A S (e8 b0 b1 b2) g x := by
  obtain ⟨h0, h1, h2⟩ := e8_bit b0 b1 b2
  unfold tE opt tnG
  rcases (show S g = 0 ∨ S g = 1 ∨ S g = 2 by omega) with e | e | e <;> rw [e]
  · rw [h0]
    cases b0 <;> cases b1 <;> cases b2 <;> rfl
  · rw [h1]
    cases b0 <;> cases b1 <;> cases b2 <;> rfl
  · rw [h2]
    cases b0 <;> cases b1 <;> cases b2 <;> rfl
theorem chA_way {st : Nat → Prop} {A S : Nat → Nat} {P : Nat → Nat → Nat → Nat → Prop} (hS : ∀ g, g < 3 → S g < 3) {c x y z : Nat} : chA dnN st A S P c x y z ↔ ∃ e, e < 8 ∧ vE st e ∧ pcs e ≤ c ∧ P (c - pcs e) (tE A S e 0 x) (tE A S e 1 y) (tE A S e 2 z) := by
  unfold chA
  constructor
  · intro h
    obtain ⟨b2, s2, l2, h⟩ := chs_b.mp h
    obtain ⟨b1, s1, l1, h⟩ := chs_b.mp h
    obtain ⟨b0, s0, l0, h⟩ := chs_b.mp h
    rw [tE_8 (hS 0 (by omega)), tE_8 (hS 1 (by omega)), tE_8 (hS 2 (by omega))] at h
    obtain ⟨t0, t1, t2⟩ := e8_bit b0 b1 b2
    refine ⟨e8 b0 b1 b2, e8_lt _ _ _, fun j hj hb => ?_, by rw [e8_pcs]; omega, ?_⟩
    · rcases (show j = 0 ∨ j = 1 ∨ j = 2 by omega) with rfl | rfl | rfl
      · exact s0 (t0 ▸ hb)
      · exact s1 (t1 ▸ hb)
      · exact s2 (t2 ▸ hb)
    · rw [e8_pcs, show c - (b0.toNat + b1.toNat + b2.toNat) = c - b2.toNat - b1.toNat - b0.toNat by omega]
      exact h
  · rintro ⟨e, he, hv, hp, h⟩
    obtain ⟨b0, b1, b2, rfl⟩ := e8_of e he
    obtain ⟨t0, t1, t2⟩ := e8_bit b0 b1 b2
    rw [e8_pcs] at hp h
    refine chs_b.mpr ⟨b2, fun q => hv 2 (by omega) (t2.trans q), by omega, chs_b.mpr ⟨b1, fun q => hv 1 (by omega) (t1.trans q), by omega, chs_b.mpr ⟨b0, fun q => hv 0 (by omega) (t0.trans q), by omega, ?_⟩⟩⟩
    rw [tE_8 (hS 0 (by omega)), tE_8 (hS 1 (by omega)), tE_8 (hS 2 (by omega)), show c - b2.toNat - b1.toNat - b0.toNat = c - (b0.toNat + b1.toNat + b2.toNat) by omega]
    exact h
def stp (l v : Nat) : Nat := if 0 < v ∧ (l = 0 ∨ v < l) then v else l
def secN (x y z : Nat) : Nat := stp (stp (stp 0 x) y) z
theorem stp_is (l v : Nat) : (v = 0 → stp l v = l) ∧ (0 < v → l = 0 → stp l v = v) ∧ (0 < v → 0 < l → (stp l v ≤ v ∧ stp l v ≤ l ∧ (stp l v = v ∨ stp l v = l))) := by
  unfold stp
  split <;> omega
theorem secN_is (x y z : Nat) : (0 < x → secN x y z ≤ x) ∧ (0 < y → secN x y z ≤ y) ∧ (0 < z → secN x y z ≤ z) ∧ ((secN x y z = 0 ∧ x = 0 ∧ y = 0 ∧ z = 0) ∨ (0 < secN x y z ∧ (secN x y z = x ∨ secN x y z = y ∨ secN x y z = z))) := by
  have h1 := stp_is 0 x
  have h2 := stp_is (stp 0 x) y
  have h3 := stp_is (stp (stp 0 x) y) z
  unfold secN
  omega
theorem pRun_way {st : Nat → Prop} {A S : Nat → Nat} : ∀ r c x y z, pRun dnN st A S r c x y z ↔ 0 < secN x y z ∧ secN x y z ≤ r ∧ (secN x y z = r ∨ Can st A S (r - secN x y z) c (x - secN x y z) (y - secN x y z) (z - secN x y z))
  | 0, c, x, y, z => by
    constructor
    · exact fun h => False.elim h
    · rintro ⟨h1, h2, _⟩
      omega
  | r + 1, c, x, y, z => by
    have ih := pRun_way (st := st) (A := A) (S := S) r c (x - 1) (y - 1) (z - 1)
    have s1 := secN_is x y z
    have s2 := secN_is (x - 1) (y - 1) (z - 1)
    by_cases hone : x = 1 ∨ y = 1 ∨ z = 1
    · have e1 : secN x y z = 1 := by omega
      rw [e1]
      constructor
      · rintro ⟨_, h | ⟨_, h | h⟩⟩
        · exact ⟨by omega, by omega, Or.inr (Or.inl (Or.inl (Or.inl h)))⟩
        · exact ⟨by omega, by omega, Or.inl (by omega)⟩
        · exact ⟨by omega, by omega, Or.inr h⟩
      · rintro ⟨_, _, h | h⟩
        · exact ⟨by omega, Or.inr ⟨hone, Or.inl (by omega)⟩⟩
        · exact ⟨by omega, Or.inr ⟨hone, Or.inr h⟩⟩
    · by_cases hnz : 0 < x ∨ 0 < y ∨ 0 < z
      · have e1 : secN (x - 1) (y - 1) (z - 1) = secN x y z - 1 := by omega
        have e2 : 2 ≤ secN x y z := by omega
        rw [e1] at ih
        rw [show x - 1 - (secN x y z - 1) = x - secN x y z by omega, show y - 1 - (secN x y z - 1) = y - secN x y z by omega, show z - 1 - (secN x y z - 1) = z - secN x y z by omega, show r - (secN x y z - 1) = r + 1 - secN x y z by omega] at ih
        constructor
        · rintro ⟨_, h | ⟨h, _⟩⟩
          · obtain ⟨h1, h2, h3⟩ := ih.mp h
            exact ⟨by omega, by omega, h3.imp (fun q => by omega) id⟩
          · exact absurd h hone
        · rintro ⟨h1, h2, h3⟩
          exact ⟨hnz, Or.inl (ih.mpr ⟨by omega, by omega, h3.imp (fun q => by omega) id⟩)⟩
      · constructor
        · rintro ⟨h, _⟩
          exact absurd h hnz
        · rintro ⟨h, _⟩
          omega
/-- a moment's spans by its ways -/
theorem Can.ways {st : Nat → Prop} {A S : Nat → Nat} (hS : ∀ g, g < 3 → S g < 3) {r c x y z : Nat} : Can st A S r c x y z ↔ ∃ e, e < 8 ∧ vE st e ∧ pcs e ≤ c ∧ 0 < secN (tE A S e 0 x) (tE A S e 1 y) (tE A S e 2 z) ∧ secN (tE A S e 0 x) (tE A S e 1 y) (tE A S e 2 z) ≤ r ∧ (secN (tE A S e 0 x) (tE A S e 1 y) (tE A S e 2 z) = r ∨ Can st A S (r - secN (tE A S e 0 x) (tE A S e 1 y) (tE A S e 2 z)) (c - pcs e) (tE A S e 0 x - secN (tE A S e 0 x) (tE A S e 1 y) (tE A S e 2 z)) (tE A S e 1 y - secN (tE A S e 0 x) (tE A S e 1 y) (tE A S e 2 z)) (tE A S e 2 z - secN (tE A S e 0 x) (tE A S e 1 y) (tE A S e 2 z))) := by
  unfold Can
  rw [chA_way hS]
  constructor
  · rintro ⟨e, h1, h2, h3, h4⟩
    exact ⟨e, h1, h2, h3, (pRun_way _ _ _ _ _).mp h4⟩
  · rintro ⟨e, h1, h2, h3, h4⟩
    exact ⟨e, h1, h2, h3, (pRun_way _ _ _ _ _).mpr h4⟩
