/-! moments, counted -/
abbrev AOK (A : Nat → Nat) : Prop := A 0 ≤ 12 ∧ A 1 ≤ 12 ∧ A 2 ≤ 12
def sm (f : Nat → Nat) : Nat → Nat
  | 0 => 0
  | n + 1 => sm f n + f n
theorem sm_congr {f g : Nat → Nat} : ∀ n, (∀ k, k < n → f k = g k) → sm f n = sm g n
  | 0, _ => rfl
  | n + 1, h => by
    unfold sm
    rw [sm_congr n (fun k hk => h k (by omega)), h n (by omega)]
theorem sm_zero : ∀ n, sm (fun _ => 0) n = 0
  | 0 => rfl
  | n + 1 => by unfold sm; rw [sm_zero n]
theorem sm_add (f : Nat → Nat) (a : Nat) : ∀ n, sm f (a + n) = sm f a + sm (fun j => f (a + j)) n
  | 0 => rfl
  | n + 1 => by
    have h1 : sm f (a + n + 1) = sm f (a + n) + f (a + n) := rfl
    have h2 : sm (fun j => f (a + j)) (n + 1) = sm (fun j => f (a + j)) n + f (a + n) := rfl
    rw [← Nat.add_assoc, h1, h2, sm_add f a n]
    omega
theorem sm_mul (f : Nat → Nat) : ∀ n, sm f (16 * n) = sm (fun k => sm (fun j => f (16 * k + j)) 16) n
  | 0 => rfl
  | n + 1 => by
    rw [Nat.mul_succ, sm_add, sm_mul f n]
    rfl
theorem sm_if (P : Bool) (g : Nat → Nat) (n : Nat) : sm (fun j => if P = true then g j else 0) n = if P = true then sm g n else 0 := by
  cases P
  · exact sm_zero n
  · rfl
def nb (p g : Nat) : Nat := p / 2 ^ (4 * g) % 16
theorem nb_lt (p g : Nat) : nb p g < 16 := Nat.mod_lt _ (by omega)
theorem nb_cod {x y z : Nat} (hx : x < 16) (hy : y < 16) (hz : z < 16) : nb (cod x y z) 0 = x ∧ nb (cod x y z) 1 = y ∧ nb (cod x y z) 2 = z := by
  unfold nb cod
  refine ⟨?_, ?_, ?_⟩
  · show (x + 16 * y + 256 * z) / 1 % 16 = x
    omega
  · show (x + 16 * y + 256 * z) / 16 % 16 = y
    omega
  · show (x + 16 * y + 256 * z) / 256 % 16 = z
    omega
theorem cod_nb {p : Nat} (h : p < 4096) : cod (nb p 0) (nb p 1) (nb p 2) = p := by
  unfold nb cod
  show p / 1 % 16 + 16 * (p / 16 % 16) + 256 * (p / 256 % 16) = p
  omega
def isM (A : Nat → Nat) (p : Nat) : Bool := decide (nb p 2 ≤ A 2) && (decide (nb p 1 ≤ A 1) && (decide (nb p 0 ≤ A 0) && (((decide (nb p 1 = 0) && decide (0 < A 1)) || (decide (nb p 2 = 0) && decide (0 < A 2))) || (decide (nb p 0 = 0) && decide (0 < A 0)))))
def momV (A v : Nat → Nat) : Prop := (v 0 ≤ A 0 ∧ v 1 ≤ A 1 ∧ v 2 ≤ A 2) ∧ ((v 0 = 0 ∧ 0 < A 0) ∨ (v 1 = 0 ∧ 0 < A 1) ∨ (v 2 = 0 ∧ 0 < A 2))
theorem isM_iff (A : Nat → Nat) (p : Nat) : isM A p = true ↔ momV A (nb p) := by
  unfold isM momV
  simp only [Bool.and_eq_true, Bool.or_eq_true, decide_eq_true_iff]
  constructor
  · rintro ⟨h1, h2, h3, (h4 | h4) | h4⟩
    · exact ⟨⟨h3, h2, h1⟩, Or.inr (Or.inl h4)⟩
    · exact ⟨⟨h3, h2, h1⟩, Or.inr (Or.inr h4)⟩
    · exact ⟨⟨h3, h2, h1⟩, Or.inl h4⟩
  · rintro ⟨⟨h3, h2, h1⟩, h4 | h4 | h4⟩
    · exact ⟨h1, h2, h3, Or.inr h4⟩
    · exact ⟨h1, h2, h3, Or.inl (Or.inl h4)⟩
    · exact ⟨h1, h2, h3, Or.inl (Or.inr h4)⟩
def cm (A : Nat → Nat) (n : Nat) : Nat := sm (fun p => if isM A p = true then 1 else 0) n
theorem cm_s (A : Nat → Nat) (n : Nat) : cm A (n + 1) = cm A n + if isM A n = true then 1 else 0 := rfl
theorem cm_le (A : Nat → Nat) {m : Nat} : ∀ {n : Nat}, m ≤ n → cm A m ≤ cm A n
  | 0, h => by rw [Nat.le_zero.mp h]; exact Nat.le_refl _
  | n + 1, h => by
    by_cases hm : m = n + 1
    · rw [hm]; exact Nat.le_refl _
    · have := cm_le A (m := m) (n := n) (by omega)
      rw [cm_s]
      omega
theorem cm_lt (A : Nat → Nat) {p q : Nat} (hp : isM A p = true) (h : p < q) : cm A p < cm A q := by
  have h1 := cm_le A (show p + 1 ≤ q by omega)
  rw [cm_s, if_pos hp] at h1
  omega
theorem cm_of (A : Nat → Nat) {m : Nat} : ∀ {n : Nat}, m < cm A n → ∃ p, p < n ∧ isM A p = true ∧ cm A p = m
  | 0, h => absurd h (Nat.not_lt_zero m)
  | n + 1, h => by
    rw [cm_s] at h
    by_cases hm : m < cm A n
    · obtain ⟨p, h1, h2⟩ := cm_of A hm
      exact ⟨p, by omega, h2⟩
    · by_cases hn : isM A n = true
      · rw [if_pos hn] at h
        exact ⟨n, by omega, hn, by omega⟩
      · rw [if_neg hn] at h
        omega
theorem cm_inj (A : Nat → Nat) {p q : Nat} (hp : isM A p = true) (hq : isM A q = true) (h : cm A p = cm A q) : p = q := by
  rcases Nat.lt_trichotomy p q with h1 | h1 | h1
  · have := cm_lt A hp h1
    omega
  · exact h1
  · have := cm_lt A hq h1
    omega
def c1N (a : Nat) (f : Bool) : Nat := if f = true then a + 1 else if 0 < a then 1 else 0
def c2N (a b : Nat) (f : Bool) : Nat := if f = true then (b + 1) * (a + 1) else if 0 < b then (a + 1) + b * c1N a false else c1N a false
theorem c1_is : ∀ a, a < 13 → ∀ f : Bool, sm (fun j => if (decide (j ≤ a) && (f || (decide (j = 0) && decide (0 < a)))) = true then 1 else 0) 16 = c1N a f := by decide +kernel
theorem c2_is : ∀ a, a < 13 → ∀ b, b < 13 → ∀ f : Bool, sm (fun k => if decide (k ≤ b) = true then c1N a ((decide (k = 0) && decide (0 < b)) || f) else 0) 16 = c2N a b f := by decide +kernel
def c3N (a b c : Nat) : Nat := sm (fun l => if decide (l ≤ c) = true then c2N a b (decide (l = 0) && decide (0 < c)) else 0) 16
theorem c3_469 : ∀ a, a < 13 → ∀ b, b < 13 → ∀ c, c < 13 → c3N a b c ≤ 469 := by decide +kernel
theorem c3_mom : ∀ a, a < 12 → ∀ b, b < 12 → ∀ c, c < 12 → c3N (a + 1) (b + 1) (c + 1) = momB (a + 1) (b + 1) (c + 1) := by decide +kernel
theorem c3_fewa : ∀ a, a < 13 → ∀ b, b < 13 → c3N a b 0 ≤ 96 := by decide +kernel
theorem c3_fewb : ∀ a, a < 13 → ∀ b, b < 13 → c3N a 0 b ≤ 96 := by decide +kernel
theorem c3_fewc : ∀ a, a < 13 → ∀ b, b < 13 → c3N 0 a b ≤ 96 := by decide +kernel
theorem cm_total {A : Nat → Nat} (hA : AOK A) : cm A 4096 = c3N (A 0) (A 1) (A 2) := by
  obtain ⟨a0, a1, a2⟩ := hA
  unfold cm c3N
  rw [show (4096 : Nat) = 16 * (16 * 16) from rfl, sm_mul, sm_mul]
  refine sm_congr 16 (fun l hl => ?_)
  rw [← c2_is (A 0) (by omega) (A 1) (by omega), ← sm_if]
  refine sm_congr 16 (fun k hk => ?_)
  rw [← c1_is (A 0) (by omega), ← sm_if, ← sm_if]
  refine sm_congr 16 (fun j hj => ?_)
  have e := nb_cod (x := j) (y := k) (z := l) hj hk hl
  have ep : 16 * (16 * l + k) + j = cod j k l := by unfold cod; omega
  rw [ep]
  unfold isM
  rw [e.1, e.2.1, e.2.2]
  cases decide (l ≤ A 2) <;> cases decide (k ≤ A 1) <;> cases decide (j ≤ A 0) <;> simp
theorem cm_469 {A : Nat → Nat} (hA : AOK A) : cm A 4096 ≤ 469 := by
  have h := hA
  rw [cm_total hA]
  exact c3_469 (A 0) (by omega) (A 1) (by omega) (A 2) (by omega)
theorem cm_mom {A : Nat → Nat} (hA : AOK A) (h0 : 0 < A 0) (h1 : 0 < A 1) (h2 : 0 < A 2) : cm A 4096 = momB (A 0) (A 1) (A 2) := by
  have h := hA
  rw [cm_total hA]
  have := c3_mom (A 0 - 1) (by omega) (A 1 - 1) (by omega) (A 2 - 1) (by omega)
  rw [show A 0 - 1 + 1 = A 0 by omega, show A 1 - 1 + 1 = A 1 by omega, show A 2 - 1 + 1 = A 2 by omega] at this
  exact this
theorem cm_few {A : Nat → Nat} (hA : AOK A) (hn : ¬ (0 < A 0 ∧ 0 < A 1 ∧ 0 < A 2)) : cm A 4096 ≤ 96 := by
  have h := hA
  rw [cm_total hA]
  by_cases h2 : 0 < A 2
  · by_cases h1 : 0 < A 1
    · rw [show A 0 = 0 by omega]
      exact c3_fewc (A 1) (by omega) (A 2) (by omega)
    · rw [show A 1 = 0 by omega]
      exact c3_fewb (A 0) (by omega) (A 2) (by omega)
  · rw [show A 2 = 0 by omega]
    exact c3_fewa (A 0) (by omega) (A 1) (by omega)
theorem isM_le {A : Nat → Nat} {p : Nat} (hp : p < 4096) (h : isM A p = true) : p ≤ cod (A 0) (A 1) (A 2) := by
  obtain ⟨⟨h1, h2, h3⟩, _⟩ := (isM_iff A p).mp h
  rw [← cod_nb hp]
  unfold cod
  omega
/-! bits of codes -/
theorem cod_2 (x y z : Nat) : cod x y z = 2 ^ 4 * (2 ^ 4 * z + y) + x := by
  unfold cod
  omega
theorem cod_and {x y z x' y' z' : Nat} (hx : x < 16) (hy : y < 16) (hx' : x' < 16) (hy' : y' < 16) : cod x y z &&& cod x' y' z' = cod (x &&& x') (y &&& y') (z &&& z') := by
  have h1 : x &&& x' < 2 ^ 4 := Nat.and_lt_two_pow _ hx'
  have h2 : y &&& y' < 2 ^ 4 := Nat.and_lt_two_pow _ hy'
  apply Nat.eq_of_testBit_eq
  intro i
  rw [Nat.testBit_and, cod_2, cod_2, cod_2, Nat.testBit_two_pow_mul_add _ (show x < 2 ^ 4 from hx), Nat.testBit_two_pow_mul_add _ (show x' < 2 ^ 4 from hx'), Nat.testBit_two_pow_mul_add _ h1]
  split
  · rw [Nat.testBit_and]
  · rw [Nat.testBit_two_pow_mul_add _ (show y < 2 ^ 4 from hy), Nat.testBit_two_pow_mul_add _ (show y' < 2 ^ 4 from hy'), Nat.testBit_two_pow_mul_add _ h2]
    split
    · rw [Nat.testBit_and]
    · rw [Nat.testBit_and]
theorem cod_xor {x y z x' y' z' : Nat} (hx : x < 16) (hy : y < 16) (hx' : x' < 16) (hy' : y' < 16) : cod x y z ^^^ cod x' y' z' = cod (x ^^^ x') (y ^^^ y') (z ^^^ z') := by
  have h1 : x ^^^ x' < 2 ^ 4 := Nat.xor_lt_two_pow hx hx'
  have h2 : y ^^^ y' < 2 ^ 4 := Nat.xor_lt_two_pow hy hy'
  apply Nat.eq_of_testBit_eq
  intro i
  rw [Nat.testBit_xor, cod_2, cod_2, cod_2, Nat.testBit_two_pow_mul_add _ (show x < 2 ^ 4 from hx), Nat.testBit_two_pow_mul_add _ (show x' < 2 ^ 4 from hx'), Nat.testBit_two_pow_mul_add _ h1]
  split
  · rw [Nat.testBit_xor]
  · rw [Nat.testBit_two_pow_mul_add _ (show y < 2 ^ 4 from hy), Nat.testBit_two_pow_mul_add _ (show y' < 2 ^ 4 from hy'), Nat.testBit_two_pow_mul_add _ h2]
    split
    · rw [Nat.testBit_xor]
    · rw [Nat.testBit_xor]
theorem nib15 : ∀ x, x < 16 → x &&& 15 = x ∧ x &&& 0 = 0 ∧ x ^^^ x = 0 ∧ x ^^^ 0 = x := by decide +kernel
/-- the masks of a set, and what it turns -/
def mkG (A S : Nat → Nat) (e g : Nat) : Nat := if 0 < A g ∧ Nat.testBit e (S g) = true then 15 else 0
theorem turn_cod {A S : Nat → Nat} {e x y z : Nat} (hA : AOK A) (hx : x ≤ A 0) (hy : y ≤ A 1) (hz : z ≤ A 2) : (cod x y z ^^^ (cod x y z &&& cod (mkG A S e 0) (mkG A S e 1) (mkG A S e 2))) + (cod (A 0) (A 1) (A 2) &&& cod (mkG A S e 0) (mkG A S e 1) (mkG A S e 2)) = cod (tE A S e 0 x) (tE A S e 1 y) (tE A S e 2 z) + (cod x y z &&& cod (mkG A S e 0) (mkG A S e 1) (mkG A S e 2)) := by
  obtain ⟨a0, a1, a2⟩ := hA
  have hm : ∀ g, mkG A S e g < 16 := fun g => by unfold mkG; split <;> omega
  have key : ∀ g v, v ≤ A g → A g ≤ 12 → (v &&& mkG A S e g < 16 ∧ v &&& mkG A S e g ≤ v) ∧ (v ^^^ (v &&& mkG A S e g)) + (A g &&& mkG A S e g) = tE A S e g v + (v &&& mkG A S e g) := fun g v hv ha => by
    have n1 := nib15 v (by omega)
    have n2 := nib15 (A g) (by omega)
    unfold mkG tE
    by_cases h0 : 0 < A g
    · by_cases ht : Nat.testBit e (S g) = true
      · rw [if_pos ⟨h0, ht⟩, if_pos ht, n1.1, n2.1, n1.2.2.1]
        omega
      · rw [if_neg (fun q => ht q.2), if_neg ht, n1.2.1, n2.2.1, n1.2.2.2]
        omega
    · rw [if_neg (fun q => h0 q.1), n1.2.1, n2.2.1, n1.2.2.2]
      have : v = 0 := by omega
      split <;> omega
  obtain ⟨⟨k00, k01⟩, k02⟩ := key 0 x hx a0
  obtain ⟨⟨k10, k11⟩, k12⟩ := key 1 y hy a1
  obtain ⟨_, k22⟩ := key 2 z hz a2
  rw [cod_and (by omega) (by omega) (hm 0) (hm 1), cod_and (by omega) (by omega) (hm 0) (hm 1), cod_xor (by omega) (by omega) k00 k10]
  unfold cod
  omega
