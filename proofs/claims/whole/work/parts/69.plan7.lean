/-! the number of bits -/
def rp (m : Nat) : Nat → Nat
  | 0 => 0
  | k + 1 => 256 * rp m k + m
def s1N (k a : Nat) : Nat := a - ((a / 2) &&& rp 85 k)
def s2N (k t : Nat) : Nat := (t &&& rp 51 k) + ((t / 4) &&& rp 51 k)
def s3N (k t : Nat) : Nat := (t + t / 16) &&& rp 15 k
def s1b (b : Nat) : Nat := b - ((b / 2) &&& 85)
def s2b (t : Nat) : Nat := (t &&& 51) + ((t / 4) &&& 51)
def pcB (n k : Nat) : Nat := sm (fun r => if Nat.testBit n r = true then 1 else 0) k
theorem and_split {h l mh ml : Nat} (hl : l < 256) (hm : ml < 256) : (256 * h + l) &&& (256 * mh + ml) = 256 * (h &&& mh) + (l &&& ml) := by
  have h1 : l &&& ml < 2 ^ 8 := Nat.and_lt_two_pow _ hm
  apply Nat.eq_of_testBit_eq
  intro i
  rw [Nat.testBit_and, show 256 * h = 2 ^ 8 * h from rfl, show 256 * mh = 2 ^ 8 * mh from rfl, show 256 * (h &&& mh) = 2 ^ 8 * (h &&& mh) from rfl, Nat.testBit_two_pow_mul_add _ (show l < 2 ^ 8 from hl), Nat.testBit_two_pow_mul_add _ (show ml < 2 ^ 8 from hm), Nat.testBit_two_pow_mul_add _ h1]
  split
  · rw [Nat.testBit_and]
  · rw [Nat.testBit_and]
theorem b1_is : ∀ b, b < 256 → (b / 2 &&& 85) ≤ b ∧ s1b b < 256 ∧ (128 + b / 2) &&& 85 = b / 2 &&& 85 := by decide +kernel
theorem b2_is : ∀ b, b < 256 → ∀ j, j < 4 → (64 * j + b / 4) &&& 51 = b / 4 &&& 51 := by decide +kernel
theorem b2_lt : ∀ b, b < 256 → s2b b < 256 := by decide +kernel
theorem b3_is : ∀ b, b < 256 → s2b (s1b b) ≤ 68 ∧ s2b (s1b b) % 16 ≤ 4 ∧ s2b (s1b b) / 16 ≤ 4 ∧ ((s2b (s1b b) + s2b (s1b b) / 16) % 16 = pcB b 8 ∧ pcB b 8 ≤ 8) := by decide +kernel
theorem s1_s {k q b : Nat} (hb : b < 256) : s1N (k + 1) (256 * q + b) = 256 * s1N k q + s1b b := by
  obtain ⟨h1, h2, h3⟩ := b1_is b hb
  have e : ((256 * q + b) / 2) &&& rp 85 (k + 1) = 256 * (q / 2 &&& rp 85 k) + (b / 2 &&& 85) := by
    have e1 : (256 * q + b) / 2 = 256 * (q / 2) + (128 * (q % 2) + b / 2) := by omega
    rw [e1, rp, and_split (by omega) (by omega)]
    rcases (show q % 2 = 0 ∨ q % 2 = 1 by omega) with z | z
    · rw [z, Nat.mul_zero, Nat.zero_add]
    · rw [z, Nat.mul_one, h3]
  have hq : (q / 2 &&& rp 85 k) ≤ q / 2 := Nat.and_le_left
  unfold s1N s1b
  rw [e]
  omega
theorem s2_s {k q b : Nat} (hb : b < 256) : s2N (k + 1) (256 * q + b) = 256 * s2N k q + s2b b := by
  have e : ((256 * q + b) / 4) &&& rp 51 (k + 1) = 256 * (q / 4 &&& rp 51 k) + (b / 4 &&& 51) := by
    have e1 : (256 * q + b) / 4 = 256 * (q / 4) + (64 * (q % 4) + b / 4) := by omega
    rw [e1, rp, and_split (by omega) (by omega), b2_is b hb (q % 4) (by omega)]
  unfold s2N s2b
  rw [e, rp, and_split hb (by omega)]
  omega
theorem s3_s {k q c : Nat} (hc : c ≤ 68) (hc1 : c % 16 ≤ 4) (hc2 : c / 16 ≤ 4) (hq : q % 16 ≤ 4) : s3N (k + 1) (256 * q + c) = 256 * s3N k q + (c + c / 16) % 16 := by
  unfold s3N
  have e1 : (256 * q + c) + (256 * q + c) / 16 = 256 * (q + q / 16) + (16 * (q % 16) + c + c / 16) := by omega
  rw [e1, rp, and_split (by omega) (by omega), show (15 : Nat) = 2 ^ 4 - 1 from rfl, Nat.and_two_pow_sub_one_eq_mod]
  omega
theorem s2_low {k q : Nat} (hq : q < 256 ^ k) : s2N k (s1N k q) % 16 ≤ 4 := by
  cases k with
  | zero =>
    have : q = 0 := by
      rw [Nat.pow_zero] at hq
      omega
    subst this
    decide
  | succ k =>
    have e : q = 256 * (q / 256) + q % 256 := by omega
    have hb := b1_is (q % 256) (by omega)
    have h3 := b3_is (q % 256) (by omega)
    rw [e, s1_s (by omega), s2_s hb.2.1]
    omega
def pN (k n : Nat) : Nat := s3N k (s2N k (s1N k n))
theorem pN_s {k q b : Nat} (hb : b < 256) (hq : q < 256 ^ k) : pN (k + 1) (256 * q + b) = 256 * pN k q + pcB b 8 := by
  have h1 := b1_is b hb
  have h3 := b3_is b hb
  unfold pN
  rw [s1_s hb, s2_s h1.2.1, s3_s h3.1 h3.2.1 h3.2.2.1 (s2_low hq), h3.2.2.2.1]
theorem pcB_s {k q b : Nat} (hb : b < 256) : pcB (256 * q + b) (8 + k) = pcB b 8 + pcB q k := by
  unfold pcB
  rw [sm_add]
  congr 1
  · refine sm_congr 8 (fun j hj => ?_)
    rw [show 256 * q = 2 ^ 8 * q from rfl, Nat.testBit_two_pow_mul_add _ (show b < 2 ^ 8 from hb), if_pos hj]
  · refine sm_congr k (fun j hj => ?_)
    rw [show 256 * q = 2 ^ 8 * q from rfl, Nat.testBit_two_pow_mul_add _ (show b < 2 ^ 8 from hb), if_neg (show ¬ 8 + j < 8 by omega), show 8 + j - 8 = j by omega]
theorem swar {p0 p1 p2 p3 p4 p5 t : Nat} (h0 : p0 ≤ 8) (h1 : p1 ≤ 8) (h2 : p2 ≤ 8) (h3 : p3 ≤ 8) (h4 : p4 ≤ 8) (h5 : p5 ≤ 8) (ht : t = 256 * (256 * (256 * (256 * (256 * p5 + p4) + p3) + p2) + p1) + p0) : ((t + t / 256) + (t + t / 256) / 65536 + ((t + t / 256) + (t + t / 256) / 65536) / 4294967296) % 128 = p0 + (p1 + (p2 + (p3 + (p4 + p5)))) := by
  have e1 : t / 256 = p1 + 256 * p2 + 65536 * p3 + 16777216 * p4 + 4294967296 * p5 := by omega
  have e2 : t + t / 256 = (p0 + p1) + 256 * (p1 + p2) + 65536 * (p2 + p3) + 16777216 * (p3 + p4) + 4294967296 * (p4 + p5) + 1099511627776 * p5 := by omega
  clear e1 ht
  generalize t + t / 256 = u at e2
  have e3 : u / 65536 = (p2 + p3) + 256 * (p3 + p4) + 65536 * (p4 + p5) + 16777216 * p5 := by omega
  have e4 : u + u / 65536 = (p0 + p1 + p2 + p3) + 256 * (p1 + p2 + p3 + p4) + 65536 * (p2 + p3 + p4 + p5) + 16777216 * (p3 + p4 + p5) + 4294967296 * (p4 + p5) + 1099511627776 * p5 := by omega
  clear e3 e2
  generalize u + u / 65536 = w at e4
  have e5 : w / 4294967296 = (p4 + p5) + 256 * p5 := by omega
  rw [e5]
  omega
theorem pop48 {n : Nat} (hn : n < 2199023255552) : ∃ t : Nat, pN 8 n = t ∧ ((t + t / 256) + (t + t / 256) / 65536 + ((t + t / 256) + (t + t / 256) / 65536) / 4294967296) % 128 = pcB n 48 ∧ t < 9223372036854775 := by
  have z : pcB 0 0 = 0 := rfl
  obtain ⟨b0, q0, h0, e0, l0⟩ : ∃ b0 q0, b0 < 256 ∧ n = 256 * q0 + b0 ∧ q0 < 8589934592 := ⟨n % 256, n / 256, by omega, by omega, by omega⟩
  obtain ⟨b1, q1, h1, e1, l1⟩ : ∃ b1 q1, b1 < 256 ∧ q0 = 256 * q1 + b1 ∧ q1 < 33554432 := ⟨q0 % 256, q0 / 256, by omega, by omega, by omega⟩
  obtain ⟨b2, q2, h2, e2, l2⟩ : ∃ b2 q2, b2 < 256 ∧ q1 = 256 * q2 + b2 ∧ q2 < 131072 := ⟨q1 % 256, q1 / 256, by omega, by omega, by omega⟩
  obtain ⟨b3, q3, h3, e3, l3⟩ : ∃ b3 q3, b3 < 256 ∧ q2 = 256 * q3 + b3 ∧ q3 < 512 := ⟨q2 % 256, q2 / 256, by omega, by omega, by omega⟩
  obtain ⟨b4, q4, h4, e4, l4⟩ : ∃ b4 q4, b4 < 256 ∧ q3 = 256 * q4 + b4 ∧ q4 < 2 := ⟨q3 % 256, q3 / 256, by omega, by omega, by omega⟩
  subst e0 e1 e2 e3 e4
  have p0 := (b3_is b0 h0).2.2.2.2
  have p1 := (b3_is b1 h1).2.2.2.2
  have p2 := (b3_is b2 h2).2.2.2.2
  have p3 := (b3_is b3 h3).2.2.2.2
  have p4 := (b3_is b4 h4).2.2.2.2
  have p5 := (b3_is q4 (by omega)).2.2.2.2
  have k5 : pN 3 q4 = pcB q4 8 := by
    have h5 : pN 3 (256 * 0 + q4) = 256 * pN 2 0 + pcB q4 8 := pN_s (k := 2) (q := 0) (b := q4) (by omega) (by decide)
    rw [show pN 2 0 = 0 by decide +kernel, Nat.mul_zero, Nat.zero_add] at h5
    rw [h5, Nat.zero_add]
  have k4 := pN_s (k := 3) (q := q4) (b := b4) h4 (by omega)
  have k3 := pN_s (k := 4) (q := 256 * q4 + b4) (b := b3) h3 (by omega)
  have k2 := pN_s (k := 5) (q := 256 * (256 * q4 + b4) + b3) (b := b2) h2 (by omega)
  have k1 := pN_s (k := 6) (q := 256 * (256 * (256 * q4 + b4) + b3) + b2) (b := b1) h1 (by omega)
  have k0 := pN_s (k := 7) (q := 256 * (256 * (256 * (256 * q4 + b4) + b3) + b2) + b1) (b := b0) h0 (by omega)
  have c4 := pcB_s (k := 8) (q := q4) (b := b4) h4
  have c3 := pcB_s (k := 16) (q := 256 * q4 + b4) (b := b3) h3
  have c2 := pcB_s (k := 24) (q := 256 * (256 * q4 + b4) + b3) (b := b2) h2
  have c1 := pcB_s (k := 32) (q := 256 * (256 * (256 * q4 + b4) + b3) + b2) (b := b1) h1
  have c0 := pcB_s (k := 40) (q := 256 * (256 * (256 * (256 * q4 + b4) + b3) + b2) + b1) (b := b0) h0
  rw [k1, k2, k3, k4, k5] at k0
  rw [c1, c2, c3, c4] at c0
  refine ⟨_, rfl, ?_, ?_⟩
  · have c5 : pcB q4 8 = pcB q4 8 := rfl
    rw [c0]
    exact swar p0 p1 p2 p3 p4 p5 k0
  · rw [k0]
    omega
theorem ok_bits {σ : xS} {n : Nat} {Q : Int → xS → Prop} (hn : n < 2199023255552) (k : Q (pcB n 48 : Int) σ) : vJ13_bitCount_95d88 (n : Int) σ Q := by
  obtain ⟨t, ht, hp, hl⟩ := pop48 hn
  unfold vJ13_bitCount_95d88
  intro t1 h1 t3 h3 t5 h5 t7 h7
  have e85 : (6148914691236517205 : Nat) = rp 85 8 := by decide +kernel
  have e51 : (3689348814741910323 : Nat) = rp 51 8 := by decide +kernel
  have e15 : (1085102592571150095 : Nat) = rp 15 8 := by decide +kernel
  have a1 : (n / 2 &&& rp 85 8) ≤ n / 2 := Nat.and_le_left
  have f1 : t1 = (s1N 8 n : Int) := by
    rw [h1, show (6148914691236517205 : Int) = ((6148914691236517205 : Nat) : Int) from rfl, show (1 : Int) = ((1 : Nat) : Int) from rfl, kushr_nat (by omega) (by omega), kand_nat (by omega), e85, Nat.pow_one]
    unfold s1N
    omega
  have l1 : s1N 8 n ≤ n := Nat.sub_le _ _
  have f3 : t3 = (s2N 8 (s1N 8 n) : Int) := by
    rw [h3, f1, show (3689348814741910323 : Int) = ((3689348814741910323 : Nat) : Int) from rfl, show (2 : Int) = ((2 : Nat) : Int) from rfl, kushr_nat (by omega) (by omega), kand_nat (by omega), kand_nat (by have := Nat.div_le_self (s1N 8 n) (2 ^ 2); omega), e51]
    unfold s2N
    push_cast
    rfl
  have l3 : s2N 8 (s1N 8 n) ≤ s1N 8 n + s1N 8 n / 4 := Nat.add_le_add Nat.and_le_left Nat.and_le_left
  have f5 : t5 = (t : Int) := by
    rw [h5, f3, show (1085102592571150095 : Int) = ((1085102592571150095 : Nat) : Int) from rfl, show (4 : Int) = ((4 : Nat) : Int) from rfl, kushr_nat (by omega) (by omega), ← ht]
    have hd := Nat.div_le_self (s2N 8 (s1N 8 n)) (2 ^ 4)
    rw [show (s2N 8 (s1N 8 n) : Int) + ((s2N 8 (s1N 8 n) / 2 ^ 4 : Nat) : Int) = ((s2N 8 (s1N 8 n) + s2N 8 (s1N 8 n) / 2 ^ 4 : Nat) : Int) by push_cast; rfl, kand_nat (by omega), e15]
    rfl
  have f7 : t7 = ((t + t / 256 + (t + t / 256) / 65536 : Nat) : Int) := by
    rw [h7, f5, show (8 : Int) = ((8 : Nat) : Int) from rfl, kushr_nat (by omega) (by omega), show (t : Int) + ((t / 2 ^ 8 : Nat) : Int) = ((t + t / 256 : Nat) : Int) from (Int.natCast_add _ _).symm, show (16 : Int) = ((16 : Nat) : Int) from rfl, kushr_nat (by omega) (by omega)]
    exact (Int.natCast_add _ _).symm
  rw [f7, show (32 : Int) = ((32 : Nat) : Int) from rfl, kushr_nat (by omega) (by omega), show (127 : Int) = ((127 : Nat) : Int) from rfl]
  have e : jand (((t + t / 256 + (t + t / 256) / 65536 : Nat) : Int) + (((t + t / 256 + (t + t / 256) / 65536) / 2 ^ 32 : Nat) : Int)) ((127 : Nat) : Int) = (pcB n 48 : Int) := by
    rw [show ((t + t / 256 + (t + t / 256) / 65536 : Nat) : Int) + (((t + t / 256 + (t + t / 256) / 65536) / 2 ^ 32 : Nat) : Int) = ((t + t / 256 + (t + t / 256) / 65536 + (t + t / 256 + (t + t / 256) / 65536) / 4294967296 : Nat) : Int) from (Int.natCast_add _ _).symm]
    generalize t + t / 256 + (t + t / 256) / 65536 + (t + t / 256 + (t + t / 256) / 65536) / 4294967296 = m at hp
    unfold jand
    rw [i32_nI, i32_nI, w_and, show (127 : Nat) = 2 ^ 7 - 1 from rfl, Nat.and_two_pow_sub_one_eq_mod, toI (by omega), ← hp]
  rw [e]
  exact k
/-- the place of the i-th bit -/
def NTH (n : Nat) (i : Int) (v : Int) : Prop := (v = -1 ∧ ∀ r, r ≤ 40 → Nat.testBit n r = true → (pcB n r : Int) ≠ i) ∨ ∃ r : Nat, v = (r : Int) ∧ r ≤ 40 ∧ Nat.testBit n r = true ∧ (pcB n r : Int) = i
theorem pcB_s1 (n k : Nat) : pcB n (k + 1) = pcB n k + if Nat.testBit n k = true then 1 else 0 := rfl
theorem pcB_le (n : Nat) : ∀ k, pcB n k ≤ k
  | 0 => Nat.le_refl 0
  | k + 1 => by
    have := pcB_le n k
    rw [pcB_s1]
    split <;> omega
theorem pcB_mono (n : Nat) {j : Nat} : ∀ {k : Nat}, j ≤ k → pcB n j ≤ pcB n k
  | 0, h => by rw [Nat.le_zero.mp h]; exact Nat.le_refl _
  | k + 1, h => by
    by_cases hj : j = k + 1
    · rw [hj]; exact Nat.le_refl _
    · have := pcB_mono n (j := j) (k := k) (by omega)
      rw [pcB_s1]
      omega
theorem NTH.uniq {n : Nat} {i v w : Int} (h1 : NTH n i v) (h2 : NTH n i w) : v = w := by
  rcases h1 with ⟨e1, h1⟩ | ⟨r, e1, a1, b1, c1⟩
  · rcases h2 with ⟨e2, _⟩ | ⟨r', _, a2, b2, c2⟩
    · omega
    · exact absurd c2 (h1 r' a2 b2)
  · rcases h2 with ⟨_, h2⟩ | ⟨r', e2, a2, b2, c2⟩
    · exact absurd c1 (h2 r a1 b1)
    · have key : ∀ p q : Nat, Nat.testBit n p = true → p < q → pcB n p < pcB n q := fun p q hp hlt => by
        have := pcB_mono n (show p + 1 ≤ q by omega)
        rw [pcB_s1, if_pos hp] at this
        omega
      rcases Nat.lt_trichotomy r r' with q | q | q
      · have := key r r' b1 q
        omega
      · omega
      · have := key r' r b2 q
        omega
theorem ok_bitOf {σ : xS} {n : Nat} {i : Int} {Q : Int → xS → Prop} (hn : n < 2199023255552) (hi : rng i) (k : ∀ v, NTH n i v → Q v σ) : vX4_bitOf (n : Int) i σ Q := by
  unfold vX4_bitOf
  refine mu_of (fun a => ∃ q : Nat, a = ((n : Int), i, (pcB n q : Int), (q : Int), σ) ∧ q ≤ 41 ∧ ∀ r, r < q → Nat.testBit n r = true → (pcB n r : Int) ≠ i) (fun a => 41 - a.2.2.2.1.toNat) ?_ _ ⟨0, rfl, by omega, fun r hr => absurd hr (Nat.not_lt_zero r)⟩
  rintro K _ ⟨q, rfl, hq, hno⟩ hK
  have hpl := pcB_le n q
  unfold vX4_bitOf_5
  refine ⟨⟨by omega, by omega⟩, fun z => k (-1) (Or.inl ⟨rfl, fun r hr hb => hno r (by omega) hb⟩), fun z => ⟨jlcmp_rng _ _, ?_⟩⟩
  have hd := Nat.div_le_self n (2 ^ q)
  have e : kand (kshr (n : Int) (q : Int)) 1 = ((n / 2 ^ q % 2 : Nat) : Int) := by
    rw [kshr_nat (by omega) (by omega), show (1 : Int) = ((1 : Nat) : Int) from rfl, kand_nat (by omega), show (1 : Nat) = 2 ^ 1 - 1 from rfl, Nat.and_two_pow_sub_one_eq_mod]
  have hb : Nat.testBit n q = true ↔ n / 2 ^ q % 2 = 1 := by
    rw [Nat.testBit_eq_decide_div_mod_eq, decide_eq_true_iff]
  rw [e]
  have hj : jlcmp ((n / 2 ^ q % 2 : Nat) : Int) 1 = 0 ↔ Nat.testBit n q = true := by
    rw [jlcmp_0 ⟨by omega, by omega⟩ ⟨by omega, by omega⟩, hb]
    omega
  have nxt : ∀ x : Int, x = (pcB n (q + 1) : Int) → (Nat.testBit n q = true → (pcB n q : Int) ≠ i) → K ((n : Int), i, x, (q : Int) + 1, σ) := fun x hx hne => hK _ ⟨q + 1, by rw [hx, Int.natCast_succ], by omega, fun r hr hbr => by
    by_cases hrq : r = q
    · subst hrq
      exact hne hbr
    · exact hno r (by omega) hbr⟩ (by show 41 - ((q : Int) + 1).toNat < 41 - ((q : Int)).toNat; omega)
  refine ⟨fun z2 => nxt _ ?_ (fun w => absurd (hj.mpr w) z2), fun z2 => ⟨⟨by omega, by omega⟩, hi, fun z3 => nxt _ ?_ (fun _ => z3), fun z3 => k (q : Int) (Or.inr ⟨q, rfl, by omega, hj.mp z2, z3⟩)⟩⟩
  · rw [pcB_s1, if_neg (fun w => z2 (hj.mpr w))]
    rfl
  · rw [pcB_s1, if_pos (hj.mp z2)]
    rfl
/-! the steps of the best plan -/
def LE8 (A S : Nat → Nat) (c x y z r e : Nat) : Prop := e < 8 ∧ BY A S c x y z e r ∧ ∀ e', e' < e → ¬ BY A S c x y z e' r
theorem LE8.uniq {A S : Nat → Nat} {c x y z r e e' : Nat} (h1 : LE8 A S c x y z r e) (h2 : LE8 A S c x y z r e') : e = e' := by
  rcases Nat.lt_trichotomy e e' with q | q | q
  · exact absurd h1.2.1 (h2.2.2 e q)
  · exact q
  · exact absurd h2.2.1 (h1.2.2 e' q)
theorem ok_leastSet {σ : xS} {A S : Nat → Nat} {c x y z r pl : Nat} {Q : Int → xS → Prop} (hA : AOK A) (hx : x ≤ A 0) (hy : y ≤ A 1) (hz : z ≤ A 2) (hc : c ≤ 1000) (hr : r ≤ 40) (hpl : pl < 470) (h6 : σ 9 6 = (cm A 4096 : Int)) (hw : ∀ e, e < 8 → WY A S x y z e (σ 13 (8 * pl + e))) (hav : ∀ e, e < 8 → AV σ A S c x y z e) (k1 : ∀ e : Nat, LE8 A S c x y z r e → Q (e : Int) σ) (k0 : (∀ e, e < 8 → ¬ BY A S c x y z e r) → Q (-1) σ) : vX2_leastSet (pl : Int) (r : Int) (c : Int) σ Q := by
  unfold vX2_leastSet
  refine mu_of (fun a => ∃ q : Nat, a = ((pl : Int), (r : Int), (c : Int), (q : Int), σ) ∧ q ≤ 8 ∧ ∀ e, e < q → ¬ BY A S c x y z e r) (fun a => 8 - a.2.2.2.1.toNat) ?_ _ ⟨0, rfl, by omega, fun e he => absurd he (Nat.not_lt_zero e)⟩
  rintro K _ ⟨q, rfl, hq, hno⟩ hK
  unfold vX2_leastSet_3
  refine ⟨⟨by omega, by omega⟩, fun z1 => ?_, fun z1 => ⟨by omega, by omega, ?_⟩⟩
  · have : q = 8 := by omega
    subst this
    exact k0 hno
  · have hq8 : q < 8 := by omega
    rw [show ((pl : Int) * 8 + (q : Int)).toNat = 8 * pl + q by omega, Int.toNat_natCast, stk_pcs q hq8]
    refine ok_by hA hx hy hz hc hq8 h6 (hw q hq8) rfl (hav q hq8) (fun n hn hb => ok_isIn hn (by omega) (fun hbit => ⟨⟨by omega, by omega⟩, fun w => absurd w (by omega), fun _ => k1 q ⟨hq8, (hb r).mp hbit, hno⟩⟩) (fun hbit => ⟨rng0, fun _ => ?_, fun w => absurd rfl w⟩))
    refine hK _ ⟨q + 1, by rw [Int.natCast_succ], by omega, fun e he => ?_⟩ (by show 8 - ((q : Int) + 1).toNat < 8 - ((q : Int)).toNat; omega)
    by_cases heq : e = q
    · subst heq
      exact fun w => hbit ((hb r).mpr w)
    · exact hno e (by omega)
def stpR (A S : Nat → Nat) : Nat → Nat → Nat → Nat → Nat → Nat → Nat → Nat → Prop
  | 0, x, y, z, r, c, e, l => 0 < r ∧ LE8 A S c x y z r e ∧ l = r
  | i + 1, x, y, z, r, c, e, l => 0 < r ∧ ∃ e0, LE8 A S c x y z r e0 ∧ stpR A S i (tE A S e0 0 x - sc A S x y z e0) (tE A S e0 1 y - sc A S x y z e0) (tE A S e0 2 z - sc A S x y z e0) (r - sc A S x y z e0) (c - pcs e0) e l
theorem stpR_uniq {A S : Nat → Nat} : ∀ i x y z r c e l e' l', stpR A S i x y z r c e l → stpR A S i x y z r c e' l' → e = e' ∧ l = l'
  | 0, x, y, z, r, c, e, l, e', l', h1, h2 => ⟨h1.2.1.uniq h2.2.1, h1.2.2.trans h2.2.2.symm⟩
  | i + 1, x, y, z, r, c, e, l, e', l', h1, h2 => by
    obtain ⟨_, e0, a1, b1⟩ := h1
    obtain ⟨_, e1, a2, b2⟩ := h2
    have := a1.uniq a2
    subst this
    exact stpR_uniq i _ _ _ _ _ e l e' l' b1 b2
/-- what planned answers -/
def PLN (A S : Nat → Nat) (x y z span : Nat) (c : Int) (i : Nat) (set : Int) (v : Int) : Prop := (v = -1 ∧ (c < 0 ∨ ∀ e l, ¬ stpR A S i x y z span c.toNat e l)) ∨ (0 ≤ c ∧ ∃ e l : Nat, stpR A S i x y z span c.toNat e l ∧ v = if set = 0 then (span : Int) - (l : Int) else (e : Int))
theorem PLN.uniq {A S : Nat → Nat} {x y z span i : Nat} {c set v w : Int} (h1 : PLN A S x y z span c i set v) (h2 : PLN A S x y z span c i set w) : v = w := by
  rcases h1 with ⟨e1, h1⟩ | ⟨hc, e, l, a1, b1⟩
  · rcases h2 with ⟨e2, _⟩ | ⟨hc2, e', l', a2, _⟩
    · omega
    · rcases h1 with h1 | h1
      · omega
      · exact absurd a2 (h1 e' l')
  · rcases h2 with ⟨_, h2⟩ | ⟨_, e', l', a2, b2⟩
    · rcases h2 with h2 | h2
      · omega
      · exact absurd a1 (h2 e l)
    · obtain ⟨rfl, rfl⟩ := stpR_uniq i _ _ _ _ _ e l e' l' a1 a2
      rw [b1, b2]
theorem ok_steps {σ : xS} {A S : Nat → Nat} {K i0 x y z span i : Nat} {c set : Int} {Q : Int → xS → Prop} (hP : PB σ A S) (h4 : T4K σ A S K i0) (hT : TS σ A S x y z) (hx : x ≤ A 0) (hy : y ≤ A 1) (hz : z ≤ A 2) (hspan : span ≤ 40) (hset : rng set) (hi : rng (i : Int)) (hc : c < (K : Int)) (hcr : -1 ≤ c) (k : ∀ v, PLN A S x y z span c i set v → Q v σ) : mu (vX2_stepOf_18 Q) ((span : Int), (i : Int), set, 469, (span : Int), c, 0, σ) := by
  obtain ⟨hA, hS, h0, h1, h6, h3⟩ := hP
  have hK121 := h4.2.2.1.2
  have h469 := cm_469 hA
  have hA' := hA
  by_cases hc0 : c < 0
  · refine mu_of (fun a => a = ((span : Int), (i : Int), set, 469, (span : Int), c, 0, σ)) (fun _ => 0) ?_ _ rfl
    rintro KK _ rfl hK
    unfold vX2_stepOf_18
    have fin := k (-1) (Or.inl ⟨rfl, Or.inl hc0⟩)
    exact ⟨rng0, ⟨by omega, by omega⟩, fun _ => fin, fun _ => ⟨⟨by omega, by omega⟩, fun _ => fin, fun _ => ⟨⟨by omega, by omega⟩, fun _ => fin, fun w => absurd hc0 w⟩⟩⟩
  · obtain ⟨c0, rfl⟩ : ∃ c0 : Nat, c = (c0 : Int) := ⟨c.toNat, by omega⟩
    refine mu_of (fun a => ∃ q pl x y z l c : Nat, a = ((span : Int), (i : Int), set, (pl : Int), (l : Int), (c : Int), (q : Int), σ) ∧ pl < 470 ∧ (∀ e, e < 8 → WY A S x y z e (σ 13 (8 * pl + e))) ∧ (x ≤ A 0 ∧ y ≤ A 1 ∧ z ≤ A 2) ∧ l ≤ 40 ∧ c < K ∧ q ≤ i ∧ q + l ≤ span ∧ (∀ j, i = q + j → ∀ e l', stpR A S j x y z l c e l' → Q (if set = 0 then (span : Int) - (l' : Int) else (e : Int)) σ) ∧ ((∀ j, i = q + j → ∀ e l', ¬ stpR A S j x y z l c e l') → Q (-1) σ)) (fun a => a.2.2.2.2.1.toNat) ?_ _ ⟨0, 469, x, y, z, span, c0, rfl, by omega, fun e he => hT e he, ⟨hx, hy, hz⟩, hspan, by omega, by omega, by omega, fun j hj e l' hst => ?_, fun hno => ?_⟩
    · rintro KK _ ⟨q, pl, x, y, z, l, c, rfl, hpl, hw, ⟨hx, hy, hz⟩, hl, hcK, hqi, hql, kf, kn⟩ hK
      unfold vX2_stepOf_18
      refine ⟨⟨by omega, by have := hi.2; omega⟩, ⟨by omega, by omega⟩, fun z1 => kn (fun j hj e l' hst => ?_), fun z1 => ⟨⟨by omega, by omega⟩, fun z2 => kn (fun j hj e l' hst => ?_), fun z2 => ⟨⟨by omega, by omega⟩, fun z3 => by omega, fun z3 => ?_⟩⟩⟩
      · cases j with
        | zero => have := hst.1; omega
        | succ j => have := hst.1; omega
      · cases j with
        | zero => have := hst.1; omega
        | succ j => have := hst.1; omega
      · obtain ⟨j, hj⟩ : ∃ j, i = q + j := ⟨i - q, by omega⟩
        refine ok_leastSet hA hx hy hz (by omega) hl hpl h6 hw (fun e he => av_done hA hx hy hz h4 (by omega)) (fun e hle => ⟨⟨by have := hle.1; omega, by have := hle.1; omega⟩, fun _ => ⟨hi, fun z5 => ?_, fun z5 => ?_⟩, fun w => absurd w (by omega)⟩) (fun hno => ⟨⟨by omega, by omega⟩, fun w => absurd rfl w, fun _ => kn (fun j' hj' e' l' hst => ?_)⟩)
        · have he8 := hle.1
          obtain ⟨hv, hpc, hs, hsr, _⟩ := hle.2.1
          have hwe := (hw e he8).2.2 hv hs
          obtain ⟨m1, m2⟩ := tg_mom (S := S) (e := e) hA hx hy hz hs
          have mc := cm_lt A m2 m1
          have t0 : tE A S e 0 x ≤ A 0 := tE_le hx
          have t1 : tE A S e 1 y ≤ A 1 := tE_le hy
          have t2 : tE A S e 2 z ≤ A 2 := tE_le hz
          have hi' := sc_is A S x y z e
          have hnb := nb_cod (x := tE A S e 0 x - sc A S x y z e) (y := tE A S e 1 y - sc A S x y z e) (z := tE A S e 2 z - sc A S x y z e) (by omega) (by omega) (by omega)
          refine ⟨by omega, fun t ht => ⟨by omega, ?_⟩⟩
          rw [show ((pl : Int) * 8 + (e : Int)).toNat = 8 * pl + e by omega, hwe] at ht
          have ejs : jshr t 4 = (cm A (tg A S x y z e) : Int) := by
            rw [ht, show (4 : Int) = ((4 : Nat) : Int) from rfl, jshr_nat (by omega) (by omega)]
            congr 1
            show (16 * cm A (tg A S x y z e) + sc A S x y z e) / 16 = cm A (tg A S x y z e)
            omega
          have eja : jand t 15 = (sc A S x y z e : Int) := by
            rw [ht, show (15 : Int) = ((15 : Nat) : Int) from rfl, jand_nat (by omega), show (15 : Nat) = 2 ^ 4 - 1 from rfl, Nat.and_two_pow_sub_one_eq_mod]
            congr 1
            show (16 * cm A (tg A S x y z e) + sc A S x y z e) % 16 = sc A S x y z e
            omega
          obtain ⟨j', rfl⟩ : ∃ j', j = j' + 1 := ⟨j - 1, by omega⟩
          rw [ejs, eja, Int.toNat_natCast, stk_pcs e he8, show (l : Int) - (sc A S x y z e : Int) = ((l - sc A S x y z e : Nat) : Int) by omega, show (c : Int) - (pcs e : Int) = ((c - pcs e : Nat) : Int) by omega, show (q : Int) + 1 = ((q + 1 : Nat) : Int) by push_cast; rfl]
          refine hK _ ⟨q + 1, cm A (tg A S x y z e), _, _, _, l - sc A S x y z e, c - pcs e, rfl, by omega, fun e' he' => ?_, ⟨?_, ?_, ?_⟩, by omega, by omega, by omega, by omega, fun j2 hj2 e2 l2 hst => kf (j2 + 1) (by omega) e2 l2 ⟨by omega, e, hle, hst⟩, fun hno => kn (fun j2 hj2 e2 l2 hst => ?_)⟩ ?_
          · have := h3 _ m1 m2 e' he'
            rw [hnb.1, hnb.2.1, hnb.2.2] at this
            exact this
          · omega
          · omega
          · omega
          · have hj3 : j2 = j' + 1 := by omega
            subst hj3
            obtain ⟨_, e0, a1, b1⟩ := hst
            have := a1.uniq hle
            subst this
            exact hno j' (by omega) e2 l2 b1
          · show ((l - sc A S x y z e : Nat) : Int).toNat < ((l : Int)).toNat
            omega
        · have hj0 : j = 0 := by omega
          subst hj0
          have := kf 0 hj e l ⟨by omega, hle, rfl⟩
          refine ⟨hset, fun z6 => ?_, fun z6 => ?_⟩
          · rw [if_pos z6] at this; exact this
          · rw [if_neg z6] at this; exact this
        · cases j' with
          | zero => exact hno e' hst.2.1.1 hst.2.1.2.1
          | succ j' =>
            obtain ⟨_, e0, a1, _⟩ := hst
            exact hno e0 a1.1 a1.2.1
    · rw [Nat.zero_add] at hj
      subst hj
      exact k _ (Or.inr ⟨by omega, e, l', hst, rfl⟩)
    · exact k (-1) (Or.inl ⟨rfl, Or.inr (fun e l => hno i (by omega) e l)⟩)
