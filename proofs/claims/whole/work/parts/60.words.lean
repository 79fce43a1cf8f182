/-! words for numbers from 0 on (the first rows began as rows of kit/laws) -/
theorem i32_nI (n : Nat) : i32 (n : Int) = nI n := by
  show Int32.ofInt _ = Int32.ofNat _
  rw [← Int32.ofInt_eq_ofNat]
theorem i64_lN (n : Nat) : i64 (n : Int) = lN n := by
  show Int64.ofInt _ = Int64.ofNat _
  rw [← Int64.ofInt_eq_ofNat]
theorem w_and (a b : Nat) : nI a &&& nI b = nI (a &&& b) := by
  apply Int32.toBitVec_inj.1
  show BitVec.ofNat 32 a &&& BitVec.ofNat 32 b = BitVec.ofNat 32 (a &&& b)
  apply BitVec.eq_of_getLsbD_eq
  intro i hi
  simp [hi]
theorem w_or (a b : Nat) : nI a ||| nI b = nI (a ||| b) := by
  apply Int32.toBitVec_inj.1
  show BitVec.ofNat 32 a ||| BitVec.ofNat 32 b = BitVec.ofNat 32 (a ||| b)
  apply BitVec.eq_of_getLsbD_eq
  intro i hi
  simp [hi]
theorem w_not (a b : Nat) : nI a &&& (nI b ^^^ (-1)) = nI (a ^^^ (a &&& b)) := by
  apply Int32.toBitVec_inj.1
  show BitVec.ofNat 32 a &&& (BitVec.ofNat 32 b ^^^ BitVec.allOnes 32) = BitVec.ofNat 32 (a ^^^ (a &&& b))
  apply BitVec.eq_of_getLsbD_eq
  intro i hi
  rw [BitVec.getLsbD_and, BitVec.getLsbD_xor, BitVec.getLsbD_allOnes, BitVec.getLsbD_ofNat, BitVec.getLsbD_ofNat, BitVec.getLsbD_ofNat, Nat.testBit_xor, Nat.testBit_and]
  simp only [hi, decide_true, Bool.true_and]
  cases a.testBit i <;> cases b.testBit i <;> rfl
theorem w_s : ∀ n, n < 32 → ((nI n &&& 31).toBitVec.smod 32).toNat = n := by decide +kernel
theorem toI {n : Nat} (h : n < 2147483648) : (nI n).toInt = (n : Int) := nI_toInt h
theorem jand_nat {a b : Nat} (ha : a < 2147483648) : jand (a : Int) (b : Int) = ((a &&& b : Nat) : Int) := by
  have : a &&& b ≤ a := Nat.and_le_left
  unfold jand
  rw [i32_nI, i32_nI, w_and, toI (by omega)]
theorem jor_nat {a b : Nat} (ha : a < 2147483648) (hb : b < 2147483648) : jor (a : Int) (b : Int) = ((a ||| b : Nat) : Int) := by
  have : a ||| b < 2 ^ 31 := Nat.or_lt_two_pow ha hb
  unfold jor
  rw [i32_nI, i32_nI, w_or, toI (by omega)]
theorem jandn_nat {a b : Nat} (ha : a < 2147483648) : jand (a : Int) (jxor (b : Int) (-1)) = ((a ^^^ (a &&& b) : Nat) : Int) := by
  have h1 : a &&& b ≤ a := Nat.and_le_left
  have h2 : a ^^^ (a &&& b) < 2 ^ 31 := Nat.xor_lt_two_pow ha (by omega)
  unfold jand jxor
  rw [i32_asI, i32_nI, i32_nI, show i32 (-1) = -1 from rfl, w_not, toI (by omega)]
theorem jshl_nat {a k : Nat} (hk : k < 32) (h : a * 2 ^ k < 2147483648) : jshl (a : Int) (k : Int) = ((a * 2 ^ k : Nat) : Int) := by
  unfold jshl
  rw [i32_nI, i32_nI, pk_shlN _ k (w_s k hk) (by omega), toI h]
theorem jshr_nat {a k : Nat} (hk : k < 32) (h : a < 2147483648) : jshr (a : Int) (k : Int) = ((a / 2 ^ k : Nat) : Int) := by
  have := Nat.div_le_self a (2 ^ k)
  unfold jshr
  rw [i32_nI, i32_nI, pk_shrN h _ k (w_s k hk), toI (by omega)]
theorem jdiv_nat {a n : Nat} (ha : a < 2147483648) (hn0 : 0 < n) (hn : n < 2147483648) : jdiv (a : Int) (n : Int) = ((a / n : Nat) : Int) := by
  have := Nat.div_le_self a n
  unfold jdiv
  rw [i32_nI, i32_nI, pk_div (by omega) hn0 (by omega), toI (by omega)]
theorem l_tb (n : Nat) : (lN n).toBitVec = BitVec.ofNat 64 n := rfl
theorem l_inj {a b : Int64} (h : a.toBitVec = b.toBitVec) : a = b := Int64.toBitVec_inj.mp h
theorem l_c : ∀ k, k < 64 → ((nI k).toInt64 &&& 63) = lN k := by decide +kernel
theorem l_cu : ∀ k, k < 64 → ((nI k).toInt64.toUInt64 &&& Int64.toUInt64 63) = UInt64.ofNat k := by decide +kernel
theorem l_sm : ∀ k, k < 64 → (BitVec.ofNat 64 k).smod 64 = BitVec.ofNat 64 k := by decide +kernel
theorem l_and {a b : Nat} : lN a &&& lN b = lN (a &&& b) := by
  apply l_inj
  show BitVec.ofNat 64 a &&& BitVec.ofNat 64 b = BitVec.ofNat 64 (a &&& b)
  apply BitVec.eq_of_getLsbD_eq
  intro i hi
  simp [hi]
theorem l_or {a b : Nat} : lN a ||| lN b = lN (a ||| b) := by
  apply l_inj
  show BitVec.ofNat 64 a ||| BitVec.ofNat 64 b = BitVec.ofNat 64 (a ||| b)
  apply BitVec.eq_of_getLsbD_eq
  intro i hi
  simp [hi]
theorem l_shl (n : Nat) {k : Nat} (hk : k < 64) : lN n <<< ((nI k).toInt64 &&& 63) = lN (n * 2 ^ k) := by
  rw [l_c k hk]
  apply l_inj
  rw [Int64.toBitVec_shiftLeft, l_tb, l_tb, l_tb, l_sm k hk]
  apply BitVec.eq_of_toNat_eq
  rw [BitVec.shiftLeft_eq', BitVec.toNat_shiftLeft, BitVec.toNat_ofNat, BitVec.toNat_ofNat, BitVec.toNat_ofNat, Nat.mod_eq_of_lt (show k < 2 ^ 64 by omega), Nat.shiftLeft_eq, Nat.mul_mod, Nat.mod_mod, ← Nat.mul_mod]
theorem lI {a : Nat} (h : a < 9223372036854775808) : (lN a).toInt = (a : Int) := lg_ofNat_toInt h
theorem l_shr {a k : Nat} (hk : k < 64) (h : a < 9223372036854775808) : lN a >>> ((nI k).toInt64 &&& 63) = lN (a / 2 ^ k) := by
  have hd : a / 2 ^ k ≤ a := Nat.div_le_self _ _
  rw [l_c k hk]
  apply Int64.toInt_inj.mp
  have hD : ((lN k).toBitVec.smod 64).toNat = k := by
    rw [l_tb, l_sm k hk, BitVec.toNat_ofNat, Nat.mod_eq_of_lt (by omega)]
  have e : (lN a >>> lN k).toInt = (lN a).toInt >>> k := by
    have := BitVec.toInt_sshiftRight (x := (lN a).toBitVec) (n := ((lN k).toBitVec.smod 64).toNat)
    rw [hD] at this
    show ((lN a).toBitVec.sshiftRight ((lN k).toBitVec.smod 64).toNat).toInt = (lN a).toBitVec.toInt >>> k
    rw [hD]
    exact this
  rw [e, Int.shiftRight_eq_div_pow, lI (by omega), lI (by omega)]
  rfl
theorem l_ushr {n k : Nat} (hn : n < 9223372036854775808) (hk : k < 64) : ((lN n).toUInt64 >>> ((nI k).toInt64.toUInt64 &&& Int64.toUInt64 63)).toInt64 = lN (n / 2 ^ k) := by
  rw [l_cu k hk]
  apply l_inj
  apply BitVec.eq_of_toNat_eq
  show ((lN n).toUInt64 >>> UInt64.ofNat k).toNat = (BitVec.ofNat 64 _).toNat
  have h1 : (UInt64.ofNat k).toNat = k := by
    show (BitVec.ofNat 64 k).toNat = k
    rw [BitVec.toNat_ofNat, Nat.mod_eq_of_lt (by omega)]
  have h2 : (lN n).toUInt64.toNat = n := by
    show (BitVec.ofNat 64 n).toNat = n
    rw [BitVec.toNat_ofNat, Nat.mod_eq_of_lt (by omega)]
  have h3 := Nat.div_le_self n (2 ^ k)
  rw [UInt64.toNat_shiftRight, h1, h2, Nat.mod_eq_of_lt hk, Nat.shiftRight_eq_div_pow, BitVec.toNat_ofNat, Nat.mod_eq_of_lt (by omega)]
theorem kand_nat {a b : Nat} (ha : a < 9223372036854775808) : kand (a : Int) (b : Int) = ((a &&& b : Nat) : Int) := by
  have : a &&& b ≤ a := Nat.and_le_left
  unfold kand
  rw [i64_lN, i64_lN, l_and, lI (by omega)]
theorem kor_nat {a b : Nat} (ha : a < 9223372036854775808) (hb : b < 9223372036854775808) : kor (a : Int) (b : Int) = ((a ||| b : Nat) : Int) := by
  have : a ||| b < 2 ^ 63 := Nat.or_lt_two_pow ha hb
  unfold kor
  rw [i64_lN, i64_lN, l_or, lI (by omega)]
theorem kshl_nat {a k : Nat} (hk : k < 64) (h : a * 2 ^ k < 9223372036854775808) : kshl (a : Int) (k : Int) = ((a * 2 ^ k : Nat) : Int) := by
  unfold kshl
  rw [i64_lN, i32_nI, l_shl _ hk, lI h]
theorem kshr_nat {a k : Nat} (hk : k < 64) (h : a < 9223372036854775808) : kshr (a : Int) (k : Int) = ((a / 2 ^ k : Nat) : Int) := by
  have := Nat.div_le_self a (2 ^ k)
  unfold kshr
  rw [i64_lN, i32_nI, l_shr hk h, lI (by omega)]
theorem kushr_nat {a k : Nat} (hk : k < 64) (h : a < 9223372036854775808) : kushr (a : Int) (k : Int) = ((a / 2 ^ k : Nat) : Int) := by
  have := Nat.div_le_self a (2 ^ k)
  unfold kushr
  rw [i64_lN, i32_nI, l_ushr h hk, lI (by omega)]
theorem jlcmp_rng (a b : Int) : rng (jlcmp a b) := i32_rng _
theorem jlcmp_0 {a b : Int} (ha : rngL a) (hb : rngL b) : jlcmp a b = 0 ↔ a = b := by
  unfold jlcmp
  have e : (lg_cmp (i64 a) (i64 b)).toInt = 0 ↔ lg_cmp (i64 a) (i64 b) = 0 := by
    rw [← Int32.toInt_inj]
    rfl
  rw [e, lg_cmp_eq, ← Int64.toInt_inj, i64_toInt ha, i64_toInt hb]
theorem jmin_nat (a b : Nat) : jmin (a : Int) (b : Int) = ((min a b : Nat) : Int) := by
  unfold jmin
  split <;> omega
theorem jmax_nat (a b : Nat) : jmax (a : Int) (b : Int) = ((max a b : Nat) : Int) := by
  unfold jmax
  split <;> omega
/-! codes of sand: four bits a glass -/
def cod (x y z : Nat) : Nat := x + 16 * y + 256 * z
theorem cod_inj {x y z x' y' z' : Nat} (h1 : x < 16) (h2 : y < 16) (h1' : x' < 16) (h2' : y' < 16) : cod x y z = cod x' y' z' ↔ x = x' ∧ y = y' ∧ z = z' := by
  unfold cod
  omega
theorem cod_unit (x y z : Nat) (hx : x < 16) (hy : y < 16) (hz : z < 16) (g : Nat) (hg : g < 3) : (cod x y z / 2 ^ (4 * g)) &&& 15 = if g = 0 then x else if g = 1 then y else z := by
  have e : ∀ n : Nat, n &&& 15 = n % 16 := fun n => Nat.and_two_pow_sub_one_eq_mod n 4
  rw [e]
  unfold cod
  rcases (show g = 0 ∨ g = 1 ∨ g = 2 by omega) with rfl | rfl | rfl
  · rw [if_pos rfl]
    show (x + 16 * y + 256 * z) / 1 % 16 = x
    omega
  · rw [if_neg (by omega), if_pos rfl]
    show (x + 16 * y + 256 * z) / 16 % 16 = y
    omega
  · rw [if_neg (by omega), if_neg (by omega)]
    show (x + 16 * y + 256 * z) / 256 % 16 = z
    omega
theorem cod_lt {x y z : Nat} (hx : x < 16) (hy : y < 16) (hz : z < 16) : cod x y z < 4096 := by
  unfold cod
  omega
