/-! planning, second by second: which spans can be measured with which cost. Three glasses with amounts A, the stack numbers S (a glass that does not count: A = 0), st: the stacks that may be turned; dn: how a turn lowers the cost that is left -/
def tnG (A S : Nat → Nat) (j g x : Nat) : Nat := if S g = j then A g - x else x
def chs (dn : Nat → Nat → Prop) (st : Nat → Prop) (A S : Nat → Nat) (j : Nat) (P : Nat → Nat → Nat → Nat → Prop) (c x y z : Nat) : Prop := P c x y z ∨ (st j ∧ ∃ c', dn c c' ∧ P c' (tnG A S j 0 x) (tnG A S j 1 y) (tnG A S j 2 z))
def chA (dn : Nat → Nat → Prop) (st : Nat → Prop) (A S : Nat → Nat) (P : Nat → Nat → Nat → Nat → Prop) : Nat → Nat → Nat → Nat → Prop := chs dn st A S 2 (chs dn st A S 1 (chs dn st A S 0 P))
def pRun (dn : Nat → Nat → Prop) (st : Nat → Prop) (A S : Nat → Nat) : Nat → Nat → Nat → Nat → Nat → Prop
  | 0, _, _, _, _ => False
  | r + 1, c, x, y, z => (0 < x ∨ 0 < y ∨ 0 < z) ∧ (pRun dn st A S r c (x - 1) (y - 1) (z - 1) ∨ ((x = 1 ∨ y = 1 ∨ z = 1) ∧ (r = 0 ∨ chA dn st A S (pRun dn st A S r) c (x - 1) (y - 1) (z - 1))))
def dnN (c c' : Nat) : Prop := c = c' + 1
def dnL (c c' : Nat) : Prop := (c < 25 ∧ c = c' + 1) ∨ (c = 25 ∧ c' = 25)
theorem chs_mono {dn dn' : Nat → Nat → Prop} {st : Nat → Prop} {A S : Nat → Nat} {j : Nat} {P P' : Nat → Nat → Nat → Nat → Prop} {R : Nat → Nat → Prop} (hd : ∀ c d c', R c d → dn c c' → ∃ d', dn' d d' ∧ R c' d') (hP : ∀ c d x y z, R c d → P c x y z → P' d x y z) : ∀ c d x y z, R c d → chs dn st A S j P c x y z → chs dn' st A S j P' d x y z := by
  intro c d x y z hr h
  rcases h with h | ⟨h1, c', h2, h3⟩
  · exact Or.inl (hP c d x y z hr h)
  · obtain ⟨d', h4, h5⟩ := hd c d c' hr h2
    exact Or.inr ⟨h1, d', h4, hP c' d' _ _ _ h5 h3⟩
theorem chA_mono {dn dn' : Nat → Nat → Prop} {st : Nat → Prop} {A S : Nat → Nat} {P P' : Nat → Nat → Nat → Nat → Prop} {R : Nat → Nat → Prop} (hd : ∀ c d c', R c d → dn c c' → ∃ d', dn' d d' ∧ R c' d') (hP : ∀ c d x y z, R c d → P c x y z → P' d x y z) : ∀ c d x y z, R c d → chA dn st A S P c x y z → chA dn' st A S P' d x y z :=
  chs_mono hd (chs_mono hd (chs_mono hd hP))
theorem pRun_mono {dn dn' : Nat → Nat → Prop} {st : Nat → Prop} {A S : Nat → Nat} {R : Nat → Nat → Prop} (hd : ∀ c d c', R c d → dn c c' → ∃ d', dn' d d' ∧ R c' d') : ∀ r c d x y z, R c d → pRun dn st A S r c x y z → pRun dn' st A S r d x y z
  | 0, c, d, x, y, z, hr, h => h
  | r + 1, c, d, x, y, z, hr, h => by
    have ih := pRun_mono (dn := dn) (dn' := dn') (st := st) (A := A) (S := S) hd r
    obtain ⟨h1, h2⟩ := h
    refine ⟨h1, ?_⟩
    rcases h2 with h2 | ⟨h2, h3⟩
    · exact Or.inl (ih c d _ _ _ hr h2)
    · refine Or.inr ⟨h2, ?_⟩
      rcases h3 with h3 | h3
      · exact Or.inl h3
      · exact Or.inr (chA_mono hd (fun c d x y z hr h => ih c d x y z hr h) c d _ _ _ hr h3)
/-- what can be measured from a moment on -/
abbrev Can (st : Nat → Prop) (A S : Nat → Nat) (r c x y z : Nat) : Prop := chA dnN st A S (pRun dnN st A S r) c x y z
abbrev CanL (st : Nat → Prop) (A S : Nat → Nat) (r c x y z : Nat) : Prop := chA dnL st A S (pRun dnL st A S r) c x y z
theorem Can.mono {st : Nat → Prop} {A S : Nat → Nat} {r c d x y z : Nat} (h : Can st A S r c x y z) (hcd : c ≤ d) : Can st A S r d x y z :=
  chA_mono (R := fun c d => c ≤ d) (fun c d c' hr h => ⟨d - 1, by unfold dnN at h ⊢; omega, by unfold dnN at h; omega⟩) (fun c d x y z hr h => pRun_mono (R := fun c d => c ≤ d) (fun c d c' hr h => ⟨d - 1, by unfold dnN at h ⊢; omega, by unfold dnN at h; omega⟩) r c d x y z hr h) c d x y z hcd h
theorem Can.any {st : Nat → Prop} {A S : Nat → Nat} {r c x y z : Nat} (h : Can st A S r c x y z) : CanL st A S r 25 x y z :=
  chA_mono (R := fun _ d => d = 25) (fun c d c' hr h => ⟨25, Or.inr ⟨hr, rfl⟩, rfl⟩) (fun c d x y z hr h => pRun_mono (R := fun _ d => d = 25) (fun c d c' hr h => ⟨25, Or.inr ⟨hr, rfl⟩, rfl⟩) r c d x y z hr h) c 25 x y z rfl h
theorem CanL.low {st : Nat → Prop} {A S : Nat → Nat} {r c x y z : Nat} (hc : c < 25) (h : CanL st A S r c x y z) : Can st A S r c x y z :=
  chA_mono (R := fun c d => c = d ∧ c < 25) (fun c d c' hr h => ⟨c', by unfold dnL at h; unfold dnN; omega, rfl, by unfold dnL at h; omega⟩) (fun c d x y z hr h => pRun_mono (R := fun c d => c = d ∧ c < 25) (fun c d c' hr h => ⟨c', by unfold dnL at h; unfold dnN; omega, rfl, by unfold dnL at h; omega⟩) r c d x y z hr h) c c x y z ⟨rfl, hc⟩ h
/-! rows of bits: a field of 26 bits (costs up to 24, and 25: any) a sand above (x, y, z, each to 12) and a set i of stacks that stand turned -/
noncomputable def frc {α : Type} (x : Nat) (k : Nat → α) : α := Nat.rec (motive := fun _ => α) (k 0) (fun n _ => k (n + 1)) x
theorem frc_eq {α : Type} (x : Nat) (k : Nat → α) : frc x k = k x := by
  cases x <;> rfl
noncomputable def axI (b : Nat) (p : Nat → Bool) (X n : Nat) : Nat := Nat.rec (motive := fun _ => Nat) 0 (fun n a => Bool.rec (motive := fun _ => Nat) a (Nat.lor (Nat.shiftLeft X (Nat.mul b n)) a) (p n)) n
theorem axI_0 (b : Nat) (p : Nat → Bool) (X : Nat) : axI b p X 0 = 0 := rfl
theorem axI_s (b : Nat) (p : Nat → Bool) (X n : Nat) : axI b p X (n + 1) = if p n = true then (X <<< (b * n)) ||| axI b p X n else axI b p X n := by
  show Bool.rec (motive := fun _ => Nat) (axI b p X n) ((X <<< (b * n)) ||| axI b p X n) (p n) = _
  cases p n <;> rfl
theorem axI_bit {b : Nat} {p : Nat → Bool} {X : Nat} (hX : X < 2 ^ b) {j m : Nat} (hm : m < b) : ∀ n, (axI b p X n).testBit (b * j + m) = (decide (j < n) && p j && X.testBit m)
  | 0 => by rw [axI_0, Nat.zero_testBit]; simp
  | n + 1 => by
    have ih := axI_bit hX (p := p) (j := j) hm n
    have key : (X <<< (b * n)).testBit (b * j + m) = (decide (j = n) && X.testBit m) := by
      rw [Nat.testBit_shiftLeft]
      rcases Nat.lt_trichotomy j n with h | h | h
      · have h1 : b * (j + 1) ≤ b * n := Nat.mul_le_mul_left b h
        rw [Nat.mul_succ] at h1
        have h2 : ¬ (b * j + m ≥ b * n) := by omega
        have h3 : ¬ j = n := by omega
        simp [h2, h3]
      · subst h
        simp
      · have h1 : b * (n + 1) ≤ b * j := Nat.mul_le_mul_left b h
        rw [Nat.mul_succ] at h1
        have h3 : ¬ j = n := by omega
        have h4 : X.testBit (b * j + m - b * n) = false := Nat.testBit_lt_two_pow (Nat.lt_of_lt_of_le hX (Nat.pow_le_pow_right (by omega) (by omega)))
        simp [h3, h4]
    rw [axI_s]
    by_cases hp : p n = true
    · rw [if_pos hp, Nat.testBit_or, key, ih]
      by_cases hj : j = n
      · subst hj
        simp [hp]
      · by_cases h2 : j < n
        · have : j < n + 1 := by omega
          simp [hj, h2, this]
        · have : ¬ j < n + 1 := by omega
          simp [hj, h2, this]
    · rw [if_neg hp, ih]
      by_cases hj : j = n
      · subst hj
        simp [hp]
      · by_cases h2 : j < n
        · have : j < n + 1 := by omega
          simp [h2, this]
        · have : ¬ j < n + 1 := by omega
          simp [h2, this]
theorem axI_lt {b : Nat} {p : Nat → Bool} {X : Nat} (hX : X < 2 ^ b) : ∀ n, axI b p X n < 2 ^ (b * n)
  | 0 => by rw [axI_0]; exact Nat.pow_pos (by omega)
  | n + 1 => by
    have ih := axI_lt hX (p := p) n
    have h1 : 2 ^ (b * n) ≤ 2 ^ (b * (n + 1)) := Nat.pow_le_pow_right (by omega) (by rw [Nat.mul_succ]; omega)
    rw [axI_s]
    split
    · refine Nat.or_lt_two_pow ?_ (Nat.lt_of_lt_of_le ih h1)
      rw [Nat.shiftLeft_eq, Nat.mul_succ, Nat.add_comm, Nat.pow_add]
      exact Nat.mul_lt_mul_of_pos_right hX (Nat.pow_pos (by omega))
    · exact Nat.lt_of_lt_of_le ih h1
def bt (N i x y z c : Nat) : Bool := N.testBit (26 * (x + 13 * y + 169 * z + 2197 * i) + c)
noncomputable def prd (pi p2 p1 p0 : Nat → Bool) (X : Nat) : Nat := frc (axI 26 p0 X 13) fun X => frc (axI 338 p1 X 13) fun X => frc (axI 4394 p2 X 13) fun X => axI 57122 pi X 8
theorem prd_bt {pi p2 p1 p0 : Nat → Bool} {X : Nat} (hX : X < 2 ^ 26) {i x y z c : Nat} (hi : i < 8) (hx : x < 13) (hy : y < 13) (hz : z < 13) (hc : c < 26) : bt (prd pi p2 p1 p0 X) i x y z c = (pi i && p2 z && p1 y && p0 x && X.testBit c) := by
  have l0 := axI_lt hX (p := p0) 13
  have l1 := axI_lt (b := 338) (X := axI 26 p0 X 13) l0 (p := p1) 13
  have l2 := axI_lt (b := 4394) (X := axI 338 p1 (axI 26 p0 X 13) 13) l1 (p := p2) 13
  unfold bt prd
  rw [frc_eq, frc_eq, frc_eq]
  rw [show 26 * (x + 13 * y + 169 * z + 2197 * i) + c = 57122 * i + (4394 * z + (338 * y + (26 * x + c))) by omega]
  rw [axI_bit (b := 57122) l2 (by omega), axI_bit (b := 4394) l1 (by omega), axI_bit (b := 338) l0 (by omega), axI_bit hX hc]
  simp [hi, hx, hy, hz, Bool.and_assoc]
/-- a second back along one glass: cells that come from the one below, from the one above, or stay -/
noncomputable def dgB (b U V Z X : Nat) : Nat := Nat.lor (Nat.lor (Nat.land (Nat.shiftLeft X b) U) (Nat.land (Nat.shiftRight X b) V)) (Nat.land X Z)
theorem dgB_bt {b U V Z X p : Nat} : (dgB b U V Z X).testBit p = (((decide (p ≥ b) && X.testBit (p - b)) && U.testBit p || X.testBit (b + p) && V.testBit p) || X.testBit p && Z.testBit p) := by
  show ((((X <<< b) &&& U) ||| ((X >>> b) &&& V)) ||| (X &&& Z)).testBit p = _
  rw [Nat.testBit_or, Nat.testBit_or, Nat.testBit_and, Nat.testBit_and, Nat.testBit_and, Nat.testBit_shiftLeft, Nat.testBit_shiftRight]
/-- a stack turned or not -/
noncomputable def swB (b M X : Nat) : Nat := Nat.lor (Nat.land (Nat.shiftRight X b) M) (Nat.shiftLeft (Nat.land X M) b)
noncomputable def stB (s : Bool) (b M L Fl X : Nat) : Nat := Bool.rec (motive := fun _ => Nat) X (frc (swB b M X) fun Y => Nat.lor X (Nat.lor (Nat.land (Nat.shiftLeft Y 1) L) (Nat.land Y Fl))) s
theorem swB_bt {b M X p : Nat} : (swB b M X).testBit p = ((X.testBit (b + p) && M.testBit p) || (decide (p ≥ b) && (X.testBit (p - b) && M.testBit (p - b)))) := by
  show (((X >>> b) &&& M) ||| ((X &&& M) <<< b)).testBit p = _
  rw [Nat.testBit_or, Nat.testBit_and, Nat.testBit_shiftLeft, Nat.testBit_shiftRight, Nat.testBit_and]
theorem stB_bt {b M L Fl X p : Nat} : (stB true b M L Fl X).testBit p = (X.testBit p || ((decide (p ≥ 1) && (swB b M X).testBit (p - 1)) && L.testBit p || (swB b M X).testBit p && Fl.testBit p)) := by
  have e : stB true b M L Fl X = X ||| (((swB b M X <<< 1) &&& L) ||| (swB b M X &&& Fl)) := by
    show frc (swB b M X) (fun Y => Nat.lor X (Nat.lor (Nat.land (Nat.shiftLeft Y 1) L) (Nat.land Y Fl))) = _
    rw [frc_eq]
    rfl
  rw [e, Nat.testBit_or, Nat.testBit_or, Nat.testBit_and, Nat.testBit_and, Nat.testBit_shiftLeft]
/-! the masks of a shape -/
def tr (_ : Nat) : Bool := true
noncomputable def nfl (S i : Nat) : Bool := Bool.not (Nat.testBit i S)
noncomputable def yfl (S i : Nat) : Bool := Nat.testBit i S
noncomputable def pBx (A x : Nat) : Bool := Nat.ble x A
noncomputable def pU (A x : Nat) : Bool := Bool.and (Nat.ble 1 x) (Nat.ble x A)
noncomputable def pV (A x : Nat) : Bool := Nat.ble (x + 1) A
noncomputable def pE (A x : Nat) : Bool := Nat.beq x A
abbrev ONE : Nat := 67108863
theorem ble_dec (a b : Nat) : Nat.ble a b = decide (a ≤ b) := by rw [Bool.eq_iff_iff, Nat.ble_eq, decide_eq_true_iff]
theorem beq_dec (a b : Nat) : Nat.beq a b = decide (a = b) := by rw [Bool.eq_iff_iff, Nat.beq_eq, decide_eq_true_iff]
theorem pBx_t {A x : Nat} (h : x ≤ A) : pBx A x = true := by unfold pBx; rw [ble_dec]; simpa using h
theorem pU_dec (A x : Nat) : pU A x = decide (1 ≤ x ∧ x ≤ A) := by
  show ((Nat.ble 1 x) && (Nat.ble x A)) = _
  rw [ble_dec, ble_dec, Bool.decide_and]
theorem pV_dec (A x : Nat) : pV A x = decide (x < A) := by
  show Nat.ble (x + 1) A = _
  rw [ble_dec]
  rfl
theorem pE_dec (A x : Nat) : pE A x = decide (x = A) := beq_dec x A
theorem nfl_eq (S i : Nat) : nfl S i = !(Nat.testBit i S) := rfl
theorem yfl_eq (S i : Nat) : yfl S i = Nat.testBit i S := rfl
theorem ONE_bit {c : Nat} (hc : c < 26) : ONE.testBit c = true := by
  show (2 ^ 26 - 1 : Nat).testBit c = true
  rw [Nat.testBit_two_pow_sub_one]
  simpa using hc
theorem ONE_lt : ONE < 2 ^ 26 := Nat.lt_of_sub_pos (by decide)
noncomputable def mUV (g : Nat) (pi : Nat → Bool) (p : Nat → Bool) (A : Nat → Nat) (X : Nat) : Nat := prd pi (if g = 2 then p else pBx (A 2)) (if g = 1 then p else pBx (A 1)) (if g = 0 then p else pBx (A 0)) X
noncomputable def mU (A S : Nat → Nat) (g : Nat) : Nat := mUV g (nfl (S g)) (pU (A g)) A ONE
noncomputable def mV (A S : Nat → Nat) (g : Nat) : Nat := mUV g (yfl (S g)) (pV (A g)) A ONE
noncomputable def mZ (A S : Nat → Nat) (g : Nat) : Nat := Nat.lor (mUV g (nfl (S g)) (pE 0) A ONE) (mUV g (yfl (S g)) (pE (A g)) A ONE)
noncomputable def pE1 (A x : Nat) : Bool := Nat.beq (x + 1) A
noncomputable def mO (A S : Nat → Nat) (g : Nat) : Nat := Nat.lor (mUV g (nfl (S g)) (pE 1) A ONE) (mUV g (yfl (S g)) (pE1 (A g)) A ONE)
noncomputable def mM (j : Nat) : Nat := prd (nfl j) tr tr tr ONE
noncomputable def mL : Nat := prd tr tr tr tr 33554430
noncomputable def mF : Nat := prd tr tr tr tr 33554432
section
variable {A S : Nat → Nat} {i x y z c : Nat}
abbrev InB (A : Nat → Nat) (i x y z c : Nat) : Prop := i < 8 ∧ x ≤ A 0 ∧ y ≤ A 1 ∧ z ≤ A 2 ∧ c < 26
abbrev AOK (A : Nat → Nat) : Prop := A 0 ≤ 12 ∧ A 1 ≤ 12 ∧ A 2 ≤ 12
theorem mUV_0 {pi p : Nat → Bool} (hA : AOK A) (h : InB A i x y z c) : bt (mUV 0 pi p A ONE) i x y z c = (pi i && p x) := by
  obtain ⟨a0, a1, a2⟩ := hA
  obtain ⟨h1, h2, h3, h4, h5⟩ := h
  unfold mUV
  rw [if_neg (by decide), if_neg (by decide), if_pos rfl, prd_bt ONE_lt h1 (by omega) (by omega) (by omega) h5, ONE_bit h5, pBx_t h3, pBx_t h4]
  simp
theorem mUV_1 {pi p : Nat → Bool} (hA : AOK A) (h : InB A i x y z c) : bt (mUV 1 pi p A ONE) i x y z c = (pi i && p y) := by
  obtain ⟨a0, a1, a2⟩ := hA
  obtain ⟨h1, h2, h3, h4, h5⟩ := h
  unfold mUV
  rw [if_neg (by decide), if_pos rfl, if_neg (by decide), prd_bt ONE_lt h1 (by omega) (by omega) (by omega) h5, ONE_bit h5, pBx_t h2, pBx_t h4]
  simp
theorem mUV_2 {pi p : Nat → Bool} (hA : AOK A) (h : InB A i x y z c) : bt (mUV 2 pi p A ONE) i x y z c = (pi i && p z) := by
  obtain ⟨a0, a1, a2⟩ := hA
  obtain ⟨h1, h2, h3, h4, h5⟩ := h
  unfold mUV
  rw [if_pos rfl, if_neg (by decide), if_neg (by decide), prd_bt ONE_lt h1 (by omega) (by omega) (by omega) h5, ONE_bit h5, pBx_t h2, pBx_t h3]
  simp
theorem lor_bt (M N : Nat) : bt (Nat.lor M N) i x y z c = (bt M i x y z c || bt N i x y z c) := by
  show (M ||| N).testBit _ = _
  rw [Nat.testBit_or]
  rfl
theorem land_bt (M N : Nat) : bt (Nat.land M N) i x y z c = (bt M i x y z c && bt N i x y z c) := by
  show (M &&& N).testBit _ = _
  rw [Nat.testBit_and]
  rfl
theorem mM_bt {j : Nat} (hi : i < 8) (hx : x < 13) (hy : y < 13) (hz : z < 13) (hc : c < 26) : bt (mM j) i x y z c = nfl j i := by
  unfold mM
  rw [prd_bt ONE_lt hi hx hy hz hc, ONE_bit hc]
  simp [tr]
theorem mL_bt (hi : i < 8) (hx : x < 13) (hy : y < 13) (hz : z < 13) (hc : c < 26) : bt mL i x y z c = decide (1 ≤ c ∧ c < 25) := by
  unfold mL
  rw [prd_bt (Nat.lt_of_sub_pos (by decide)) hi hx hy hz hc]
  have key : ∀ c, c < 26 → (33554430 : Nat).testBit c = decide (1 ≤ c ∧ c < 25) := by decide +kernel
  rw [key c hc]
  simp [tr]
theorem mF_bt (hi : i < 8) (hx : x < 13) (hy : y < 13) (hz : z < 13) (hc : c < 26) : bt mF i x y z c = decide (c = 25) := by
  unfold mF
  rw [prd_bt (Nat.lt_of_sub_pos (by decide)) hi hx hy hz hc]
  have key : ∀ c, c < 26 → (33554432 : Nat).testBit c = decide (c = 25) := by decide +kernel
  rw [key c hc]
  simp [tr]
/-! one instruction of a second at a time -/
theorem dgB_U {b U V Z X p : Nat} (hu : U.testBit p = true) (hv : V.testBit p = false) (hz : Z.testBit p = false) (hp : b ≤ p) : (dgB b U V Z X).testBit p = X.testBit (p - b) := by
  rw [dgB_bt, hu, hv, hz]
  simp [hp]
theorem dgB_V {b U V Z X p : Nat} (hu : U.testBit p = false) (hv : V.testBit p = true) (hz : Z.testBit p = false) : (dgB b U V Z X).testBit p = X.testBit (b + p) := by
  rw [dgB_bt, hu, hv, hz]
  simp
theorem dgB_Z {b U V Z X p : Nat} (hu : U.testBit p = false) (hv : V.testBit p = false) (hz : Z.testBit p = true) : (dgB b U V Z X).testBit p = X.testBit p := by
  rw [dgB_bt, hu, hv, hz]
  simp
def dxG (A S : Nat → Nat) (i g x : Nat) : Nat := if Nat.testBit i (S g) = true then (if x < A g then x + 1 else x) else x - 1
def vvG (A S : Nat → Nat) (i g x : Nat) : Nat := if Nat.testBit i (S g) = true then A g - x else x
theorem dxG_le {g : Nat} (h : x ≤ A g) : dxG A S i g x ≤ A g := by
  unfold dxG
  split
  · split <;> omega
  · omega
theorem dxG_vv {g : Nat} (h : x ≤ A g) : vvG A S i g (dxG A S i g x) = vvG A S i g x - 1 := by
  unfold vvG dxG
  by_cases hf : Nat.testBit i (S g) = true
  · rw [if_pos hf, if_pos hf, if_pos hf]
    split <;> omega
  · rw [if_neg hf, if_neg hf, if_neg hf]
theorem dg_0 (hA : AOK A) (h : InB A i x y z c) (X : Nat) : bt (dgB 26 (mU A S 0) (mV A S 0) (mZ A S 0) X) i x y z c = bt X i (dxG A S i 0 x) y z c := by
  have hU : bt (mU A S 0) i x y z c = (!(Nat.testBit i (S 0)) && decide (1 ≤ x ∧ x ≤ A 0)) := by
    unfold mU
    rw [mUV_0 hA h, nfl_eq, pU_dec]
  have hV : bt (mV A S 0) i x y z c = (Nat.testBit i (S 0) && decide (x < A 0)) := by
    unfold mV
    rw [mUV_0 hA h, yfl_eq, pV_dec]
  have hZ : bt (mZ A S 0) i x y z c = ((!(Nat.testBit i (S 0)) && decide (x = 0)) || (Nat.testBit i (S 0) && decide (x = A 0))) := by
    unfold mZ
    rw [lor_bt, mUV_0 hA h, mUV_0 hA h, nfl_eq, yfl_eq, pE_dec, pE_dec]
  obtain ⟨h1, h2, h3, h4, h5⟩ := h
  unfold bt at hU hV hZ ⊢
  unfold dxG
  by_cases hf : Nat.testBit i (S 0) = true
  · rw [if_pos hf]
    rw [hf] at hU hV hZ
    by_cases hlt : x < A 0
    · have hne : ¬ x = A 0 := by omega
      rw [if_pos hlt, dgB_V (by rw [hU]; simp) (by rw [hV]; simpa using hlt) (by rw [hZ]; simp [hne])]
      exact congrArg (fun q => Nat.testBit X q) (by omega)
    · have he : x = A 0 := by omega
      rw [if_neg hlt, dgB_Z (by rw [hU]; simp) (by rw [hV]; simpa using hlt) (by rw [hZ]; simp [he])]
  · rw [if_neg hf]
    have hf' : Nat.testBit i (S 0) = false := by simpa using hf
    rw [hf'] at hU hV hZ
    by_cases h0 : x = 0
    · rw [dgB_Z (by rw [hU]; simp [h0]) (by rw [hV]; simp) (by rw [hZ]; simp [h0])]
      exact congrArg (fun q => Nat.testBit X q) (by omega)
    · have hge : 1 ≤ x ∧ x ≤ A 0 := by omega
      rw [dgB_U (by rw [hU]; simpa using hge) (by rw [hV]; simp) (by rw [hZ]; simp [h0]) (by omega)]
      exact congrArg (fun q => Nat.testBit X q) (by omega)
theorem dg_1 (hA : AOK A) (h : InB A i x y z c) (X : Nat) : bt (dgB 338 (mU A S 1) (mV A S 1) (mZ A S 1) X) i x y z c = bt X i x (dxG A S i 1 y) z c := by
  have hU : bt (mU A S 1) i x y z c = (!(Nat.testBit i (S 1)) && decide (1 ≤ y ∧ y ≤ A 1)) := by
    unfold mU
    rw [mUV_1 hA h, nfl_eq, pU_dec]
  have hV : bt (mV A S 1) i x y z c = (Nat.testBit i (S 1) && decide (y < A 1)) := by
    unfold mV
    rw [mUV_1 hA h, yfl_eq, pV_dec]
  have hZ : bt (mZ A S 1) i x y z c = ((!(Nat.testBit i (S 1)) && decide (y = 0)) || (Nat.testBit i (S 1) && decide (y = A 1))) := by
    unfold mZ
    rw [lor_bt, mUV_1 hA h, mUV_1 hA h, nfl_eq, yfl_eq, pE_dec, pE_dec]
  obtain ⟨h1, h2, h3, h4, h5⟩ := h
  unfold bt at hU hV hZ ⊢
  unfold dxG
  by_cases hf : Nat.testBit i (S 1) = true
  · rw [if_pos hf]
    rw [hf] at hU hV hZ
    by_cases hlt : y < A 1
    · have hne : ¬ y = A 1 := by omega
      rw [if_pos hlt, dgB_V (by rw [hU]; simp) (by rw [hV]; simpa using hlt) (by rw [hZ]; simp [hne])]
      exact congrArg (fun q => Nat.testBit X q) (by omega)
    · have he : y = A 1 := by omega
      rw [if_neg hlt, dgB_Z (by rw [hU]; simp) (by rw [hV]; simpa using hlt) (by rw [hZ]; simp [he])]
  · rw [if_neg hf]
    have hf' : Nat.testBit i (S 1) = false := by simpa using hf
    rw [hf'] at hU hV hZ
    by_cases h0 : y = 0
    · rw [dgB_Z (by rw [hU]; simp [h0]) (by rw [hV]; simp) (by rw [hZ]; simp [h0])]
      exact congrArg (fun q => Nat.testBit X q) (by omega)
    · have hge : 1 ≤ y ∧ y ≤ A 1 := by omega
      rw [dgB_U (by rw [hU]; simpa using hge) (by rw [hV]; simp) (by rw [hZ]; simp [h0]) (by omega)]
      exact congrArg (fun q => Nat.testBit X q) (by omega)
theorem dg_2 (hA : AOK A) (h : InB A i x y z c) (X : Nat) : bt (dgB 4394 (mU A S 2) (mV A S 2) (mZ A S 2) X) i x y z c = bt X i x y (dxG A S i 2 z) c := by
  have hU : bt (mU A S 2) i x y z c = (!(Nat.testBit i (S 2)) && decide (1 ≤ z ∧ z ≤ A 2)) := by
    unfold mU
    rw [mUV_2 hA h, nfl_eq, pU_dec]
  have hV : bt (mV A S 2) i x y z c = (Nat.testBit i (S 2) && decide (z < A 2)) := by
    unfold mV
    rw [mUV_2 hA h, yfl_eq, pV_dec]
  have hZ : bt (mZ A S 2) i x y z c = ((!(Nat.testBit i (S 2)) && decide (z = 0)) || (Nat.testBit i (S 2) && decide (z = A 2))) := by
    unfold mZ
    rw [lor_bt, mUV_2 hA h, mUV_2 hA h, nfl_eq, yfl_eq, pE_dec, pE_dec]
  obtain ⟨h1, h2, h3, h4, h5⟩ := h
  unfold bt at hU hV hZ ⊢
  unfold dxG
  by_cases hf : Nat.testBit i (S 2) = true
  · rw [if_pos hf]
    rw [hf] at hU hV hZ
    by_cases hlt : z < A 2
    · have hne : ¬ z = A 2 := by omega
      rw [if_pos hlt, dgB_V (by rw [hU]; simp) (by rw [hV]; simpa using hlt) (by rw [hZ]; simp [hne])]
      exact congrArg (fun q => Nat.testBit X q) (by omega)
    · have he : z = A 2 := by omega
      rw [if_neg hlt, dgB_Z (by rw [hU]; simp) (by rw [hV]; simpa using hlt) (by rw [hZ]; simp [he])]
  · rw [if_neg hf]
    have hf' : Nat.testBit i (S 2) = false := by simpa using hf
    rw [hf'] at hU hV hZ
    by_cases h0 : z = 0
    · rw [dgB_Z (by rw [hU]; simp [h0]) (by rw [hV]; simp) (by rw [hZ]; simp [h0])]
      exact congrArg (fun q => Nat.testBit X q) (by omega)
    · have hge : 1 ≤ z ∧ z ≤ A 2 := by omega
      rw [dgB_U (by rw [hU]; simpa using hge) (by rw [hV]; simp) (by rw [hZ]; simp [h0]) (by omega)]
      exact congrArg (fun q => Nat.testBit X q) (by omega)
end
/-! a stack turned -/
def fpG (j i : Nat) : Nat := if Nat.testBit i j = true then i - 2 ^ j else i + 2 ^ j
theorem fp_a : ∀ i, i < 8 → ∀ j, j < 3 → (Nat.testBit i j = false → i + 2 ^ j < 8 ∧ (2 ^ j ≤ i → Nat.testBit (i - 2 ^ j) j = true)) ∧ (Nat.testBit i j = true → 2 ^ j ≤ i ∧ Nat.testBit (i - 2 ^ j) j = false) := by decide +kernel
theorem fp_b : ∀ i, i < 8 → ∀ j, j < 3 → ∀ s, s < 3 → Nat.testBit (fpG j i) s = if s = j then !(Nat.testBit i s) else Nat.testBit i s := by decide +kernel
theorem fp_lt : ∀ i, i < 8 → ∀ j, j < 3 → fpG j i < 8 := by decide +kernel
theorem sw_bt {i x y z c j : Nat} (hj : j < 3) (hi : i < 8) (hx : x < 13) (hy : y < 13) (hz : z < 13) (hc : c < 26) (X : Nat) : bt (swB (57122 * 2 ^ j) (mM j) X) i x y z c = bt X (fpG j i) x y z c := by
  obtain ⟨ha, hb⟩ := fp_a i hi j hj
  have hp : 0 < 2 ^ j := Nat.pow_pos (by omega)
  have m0 := mM_bt (j := j) hi hx hy hz hc
  rw [nfl_eq] at m0
  unfold fpG
  generalize 2 ^ j = t at ha hb hp ⊢
  by_cases hf : Nat.testBit i j = true
  · rw [if_pos hf]
    obtain ⟨h1, h2⟩ := hb hf
    have m1 := mM_bt (j := j) (i := i - t) (by omega) hx hy hz hc
    rw [nfl_eq, h2] at m1
    rw [hf] at m0
    unfold bt at m0 m1 ⊢
    rw [swB_bt, m0, show 26 * (x + 13 * y + 169 * z + 2197 * i) + c - 57122 * t = 26 * (x + 13 * y + 169 * z + 2197 * (i - t)) + c by omega, m1]
    have : 26 * (x + 13 * y + 169 * z + 2197 * i) + c ≥ 57122 * t := by omega
    simp [this]
  · rw [if_neg hf]
    have hf' : Nat.testBit i j = false := by simpa using hf
    obtain ⟨h1, h2⟩ := ha hf'
    rw [hf'] at m0
    unfold bt at m0 ⊢
    rw [swB_bt, m0, show 57122 * t + (26 * (x + 13 * y + 169 * z + 2197 * i) + c) = 26 * (x + 13 * y + 169 * z + 2197 * (i + t)) + c by omega]
    by_cases hge : t ≤ i
    · have m1 := mM_bt (j := j) (i := i - t) (by omega) hx hy hz hc
      rw [nfl_eq, h2 hge] at m1
      unfold bt at m1
      rw [show 26 * (x + 13 * y + 169 * z + 2197 * i) + c - 57122 * t = 26 * (x + 13 * y + 169 * z + 2197 * (i - t)) + c by omega, m1]
      simp
    · have : ¬ 26 * (x + 13 * y + 169 * z + 2197 * i) + c ≥ 57122 * t := by omega
      simp [this]
theorem st_bt {i x y z c j : Nat} (hj : j < 3) (hi : i < 8) (hx : x < 13) (hy : y < 13) (hz : z < 13) (hc : c < 26) (X : Nat) : bt (stB true (57122 * 2 ^ j) (mM j) mL mF X) i x y z c = true ↔ (bt X i x y z c = true ∨ ∃ c', dnL c c' ∧ bt X (fpG j i) x y z c' = true) := by
  have l := mL_bt hi hx hy hz hc
  have f := mF_bt hi hx hy hz hc
  have s0 := sw_bt hj hi hx hy hz hc X
  have s1 : 1 ≤ c → (swB (57122 * 2 ^ j) (mM j) X).testBit (26 * (x + 13 * y + 169 * z + 2197 * i) + c - 1) = bt X (fpG j i) x y z (c - 1) := fun h => by
    have := sw_bt hj hi hx hy hz (c := c - 1) (by omega) X
    unfold bt at this ⊢
    rw [← this]
    congr 1
    omega
  unfold bt at l f s0 ⊢
  rw [stB_bt, l, f, s0]
  have hd : ∀ c', dnL c c' ↔ (1 ≤ c ∧ c < 25 ∧ c' = c - 1) ∨ (c = 25 ∧ c' = 25) := fun c' => by unfold dnL; omega
  simp only [hd]
  by_cases h25 : c = 25
  · subst h25
    simp [bt]
  · by_cases h1 : 1 ≤ c
    · have h2 : c < 25 := by omega
      have h3 : 26 * (x + 13 * y + 169 * z + 2197 * i) + c ≥ 1 := by omega
      rw [s1 h1]
      simp [h25, h1, h2, h3, bt]
    · simp [h25, h1]
/-! what a number says -/
def invB (A S : Nat → Nat) (N : Nat) (P : Nat → Nat → Nat → Nat → Prop) : Prop := ∀ i x y z c, InB A i x y z c → (bt N i x y z c = true ↔ P c (vvG A S i 0 x) (vvG A S i 1 y) (vvG A S i 2 z))
theorem vvG_fp {A S : Nat → Nat} {i j g x : Nat} (hi : i < 8) (hj : j < 3) (hs : S g < 3) (hx : x ≤ A g) : vvG A S (fpG j i) g x = tnG A S j g (vvG A S i g x) := by
  unfold vvG tnG
  rw [fp_b i hi j hj (S g) hs]
  by_cases h : S g = j
  · rw [if_pos h, if_pos h]
    cases Nat.testBit i (S g) <;> simp
    omega
  · rw [if_neg h, if_neg h]
theorem invB_st {A S : Nat → Nat} {X j : Nat} {P : Nat → Nat → Nat → Nat → Prop} {st : Nat → Prop} (hA : AOK A) (hS : S 0 < 3 ∧ S 1 < 3 ∧ S 2 < 3) (hj : j < 3) {s : Bool} (hs : s = true ↔ st j) (h : invB A S X P) : invB A S (stB s (57122 * 2 ^ j) (mM j) mL mF X) (chs dnL st A S j P) := by
  intro i x y z c hb
  obtain ⟨a0, a1, a2⟩ := hA
  obtain ⟨h1, h2, h3, h4, h5⟩ := hb
  unfold chs
  cases s with
  | false =>
    show bt X i x y z c = true ↔ _
    rw [h i x y z c ⟨h1, h2, h3, h4, h5⟩]
    constructor
    · exact fun q => Or.inl q
    · rintro (q | ⟨q, _⟩)
      · exact q
      · exact absurd (hs.mpr q) (by decide)
  | true =>
    have hst : st j := hs.mp rfl
    rw [st_bt hj h1 (by omega) (by omega) (by omega) h5, h i x y z c ⟨h1, h2, h3, h4, h5⟩]
    have e : ∀ c', c' < 26 → (bt X (fpG j i) x y z c' = true ↔ P c' (tnG A S j 0 (vvG A S i 0 x)) (tnG A S j 1 (vvG A S i 1 y)) (tnG A S j 2 (vvG A S i 2 z))) := fun c' hc' => by
      rw [h (fpG j i) x y z c' ⟨fp_lt i h1 j hj, h2, h3, h4, hc'⟩, vvG_fp h1 hj hS.1 h2, vvG_fp h1 hj hS.2.1 h3, vvG_fp h1 hj hS.2.2 h4]
    constructor
    · rintro (q | ⟨c', q1, q2⟩)
      · exact Or.inl q
      · exact Or.inr ⟨hst, c', q1, (e c' (by unfold dnL at q1; omega)).mp q2⟩
    · rintro (q | ⟨_, c', q1, q2⟩)
      · exact Or.inl q
      · exact Or.inr ⟨c', q1, (e c' (by unfold dnL at q1; omega)).mpr q2⟩
noncomputable def dB (U0 V0 Z0 U1 V1 Z1 U2 V2 Z2 X : Nat) : Nat := frc (dgB 26 U0 V0 Z0 X) fun X => frc (dgB 338 U1 V1 Z1 X) fun X => dgB 4394 U2 V2 Z2 X
theorem dB_bt {A S : Nat → Nat} {i x y z c : Nat} (hA : AOK A) (h : InB A i x y z c) (X : Nat) : bt (dB (mU A S 0) (mV A S 0) (mZ A S 0) (mU A S 1) (mV A S 1) (mZ A S 1) (mU A S 2) (mV A S 2) (mZ A S 2) X) i x y z c = bt X i (dxG A S i 0 x) (dxG A S i 1 y) (dxG A S i 2 z) c := by
  obtain ⟨h1, h2, h3, h4, h5⟩ := h
  unfold dB
  rw [frc_eq, frc_eq, dg_2 hA ⟨h1, h2, h3, h4, h5⟩, dg_1 hA ⟨h1, h2, h3, dxG_le h4, h5⟩, dg_0 hA ⟨h1, h2, dxG_le h3, dxG_le h4, h5⟩]
theorem invB_d {A S : Nat → Nat} {X : Nat} {P : Nat → Nat → Nat → Nat → Prop} (hA : AOK A) (h : invB A S X P) : invB A S (dB (mU A S 0) (mV A S 0) (mZ A S 0) (mU A S 1) (mV A S 1) (mZ A S 1) (mU A S 2) (mV A S 2) (mZ A S 2) X) (fun c x y z => P c (x - 1) (y - 1) (z - 1)) := by
  intro i x y z c hb
  rw [dB_bt hA hb]
  obtain ⟨h1, h2, h3, h4, h5⟩ := hb
  rw [h _ _ _ _ _ ⟨h1, dxG_le h2, dxG_le h3, dxG_le h4, h5⟩, dxG_vv h2, dxG_vv h3, dxG_vv h4]
noncomputable def mNZ (A S : Nat → Nat) : Nat := Nat.lor (Nat.lor (Nat.lor (mU A S 0) (mV A S 0)) (Nat.lor (mU A S 1) (mV A S 1))) (Nat.lor (mU A S 2) (mV A S 2))
noncomputable def mR (A S : Nat → Nat) : Nat := Nat.lor (mO A S 0) (Nat.lor (mO A S 1) (mO A S 2))
theorem pos_vv {A S : Nat → Nat} {i g x : Nat} (hx : x ≤ A g) : ((nfl (S g) i && pU (A g) x) || (yfl (S g) i && pV (A g) x)) = decide (0 < vvG A S i g x) := by
  rw [nfl_eq, yfl_eq, pU_dec, pV_dec]
  unfold vvG
  cases Nat.testBit i (S g)
  · rw [Bool.eq_iff_iff]
    simp
    omega
  · rw [Bool.eq_iff_iff]
    simp
    omega
theorem one_vv {A S : Nat → Nat} {i g x : Nat} (hx : x ≤ A g) : ((nfl (S g) i && pE 1 x) || (yfl (S g) i && pE1 (A g) x)) = decide (vvG A S i g x = 1) := by
  rw [nfl_eq, yfl_eq, pE_dec]
  unfold vvG pE1
  rw [beq_dec]
  cases Nat.testBit i (S g)
  · simp
  · simp
    omega
theorem mNZ_bt {A S : Nat → Nat} {i x y z c : Nat} (hA : AOK A) (h : InB A i x y z c) : bt (mNZ A S) i x y z c = true ↔ (0 < vvG A S i 0 x ∨ 0 < vvG A S i 1 y ∨ 0 < vvG A S i 2 z) := by
  unfold mNZ mU mV
  rw [lor_bt, lor_bt, lor_bt, lor_bt, lor_bt, mUV_0 hA h, mUV_0 hA h, mUV_1 hA h, mUV_1 hA h, mUV_2 hA h, mUV_2 hA h, pos_vv h.2.1, pos_vv h.2.2.1, pos_vv h.2.2.2.1]
  simp [or_assoc]
theorem mR_bt {A S : Nat → Nat} {i x y z c : Nat} (hA : AOK A) (h : InB A i x y z c) : bt (mR A S) i x y z c = true ↔ (vvG A S i 0 x = 1 ∨ vvG A S i 1 y = 1 ∨ vvG A S i 2 z = 1) := by
  unfold mR mO
  rw [lor_bt, lor_bt, lor_bt, lor_bt, lor_bt, mUV_0 hA h, mUV_0 hA h, mUV_1 hA h, mUV_1 hA h, mUV_2 hA h, mUV_2 hA h, one_vv h.2.1, one_vv h.2.2.1, one_vv h.2.2.2.1]
  simp
theorem invB_0 {A S : Nat → Nat} {st : Nat → Prop} (hA : AOK A) : invB A S (mR A S) (pRun dnL st A S 1) := by
  intro i x y z c hb
  rw [mR_bt hA hb]
  constructor
  · intro h
    exact ⟨by omega, Or.inr ⟨h, Or.inl rfl⟩⟩
  · rintro ⟨_, h | ⟨h, _⟩⟩
    · exact False.elim h
    · exact h
noncomputable def nxB (U0 V0 Z0 U1 V1 Z1 U2 V2 Z2 R NZ F E : Nat) : Nat := Nat.land NZ (Nat.lor (dB U0 V0 Z0 U1 V1 Z1 U2 V2 Z2 F) (Nat.land (dB U0 V0 Z0 U1 V1 Z1 U2 V2 Z2 E) R))
theorem invB_s {A S : Nat → Nat} {st : Nat → Prop} {F E r : Nat} (hA : AOK A) (hr : 0 < r) (hF : invB A S F (pRun dnL st A S r)) (hE : invB A S E (chA dnL st A S (pRun dnL st A S r))) : invB A S (nxB (mU A S 0) (mV A S 0) (mZ A S 0) (mU A S 1) (mV A S 1) (mZ A S 1) (mU A S 2) (mV A S 2) (mZ A S 2) (mR A S) (mNZ A S) F E) (pRun dnL st A S (r + 1)) := by
  intro i x y z c hb
  have d1 := invB_d hA hF i x y z c hb
  have d2 := invB_d hA hE i x y z c hb
  unfold nxB
  rw [land_bt, lor_bt, land_bt, Bool.and_eq_true, Bool.or_eq_true, Bool.and_eq_true, mNZ_bt hA hb, mR_bt hA hb, d1, d2]
  show _ ↔ (0 < _ ∨ _) ∧ (_ ∨ _ ∧ (r = 0 ∨ _))
  constructor
  · rintro ⟨h1, h2 | ⟨h2, h3⟩⟩
    · exact ⟨h1, Or.inl h2⟩
    · exact ⟨h1, Or.inr ⟨h3, Or.inr h2⟩⟩
  · rintro ⟨h1, h2 | ⟨h3, h2 | h2⟩⟩
    · exact ⟨h1, Or.inl h2⟩
    · omega
    · exact ⟨h1, Or.inr ⟨h2, h3⟩⟩
noncomputable def ckB (Fl E : Nat) : Bool := Nat.beq (Nat.lor (Nat.land E Fl) (Nat.land (Nat.shiftLeft E 1) Fl)) (Nat.land (Nat.shiftLeft E 1) Fl)
theorem ckB_t {E i x y z : Nat} (h : ckB mF E = true) (hi : i < 8) (hx : x < 13) (hy : y < 13) (hz : z < 13) (h25 : bt E i x y z 25 = true) : bt E i x y z 24 = true := by
  unfold ckB at h
  rw [beq_dec, decide_eq_true_iff] at h
  have h1 : ((E &&& mF) ||| ((E <<< 1) &&& mF)).testBit (26 * (x + 13 * y + 169 * z + 2197 * i) + 25) = ((E <<< 1) &&& mF).testBit (26 * (x + 13 * y + 169 * z + 2197 * i) + 25) := congrArg (fun N => Nat.testBit N (26 * (x + 13 * y + 169 * z + 2197 * i) + 25)) h
  have f := mF_bt hi hx hy hz (c := 25) (by omega)
  unfold bt at f h25 ⊢
  rw [Nat.testBit_or, Nat.testBit_and, Nat.testBit_and, Nat.testBit_shiftLeft, f, h25] at h1
  have e : 26 * (x + 13 * y + 169 * z + 2197 * i) + 25 - 1 = 26 * (x + 13 * y + 169 * z + 2197 * i) + 24 := by omega
  rw [e] at h1
  simpa using h1
noncomputable def lpB (U0 V0 Z0 U1 V1 Z1 U2 V2 Z2 R NZ L Fl M0 M1 M2 : Nat) (s0 s1 s2 : Bool) (n : Nat) : Nat → Bool :=
  Nat.rec (motive := fun _ => Nat → Bool) (fun _ => true) (fun _ ih F =>
    frc (stB s0 57122 M0 L Fl F) fun E => frc (stB s1 114244 M1 L Fl E) fun E => frc (stB s2 228488 M2 L Fl E) fun E =>
    Bool.and (ckB Fl E) (frc (nxB U0 V0 Z0 U1 V1 Z1 U2 V2 Z2 R NZ F E) ih)) n
theorem lpB_t {A S : Nat → Nat} {st : Nat → Prop} {s0 s1 s2 : Bool} (hA : AOK A) (hS : S 0 < 3 ∧ S 1 < 3 ∧ S 2 < 3) (h0 : s0 = true ↔ st 0) (h1 : s1 = true ↔ st 1) (h2 : s2 = true ↔ st 2) : ∀ (n r F : Nat), 0 < r → invB A S F (pRun dnL st A S r) → lpB (mU A S 0) (mV A S 0) (mZ A S 0) (mU A S 1) (mV A S 1) (mZ A S 1) (mU A S 2) (mV A S 2) (mZ A S 2) (mR A S) (mNZ A S) mL mF (mM 0) (mM 1) (mM 2) s0 s1 s2 n F = true → ∀ k, k < n → ∀ x y z, x ≤ A 0 → y ≤ A 1 → z ≤ A 2 → CanL st A S (r + k) 25 x y z → CanL st A S (r + k) 24 x y z
  | 0, r, F, _, _, _ => fun k hk => absurd hk (Nat.not_lt_zero k)
  | n + 1, r, F, hr, hF, h => by
    have i0 : invB A S (stB s0 57122 (mM 0) mL mF F) _ := invB_st hA hS (j := 0) (by omega) h0 hF
    have i1 : invB A S (stB s1 114244 (mM 1) mL mF (stB s0 57122 (mM 0) mL mF F)) _ := invB_st hA hS (j := 1) (by omega) h1 i0
    have i2 : invB A S (stB s2 228488 (mM 2) mL mF (stB s1 114244 (mM 1) mL mF (stB s0 57122 (mM 0) mL mF F))) (chA dnL st A S (pRun dnL st A S r)) := invB_st hA hS (j := 2) (by omega) h2 i1
    generalize hE : stB s2 228488 (mM 2) mL mF (stB s1 114244 (mM 1) mL mF (stB s0 57122 (mM 0) mL mF F)) = E at i2
    have e : lpB (mU A S 0) (mV A S 0) (mZ A S 0) (mU A S 1) (mV A S 1) (mZ A S 1) (mU A S 2) (mV A S 2) (mZ A S 2) (mR A S) (mNZ A S) mL mF (mM 0) (mM 1) (mM 2) s0 s1 s2 (n + 1) F = Bool.and (ckB mF E) (lpB (mU A S 0) (mV A S 0) (mZ A S 0) (mU A S 1) (mV A S 1) (mZ A S 1) (mU A S 2) (mV A S 2) (mZ A S 2) (mR A S) (mNZ A S) mL mF (mM 0) (mM 1) (mM 2) s0 s1 s2 n (nxB (mU A S 0) (mV A S 0) (mZ A S 0) (mU A S 1) (mV A S 1) (mZ A S 1) (mU A S 2) (mV A S 2) (mZ A S 2) (mR A S) (mNZ A S) F E)) := by
      show frc (stB s0 57122 (mM 0) mL mF F) (fun E => frc (stB s1 114244 (mM 1) mL mF E) fun E => frc (stB s2 228488 (mM 2) mL mF E) fun E => Bool.and (ckB mF E) (frc (nxB (mU A S 0) (mV A S 0) (mZ A S 0) (mU A S 1) (mV A S 1) (mZ A S 1) (mU A S 2) (mV A S 2) (mZ A S 2) (mR A S) (mNZ A S) F E) (lpB (mU A S 0) (mV A S 0) (mZ A S 0) (mU A S 1) (mV A S 1) (mZ A S 1) (mU A S 2) (mV A S 2) (mZ A S 2) (mR A S) (mNZ A S) mL mF (mM 0) (mM 1) (mM 2) s0 s1 s2 n))) = _
      rw [frc_eq, frc_eq, frc_eq, hE, frc_eq]
    rw [e] at h
    have hh : ckB mF E = true ∧ _ := (Bool.and_eq_true _ _).mp h
    have ih := lpB_t hA hS h0 h1 h2 n (r + 1) _ (by omega) (invB_s hA hr hF i2) hh.2
    intro k hk x y z hx hy hz hc
    by_cases hk0 : k = 0
    · subst hk0
      obtain ⟨a0, a1, a2⟩ := hA
      have v0 : ∀ g w, vvG A S 0 g w = w := fun g w => by unfold vvG; rw [Nat.zero_testBit]; rfl
      have b25 := i2 0 x y z 25 ⟨by omega, hx, hy, hz, by omega⟩
      have b24 := i2 0 x y z 24 ⟨by omega, hx, hy, hz, by omega⟩
      rw [v0, v0, v0] at b25 b24
      exact b24.mp (ckB_t hh.1 (by omega) (by omega) (by omega) (by omega) (b25.mpr hc))
    · have := ih (k - 1) (by omega) x y z hx hy hz
      rw [show r + 1 + (k - 1) = r + k by omega] at this
      exact this hc
/-- one shape: whatever can be measured within 40 seconds costs at most 24 -/
noncomputable def shB (A S : Nat → Nat) (s0 s1 s2 : Bool) : Bool :=
  frc (mU A S 0) fun U0 => frc (mV A S 0) fun V0 => frc (mZ A S 0) fun Z0 => frc (mU A S 1) fun U1 => frc (mV A S 1) fun V1 => frc (mZ A S 1) fun Z1 => frc (mU A S 2) fun U2 => frc (mV A S 2) fun V2 => frc (mZ A S 2) fun Z2 => frc (mR A S) fun R => frc (Nat.lor (Nat.lor (Nat.lor U0 V0) (Nat.lor U1 V1)) (Nat.lor U2 V2)) fun NZ => frc mL fun L => frc mF fun Fl => frc (mM 0) fun M0 => frc (mM 1) fun M1 => frc (mM 2) fun M2 => lpB U0 V0 Z0 U1 V1 Z1 U2 V2 Z2 R NZ L Fl M0 M1 M2 s0 s1 s2 40 R
theorem shB_t {A S : Nat → Nat} {st : Nat → Prop} {s0 s1 s2 : Bool} (hA : AOK A) (hS : S 0 < 3 ∧ S 1 < 3 ∧ S 2 < 3) (h0 : s0 = true ↔ st 0) (h1 : s1 = true ↔ st 1) (h2 : s2 = true ↔ st 2) (h : shB A S s0 s1 s2 = true) {r c x y z : Nat} (hr : 1 ≤ r ∧ r ≤ 40) (hx : x ≤ A 0) (hy : y ≤ A 1) (hz : z ≤ A 2) (hc : Can st A S r c x y z) : Can st A S r 24 x y z := by
  unfold shB at h
  repeat rw [frc_eq] at h
  have := lpB_t hA hS h0 h1 h2 40 1 _ (by omega) (invB_0 hA) h (r - 1) (by omega) x y z hx hy hz
  rw [show 1 + (r - 1) = r by omega] at this
  exact (this hc.any).low (by omega)
