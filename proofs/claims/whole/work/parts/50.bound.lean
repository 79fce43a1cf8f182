/-! planning, second by second: which spans can be measured with which cost. Three glasses with amounts A, the stack numbers S (a glass that does not count: A = 0), st: the stacks that may be turned; dn: how a turn lowers the cost that is left -/
def tnG (A S : Nat → Nat) (j g x : Nat) : Nat := if S g = j then A g - x else x
def chs (dn : Nat → Nat → Prop) (st : Nat → Prop) (A S : Nat → Nat) (j : Nat) (P : Nat → Nat → Nat → Nat → Prop) (c x y z : Nat) : Prop := P c x y z ∨ (st j ∧ ∃ c', dn c c' ∧ P c' (tnG A S j 0 x) (tnG A S j 1 y) (tnG A S j 2 z))
def chA (dn : Nat → Nat → Prop) (st : Nat → Prop) (A S : Nat → Nat) (P : Nat → Nat → Nat → Nat → Prop) : Nat → Nat → Nat → Nat → Prop := chs dn st A S 2 (chs dn st A S 1 (chs dn st A S 0 P))
def pRun (dn : Nat → Nat → Prop) (st : Nat → Prop) (A S : Nat → Nat) : Nat → Nat → Nat → Nat → Nat → Prop
  | 0, _, _, _, _ => False
  | r + 1, c, x, y, z => (0 < x ∨ 0 < y ∨ 0 < z) ∧ (pRun dn st A S r c (x - 1) (y - 1) (z - 1) ∨ ((x = 1 ∨ y = 1 ∨ z = 1) ∧ (r = 0 ∨ chA dn st A S (pRun dn st A S r) c (x - 1) (y - 1) (z - 1))))
def dnN (c c' : Nat) : Prop := c = c' + 1
def dnL (lim c c' : Nat) : Prop := (c < lim + 1 ∧ c = c' + 1) ∨ (c = lim + 1 ∧ c' = lim + 1)
theorem chs_mono {dn dn' : Nat → Nat → Prop} {st : Nat → Prop} {A S : Nat → Nat} {j : Nat} {P P' : Nat → Nat → Nat → Nat → Prop} {R : Nat → Nat → Prop} (hd : ∀ c d c', R c d → dn c c' → ∃ d', dn' d d' ∧ R c' d') (hP : ∀ c d x y z, R c d → P c x y z → P' d x y z) : ∀ c d x y z, R c d → chs dn st A S j P c x y z → chs dn' st A S j P' d x y z := by
  intro c d x y z hr h
  rcases h with h | ⟨h1, c', h2, h3⟩
  · exact Or.inl (hP c d x y z hr h)
  · obtain ⟨d', h4, h5⟩ := hd c d c' hr h2
    exact Or.inr ⟨h1, d', h4, hP c' d' _ _ _ h5 h3⟩
theorem chA_mono {dn dn' : Nat → Nat → Prop} {st : Nat → Prop} {A S : Nat → Nat} {P P' : Nat → Nat → Nat → Nat → Prop} {R : Nat → Nat → Prop} (hd : ∀ c d c', R c d → dn c c' → ∃ d', dn' d d' ∧ R c' d') (hP : ∀ c d x y z, R c d → P c x y z → P' d x y z) : ∀ c d x y z, R c d → chA dn st A S P c x y z → chA dn' st A S P' d x y z :=
  chs_mono hd (chs_mono hd (chs_mono hd hP))
theorem pRun_mono {dn dn' : Nat → Nat → Prop} {st : Nat → Prop} {A S : Nat → Nat} {R : Nat → Nat → Prop} (hd : ∀ c d c', R c d → dn c c' → ∃ d', dn' d d' ∧ R c' d') : ∀ r c d x y z, R c d → pRun dn st A S r c x y z → pRun dn' st A S r d x y z
  | 0, c, d, x, y, z, hr, h => h
  | r + 1, c, d, x, y, z, hr, h => by
    have ih := pRun_mono (dn := dn) (dn' := dn') (st := st) (A := A) (S := S) hd r
    obtain ⟨h1, h2⟩ := h
    refine ⟨h1, ?_⟩
    rcases h2 with h2 | ⟨h2, h3⟩
    · exact Or.inl (ih c d _ _ _ hr h2)
    · refine Or.inr ⟨h2, ?_⟩
      rcases h3 with h3 | h3
      · exact Or.inl h3
      · exact Or.inr (chA_mono hd (fun c d x y z hr h => ih c d x y z hr h) c d _ _ _ hr h3)
/-- what can be measured from a moment on -/
abbrev Can (st : Nat → Prop) (A S : Nat → Nat) (r c x y z : Nat) : Prop := chA dnN st A S (pRun dnN st A S r) c x y z
abbrev CanL (lim : Nat) (st : Nat → Prop) (A S : Nat → Nat) (r c x y z : Nat) : Prop := chA (dnL lim) st A S (pRun (dnL lim) st A S r) c x y z
theorem Can.mono {st : Nat → Prop} {A S : Nat → Nat} {r c d x y z : Nat} (h : Can st A S r c x y z) (hcd : c ≤ d) : Can st A S r d x y z :=
  chA_mono (R := fun c d => c ≤ d) (fun c d c' hr h => ⟨d - 1, by unfold dnN at h ⊢; omega, by unfold dnN at h; omega⟩) (fun c d x y z hr h => pRun_mono (R := fun c d => c ≤ d) (fun c d c' hr h => ⟨d - 1, by unfold dnN at h ⊢; omega, by unfold dnN at h; omega⟩) r c d x y z hr h) c d x y z hcd h
theorem Can.any {lim : Nat} {st : Nat → Prop} {A S : Nat → Nat} {r c x y z : Nat} (h : Can st A S r c x y z) : CanL lim st A S r (lim + 1) x y z :=
  chA_mono (R := fun _ d => d = lim + 1) (fun c d c' hr h => ⟨lim + 1, Or.inr ⟨hr, rfl⟩, rfl⟩) (fun c d x y z hr h => pRun_mono (R := fun _ d => d = lim + 1) (fun c d c' hr h => ⟨lim + 1, Or.inr ⟨hr, rfl⟩, rfl⟩) r c d x y z hr h) c (lim + 1) x y z rfl h
theorem CanL.low {lim : Nat} {st : Nat → Prop} {A S : Nat → Nat} {r c x y z : Nat} (hc : c < lim + 1) (h : CanL lim st A S r c x y z) : Can st A S r c x y z :=
  chA_mono (R := fun c d => c = d ∧ c < lim + 1) (fun c d c' hr h => ⟨c', by unfold dnL at h; unfold dnN; omega, rfl, by unfold dnL at h; omega⟩) (fun c d x y z hr h => pRun_mono (R := fun c d => c = d ∧ c < lim + 1) (fun c d c' hr h => ⟨c', by unfold dnL at h; unfold dnN; omega, rfl, by unfold dnL at h; omega⟩) r c d x y z hr h) c c x y z ⟨rfl, hc⟩ h
/-! rows of bits: a field of lim + 2 bits (costs up to lim, and one more: any) a sand above (x, y, z) and a set i of stacks that stand turned -/
noncomputable def frc {α : Type} (x : Nat) (k : Nat → α) : α := Nat.rec (motive := fun _ => α) (k 0) (fun n _ => k (n + 1)) x
theorem frc_eq {α : Type} (x : Nat) (k : Nat → α) : frc x k = k x := by
  cases x <;> rfl
noncomputable def axI (b : Nat) (p : Nat → Bool) (X n : Nat) : Nat := Nat.rec (motive := fun _ => Nat) 0 (fun n a => Bool.rec (motive := fun _ => Nat) a (Nat.lor (Nat.shiftLeft X (Nat.mul b n)) a) (p n)) n
theorem axI_0 (b : Nat) (p : Nat → Bool) (X : Nat) : axI b p X 0 = 0 := rfl
theorem axI_s (b : Nat) (p : Nat → Bool) (X n : Nat) : axI b p X (n + 1) = if p n = true then (X <<< (b * n)) ||| axI b p X n else axI b p X n := by
  show Bool.rec (motive := fun _ => Nat) (axI b p X n) ((X <<< (b * n)) ||| axI b p X n) (p n) = _
  cases p n <;> rfl
theorem axI_bit {b : Nat} {p : Nat → Bool} {X : Nat} (hX : X < 2 ^ b) {j m : Nat} (hm : m < b) : ∀ n, (axI b p X n).testBit (b * j + m) = (decide (j < n) && p j && X.testBit m)
  | 0 => by rw [axI_0, Nat.zero_testBit]; simp
  | n + 1 => by
    have ih := axI_bit hX (p := p) (j := j) hm n
    have key : (X <<< (b * n)).testBit (b * j + m) = (decide (j = n) && X.testBit m) := by
      rw [Nat.testBit_shiftLeft]
      rcases Nat.lt_trichotomy j n with h | h | h
      · have h1 : b * (j + 1) ≤ b * n := Nat.mul_le_mul_left b h
        rw [Nat.mul_succ] at h1
        have h2 : ¬ (b * j + m ≥ b * n) := by omega
        have h3 : ¬ j = n := by omega
        simp [h2, h3]
      · subst h
        simp
      · have h1 : b * (n + 1) ≤ b * j := Nat.mul_le_mul_left b h
        rw [Nat.mul_succ] at h1
        have h3 : ¬ j = n := by omega
        have h4 : X.testBit (b * j + m - b * n) = false := Nat.testBit_lt_two_pow (Nat.lt_of_lt_of_le hX (Nat.pow_le_pow_right (by omega) (by omega)))
        simp [h3, h4]
    rw [axI_s]
    by_cases hp : p n = true
    · rw [if_pos hp, Nat.testBit_or, key, ih]
      by_cases hj : j = n
      · subst hj
        simp [hp]
      · by_cases h2 : j < n
        · have : j < n + 1 := by omega
          simp [hj, h2, this]
        · have : ¬ j < n + 1 := by omega
          simp [hj, h2, this]
    · rw [if_neg hp, ih]
      by_cases hj : j = n
      · subst hj
        simp [hp]
      · by_cases h2 : j < n
        · have : j < n + 1 := by omega
          simp [h2, this]
        · have : ¬ j < n + 1 := by omega
          simp [h2, this]
theorem axI_lt {b : Nat} {p : Nat → Bool} {X : Nat} (hX : X < 2 ^ b) : ∀ n, axI b p X n < 2 ^ (b * n)
  | 0 => by rw [axI_0]; exact Nat.pow_pos (by omega)
  | n + 1 => by
    have ih := axI_lt hX (p := p) n
    have h1 : 2 ^ (b * n) ≤ 2 ^ (b * (n + 1)) := Nat.pow_le_pow_right (by omega) (by rw [Nat.mul_succ]; omega)
    rw [axI_s]
    split
    · refine Nat.or_lt_two_pow ?_ (Nat.lt_of_lt_of_le ih h1)
      rw [Nat.shiftLeft_eq, Nat.mul_succ, Nat.add_comm, Nat.pow_add]
      exact Nat.mul_lt_mul_of_pos_right hX (Nat.pow_pos (by omega))
    · exact Nat.lt_of_lt_of_le ih h1
theorem lin_lt {b m z n : Nat} (hm : m < b) (hz : z < n) : b * z + m < b * n := by
  have h : b * (z + 1) ≤ b * n := Nat.mul_le_mul_left b hz
  rw [Nat.mul_succ] at h
  omega
def ps (b0 b1 b2 b3 i x y z c : Nat) : Nat := b3 * i + (b2 * z + (b1 * y + (b0 * x + c)))
abbrev DK (A : Nat → Nat) (lim b0 b1 b2 b3 : Nat) : Prop := b0 = lim + 2 ∧ b1 = b0 * (A 0 + 1) ∧ b2 = b1 * (A 1 + 1) ∧ b3 = b2 * (A 2 + 1)
noncomputable def vI (ex i : Nat) : Bool := Nat.beq (Nat.land i ex) i
noncomputable def prd (A : Nat → Nat) (ex b0 b1 b2 b3 : Nat) (pi p2 p1 p0 : Nat → Bool) (X : Nat) : Nat := frc (axI b0 p0 X (A 0 + 1)) fun X => frc (axI b1 p1 X (A 1 + 1)) fun X => frc (axI b2 p2 X (A 2 + 1)) fun X => axI b3 (fun i => Bool.and (vI ex i) (pi i)) X 8
/-! masks -/
def tr (_ : Nat) : Bool := true
noncomputable def nfl (S i : Nat) : Bool := Bool.not (Nat.testBit i S)
noncomputable def yfl (S i : Nat) : Bool := Nat.testBit i S
noncomputable def pU (_ x : Nat) : Bool := Nat.ble 1 x
noncomputable def pV (A x : Nat) : Bool := Nat.ble (x + 1) A
noncomputable def pE (A x : Nat) : Bool := Nat.beq x A
noncomputable def pE1 (A x : Nat) : Bool := Nat.beq (x + 1) A
theorem ble_dec (a b : Nat) : Nat.ble a b = decide (a ≤ b) := by rw [Bool.eq_iff_iff, Nat.ble_eq, decide_eq_true_iff]
theorem beq_dec (a b : Nat) : Nat.beq a b = decide (a = b) := by rw [Bool.eq_iff_iff, Nat.beq_eq, decide_eq_true_iff]
theorem pU_dec (A x : Nat) : pU A x = decide (1 ≤ x) := ble_dec 1 x
theorem pV_dec (A x : Nat) : pV A x = decide (x < A) := by
  show Nat.ble (x + 1) A = _
  rw [ble_dec]
  rfl
theorem pE_dec (A x : Nat) : pE A x = decide (x = A) := beq_dec x A
theorem nfl_eq (S i : Nat) : nfl S i = !(Nat.testBit i S) := rfl
theorem yfl_eq (S i : Nat) : yfl S i = Nat.testBit i S := rfl
/-- a second back along one glass: cells that come from the one below, from the one above, or stay -/
noncomputable def dgB (b U V Z X : Nat) : Nat := Nat.lor (Nat.lor (Nat.land (Nat.shiftLeft X b) U) (Nat.land (Nat.shiftRight X b) V)) (Nat.land X Z)
theorem dgB_bt {b U V Z X p : Nat} : (dgB b U V Z X).testBit p = (((decide (p ≥ b) && X.testBit (p - b)) && U.testBit p || X.testBit (b + p) && V.testBit p) || X.testBit p && Z.testBit p) := by
  show ((((X <<< b) &&& U) ||| ((X >>> b) &&& V)) ||| (X &&& Z)).testBit p = _
  rw [Nat.testBit_or, Nat.testBit_or, Nat.testBit_and, Nat.testBit_and, Nat.testBit_and, Nat.testBit_shiftLeft, Nat.testBit_shiftRight]
/-- a stack turned or not -/
noncomputable def swB (b M X : Nat) : Nat := Nat.lor (Nat.land (Nat.shiftRight X b) M) (Nat.shiftLeft (Nat.land X M) b)
noncomputable def stB (s : Bool) (b M L Fl X : Nat) : Nat := Bool.rec (motive := fun _ => Nat) X (frc (swB b M X) fun Y => Nat.lor X (Nat.lor (Nat.land (Nat.shiftLeft Y 1) L) (Nat.land Y Fl))) s
theorem swB_bt {b M X p : Nat} : (swB b M X).testBit p = ((X.testBit (b + p) && M.testBit p) || (decide (p ≥ b) && (X.testBit (p - b) && M.testBit (p - b)))) := by
  show (((X >>> b) &&& M) ||| ((X &&& M) <<< b)).testBit p = _
  rw [Nat.testBit_or, Nat.testBit_and, Nat.testBit_shiftLeft, Nat.testBit_shiftRight, Nat.testBit_and]
theorem stB_bt {b M L Fl X p : Nat} : (stB true b M L Fl X).testBit p = (X.testBit p || ((decide (p ≥ 1) && (swB b M X).testBit (p - 1)) && L.testBit p || (swB b M X).testBit p && Fl.testBit p)) := by
  have e : stB true b M L Fl X = X ||| (((swB b M X <<< 1) &&& L) ||| (swB b M X &&& Fl)) := by
    show frc (swB b M X) (fun Y => Nat.lor X (Nat.lor (Nat.land (Nat.shiftLeft Y 1) L) (Nat.land Y Fl))) = _
    rw [frc_eq]
    rfl
  rw [e, Nat.testBit_or, Nat.testBit_or, Nat.testBit_and, Nat.testBit_and, Nat.testBit_shiftLeft]
section
variable {A S : Nat → Nat} {lim ex b0 b1 b2 b3 i x y z c : Nat}
abbrev InB (A : Nat → Nat) (lim ex i x y z c : Nat) : Prop := i < 8 ∧ vI ex i = true ∧ x ≤ A 0 ∧ y ≤ A 1 ∧ z ≤ A 2 ∧ c < lim + 2
theorem prd_bt (D : DK A lim b0 b1 b2 b3) {pi p2 p1 p0 : Nat → Bool} {X : Nat} (hX : X < 2 ^ (lim + 2)) (h : InB A lim ex i x y z c) : (prd A ex b0 b1 b2 b3 pi p2 p1 p0 X).testBit (ps b0 b1 b2 b3 i x y z c) = (pi i && p2 z && p1 y && p0 x && X.testBit c) := by
  obtain ⟨e0, e1, e2, e3⟩ := D
  obtain ⟨hi, hv, hx, hy, hz, hc⟩ := h
  rw [← e0] at hX hc
  have l0 := axI_lt hX (p := p0) (A 0 + 1)
  rw [← e1] at l0
  have l1 := axI_lt l0 (p := p1) (A 1 + 1)
  rw [← e2] at l1
  have l2 := axI_lt l1 (p := p2) (A 2 + 1)
  rw [← e3] at l2
  have k0 : b0 * x + c < b1 := by rw [e1]; exact lin_lt hc (by omega)
  have k1 : b1 * y + (b0 * x + c) < b2 := by rw [e2]; exact lin_lt k0 (by omega)
  have k2 : b2 * z + (b1 * y + (b0 * x + c)) < b3 := by rw [e3]; exact lin_lt k1 (by omega)
  unfold prd ps
  rw [frc_eq, frc_eq, frc_eq, axI_bit l2 k2, axI_bit l1 k1, axI_bit l0 k0, axI_bit hX hc]
  have hx' : x < A 0 + 1 := by omega
  have hy' : y < A 1 + 1 := by omega
  have hz' : z < A 2 + 1 := by omega
  show (decide (i < 8) && (vI ex i && pi i) && _) = _
  rw [hv]
  simp [hi, hx', hy', hz', Bool.and_assoc]
theorem prd_no (D : DK A lim b0 b1 b2 b3) {pi p2 p1 p0 : Nat → Bool} {X : Nat} (hX : X < 2 ^ (lim + 2)) (hx : x ≤ A 0) (hy : y ≤ A 1) (hz : z ≤ A 2) (hc : c < lim + 2) (hp : pi i = false) : (prd A ex b0 b1 b2 b3 pi p2 p1 p0 X).testBit (ps b0 b1 b2 b3 i x y z c) = false := by
  obtain ⟨e0, e1, e2, e3⟩ := D
  rw [← e0] at hX hc
  have l0 := axI_lt hX (p := p0) (A 0 + 1)
  rw [← e1] at l0
  have l1 := axI_lt l0 (p := p1) (A 1 + 1)
  rw [← e2] at l1
  have l2 := axI_lt l1 (p := p2) (A 2 + 1)
  rw [← e3] at l2
  have k0 : b0 * x + c < b1 := by rw [e1]; exact lin_lt hc (by omega)
  have k1 : b1 * y + (b0 * x + c) < b2 := by rw [e2]; exact lin_lt k0 (by omega)
  have k2 : b2 * z + (b1 * y + (b0 * x + c)) < b3 := by rw [e3]; exact lin_lt k1 (by omega)
  unfold prd ps
  rw [frc_eq, frc_eq, frc_eq, axI_bit l2 k2]
  show (decide (i < 8) && (vI ex i && pi i) && _) = _
  rw [hp]
  simp
end
/-- the masks of a shape -/
noncomputable def mUV (A : Nat → Nat) (ex b0 b1 b2 b3 g : Nat) (pi : Nat → Bool) (p : Nat → Bool) (X : Nat) : Nat := prd A ex b0 b1 b2 b3 pi (if g = 2 then p else tr) (if g = 1 then p else tr) (if g = 0 then p else tr) X
noncomputable def mU (A S : Nat → Nat) (ex b0 b1 b2 b3 O g : Nat) : Nat := mUV A ex b0 b1 b2 b3 g (nfl (S g)) (pU (A g)) O
noncomputable def mV (A S : Nat → Nat) (ex b0 b1 b2 b3 O g : Nat) : Nat := mUV A ex b0 b1 b2 b3 g (yfl (S g)) (pV (A g)) O
noncomputable def mZ (A S : Nat → Nat) (ex b0 b1 b2 b3 O g : Nat) : Nat := Nat.lor (mUV A ex b0 b1 b2 b3 g (nfl (S g)) (pE 0) O) (mUV A ex b0 b1 b2 b3 g (yfl (S g)) (pE (A g)) O)
noncomputable def mO (A S : Nat → Nat) (ex b0 b1 b2 b3 O g : Nat) : Nat := Nat.lor (mUV A ex b0 b1 b2 b3 g (nfl (S g)) (pE 1) O) (mUV A ex b0 b1 b2 b3 g (yfl (S g)) (pE1 (A g)) O)
noncomputable def mM (A : Nat → Nat) (ex b0 b1 b2 b3 O j : Nat) : Nat := prd A ex b0 b1 b2 b3 (nfl j) tr tr tr O
noncomputable def mX (A : Nat → Nat) (ex b0 b1 b2 b3 X : Nat) : Nat := prd A ex b0 b1 b2 b3 tr tr tr tr X
def dxG (A S : Nat → Nat) (i g x : Nat) : Nat := if Nat.testBit i (S g) = true then (if x < A g then x + 1 else x) else x - 1
def vvG (A S : Nat → Nat) (i g x : Nat) : Nat := if Nat.testBit i (S g) = true then A g - x else x
theorem dxG_le {A S : Nat → Nat} {i x g : Nat} (h : x ≤ A g) : dxG A S i g x ≤ A g := by
  unfold dxG
  split
  · split <;> omega
  · omega
theorem dxG_vv {A S : Nat → Nat} {i x g : Nat} (h : x ≤ A g) : vvG A S i g (dxG A S i g x) = vvG A S i g x - 1 := by
  unfold vvG dxG
  by_cases hf : Nat.testBit i (S g) = true
  · rw [if_pos hf, if_pos hf, if_pos hf]
    split <;> omega
  · rw [if_neg hf, if_neg hf, if_neg hf]
theorem dgB_U {b U V Z X p : Nat} (hu : U.testBit p = true) (hv : V.testBit p = false) (hz : Z.testBit p = false) (hp : b ≤ p) : (dgB b U V Z X).testBit p = X.testBit (p - b) := by
  rw [dgB_bt, hu, hv, hz]
  simp [hp]
theorem dgB_V {b U V Z X p : Nat} (hu : U.testBit p = false) (hv : V.testBit p = true) (hz : Z.testBit p = false) : (dgB b U V Z X).testBit p = X.testBit (b + p) := by
  rw [dgB_bt, hu, hv, hz]
  simp
theorem dgB_Z {b U V Z X p : Nat} (hu : U.testBit p = false) (hv : V.testBit p = false) (hz : Z.testBit p = true) : (dgB b U V Z X).testBit p = X.testBit p := by
  rw [dgB_bt, hu, hv, hz]
  simp
theorem lor_tb (M N p : Nat) : (Nat.lor M N).testBit p = (M.testBit p || N.testBit p) := Nat.testBit_or M N p
theorem land_tb (M N p : Nat) : (Nat.land M N).testBit p = (M.testBit p && N.testBit p) := Nat.testBit_and M N p
section
variable {A S : Nat → Nat} {lim ex b0 b1 b2 b3 i x y z c : Nat}
/-- the numbers of a shape: O all bits of a field, L those of the costs from 1 on, Fl the one for any -/
abbrev OK3 (lim O L Fl : Nat) : Prop := O = 2 ^ (lim + 2) - 1 ∧ L < 2 ^ (lim + 2) ∧ Fl < 2 ^ (lim + 2) ∧ (∀ c, c < lim + 2 → L.testBit c = decide (1 ≤ c ∧ c < lim + 1)) ∧ (∀ c, c < lim + 2 → Fl.testBit c = decide (c = lim + 1))
theorem O_lt {O L Fl : Nat} (h : OK3 lim O L Fl) : O < 2 ^ (lim + 2) := by
  have : 0 < 2 ^ (lim + 2) := Nat.pow_pos (by omega)
  rw [h.1]
  omega
theorem O_bit {O L Fl : Nat} (h : OK3 lim O L Fl) (hc : c < lim + 2) : O.testBit c = true := by
  rw [h.1, Nat.testBit_two_pow_sub_one]
  simpa using hc
theorem mUV_0 (D : DK A lim b0 b1 b2 b3) {O L Fl : Nat} (hO : OK3 lim O L Fl) {pi p : Nat → Bool} (h : InB A lim ex i x y z c) : (mUV A ex b0 b1 b2 b3 0 pi p O).testBit (ps b0 b1 b2 b3 i x y z c) = (pi i && p x) := by
  unfold mUV
  rw [if_neg (by decide), if_neg (by decide), if_pos rfl, prd_bt D (O_lt hO) h, O_bit hO h.2.2.2.2.2]
  simp [tr]
theorem mUV_1 (D : DK A lim b0 b1 b2 b3) {O L Fl : Nat} (hO : OK3 lim O L Fl) {pi p : Nat → Bool} (h : InB A lim ex i x y z c) : (mUV A ex b0 b1 b2 b3 1 pi p O).testBit (ps b0 b1 b2 b3 i x y z c) = (pi i && p y) := by
  unfold mUV
  rw [if_neg (by decide), if_pos rfl, if_neg (by decide), prd_bt D (O_lt hO) h, O_bit hO h.2.2.2.2.2]
  simp [tr]
theorem mUV_2 (D : DK A lim b0 b1 b2 b3) {O L Fl : Nat} (hO : OK3 lim O L Fl) {pi p : Nat → Bool} (h : InB A lim ex i x y z c) : (mUV A ex b0 b1 b2 b3 2 pi p O).testBit (ps b0 b1 b2 b3 i x y z c) = (pi i && p z) := by
  unfold mUV
  rw [if_pos rfl, if_neg (by decide), if_neg (by decide), prd_bt D (O_lt hO) h, O_bit hO h.2.2.2.2.2]
  simp [tr]
theorem dg_0 (D : DK A lim b0 b1 b2 b3) {O L Fl : Nat} (hO : OK3 lim O L Fl) (h : InB A lim ex i x y z c) (X : Nat) : (dgB b0 (mU A S ex b0 b1 b2 b3 O 0) (mV A S ex b0 b1 b2 b3 O 0) (mZ A S ex b0 b1 b2 b3 O 0) X).testBit (ps b0 b1 b2 b3 i x y z c) = X.testBit (ps b0 b1 b2 b3 i (dxG A S i 0 x) y z c) := by
  have hU : (mU A S ex b0 b1 b2 b3 O 0).testBit (ps b0 b1 b2 b3 i x y z c) = (!(Nat.testBit i (S 0)) && decide (1 ≤ x)) := by
    unfold mU
    rw [mUV_0 D hO h, nfl_eq, pU_dec]
  have hV : (mV A S ex b0 b1 b2 b3 O 0).testBit (ps b0 b1 b2 b3 i x y z c) = (Nat.testBit i (S 0) && decide (x < A 0)) := by
    unfold mV
    rw [mUV_0 D hO h, yfl_eq, pV_dec]
  have hZ : (mZ A S ex b0 b1 b2 b3 O 0).testBit (ps b0 b1 b2 b3 i x y z c) = ((!(Nat.testBit i (S 0)) && decide (x = 0)) || (Nat.testBit i (S 0) && decide (x = A 0))) := by
    unfold mZ
    rw [lor_tb, mUV_0 D hO h, mUV_0 D hO h, nfl_eq, yfl_eq, pE_dec, pE_dec]
  obtain ⟨h1, hv, h2, h3, h4, h5⟩ := h
  unfold dxG
  by_cases hf : Nat.testBit i (S 0) = true
  · rw [if_pos hf]
    rw [hf] at hU hV hZ
    by_cases hlt : x < A 0
    · have hne : ¬ x = A 0 := by omega
      rw [if_pos hlt, dgB_V (by rw [hU]; simp) (by rw [hV]; simpa using hlt) (by rw [hZ]; simp [hne])]
      refine congrArg (fun q => Nat.testBit X q) ?_
      unfold ps
      have := Nat.mul_succ b0 x
      rw [Nat.succ_eq_add_one] at this
      omega
    · have he : x = A 0 := by omega
      rw [if_neg hlt, dgB_Z (by rw [hU]; simp) (by rw [hV]; simpa using hlt) (by rw [hZ]; simp [he])]
  · rw [if_neg hf]
    have hf' : Nat.testBit i (S 0) = false := by simpa using hf
    rw [hf'] at hU hV hZ
    by_cases h0 : x = 0
    · rw [dgB_Z (by rw [hU]; simp [h0]) (by rw [hV]; simp) (by rw [hZ]; simp [h0])]
      refine congrArg (fun q => Nat.testBit X q) ?_
      rw [h0]
    · obtain ⟨w, hw⟩ : ∃ w, x = w + 1 := ⟨x - 1, by omega⟩
      have hm := Nat.mul_succ b0 w
      rw [Nat.succ_eq_add_one, ← hw] at hm
      have hge : 1 ≤ x := by omega
      rw [dgB_U (by rw [hU]; simpa using hge) (by rw [hV]; simp) (by rw [hZ]; simp [h0]) (by unfold ps; omega)]
      refine congrArg (fun q => Nat.testBit X q) ?_
      have e1 : x - 1 = w := by omega
      unfold ps
      rw [e1]
      omega
theorem dg_1 (D : DK A lim b0 b1 b2 b3) {O L Fl : Nat} (hO : OK3 lim O L Fl) (h : InB A lim ex i x y z c) (X : Nat) : (dgB b1 (mU A S ex b0 b1 b2 b3 O 1) (mV A S ex b0 b1 b2 b3 O 1) (mZ A S ex b0 b1 b2 b3 O 1) X).testBit (ps b0 b1 b2 b3 i x y z c) = X.testBit (ps b0 b1 b2 b3 i x (dxG A S i 1 y) z c) := by
  have hU : (mU A S ex b0 b1 b2 b3 O 1).testBit (ps b0 b1 b2 b3 i x y z c) = (!(Nat.testBit i (S 1)) && decide (1 ≤ y)) := by
    unfold mU
    rw [mUV_1 D hO h, nfl_eq, pU_dec]
  have hV : (mV A S ex b0 b1 b2 b3 O 1).testBit (ps b0 b1 b2 b3 i x y z c) = (Nat.testBit i (S 1) && decide (y < A 1)) := by
    unfold mV
    rw [mUV_1 D hO h, yfl_eq, pV_dec]
  have hZ : (mZ A S ex b0 b1 b2 b3 O 1).testBit (ps b0 b1 b2 b3 i x y z c) = ((!(Nat.testBit i (S 1)) && decide (y = 0)) || (Nat.testBit i (S 1) && decide (y = A 1))) := by
    unfold mZ
    rw [lor_tb, mUV_1 D hO h, mUV_1 D hO h, nfl_eq, yfl_eq, pE_dec, pE_dec]
  obtain ⟨h1, hv, h2, h3, h4, h5⟩ := h
  unfold dxG
  by_cases hf : Nat.testBit i (S 1) = true
  · rw [if_pos hf]
    rw [hf] at hU hV hZ
    by_cases hlt : y < A 1
    · have hne : ¬ y = A 1 := by omega
      rw [if_pos hlt, dgB_V (by rw [hU]; simp) (by rw [hV]; simpa using hlt) (by rw [hZ]; simp [hne])]
      refine congrArg (fun q => Nat.testBit X q) ?_
      unfold ps
      have := Nat.mul_succ b1 y
      rw [Nat.succ_eq_add_one] at this
      omega
    · have he : y = A 1 := by omega
      rw [if_neg hlt, dgB_Z (by rw [hU]; simp) (by rw [hV]; simpa using hlt) (by rw [hZ]; simp [he])]
  · rw [if_neg hf]
    have hf' : Nat.testBit i (S 1) = false := by simpa using hf
    rw [hf'] at hU hV hZ
    by_cases h0 : y = 0
    · rw [dgB_Z (by rw [hU]; simp [h0]) (by rw [hV]; simp) (by rw [hZ]; simp [h0])]
      refine congrArg (fun q => Nat.testBit X q) ?_
      rw [h0]
    · obtain ⟨w, hw⟩ : ∃ w, y = w + 1 := ⟨y - 1, by omega⟩
      have hm := Nat.mul_succ b1 w
      rw [Nat.succ_eq_add_one, ← hw] at hm
      have hge : 1 ≤ y := by omega
      rw [dgB_U (by rw [hU]; simpa using hge) (by rw [hV]; simp) (by rw [hZ]; simp [h0]) (by unfold ps; omega)]
      refine congrArg (fun q => Nat.testBit X q) ?_
      have e1 : y - 1 = w := by omega
      unfold ps
      rw [e1]
      omega
theorem dg_2 (D : DK A lim b0 b1 b2 b3) {O L Fl : Nat} (hO : OK3 lim O L Fl) (h : InB A lim ex i x y z c) (X : Nat) : (dgB b2 (mU A S ex b0 b1 b2 b3 O 2) (mV A S ex b0 b1 b2 b3 O 2) (mZ A S ex b0 b1 b2 b3 O 2) X).testBit (ps b0 b1 b2 b3 i x y z c) = X.testBit (ps b0 b1 b2 b3 i x y (dxG A S i 2 z) c) := by
  have hU : (mU A S ex b0 b1 b2 b3 O 2).testBit (ps b0 b1 b2 b3 i x y z c) = (!(Nat.testBit i (S 2)) && decide (1 ≤ z)) := by
    unfold mU
    rw [mUV_2 D hO h, nfl_eq, pU_dec]
  have hV : (mV A S ex b0 b1 b2 b3 O 2).testBit (ps b0 b1 b2 b3 i x y z c) = (Nat.testBit i (S 2) && decide (z < A 2)) := by
    unfold mV
    rw [mUV_2 D hO h, yfl_eq, pV_dec]
  have hZ : (mZ A S ex b0 b1 b2 b3 O 2).testBit (ps b0 b1 b2 b3 i x y z c) = ((!(Nat.testBit i (S 2)) && decide (z = 0)) || (Nat.testBit i (S 2) && decide (z = A 2))) := by
    unfold mZ
    rw [lor_tb, mUV_2 D hO h, mUV_2 D hO h, nfl_eq, yfl_eq, pE_dec, pE_dec]
  obtain ⟨h1, hv, h2, h3, h4, h5⟩ := h
  unfold dxG
  by_cases hf : Nat.testBit i (S 2) = true
  · rw [if_pos hf]
    rw [hf] at hU hV hZ
    by_cases hlt : z < A 2
    · have hne : ¬ z = A 2 := by omega
      rw [if_pos hlt, dgB_V (by rw [hU]; simp) (by rw [hV]; simpa using hlt) (by rw [hZ]; simp [hne])]
      refine congrArg (fun q => Nat.testBit X q) ?_
      unfold ps
      have := Nat.mul_succ b2 z
      rw [Nat.succ_eq_add_one] at this
      omega
    · have he : z = A 2 := by omega
      rw [if_neg hlt, dgB_Z (by rw [hU]; simp) (by rw [hV]; simpa using hlt) (by rw [hZ]; simp [he])]
  · rw [if_neg hf]
    have hf' : Nat.testBit i (S 2) = false := by simpa using hf
    rw [hf'] at hU hV hZ
    by_cases h0 : z = 0
    · rw [dgB_Z (by rw [hU]; simp [h0]) (by rw [hV]; simp) (by rw [hZ]; simp [h0])]
      refine congrArg (fun q => Nat.testBit X q) ?_
      rw [h0]
    · obtain ⟨w, hw⟩ : ∃ w, z = w + 1 := ⟨z - 1, by omega⟩
      have hm := Nat.mul_succ b2 w
      rw [Nat.succ_eq_add_one, ← hw] at hm
      have hge : 1 ≤ z := by omega
      rw [dgB_U (by rw [hU]; simpa using hge) (by rw [hV]; simp) (by rw [hZ]; simp [h0]) (by unfold ps; omega)]
      refine congrArg (fun q => Nat.testBit X q) ?_
      have e1 : z - 1 = w := by omega
      unfold ps
      rw [e1]
      omega
end
