/-! a stack turned -/
def fpG (j i : Nat) : Nat := if Nat.testBit i j = true then i - 2 ^ j else i + 2 ^ j
theorem fp_a : ∀ i, i < 8 → ∀ j, j < 3 → (Nat.testBit i j = false → i + 2 ^ j < 8 ∧ (2 ^ j ≤ i → Nat.testBit (i - 2 ^ j) j = true)) ∧ (Nat.testBit i j = true → 2 ^ j ≤ i ∧ Nat.testBit (i - 2 ^ j) j = false) := by decide +kernel
theorem fp_b : ∀ i, i < 8 → ∀ j, j < 3 → ∀ s, s < 3 → Nat.testBit (fpG j i) s = if s = j then !(Nat.testBit i s) else Nat.testBit i s := by decide +kernel
theorem fp_lt : ∀ i, i < 8 → ∀ j, j < 3 → fpG j i < 8 := by decide +kernel
theorem fp_v : ∀ i, i < 8 → ∀ ex, ex < 8 → ∀ j, j < 3 → Nat.testBit ex j = true → vI ex i = true → vI ex (fpG j i) = true := by decide +kernel
section
variable {A S : Nat → Nat} {lim ex b0 b1 b2 b3 i x y z c : Nat}
theorem InB.fp (h : InB A lim ex i x y z c) {j : Nat} (hj : j < 3) (hex : ex < 8) (he : Nat.testBit ex j = true) : InB A lim ex (fpG j i) x y z c := ⟨fp_lt i h.1 j hj, fp_v i h.1 ex hex j hj he h.2.1, h.2.2⟩
theorem mM_bt (D : DK A lim b0 b1 b2 b3) {O L Fl : Nat} (hO : OK3 lim O L Fl) {j : Nat} (h : InB A lim ex i x y z c) : (mM A ex b0 b1 b2 b3 O j).testBit (ps b0 b1 b2 b3 i x y z c) = nfl j i := by
  unfold mM
  rw [prd_bt D (O_lt hO) h, O_bit hO h.2.2.2.2.2]
  simp [tr]
theorem sw_bt (D : DK A lim b0 b1 b2 b3) {O L Fl : Nat} (hO : OK3 lim O L Fl) {j : Nat} (hj : j < 3) (hex : ex < 8) (he : Nat.testBit ex j = true) (h : InB A lim ex i x y z c) (X : Nat) : (swB (b3 * 2 ^ j) (mM A ex b0 b1 b2 b3 O j) X).testBit (ps b0 b1 b2 b3 i x y z c) = X.testBit (ps b0 b1 b2 b3 (fpG j i) x y z c) := by
  obtain ⟨ha, hb⟩ := fp_a i h.1 j hj
  have hv := h.fp hj hex he
  have m0 := mM_bt D hO (j := j) h
  rw [nfl_eq] at m0
  have hE := D.2.2.2
  unfold fpG at hv ⊢
  by_cases hf : Nat.testBit i j = true
  · rw [if_pos hf] at hv ⊢
    obtain ⟨h1, h2⟩ := hb hf
    have m1 := mM_bt D hO (j := j) hv
    rw [nfl_eq, h2] at m1
    rw [hf] at m0
    have hm : b3 * i = b3 * (i - 2 ^ j) + b3 * 2 ^ j := by rw [← Nat.mul_add, Nat.sub_add_cancel h1]
    have hge : ps b0 b1 b2 b3 i x y z c ≥ b3 * 2 ^ j := by unfold ps; omega
    have hsub : ps b0 b1 b2 b3 i x y z c - b3 * 2 ^ j = ps b0 b1 b2 b3 (i - 2 ^ j) x y z c := by unfold ps; omega
    rw [swB_bt, m0, hsub, m1]
    simp [hge]
  · rw [if_neg hf] at hv ⊢
    have hf' : Nat.testBit i j = false := by simpa using hf
    obtain ⟨h1, h2⟩ := ha hf'
    rw [hf'] at m0
    have hm : b3 * (i + 2 ^ j) = b3 * i + b3 * 2 ^ j := Nat.mul_add _ _ _
    have hadd : b3 * 2 ^ j + ps b0 b1 b2 b3 i x y z c = ps b0 b1 b2 b3 (i + 2 ^ j) x y z c := by unfold ps; omega
    rw [swB_bt, m0, hadd]
    by_cases hge : 2 ^ j ≤ i
    · have hm2 : b3 * i = b3 * (i - 2 ^ j) + b3 * 2 ^ j := by rw [← Nat.mul_add, Nat.sub_add_cancel hge]
      have hsub : ps b0 b1 b2 b3 i x y z c - b3 * 2 ^ j = ps b0 b1 b2 b3 (i - 2 ^ j) x y z c := by unfold ps; omega
      have m1 : (mM A ex b0 b1 b2 b3 O j).testBit (ps b0 b1 b2 b3 (i - 2 ^ j) x y z c) = false := by
        unfold mM
        exact prd_no D (O_lt hO) h.2.2.1 h.2.2.2.1 h.2.2.2.2.1 h.2.2.2.2.2 (by rw [nfl_eq, h2 hge]; rfl)
      rw [hsub, m1]
      simp
    · have k0 : b0 * x + c < b1 := by rw [D.2.1]; exact lin_lt (by rw [D.1]; exact h.2.2.2.2.2) (by have := h.2.2.1; omega)
      have k1 : b1 * y + (b0 * x + c) < b2 := by rw [D.2.2.1]; exact lin_lt k0 (by have := h.2.2.2.1; omega)
      have k2 : b2 * z + (b1 * y + (b0 * x + c)) < b3 := by rw [hE]; exact lin_lt k1 (by have := h.2.2.2.2.1; omega)
      have hlt : ps b0 b1 b2 b3 i x y z c < b3 * 2 ^ j := lin_lt k2 (by omega)
      have hng : ¬ ps b0 b1 b2 b3 i x y z c ≥ b3 * 2 ^ j := by omega
      simp [hng]
theorem st_bt (D : DK A lim b0 b1 b2 b3) {O L Fl : Nat} (hO : OK3 lim O L Fl) {j : Nat} (hj : j < 3) (hex : ex < 8) (he : Nat.testBit ex j = true) (h : InB A lim ex i x y z c) (X : Nat) : (stB true (b3 * 2 ^ j) (mM A ex b0 b1 b2 b3 O j) (mX A ex b0 b1 b2 b3 L) (mX A ex b0 b1 b2 b3 Fl) X).testBit (ps b0 b1 b2 b3 i x y z c) = true ↔ (X.testBit (ps b0 b1 b2 b3 i x y z c) = true ∨ ∃ c', dnL lim c c' ∧ X.testBit (ps b0 b1 b2 b3 (fpG j i) x y z c') = true) := by
  have hc := h.2.2.2.2.2
  have l : (mX A ex b0 b1 b2 b3 L).testBit (ps b0 b1 b2 b3 i x y z c) = decide (1 ≤ c ∧ c < lim + 1) := by
    unfold mX
    rw [prd_bt D hO.2.1 h, hO.2.2.2.1 c hc]
    simp [tr]
  have f : (mX A ex b0 b1 b2 b3 Fl).testBit (ps b0 b1 b2 b3 i x y z c) = decide (c = lim + 1) := by
    unfold mX
    rw [prd_bt D hO.2.2.1 h, hO.2.2.2.2 c hc]
    simp [tr]
  have s0 := sw_bt D hO hj hex he h X
  have s1 : 1 ≤ c → (swB (b3 * 2 ^ j) (mM A ex b0 b1 b2 b3 O j) X).testBit (ps b0 b1 b2 b3 i x y z c - 1) = X.testBit (ps b0 b1 b2 b3 (fpG j i) x y z (c - 1)) := fun h1 => by
    have := sw_bt D hO hj hex he (c := c - 1) ⟨h.1, h.2.1, h.2.2.1, h.2.2.2.1, h.2.2.2.2.1, by omega⟩ X
    rw [← this]
    refine congrArg (fun q => Nat.testBit (swB (b3 * 2 ^ j) (mM A ex b0 b1 b2 b3 O j) X) q) ?_
    unfold ps
    omega
  rw [stB_bt, l, f, s0]
  have hd : ∀ c', dnL lim c c' ↔ (1 ≤ c ∧ c < lim + 1 ∧ c' = c - 1) ∨ (c = lim + 1 ∧ c' = lim + 1) := fun c' => by unfold dnL; omega
  simp only [hd]
  by_cases h25 : c = lim + 1
  · subst h25
    simp
  · by_cases h1 : 1 ≤ c
    · have h2 : c < lim + 1 := by omega
      have h3 : ps b0 b1 b2 b3 i x y z c ≥ 1 := by unfold ps; omega
      rw [s1 h1]
      simp [h25, h1, h2, h3]
    · simp [h25, h1]
end
/-! what a number says -/
def invB (A S : Nat → Nat) (lim ex b0 b1 b2 b3 : Nat) (N : Nat) (P : Nat → Nat → Nat → Nat → Prop) : Prop := ∀ i x y z c, InB A lim ex i x y z c → (N.testBit (ps b0 b1 b2 b3 i x y z c) = true ↔ P c (vvG A S i 0 x) (vvG A S i 1 y) (vvG A S i 2 z))
theorem vvG_fp {A S : Nat → Nat} {i j g x : Nat} (hi : i < 8) (hj : j < 3) (hs : S g < 3) (hx : x ≤ A g) : vvG A S (fpG j i) g x = tnG A S j g (vvG A S i g x) := by
  unfold vvG tnG
  rw [fp_b i hi j hj (S g) hs]
  by_cases h : S g = j
  · rw [if_pos h, if_pos h]
    cases Nat.testBit i (S g) <;> simp
    omega
  · rw [if_neg h, if_neg h]
section
variable {A S : Nat → Nat} {lim ex b0 b1 b2 b3 O L Fl : Nat} {st : Nat → Prop}
theorem invB_st (D : DK A lim b0 b1 b2 b3) (hO : OK3 lim O L Fl) {X j : Nat} {P : Nat → Nat → Nat → Nat → Prop} (hS : S 0 < 3 ∧ S 1 < 3 ∧ S 2 < 3) (hj : j < 3) (hex : ex < 8) (hs : Nat.testBit ex j = true ↔ st j) (h : invB A S lim ex b0 b1 b2 b3 X P) : invB A S lim ex b0 b1 b2 b3 (stB (Nat.testBit ex j) (b3 * 2 ^ j) (mM A ex b0 b1 b2 b3 O j) (mX A ex b0 b1 b2 b3 L) (mX A ex b0 b1 b2 b3 Fl) X) (chs (dnL lim) st A S j P) := by
  intro i x y z c hb
  unfold chs
  by_cases he : Nat.testBit ex j = true
  · have hst : st j := hs.mp he
    rw [he, st_bt D hO hj hex he hb, h i x y z c hb]
    have e : ∀ c', c' < lim + 2 → (X.testBit (ps b0 b1 b2 b3 (fpG j i) x y z c') = true ↔ P c' (tnG A S j 0 (vvG A S i 0 x)) (tnG A S j 1 (vvG A S i 1 y)) (tnG A S j 2 (vvG A S i 2 z))) := fun c' hc' => by
      rw [h (fpG j i) x y z c' (InB.fp ⟨hb.1, hb.2.1, hb.2.2.1, hb.2.2.2.1, hb.2.2.2.2.1, hc'⟩ hj hex he), vvG_fp hb.1 hj hS.1 hb.2.2.1, vvG_fp hb.1 hj hS.2.1 hb.2.2.2.1, vvG_fp hb.1 hj hS.2.2 hb.2.2.2.2.1]
    have hc := hb.2.2.2.2.2
    constructor
    · rintro (q | ⟨c', q1, q2⟩)
      · exact Or.inl q
      · exact Or.inr ⟨hst, c', q1, (e c' (by unfold dnL at q1; omega)).mp q2⟩
    · rintro (q | ⟨_, c', q1, q2⟩)
      · exact Or.inl q
      · exact Or.inr ⟨c', q1, (e c' (by unfold dnL at q1; omega)).mpr q2⟩
  · have hf : Nat.testBit ex j = false := by simpa using he
    rw [hf]
    show X.testBit (ps b0 b1 b2 b3 i x y z c) = true ↔ _
    rw [h i x y z c hb]
    constructor
    · exact fun q => Or.inl q
    · rintro (q | ⟨q, _⟩)
      · exact q
      · exact absurd (hs.mpr q) he
noncomputable def dB (b0 b1 b2 U0 V0 Z0 U1 V1 Z1 U2 V2 Z2 X : Nat) : Nat := frc (dgB b0 U0 V0 Z0 X) fun X => frc (dgB b1 U1 V1 Z1 X) fun X => dgB b2 U2 V2 Z2 X
theorem invB_d (D : DK A lim b0 b1 b2 b3) (hO : OK3 lim O L Fl) {X : Nat} {P : Nat → Nat → Nat → Nat → Prop} (h : invB A S lim ex b0 b1 b2 b3 X P) : invB A S lim ex b0 b1 b2 b3 (dB b0 b1 b2 (mU A S ex b0 b1 b2 b3 O 0) (mV A S ex b0 b1 b2 b3 O 0) (mZ A S ex b0 b1 b2 b3 O 0) (mU A S ex b0 b1 b2 b3 O 1) (mV A S ex b0 b1 b2 b3 O 1) (mZ A S ex b0 b1 b2 b3 O 1) (mU A S ex b0 b1 b2 b3 O 2) (mV A S ex b0 b1 b2 b3 O 2) (mZ A S ex b0 b1 b2 b3 O 2) X) (fun c x y z => P c (x - 1) (y - 1) (z - 1)) := by
  intro i x y z c hb
  obtain ⟨h1, hv, h2, h3, h4, h5⟩ := hb
  unfold dB
  rw [frc_eq, frc_eq, dg_2 D hO ⟨h1, hv, h2, h3, h4, h5⟩, dg_1 D hO ⟨h1, hv, h2, h3, dxG_le h4, h5⟩, dg_0 D hO ⟨h1, hv, h2, dxG_le h3, dxG_le h4, h5⟩, h _ _ _ _ _ ⟨h1, hv, dxG_le h2, dxG_le h3, dxG_le h4, h5⟩, dxG_vv h2, dxG_vv h3, dxG_vv h4]
noncomputable def nzB (U0 V0 U1 V1 U2 V2 : Nat) : Nat := Nat.lor (Nat.lor (Nat.lor U0 V0) (Nat.lor U1 V1)) (Nat.lor U2 V2)
noncomputable def mR (A S : Nat → Nat) (ex b0 b1 b2 b3 O : Nat) : Nat := Nat.lor (mO A S ex b0 b1 b2 b3 O 0) (Nat.lor (mO A S ex b0 b1 b2 b3 O 1) (mO A S ex b0 b1 b2 b3 O 2))
theorem pos_vv {i g x : Nat} (hx : x ≤ A g) : ((nfl (S g) i && pU (A g) x) || (yfl (S g) i && pV (A g) x)) = decide (0 < vvG A S i g x) := by
  rw [nfl_eq, yfl_eq, pU_dec, pV_dec]
  unfold vvG
  cases Nat.testBit i (S g)
  · rw [Bool.eq_iff_iff]
    simp
    omega
  · rw [Bool.eq_iff_iff]
    simp
    omega
theorem one_vv {i g x : Nat} (hx : x ≤ A g) : ((nfl (S g) i && pE 1 x) || (yfl (S g) i && pE1 (A g) x)) = decide (vvG A S i g x = 1) := by
  rw [nfl_eq, yfl_eq, pE_dec]
  unfold vvG pE1
  rw [beq_dec]
  cases Nat.testBit i (S g)
  · simp
  · rw [Bool.eq_iff_iff]
    simp
    omega
theorem nzB_bt (D : DK A lim b0 b1 b2 b3) (hO : OK3 lim O L Fl) {i x y z c : Nat} (h : InB A lim ex i x y z c) : (nzB (mU A S ex b0 b1 b2 b3 O 0) (mV A S ex b0 b1 b2 b3 O 0) (mU A S ex b0 b1 b2 b3 O 1) (mV A S ex b0 b1 b2 b3 O 1) (mU A S ex b0 b1 b2 b3 O 2) (mV A S ex b0 b1 b2 b3 O 2)).testBit (ps b0 b1 b2 b3 i x y z c) = true ↔ (0 < vvG A S i 0 x ∨ 0 < vvG A S i 1 y ∨ 0 < vvG A S i 2 z) := by
  unfold nzB mU mV
  rw [lor_tb, lor_tb, lor_tb, lor_tb, lor_tb, mUV_0 D hO h, mUV_0 D hO h, mUV_1 D hO h, mUV_1 D hO h, mUV_2 D hO h, mUV_2 D hO h, pos_vv h.2.2.1, pos_vv h.2.2.2.1, pos_vv h.2.2.2.2.1]
  simp [or_assoc]
theorem mR_bt (D : DK A lim b0 b1 b2 b3) (hO : OK3 lim O L Fl) {i x y z c : Nat} (h : InB A lim ex i x y z c) : (mR A S ex b0 b1 b2 b3 O).testBit (ps b0 b1 b2 b3 i x y z c) = true ↔ (vvG A S i 0 x = 1 ∨ vvG A S i 1 y = 1 ∨ vvG A S i 2 z = 1) := by
  unfold mR mO
  rw [lor_tb, lor_tb, lor_tb, lor_tb, lor_tb, mUV_0 D hO h, mUV_0 D hO h, mUV_1 D hO h, mUV_1 D hO h, mUV_2 D hO h, mUV_2 D hO h, one_vv h.2.2.1, one_vv h.2.2.2.1, one_vv h.2.2.2.2.1]
  simp
theorem invB_0 (D : DK A lim b0 b1 b2 b3) (hO : OK3 lim O L Fl) : invB A S lim ex b0 b1 b2 b3 (mR A S ex b0 b1 b2 b3 O) (pRun (dnL lim) st A S 1) := by
  intro i x y z c hb
  rw [mR_bt D hO hb]
  constructor
  · intro h
    exact ⟨by omega, Or.inr ⟨h, Or.inl rfl⟩⟩
  · rintro ⟨_, h | ⟨h, _⟩⟩
    · exact False.elim h
    · exact h
noncomputable def nxB (b0 b1 b2 U0 V0 Z0 U1 V1 Z1 U2 V2 Z2 R NZ F E : Nat) : Nat := Nat.land NZ (Nat.lor (dB b0 b1 b2 U0 V0 Z0 U1 V1 Z1 U2 V2 Z2 F) (Nat.land (dB b0 b1 b2 U0 V0 Z0 U1 V1 Z1 U2 V2 Z2 E) R))
theorem invB_s (D : DK A lim b0 b1 b2 b3) (hO : OK3 lim O L Fl) {F E r : Nat} (hr : 0 < r) (hF : invB A S lim ex b0 b1 b2 b3 F (pRun (dnL lim) st A S r)) (hE : invB A S lim ex b0 b1 b2 b3 E (chA (dnL lim) st A S (pRun (dnL lim) st A S r))) : invB A S lim ex b0 b1 b2 b3 (nxB b0 b1 b2 (mU A S ex b0 b1 b2 b3 O 0) (mV A S ex b0 b1 b2 b3 O 0) (mZ A S ex b0 b1 b2 b3 O 0) (mU A S ex b0 b1 b2 b3 O 1) (mV A S ex b0 b1 b2 b3 O 1) (mZ A S ex b0 b1 b2 b3 O 1) (mU A S ex b0 b1 b2 b3 O 2) (mV A S ex b0 b1 b2 b3 O 2) (mZ A S ex b0 b1 b2 b3 O 2) (mR A S ex b0 b1 b2 b3 O) (nzB (mU A S ex b0 b1 b2 b3 O 0) (mV A S ex b0 b1 b2 b3 O 0) (mU A S ex b0 b1 b2 b3 O 1) (mV A S ex b0 b1 b2 b3 O 1) (mU A S ex b0 b1 b2 b3 O 2) (mV A S ex b0 b1 b2 b3 O 2)) F E) (pRun (dnL lim) st A S (r + 1)) := by
  intro i x y z c hb
  have d1 := invB_d D hO hF i x y z c hb
  have d2 := invB_d D hO hE i x y z c hb
  unfold nxB
  rw [land_tb, lor_tb, land_tb, Bool.and_eq_true, Bool.or_eq_true, Bool.and_eq_true, nzB_bt D hO hb, mR_bt D hO hb, d1, d2]
  show _ ↔ (0 < _ ∨ _) ∧ (_ ∨ _ ∧ (r = 0 ∨ _))
  constructor
  · rintro ⟨h1, h2 | ⟨h2, h3⟩⟩
    · exact ⟨h1, Or.inl h2⟩
    · exact ⟨h1, Or.inr ⟨h3, Or.inr h2⟩⟩
  · rintro ⟨h1, h2 | ⟨h3, h2 | h2⟩⟩
    · exact ⟨h1, Or.inl h2⟩
    · omega
    · exact ⟨h1, Or.inr ⟨h2, h3⟩⟩
noncomputable def ckB (Fl E : Nat) : Bool := Nat.beq (Nat.lor (Nat.land E Fl) (Nat.land (Nat.shiftLeft E 1) Fl)) (Nat.land (Nat.shiftLeft E 1) Fl)
theorem ckB_t (D : DK A lim b0 b1 b2 b3) (hO : OK3 lim O L Fl) {E i x y z : Nat} (h : ckB (mX A ex b0 b1 b2 b3 Fl) E = true) (hb : InB A lim ex i x y z (lim + 1)) (h25 : E.testBit (ps b0 b1 b2 b3 i x y z (lim + 1)) = true) : E.testBit (ps b0 b1 b2 b3 i x y z lim) = true := by
  unfold ckB at h
  rw [beq_dec, decide_eq_true_iff] at h
  have h1 : ((E &&& (mX A ex b0 b1 b2 b3 Fl)) ||| ((E <<< 1) &&& (mX A ex b0 b1 b2 b3 Fl))).testBit (ps b0 b1 b2 b3 i x y z (lim + 1)) = ((E <<< 1) &&& (mX A ex b0 b1 b2 b3 Fl)).testBit (ps b0 b1 b2 b3 i x y z (lim + 1)) := congrArg (fun N => Nat.testBit N (ps b0 b1 b2 b3 i x y z (lim + 1))) h
  have f : (mX A ex b0 b1 b2 b3 Fl).testBit (ps b0 b1 b2 b3 i x y z (lim + 1)) = true := by
    unfold mX
    rw [prd_bt D hO.2.2.1 hb, hO.2.2.2.2 _ (by omega)]
    simp [tr]
  rw [Nat.testBit_or, Nat.testBit_and, Nat.testBit_and, Nat.testBit_shiftLeft, f, h25] at h1
  have e : ps b0 b1 b2 b3 i x y z (lim + 1) - 1 = ps b0 b1 b2 b3 i x y z lim := by unfold ps; omega
  rw [e] at h1
  simp at h1
  exact h1.2
noncomputable def lpB (b0 b1 b2 b3 U0 V0 Z0 U1 V1 Z1 U2 V2 Z2 R NZ L Fl M0 M1 M2 : Nat) (s0 s1 s2 : Bool) (n : Nat) : Nat → Bool :=
  Nat.rec (motive := fun _ => Nat → Bool) (fun _ => true) (fun _ ih F =>
    frc (stB s0 (Nat.mul b3 1) M0 L Fl F) fun E => frc (stB s1 (Nat.mul b3 2) M1 L Fl E) fun E => frc (stB s2 (Nat.mul b3 4) M2 L Fl E) fun E =>
    Bool.rec (motive := fun _ => Bool) false (frc (nxB b0 b1 b2 U0 V0 Z0 U1 V1 Z1 U2 V2 Z2 R NZ F E) ih) (ckB Fl E)) n
noncomputable abbrev lpA (A S : Nat → Nat) (ex b0 b1 b2 b3 O L Fl n : Nat) : Nat → Bool := lpB b0 b1 b2 b3 (mU A S ex b0 b1 b2 b3 O 0) (mV A S ex b0 b1 b2 b3 O 0) (mZ A S ex b0 b1 b2 b3 O 0) (mU A S ex b0 b1 b2 b3 O 1) (mV A S ex b0 b1 b2 b3 O 1) (mZ A S ex b0 b1 b2 b3 O 1) (mU A S ex b0 b1 b2 b3 O 2) (mV A S ex b0 b1 b2 b3 O 2) (mZ A S ex b0 b1 b2 b3 O 2) (mR A S ex b0 b1 b2 b3 O) (nzB (mU A S ex b0 b1 b2 b3 O 0) (mV A S ex b0 b1 b2 b3 O 0) (mU A S ex b0 b1 b2 b3 O 1) (mV A S ex b0 b1 b2 b3 O 1) (mU A S ex b0 b1 b2 b3 O 2) (mV A S ex b0 b1 b2 b3 O 2)) (mX A ex b0 b1 b2 b3 L) (mX A ex b0 b1 b2 b3 Fl) (mM A ex b0 b1 b2 b3 O 0) (mM A ex b0 b1 b2 b3 O 1) (mM A ex b0 b1 b2 b3 O 2) (Nat.testBit ex 0) (Nat.testBit ex 1) (Nat.testBit ex 2) n
theorem lpB_t (D : DK A lim b0 b1 b2 b3) (hO : OK3 lim O L Fl) (hS : S 0 < 3 ∧ S 1 < 3 ∧ S 2 < 3) (hex : ex < 8) (hst : ∀ j, j < 3 → (Nat.testBit ex j = true ↔ st j)) : ∀ (n r F : Nat), 0 < r → invB A S lim ex b0 b1 b2 b3 F (pRun (dnL lim) st A S r) → lpA A S ex b0 b1 b2 b3 O L Fl n F = true → ∀ k, k < n → ∀ x y z, x ≤ A 0 → y ≤ A 1 → z ≤ A 2 → CanL lim st A S (r + k) (lim + 1) x y z → CanL lim st A S (r + k) lim x y z
  | 0, r, F, _, _, _ => fun k hk => absurd hk (Nat.not_lt_zero k)
  | n + 1, r, F, hr, hF, h => by
    have i0 := invB_st D hO hS (j := 0) (by omega) hex (hst 0 (by omega)) hF
    have i1 := invB_st D hO hS (j := 1) (by omega) hex (hst 1 (by omega)) i0
    have i2 := invB_st D hO hS (j := 2) (by omega) hex (hst 2 (by omega)) i1
    have e : lpA A S ex b0 b1 b2 b3 O L Fl (n + 1) F = frc (stB (Nat.testBit ex 0) (b3 * 2 ^ 0) (mM A ex b0 b1 b2 b3 O 0) (mX A ex b0 b1 b2 b3 L) (mX A ex b0 b1 b2 b3 Fl) F) (fun E => frc (stB (Nat.testBit ex 1) (b3 * 2 ^ 1) (mM A ex b0 b1 b2 b3 O 1) (mX A ex b0 b1 b2 b3 L) (mX A ex b0 b1 b2 b3 Fl) E) fun E => frc (stB (Nat.testBit ex 2) (b3 * 2 ^ 2) (mM A ex b0 b1 b2 b3 O 2) (mX A ex b0 b1 b2 b3 L) (mX A ex b0 b1 b2 b3 Fl) E) fun E => Bool.rec (motive := fun _ => Bool) false (frc (nxB b0 b1 b2 (mU A S ex b0 b1 b2 b3 O 0) (mV A S ex b0 b1 b2 b3 O 0) (mZ A S ex b0 b1 b2 b3 O 0) (mU A S ex b0 b1 b2 b3 O 1) (mV A S ex b0 b1 b2 b3 O 1) (mZ A S ex b0 b1 b2 b3 O 1) (mU A S ex b0 b1 b2 b3 O 2) (mV A S ex b0 b1 b2 b3 O 2) (mZ A S ex b0 b1 b2 b3 O 2) (mR A S ex b0 b1 b2 b3 O) (nzB (mU A S ex b0 b1 b2 b3 O 0) (mV A S ex b0 b1 b2 b3 O 0) (mU A S ex b0 b1 b2 b3 O 1) (mV A S ex b0 b1 b2 b3 O 1) (mU A S ex b0 b1 b2 b3 O 2) (mV A S ex b0 b1 b2 b3 O 2)) F E) (lpA A S ex b0 b1 b2 b3 O L Fl n)) (ckB (mX A ex b0 b1 b2 b3 Fl) E)) := rfl
    rw [e, frc_eq, frc_eq, frc_eq] at h
    generalize hE : stB (Nat.testBit ex 2) (b3 * 2 ^ 2) (mM A ex b0 b1 b2 b3 O 2) (mX A ex b0 b1 b2 b3 L) (mX A ex b0 b1 b2 b3 Fl) (stB (Nat.testBit ex 1) (b3 * 2 ^ 1) (mM A ex b0 b1 b2 b3 O 1) (mX A ex b0 b1 b2 b3 L) (mX A ex b0 b1 b2 b3 Fl) (stB (Nat.testBit ex 0) (b3 * 2 ^ 0) (mM A ex b0 b1 b2 b3 O 0) (mX A ex b0 b1 b2 b3 L) (mX A ex b0 b1 b2 b3 Fl) F)) = E at i2 h
    cases hck : ckB (mX A ex b0 b1 b2 b3 Fl) E with
    | false =>
      rw [hck] at h
      exact absurd (show false = true from h) (by decide)
    | true =>
      rw [hck] at h
      have h' : frc (nxB b0 b1 b2 (mU A S ex b0 b1 b2 b3 O 0) (mV A S ex b0 b1 b2 b3 O 0) (mZ A S ex b0 b1 b2 b3 O 0) (mU A S ex b0 b1 b2 b3 O 1) (mV A S ex b0 b1 b2 b3 O 1) (mZ A S ex b0 b1 b2 b3 O 1) (mU A S ex b0 b1 b2 b3 O 2) (mV A S ex b0 b1 b2 b3 O 2) (mZ A S ex b0 b1 b2 b3 O 2) (mR A S ex b0 b1 b2 b3 O) (nzB (mU A S ex b0 b1 b2 b3 O 0) (mV A S ex b0 b1 b2 b3 O 0) (mU A S ex b0 b1 b2 b3 O 1) (mV A S ex b0 b1 b2 b3 O 1) (mU A S ex b0 b1 b2 b3 O 2) (mV A S ex b0 b1 b2 b3 O 2)) F E) (lpA A S ex b0 b1 b2 b3 O L Fl n) = true := h
      rw [frc_eq] at h'
      have ih := lpB_t D hO hS hex hst n (r + 1) _ (by omega) (invB_s D hO hr hF i2) h'
      intro k hk x y z hx hy hz hc
      by_cases hk0 : k = 0
      · subst hk0
        have v0 : ∀ g w, vvG A S 0 g w = w := fun g w => by unfold vvG; rw [Nat.zero_testBit]; rfl
        have hvi : vI ex 0 = true := by unfold vI; rw [beq_dec]; simp
        have b25 := i2 0 x y z (lim + 1) ⟨by omega, hvi, hx, hy, hz, by omega⟩
        have b24 := i2 0 x y z lim ⟨by omega, hvi, hx, hy, hz, by omega⟩
        rw [v0, v0, v0] at b25 b24
        exact b24.mp (ckB_t D hO hck ⟨by omega, hvi, hx, hy, hz, by omega⟩ (b25.mpr hc))
      · have := ih (k - 1) (by omega) x y z hx hy hz
        rw [show r + 1 + (k - 1) = r + k by omega] at this
        exact this hc
end
/-- one shape: whatever can be measured within 40 seconds costs at most lim -/
noncomputable def shC (A S : Nat → Nat) (ex b0 b1 b2 b3 O L Fl : Nat) : Bool :=
  frc (mU A S ex b0 b1 b2 b3 O 0) fun U0 => frc (mV A S ex b0 b1 b2 b3 O 0) fun V0 => frc (mZ A S ex b0 b1 b2 b3 O 0) fun Z0 => frc (mU A S ex b0 b1 b2 b3 O 1) fun U1 => frc (mV A S ex b0 b1 b2 b3 O 1) fun V1 => frc (mZ A S ex b0 b1 b2 b3 O 1) fun Z1 => frc (mU A S ex b0 b1 b2 b3 O 2) fun U2 => frc (mV A S ex b0 b1 b2 b3 O 2) fun V2 => frc (mZ A S ex b0 b1 b2 b3 O 2) fun Z2 => frc (mR A S ex b0 b1 b2 b3 O) fun R => frc (nzB U0 V0 U1 V1 U2 V2) fun NZ => frc (mX A ex b0 b1 b2 b3 L) fun L => frc (mX A ex b0 b1 b2 b3 Fl) fun Fl => frc (mM A ex b0 b1 b2 b3 O 0) fun M0 => frc (mM A ex b0 b1 b2 b3 O 1) fun M1 => frc (mM A ex b0 b1 b2 b3 O 2) fun M2 => lpB b0 b1 b2 b3 U0 V0 Z0 U1 V1 Z1 U2 V2 Z2 R NZ L Fl M0 M1 M2 (Nat.testBit ex 0) (Nat.testBit ex 1) (Nat.testBit ex 2) 40 R
noncomputable def shB (lim O L Fl : Nat) (A S : Nat → Nat) (ex : Nat) : Bool := frc (Nat.mul (lim + 2) (A 0 + 1)) fun b1 => frc (Nat.mul b1 (A 1 + 1)) fun b2 => frc (Nat.mul b2 (A 2 + 1)) fun b3 => shC A S ex (lim + 2) b1 b2 b3 O L Fl
theorem shB_t {A S : Nat → Nat} {st : Nat → Prop} {lim O L Fl ex : Nat} (hO : OK3 lim O L Fl) (hS : S 0 < 3 ∧ S 1 < 3 ∧ S 2 < 3) (hex : ex < 8) (hst : ∀ j, j < 3 → (Nat.testBit ex j = true ↔ st j)) (h : shB lim O L Fl A S ex = true) {r c x y z : Nat} (hr : 1 ≤ r ∧ r ≤ 40) (hx : x ≤ A 0) (hy : y ≤ A 1) (hz : z ≤ A 2) (hc : Can st A S r c x y z) : Can st A S r lim x y z := by
  unfold shB shC at h
  repeat rw [frc_eq] at h
  have D : DK A lim (lim + 2) ((lim + 2) * (A 0 + 1)) ((lim + 2) * (A 0 + 1) * (A 1 + 1)) ((lim + 2) * (A 0 + 1) * (A 1 + 1) * (A 2 + 1)) := ⟨rfl, rfl, rfl, rfl⟩
  have := lpB_t D hO hS hex hst 40 1 _ (by omega) (invB_0 D hO) h (r - 1) (by omega) x y z hx hy hz
  rw [show 1 + (r - 1) = r by omega] at this
  exact (this hc.any).low (by omega)
