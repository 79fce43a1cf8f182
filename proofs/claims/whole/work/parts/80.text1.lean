/-! the text, read: positions, blanks, numbers -/
def tb (n : Nat) (t : Nat → Int) (p : Nat) : Int := if p < n then t p else -1
def skB (n : Nat) (t : Nat → Int) : Nat → Nat → Nat
  | 0, p => p
  | f + 1, p => if p < n ∧ t p = 32 then skB n t f (p + 1) else p
def bl (n : Nat) (t : Nat → Int) (p : Nat) : Nat := skB n t (n - p) p
theorem skB_is (n : Nat) (t : Nat → Int) : ∀ f p, n - p ≤ f → p ≤ skB n t f p ∧ (skB n t f p = p ∨ skB n t f p ≤ n) ∧ ¬ (skB n t f p < n ∧ t (skB n t f p) = 32)
  | 0, p, h => ⟨Nat.le_refl p, Or.inl rfl, fun q => by unfold skB at q; omega⟩
  | f + 1, p, h => by
    unfold skB
    by_cases hc : p < n ∧ t p = 32
    · rw [if_pos hc]
      obtain ⟨h1, h2, h3⟩ := skB_is n t f (p + 1) (by omega)
      exact ⟨by omega, Or.inr (by omega), h3⟩
    · rw [if_neg hc]
      exact ⟨Nat.le_refl p, Or.inl rfl, hc⟩
theorem skB_fuel (n : Nat) (t : Nat → Int) : ∀ f g p, n - p ≤ f → n - p ≤ g → skB n t f p = skB n t g p
  | 0, 0, p, _, _ => rfl
  | 0, g + 1, p, h, _ => by
    show p = skB n t (g + 1) p
    unfold skB
    rw [if_neg (by omega)]
  | f + 1, 0, p, _, h => by
    show skB n t (f + 1) p = p
    unfold skB
    rw [if_neg (by omega)]
  | f + 1, g + 1, p, h1, h2 => by
    unfold skB
    split
    · exact skB_fuel n t f g (p + 1) (by omega) (by omega)
    · rfl
theorem bl_is (n : Nat) (t : Nat → Int) (p : Nat) : p ≤ bl n t p ∧ (bl n t p = p ∨ bl n t p ≤ n) ∧ ¬ (bl n t p < n ∧ t (bl n t p) = 32) := skB_is n t _ p (Nat.le_refl _)
theorem bl_s {n : Nat} {t : Nat → Int} {p : Nat} (h : p < n ∧ t p = 32) : bl n t p = bl n t (p + 1) := by
  unfold bl
  obtain ⟨f, hf⟩ : ∃ f, n - p = f + 1 := ⟨n - p - 1, by omega⟩
  rw [hf]
  show (if p < n ∧ t p = 32 then skB n t f (p + 1) else p) = _
  rw [if_pos h]
  exact skB_fuel n t _ _ _ (by omega) (by omega)
theorem bl_0 {n : Nat} {t : Nat → Int} {p : Nat} (h : ¬ (p < n ∧ t p = 32)) : bl n t p = p := by
  unfold bl
  cases hf : n - p with
  | zero => rfl
  | succ f =>
    show (if p < n ∧ t p = 32 then skB n t f (p + 1) else p) = p
    rw [if_neg h]
theorem bl_bl (n : Nat) (t : Nat → Int) (p : Nat) : bl n t (bl n t p) = bl n t p := bl_0 (bl_is n t p).2.2
abbrev isd (c : Int) : Prop := 48 ≤ c ∧ c ≤ 57
def nvN (n : Nat) (t : Nat → Int) (p : Nat) : Nat := if isd (tb n t (p + 1)) then 10 * (tb n t p - 48).toNat + (tb n t (p + 1) - 48).toNat else (tb n t p - 48).toNat
def naN (n : Nat) (t : Nat → Int) (p : Nat) : Nat := if isd (tb n t (p + 1)) then p + 2 else p + 1
/-- the fault of a number, and of a step -/
def neN (n : Nat) (t : Nat → Int) (p m : Nat) : Option Nat := if ¬ isd (tb n t p) then some p else if ¬ (1 ≤ nvN n t p ∧ nvN n t p ≤ m) then some p else if isd (tb n t (naN n t p)) then some (naN n t p) else none
def semi (n : Nat) (t : Nat → Int) (q : Nat) : Option Nat := if tb n t q = 59 then none else some q
def er (n : Nat) (t : Nat → Int) (G : Int) (p d : Nat) : Option Nat :=
  if tb n t p = 41 ∧ 0 < d then semi n t (bl n t (p + 1))
  else if tb n t p = 116 ∨ tb n t p = 107 then (if 48 ≤ tb n t (bl n t (p + 1)) ∧ tb n t (bl n t (p + 1)) - 48 < G then semi n t (bl n t (bl n t (p + 1) + 1)) else some (bl n t (p + 1)))
  else if tb n t p = 119 then ((neN n t (bl n t (p + 1)) 99).elim (semi n t (bl n t (naN n t (bl n t (p + 1))))) some)
  else if tb n t p = 101 then semi n t (bl n t (p + 1))
  else if isd (tb n t p) then ((neN n t p 20).elim (if tb n t (bl n t (naN n t p)) = 40 ∧ d < 2 then none else some (bl n t (naN n t p))) some)
  else some p
/-- the place behind a step, the depth then, and what it is -/
def nxp (n : Nat) (t : Nat → Int) (p d : Nat) : Nat :=
  if tb n t p = 41 ∧ 0 < d then bl n t (bl n t (p + 1) + 1)
  else if tb n t p = 116 ∨ tb n t p = 107 then bl n t (bl n t (bl n t (p + 1) + 1) + 1)
  else if tb n t p = 119 then bl n t (bl n t (naN n t (bl n t (p + 1))) + 1)
  else if tb n t p = 101 then bl n t (bl n t (p + 1) + 1)
  else bl n t (bl n t (naN n t p) + 1)
def nxd (n : Nat) (t : Nat → Int) (p d : Nat) : Nat :=
  if tb n t p = 41 ∧ 0 < d then d - 1
  else if tb n t p = 116 ∨ tb n t p = 107 ∨ tb n t p = 119 ∨ tb n t p = 101 then d
  else d + 1
def nxk (n : Nat) (t : Nat → Int) (p d : Nat) : Int :=
  if tb n t p = 41 ∧ 0 < d then 5 else if tb n t p = 116 then 0 else if tb n t p = 107 then 1 else if tb n t p = 119 then 2 else if tb n t p = 101 then 3 else 4
def nxv (n : Nat) (t : Nat → Int) (p d : Nat) : Int :=
  if tb n t p = 41 ∧ 0 < d then 0 else if tb n t p = 116 ∨ tb n t p = 107 then tb n t (bl n t (p + 1)) - 48 else if tb n t p = 119 then (nvN n t (bl n t (p + 1)) : Int) else if tb n t p = 101 then 0 else (nvN n t p : Int)
theorem naN_is (n : Nat) (t : Nat → Int) (p : Nat) : p + 1 ≤ naN n t p ∧ naN n t p ≤ p + 2 := by
  unfold naN
  split <;> omega
theorem nvN_le {n : Nat} {t : Nat → Int} {p : Nat} (h : isd (tb n t p)) : nvN n t p ≤ 99 := by
  unfold nvN
  split <;> omega
theorem tb_in {n : Nat} {t : Nat → Int} (ht : ∀ i, i < n → 0 ≤ t i ∧ t i ≤ 127) (p : Nat) : (-1 ≤ tb n t p ∧ tb n t p ≤ 127) ∧ (n ≤ p → tb n t p = -1) ∧ (p < n → tb n t p = t p) := by
  unfold tb
  by_cases h : p < n
  · rw [if_pos h]
    have := ht p h
    exact ⟨by omega, fun q => by omega, fun _ => rfl⟩
  · rw [if_neg h]
    exact ⟨by omega, fun _ => rfl, fun q => absurd q h⟩
theorem nxp_gt (n : Nat) (t : Nat → Int) (p d : Nat) : p + 2 ≤ nxp n t p d := by
  have h1 := bl_is n t (p + 1)
  have h2 := bl_is n t (bl n t (p + 1) + 1)
  have h3 := bl_is n t (bl n t (bl n t (p + 1) + 1) + 1)
  have h4 := naN_is n t (bl n t (p + 1))
  have h5 := bl_is n t (naN n t (bl n t (p + 1)))
  have h6 := bl_is n t (bl n t (naN n t (bl n t (p + 1))) + 1)
  have h7 := naN_is n t p
  have h8 := bl_is n t (naN n t p)
  have h9 := bl_is n t (bl n t (naN n t p) + 1)
  unfold nxp
  split
  · omega
  · split
    · omega
    · split
      · omega
      · split <;> omega
/-! the reference reads -/
def MS (σ τ : xS) (at' : Nat) (fl : Int) (st : Nat) (dp : Int) (A B : Nat → Int) : Prop := ((∀ r, r ≠ 20 → r ≠ 25 → r ≠ 26 → τ r = σ r) ∧ ∀ j, j ≠ 8 → j ≠ 9 → j ≠ 10 → j ≠ 11 → τ 20 j = σ 20 j) ∧ τ 20 9 = (at' : Int) ∧ τ 20 10 = fl ∧ τ 20 8 = (st : Int) ∧ τ 20 11 = dp ∧ τ 25 = A ∧ τ 26 = B
theorem MS.up {σ τ : xS} {p : Nat} {fl : Int} {st : Nat} {dp : Int} {A B : Nat → Int} (h : MS σ τ p fl st dp A B) {p' : Nat} {fl' : Int} {dp' : Int} {τ' : xS} (ho : ∀ r, r ≠ 20 → τ' r = τ r) (h20 : ∀ j, j ≠ 9 → j ≠ 10 → j ≠ 11 → τ' 20 j = τ 20 j) (h9 : τ' 20 9 = (p' : Int)) (h10 : τ' 20 10 = fl') (h11 : τ' 20 11 = dp') : MS σ τ' p' fl' st dp' A B := by
  obtain ⟨⟨f1, f2⟩, a1, a2, a3, a4, a5, a6⟩ := h
  exact ⟨⟨fun r x y z => (ho r x).trans (f1 r x y z), fun j x y z w => (h20 j y z w).trans (f2 j x y z w)⟩, h9, h10, (h20 8 (by omega) (by omega) (by omega)).trans a3, h11, (ho 25 (by omega)).trans a5, (ho 26 (by omega)).trans a6⟩
section
variable {σ τ : xS} {n p st : Nat} {t : Nat → Int} {fl dp : Int} {A B : Nat → Int} {b : xS} {T : Int}
theorem MS.at9 (h : MS σ τ p fl st dp A B) (p' : Nat) {v : Int} (hv : v = (p' : Int)) : MS σ (xup τ 20 9 v) p' fl st dp A B :=
  h.up (fun r hr => xup_ne hr) (fun j a _ _ => by rw [xup_app, if_neg (by omega)]) (by rw [xup_app, if_pos ⟨rfl, rfl⟩, hv]) (by rw [xup_app, if_neg (by omega)]; exact h.2.2.1) (by rw [xup_app, if_neg (by omega)]; exact h.2.2.2.2.1)
theorem MS.at10 (h : MS σ τ p fl st dp A B) (v : Int) : MS σ (xup τ 20 10 v) p v st dp A B :=
  h.up (fun r hr => xup_ne hr) (fun j a _ _ => by rw [xup_app, if_neg (by omega)]) (by rw [xup_app, if_neg (by omega)]; exact h.2.1) (by rw [xup_app, if_pos ⟨rfl, rfl⟩]) (by rw [xup_app, if_neg (by omega)]; exact h.2.2.2.2.1)
theorem MS.at11 (h : MS σ τ p fl st dp A B) (v : Int) : MS σ (xup τ 20 11 v) p fl st v A B :=
  h.up (fun r hr => xup_ne hr) (fun j _ _ a => by rw [xup_app, if_neg (by omega)]) (by rw [xup_app, if_neg (by omega)]; exact h.2.1) (by rw [xup_app, if_neg (by omega)]; exact h.2.2.1) (by rw [xup_app, if_pos ⟨rfl, rfl⟩])
theorem q_next {Q : Int → xS → Prop} (ht : TX σ n t) (h : MS σ τ p fl st dp A B) (hp : p ≤ 1000) (k : Q (tb n t p) τ) : vX5_next τ Q := by
  obtain ⟨tn, _, t5, t2, _⟩ := ht
  unfold vX5_next
  unfold tb at k
  rw [h.2.1, h.1.2 5 (by omega) (by omega) (by omega) (by omega), t5]
  refine ⟨⟨by omega, by omega⟩, ⟨by omega, by omega⟩, fun z => ?_, fun z => ⟨by omega, ?_⟩⟩
  · rw [if_neg (by omega)] at k; exact k
  · rw [if_pos (by omega)] at k
    rw [Int.toNat_natCast, h.1.1 24 (by omega) (by omega) (by omega), (t2 p (by omega)).2]
    exact k
theorem q_isDigit {Q : Int → xS → Prop} (ht : TX σ n t) (h : MS σ τ p fl st dp A B) (hp : p ≤ 1000) (k1 : isd (tb n t p) → Q 1 τ) (k0 : ¬ isd (tb n t p) → Q 0 τ) : vX5_isDigit τ Q := by
  have hb := tb_in ht.2.2.2.2 p
  unfold vX5_isDigit
  exact q_next ht h hp (mkIn ⟨by omega, by omega⟩ ⟨by omega, by omega⟩ ⟨by omega, by omega⟩ (fun a b => ⟨Or.inr rfl, k1 ⟨a, b⟩⟩) (fun a => ⟨Or.inl rfl, k0 (fun w => by omega)⟩))
theorem q_blanks {Q : xS → Prop} (ht : TX σ n t) (h : MS σ τ p fl st dp A B) (hp : p ≤ 900) (k : ∀ τ', MS σ τ' (bl n t p) fl st dp A B → Q τ') : vX5_blanks τ Q := by
  have htn := ht.1
  unfold vX5_blanks
  refine mu_of (fun a => ∃ q, MS σ a q fl st dp A B ∧ q ≤ 960 ∧ bl n t q = bl n t p) (fun a => 961 - (a 20 9).toNat) ?_ _ ⟨p, h, by omega, rfl⟩
  rintro K a ⟨q, hq, hq9, hbl⟩ hK
  have hbb := bl_is n t p
  unfold vX5_blanks_0
  have hb := tb_in ht.2.2.2.2 q
  refine q_next ht hq (by omega) ⟨⟨by omega, by omega⟩, fun z => ?_, fun z s hs => ?_⟩
  · have : bl n t q = q := bl_0 (fun w => z (by rw [hb.2.2 w.1]; exact w.2))
    rw [this] at hbl
    rw [hbl] at hq
    exact k a hq
  · have hlt : q < n := by
      by_cases w : q < n
      · exact w
      · have := hb.2.1 (by omega)
        omega
    subst hs
    rw [hq.2.1]
    have hs' := hq.at9 (q + 1) (v := (q : Int) + 1) (by push_cast; rfl)
    refine hK _ ⟨q + 1, hs', by omega, ?_⟩ ?_
    · rw [← bl_s ⟨hlt, by rw [← hb.2.2 hlt]; exact z⟩, hbl]
    · rw [hs'.2.1, hq.2.1]
      omega
theorem q_fails {Q : xS → Prop} {w : Int} (h : MS σ τ p fl st dp A B) (hf : rng fl) (k : ∀ τ', MS σ τ' p (if fl = -1 then w else fl) st dp A B → Q τ') : vX5_fails w τ Q := by
  unfold vX5_fails vX5_fails_17
  rw [h.2.2.1]
  refine ⟨hf, fun z s hs => ?_, fun z s hs => ?_⟩
  · subst hs
    refine k _ ?_
    rw [if_neg z]
    exact h.at10 fl
  · subst hs
    refine k _ ?_
    rw [if_pos z]
    exact h.at10 w
theorem q_needs {Q : xS → Prop} {w : Int} (ht : TX σ n t) (h : MS σ τ p fl st dp A B) (hf : rng fl) (hp : p ≤ 800) (hw : rng w) (k : ∀ τ' p', p' ≤ p + 61 → MS σ τ' p' (if fl = -1 then (if w = 0 then (p : Int) else -1) else fl) st dp A B → (fl = -1 → w ≠ 0 → p' = bl n t (p + 1)) → Q τ') : vX5_needs w τ Q := by
  have htn := ht.1
  unfold vX5_needs vX5_needs_29
  rw [h.2.2.1, h.2.1]
  refine ⟨hf, fun z => q_fails h hf (fun τ' h' => k τ' p (by omega) ?_ (fun w2 => absurd w2 z)), fun z => ⟨hw, fun z2 => q_fails h hf (fun τ' h' => k τ' p (by omega) ?_ (fun _ w2 => absurd z2 w2)), fun z2 s hs => ?_⟩⟩
  · rw [if_neg z] at h' ⊢
    exact h'
  · rw [if_pos z] at h' ⊢
    rw [if_pos z2]
    exact h'
  · subst hs
    have hs' := h.at9 (p + 1) (v := (p : Int) + 1) (by push_cast; rfl)
    have hb := bl_is n t (p + 1)
    refine q_blanks ht hs' (by omega) (fun τ' h' => k τ' _ (by omega) ?_ (fun _ _ => rfl))
    rw [if_pos z, if_neg z2]
    rw [z] at h'
    exact h'
theorem q_adds {Q : xS → Prop} {x v : Int} (h : MS σ τ p fl st dp A B) (hst : st < 60) (k : ∀ τ', MS σ τ' p fl (st + 1) dp (cu A st x) (cu B st v) → Q τ') : vX5_adds x v τ Q := by
  obtain ⟨⟨f1, f2⟩, a1, a2, a3, a4, a5, a6⟩ := h
  unfold vX5_adds
  rw [a3]
  refine ⟨by omega, fun s1 e1 => ?_⟩
  have b8 : s1 20 8 = (st : Int) := by rw [e1, xup_ne (by omega), a3]
  rw [b8]
  refine ⟨by omega, fun s2 e2 s3 e3 => k s3 ?_⟩
  rw [Int.toNat_natCast] at e1 e2
  have c8 : s2 20 8 = (st : Int) := by rw [e2, xup_ne (by omega), b8]
  refine ⟨⟨fun r x y z => by rw [e3, xup_ne x, e2, xup_ne z, e1, xup_ne y, f1 r x y z], fun j x y z w => by rw [e3, xup_app, if_neg (by omega), e2, xup_ne (by omega), e1, xup_ne (by omega), f2 j x y z w]⟩, ?_, ?_, ?_, ?_, ?_, ?_⟩
  · rw [e3, xup_app, if_neg (by omega), e2, xup_ne (by omega), e1, xup_ne (by omega), a1]
  · rw [e3, xup_app, if_neg (by omega), e2, xup_ne (by omega), e1, xup_ne (by omega), a2]
  · rw [e3, xup_app, if_pos ⟨rfl, rfl⟩, c8]
    push_cast
    rfl
  · rw [e3, xup_app, if_neg (by omega), e2, xup_ne (by omega), e1, xup_ne (by omega), a4]
  · rw [e3, xup_ne (by omega), e2, xup_ne (by omega), e1, xup_eq, a5]
    rfl
  · rw [e3, xup_ne (by omega), e2, xup_eq, e1, xup_ne (by omega), a6]
    rfl
/-- a number: its fault, or its value with the place behind it and its blanks -/
theorem q_number {Q : Int → xS → Prop} {m : Nat} (ht : TX σ n t) (h : MS σ τ p (-1) st dp A B) (hp : p ≤ 200) (hm : m ≤ 99) (k : ∀ τ' p' (v : Nat), p' ≤ p + 70 → v ≤ 99 → (∀ f, neN n t p m = some f → MS σ τ' p' (f : Int) st dp A B) → (neN n t p m = none → MS σ τ' p' (-1) st dp A B ∧ v = nvN n t p ∧ p' = bl n t (naN n t p)) → Q (v : Int) τ') : vX5_number (m : Int) τ Q := by
  have htn := ht.1
  have tbi := tb_in ht.2.2.2.2
  unfold vX5_number
  rw [h.2.1]
  -- behind the digits
  have tail : ∀ (τ : xS) (q v : Nat) (fl : Int), q ≤ p + 3 → v ≤ 99 → rng fl → MS σ τ q fl st dp A B → (∀ f, neN n t p m = some f → (if fl = -1 ∧ isd (tb n t q) then (q : Int) else fl) = (f : Int)) → (neN n t p m = none → fl = -1 ∧ ¬ isd (tb n t q) ∧ v = nvN n t p ∧ q = naN n t p) → vX5_number_72 Q (v : Int) τ := by
    intro τ q v fl hq hv hfl hms k1 k2
    have hb := bl_is n t q
    unfold vX5_number_72 vX5_number_87
    refine q_isDigit ht hms (by omega) (fun hd => ⟨⟨by omega, by omega⟩, fun z => absurd z (by omega), fun _ => ?_⟩) (fun hd => ⟨rng0, fun _ => ?_, fun z => absurd rfl z⟩)
    · rw [hms.2.1]
      refine q_fails hms hfl (fun τ' h' => q_blanks ht h' (by omega) (fun τ2 h2 => k τ2 (bl n t q) v (by omega) hv (fun f hf => ?_) (fun hno => absurd hd (k2 hno).2.1)))
      have := k1 f hf
      by_cases z : fl = -1
      · rw [if_pos ⟨z, hd⟩] at this
        rw [if_pos z, this] at h2
        exact h2
      · rw [if_neg (fun w => z w.1)] at this
        rw [if_neg z, this] at h2
        exact h2
    · refine q_blanks ht hms (by omega) (fun τ2 h2 => k τ2 (bl n t q) v (by omega) hv (fun f hf => ?_) (fun hno => ?_))
      · have := k1 f hf
        rw [if_neg (fun w => hd w.2)] at this
        rw [this] at h2
        exact h2
      · obtain ⟨c1, _, c3, c4⟩ := k2 hno
        rw [c1] at h2
        exact ⟨h2, c3, by rw [c4]⟩
  -- the test
  have test : ∀ (τ : xS) (q v : Nat), q ≤ p + 2 → v ≤ 99 → MS σ τ q (-1) st dp A B → ((q = p ∧ ¬ isd (tb n t p)) ∨ (isd (tb n t p) ∧ q = naN n t p ∧ v = nvN n t p)) → vX5_number_50 Q (m : Int) (p : Int) (v : Int) τ := by
    intro τ q v hq hv hms hc
    unfold vX5_number_50 vX5_number_67
    rw [hms.2.1]
    have bad : neN n t p m = some p → vX5_fails (p : Int) τ (fun σ10 => vX5_number_72 Q (v : Int) σ10) := fun hne => by
      refine q_fails hms ⟨by decide, by decide⟩ (fun τ' h' => ?_)
      rw [if_pos rfl] at h'
      refine tail τ' q v (p : Int) (by omega) hv ⟨by omega, by omega⟩ h' (fun f hf => ?_) (fun hno => by rw [hne] at hno; exact absurd hno (by simp))
      rw [hne] at hf
      have : p = f := by simpa using hf
      rw [if_neg (by omega), this]
    refine ⟨⟨by omega, by omega⟩, ⟨by omega, by omega⟩, fun z => bad ?_, fun z => mkIn ⟨by omega, by omega⟩ ⟨by omega, by omega⟩ ⟨by omega, by omega⟩ (fun c1 c2 => ⟨⟨by omega, by omega⟩, fun _ => ?_, fun w => absurd w (by omega)⟩) (fun c1 => ⟨rng0, fun w => absurd rfl w, fun _ => bad ?_⟩)⟩
    · have hn := naN_is n t p
      rcases hc with hc | hc
      · unfold neN
        rw [if_pos hc.2]
      · omega
    · rcases hc with hc | hc
      · omega
      · obtain ⟨d1, d2, d3⟩ := hc
        refine tail τ q v (-1) (by omega) hv ⟨by decide, by decide⟩ hms (fun f hf => ?_) (fun hno => ⟨rfl, ?_, d3, d2⟩)
        · unfold neN at hf
          rw [if_neg (fun w => w d1), if_neg (fun w => w ⟨by omega, by omega⟩)] at hf
          by_cases hd : isd (tb n t (naN n t p))
          · rw [if_pos hd] at hf
            have : naN n t p = f := by simpa using hf
            rw [d2, if_pos ⟨rfl, hd⟩, this]
          · rw [if_neg hd] at hf
            exact absurd hf (by simp)
        · unfold neN at hno
          rw [if_neg (fun w => w d1), if_neg (fun w => w ⟨by omega, by omega⟩)] at hno
          rw [d2]
          intro hd
          rw [if_pos hd] at hno
          exact absurd hno (by simp)
    · unfold neN
      rcases hc with hc | hc
      · rw [if_pos hc.2]
      · rw [if_neg (fun w => w hc.1), if_pos (by omega)]
  refine mu_of (fun a => ∃ (q v : Nat) (ρ : xS), a = ((m : Int), (p : Int), (v : Int), ρ) ∧ MS σ ρ q (-1) st dp A B ∧ ((q = p ∧ v = 0) ∨ (q = p + 1 ∧ isd (tb n t p) ∧ v = (tb n t p - 48).toNat) ∨ (q = p + 2 ∧ isd (tb n t p) ∧ isd (tb n t (p + 1)) ∧ v = 10 * (tb n t p - 48).toNat + (tb n t (p + 1) - 48).toNat))) (fun a => p + 3 - (a.2.2.2 20 9).toNat) ?_ _ ⟨p, 0, τ, rfl, h, Or.inl ⟨rfl, rfl⟩⟩
  rintro K _ ⟨q, v, ρ, rfl, hms, hc⟩ hK
  unfold vX5_number_7
  dsimp only
  rw [hms.2.1]
  have hv99 : v ≤ 99 := by omega
  refine ⟨⟨by omega, by omega⟩, ⟨by omega, by omega⟩, fun z => test ρ q v (by omega) hv99 hms ?_, fun z => q_isDigit ht hms (by omega) (fun hd => ⟨⟨by omega, by omega⟩, fun w => absurd w (by omega), fun _ => ?_⟩) (fun hd => ⟨rng0, fun _ => test ρ q v (by omega) hv99 hms ?_, fun w => absurd rfl w⟩)⟩
  · rcases hc with c | c | c
    · omega
    · omega
    · refine Or.inr ⟨c.2.1, ?_, ?_⟩
      · unfold naN; rw [if_pos c.2.2.1]; exact c.1
      · unfold nvN; rw [if_pos c.2.2.1]; exact c.2.2.2
  · refine q_next ht hms (by omega) (fun s hs => ?_)
    subst hs
    rw [hms.2.1]
    have hms' := hms.at9 (q + 1) (v := (q : Int) + 1) (by push_cast; rfl)
    have ev : ((10 * (v : Int)) + tb n t q) - 48 = ((10 * v + (tb n t q - 48).toNat : Nat) : Int) := by omega
    rw [ev]
    refine hK _ ⟨q + 1, _, _, rfl, hms', ?_⟩ ?_
    · rcases hc with c | c | c
      · obtain ⟨rfl, rfl⟩ := c
        exact Or.inr (Or.inl ⟨rfl, hd, by omega⟩)
      · obtain ⟨rfl, c2, c3⟩ := c
        exact Or.inr (Or.inr ⟨rfl, c2, hd, by omega⟩)
      · omega
    · show p + 3 - (xup ρ 20 9 ((q : Int) + 1) 20 9).toNat < p + 3 - (ρ 20 9).toNat
      rw [hms'.2.1, hms.2.1]
      omega
  · rcases hc with c | c | c
    · obtain ⟨rfl, _⟩ := c
      exact Or.inl ⟨rfl, hd⟩
    · obtain ⟨rfl, c2, c3⟩ := c
      refine Or.inr ⟨c2, ?_, ?_⟩
      · unfold naN; rw [if_neg hd]
      · unfold nvN; rw [if_neg hd]; exact c3
    · omega
end
