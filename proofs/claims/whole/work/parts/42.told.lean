/-! what is told, as values of the table; the text -/
def vGl (b : xS) (x y : Int) : Int := if (x < 0 ∨ b 3 0 ≤ x) ∨ (y < 0 ∨ 7 < y) then -2 else if y = 7 then (if aRuns b x.toNat then 1 else 0) else b x.toNat y.toNat
def vEv (b : xS) (x y : Int) : Int := if x < 0 ∨ (y < 0 ∨ 2 < y) then -2 else if aListed b ≤ x then -1 else aPart b x.toNat y.toNat
def vCn (b : xS) (d : Nat) (ln : Int) (x : Int) : Int := if x < 0 ∨ 9 < x then -2 else if x = 0 then b 3 0 else if x = 1 then aStacks b else if x = 2 then b 3 1 else if x = 3 then (if b 3 2 = -1 then -1 else b 3 1 - b 3 2) else if x = 4 then b 3 3 else if x = 5 then aListed b else if x = 6 then b 3 4 else if x = 7 then b 3 5 else if x = 8 then (d : Int) else ln
theorem okGl {τ : xS} {b : xS} {x y : Int} {Q : Int → xS → Prop} {T : Int} (hw : WFt T b) (h : CB (τ 8) b) (hx : rng x) (hy : rng y) (k : Q (vGl b x y) τ) : vX4_glass x y τ Q := by
  unfold vX4_glass
  refine okHas' hw hx h (fun i hi hin => ⟨⟨by omega, by omega⟩, fun w => absurd w (by omega), fun _ => ⟨hy, fun q => ?_, fun q1 => ⟨fun q2 => ⟨fun q3 => ?_, fun q3 => ?_⟩, fun q2 => ?_⟩⟩⟩) (fun q => ⟨rng0, fun _ => ?_, fun w => absurd rfl w⟩)
  · rw [vGl, if_pos (Or.inr (Or.inl q))] at k; exact k
  · rw [vGl, if_neg (by omega), if_pos (by omega), hi, Int.toNat_natCast] at k
    refine okRuns' hw h i hin hi (fun q => ⟨⟨by omega, by omega⟩, fun w => absurd w (by omega), fun _ => ?_⟩) (fun q => ⟨rng0, fun _ => ?_, fun w => absurd rfl w⟩)
    · rw [if_pos q] at k; exact k
    · rw [if_neg q] at k; exact k
  · rw [vGl, if_neg (by omega), if_neg (by omega), hi, Int.toNat_natCast] at k
    exact okR' h i y.toNat (hw.n3 hin) hin (by omega) hi (by omega) k
  · rw [vGl, if_pos (Or.inr (Or.inr (by omega)))] at k; exact k
  · rw [vGl, if_pos (Or.inl q)] at k; exact k
theorem mkGl {τ : xS} {b : xS} {x y : Int} {Q : Int → xS → Prop} {T : Int} (hw : WFt T b) (h : MB (τ 21) b) (hx : rng x) (hy : rng y) (k : Q (vGl b x y) τ) : vX5_glass x y τ Q := by
  unfold vX5_glass
  refine mkIs' hw hx h (fun i hi hin => ⟨⟨by omega, by omega⟩, fun _ => ?_, fun w => absurd w (by omega)⟩) (fun q => ⟨rng0, fun w => absurd rfl w, fun _ => ?_⟩)
  · have hi3 := hw.n3 hin
    have low : ∀ p : Nat, p < 5 → y = (p : Int) → vX5_glass_60 Q x y τ := fun p hp e => by
      unfold vX5_glass_60
      rw [vGl, if_neg (by omega), if_neg (by omega), hi, e, Int.toNat_natCast, Int.toNat_natCast] at k
      refine mkR' h i p hi3 hin (by omega) hi ?_ k
      rw [e]
      unfold pip
      rw [if_neg (by omega), if_neg (by omega)]
    refine ⟨hy, fun q => ?_, fun q => low 0 (by omega) q, fun q => low 1 (by omega) q, fun q => low 2 (by omega) q, fun q => low 3 (by omega) q, fun q => low 4 (by omega) q, fun q => ?_, fun q => ?_, fun q => ?_⟩
    · rw [vGl, if_pos (Or.inr q)] at k; exact k
    · rw [vGl, if_neg (by omega), if_neg (by omega), hi, q, Int.toNat_natCast] at k
      exact mkR' h i 5 hi3 hin (by omega) hi rfl k
    · rw [vGl, if_neg (by omega), if_neg (by omega), hi, q, Int.toNat_natCast] at k
      exact mkR' h i 6 hi3 hin (by omega) hi rfl k
    · rw [vGl, if_neg (by omega), if_pos (by omega), hi, Int.toNat_natCast] at k
      refine mkRuns' hw h i hin hi (fun q => ⟨⟨by omega, by omega⟩, fun w => absurd w (by omega), fun _ => ?_⟩) (fun q => ⟨rng0, fun _ => ?_, fun w => absurd rfl w⟩)
      · rw [if_pos q] at k; exact k
      · rw [if_neg q] at k; exact k
  · rw [vGl, if_pos (Or.inl q)] at k; exact k
theorem aListed_in {T : Int} {b : xS} (hw : WFt T b) : 0 ≤ aListed b ∧ aListed b ≤ 12 ∧ aListed b ≤ b 3 3 := by
  have := hw.2.2.2.1
  have := jmin_le (b 3 3) 12
  unfold aListed
  omega
theorem okEv {τ : xS} {b : xS} {x y : Int} {Q : Int → xS → Prop} {T : Int} (hT : T ≤ 100000) (hw : WFt T b) (h : CB (τ 8) b) (hx : rng x) (hy : rng y) (k : Q (vEv b x y) τ) : vX4_event x y τ Q := by
  have hl := aListed_in hw
  unfold vX4_event
  refine ⟨hx, fun q => ?_, fun q1 => ⟨hy, fun q => ?_, fun q2 => ⟨fun q3 => ?_, fun q3 => ?_⟩⟩⟩
  · rw [vEv, if_pos (by omega)] at k; exact k
  · rw [vEv, if_pos (by omega)] at k; exact k
  · refine okListed' hT hw h ⟨⟨by omega, by omega⟩, fun q => ?_, fun q => ?_⟩
    · rw [vEv, if_neg (by omega), if_pos q] at k; exact k
    · rw [vEv, if_neg (by omega), if_neg q] at k
      have := okPart (σ := τ) (c := τ 8) (x := x) (y := y) (Q := fun r s => Q r s) hT hw h x.toNat y.toNat (by omega) (by omega) (by omega) (by omega)
      rw [xset_self] at this
      exact this k
  · rw [vEv, if_pos (by omega)] at k; exact k
theorem mkEv {τ : xS} {b : xS} {x y : Int} {Q : Int → xS → Prop} {T : Int} (hw : WFt T b) (h : MB (τ 21) b) (hx : rng x) (hy : rng y) (k : Q (vEv b x y) τ) : vX5_event x y τ Q := by
  have hl := aListed_in hw
  have h27 : τ 21 27 = aListed b := h.2.2.1
  unfold vX5_event
  refine ⟨hx, fun q => ?_, fun q1 => mkIn hy rng0 ⟨by omega, by omega⟩ (fun q2 q3 => ⟨⟨by omega, by omega⟩, fun _ => ?_, fun w => absurd w (by omega)⟩) (fun q => ⟨rng0, fun w => absurd rfl w, fun _ => ?_⟩)⟩
  · rw [vEv, if_pos (by omega)] at k; exact k
  · rw [h27]
    refine ⟨⟨by omega, by omega⟩, fun q => ?_, fun q => ?_⟩
    · rw [vEv, if_neg (by omega), if_pos q] at k; exact k
    · rw [vEv, if_neg (by omega), if_neg q] at k
      refine ⟨by omega, ?_⟩
      have e := h.2.2.2 (aListed b - 1 - x).toNat y.toNat (by rw [h27]; omega) (by omega)
      rw [h27] at e
      rw [show (28 + 3 * (aListed b - 1 - x) + y).toNat = 28 + 3 * (aListed b - 1 - x).toNat + y.toNat by omega, e, show 4 + (b 3 3 - aListed b).toNat + (aListed b - 1 - x).toNat = 4 + ((b 3 3).toNat - 1 - x.toNat) by omega]
      exact k
  · rw [vEv, if_pos (by omega)] at k; exact k
theorem okCn {T : Int} {τ b : xS} {d : Nat} {H : Nat → xS} {x : Int} {Q : Int → xS → Prop} {T' : Int} (hT : T' ≤ 100000) (hw : WFt T' b) (h : CB (τ 8) b) (hc : HC τ d H) (hx : rng x) (k : Q (vCn b d (τ 1 1) x) τ) : vX4_count x τ Q := by
  have hm := hw.2.2.1
  have n := fun j hj => h.n j hj
  unfold vX4_count
  unfold vCn at k
  refine ⟨hx, fun q => ?_, fun q => ?_, fun q => ?_, fun q => ?_, fun q => ?_, fun q => ?_, fun q => ?_, fun q => ?_, fun q => ?_, fun q => ?_, fun q => ?_⟩
  · rw [if_pos q] at k; exact k
  · subst q
    unfold vX0_glasses
    rw [show τ 8 57 = b 3 0 from n 0 (by omega)]
    exact k
  · subst q
    exact okStacks' hw h k
  · subst q
    unfold vX0_time
    rw [show τ 8 58 = b 3 1 from n 1 (by omega)]
    exact k
  · subst q
    unfold vX0_markedTime vX0_time
    dsimp only
    rw [show τ 8 58 = b 3 1 from n 1 (by omega), show τ 8 59 = b 3 2 from n 2 (by omega)]
    have k' : Q (if b 3 2 = -1 then -1 else b 3 1 - b 3 2) τ := k
    refine ⟨⟨by omega, by omega⟩, fun q => ?_, fun q => ?_⟩
    · rw [if_neg q] at k'; exact k'
    · rw [if_pos q] at k'; exact k'
  · subst q
    unfold vX0_eventsEver
    rw [show τ 8 60 = b 3 3 from n 3 (by omega)]
    exact k
  · subst q
    exact okListed' hT hw h k
  · subst q
    unfold vX0_turns
    rw [show τ 8 61 = b 3 4 from n 4 (by omega)]
    exact k
  · subst q
    unfold vX0_taps
    rw [show τ 8 62 = b 3 5 from n 5 (by omega)]
    exact k
  · subst q
    unfold vX1_states
    obtain ⟨_, nx, _, e, _⟩ := hc
    rw [e]
    exact k
  · subst q
    exact k
theorem mkCn {τ b : xS} {d : Nat} {H : Nat → xS} {x : Int} {Q : Int → xS → Prop} {T' : Int} (hw : WFt T' b) (h : MB (τ 21) b) (hc : HM τ d H) (hx : rng x) (k : Q (vCn b d (τ 20 5) x) τ) : vX5_count x τ Q := by
  have hm := hw.2.2.1
  have n := fun j hj => h.n j hj
  unfold vX5_count
  unfold vCn at k
  refine ⟨hx, fun q => ?_, fun q => ?_, fun q => ?_, fun q => ?_, fun q => ?_, fun q => ?_, fun q => ?_, fun q => ?_, fun q => ?_, fun q => ?_, fun q => ?_⟩
  · rw [if_pos q] at k; exact k
  · subst q
    rw [show τ 21 21 = b 3 0 from n 0 (by omega)]
    exact k
  · subst q
    exact mkStacks' hw h k
  · subst q
    rw [show τ 21 22 = b 3 1 from n 1 (by omega)]
    exact k
  · subst q
    rw [show τ 21 22 = b 3 1 from n 1 (by omega), show τ 21 23 = b 3 2 from n 2 (by omega)]
    have k' : Q (if b 3 2 = -1 then -1 else b 3 1 - b 3 2) τ := k
    refine ⟨⟨by omega, by omega⟩, fun q => ?_, fun q => ?_⟩
    · rw [if_neg q] at k'; exact k'
    · rw [if_pos q] at k'; exact k'
  · subst q
    rw [show τ 21 24 = b 3 3 from n 3 (by omega)]
    exact k
  · subst q
    rw [show τ 21 27 = aListed b from h.2.2.1]
    exact k
  · subst q
    rw [show τ 21 25 = b 3 4 from n 4 (by omega)]
    exact k
  · subst q
    rw [show τ 21 26 = b 3 5 from n 5 (by omega)]
    exact k
  · subst q
    rw [hc.1]
    exact k
  · subst q
    exact k
/-- the text, on both sides -/
def TX (σ : xS) (n : Nat) (t : Nat → Int) : Prop := n ≤ 60 ∧ σ 1 1 = (n : Int) ∧ σ 20 5 = (n : Int) ∧ (∀ i, i < n → σ 2 i = t i ∧ σ 24 i = t i) ∧ ∀ i, i < n → 0 ≤ t i ∧ t i ≤ 127
/-- all but the text, the bench and the states kept stays -/
def Ft (σ σ' : xS) : Prop := (∀ r, r ≠ 1 → r ≠ 2 → r ≠ 3 → r ≠ 4 → r ≠ 20 → r ≠ 24 → r ≠ 25 → r ≠ 26 → σ' r = σ r) ∧ ∀ j, j ≠ 5 → j ≠ 8 → j ≠ 9 → j ≠ 10 → j ≠ 11 → σ' 20 j = σ 20 j
theorem Ft.refl (σ : xS) : Ft σ σ := ⟨fun _ _ _ _ _ _ _ _ _ => rfl, fun _ _ _ _ _ _ => rfl⟩
theorem Ft.trans {σ τ ρ : xS} (h1 : Ft σ τ) (h2 : Ft τ ρ) : Ft σ ρ := ⟨fun r a1 a2 a3 a4 a5 a6 a7 a8 => (h2.1 r a1 a2 a3 a4 a5 a6 a7 a8).trans (h1.1 r a1 a2 a3 a4 a5 a6 a7 a8), fun j a1 a2 a3 a4 a5 => (h2.2 j a1 a2 a3 a4 a5).trans (h1.2 j a1 a2 a3 a4 a5)⟩
def TXx (σ : xS) : Prop := ∃ n t, TX σ n t
section
variable {T : Int} {P : Bool} {σ b : xS} {d : Nat} {H : Nat → xS} {K : Bool → xS → Prop} {x y z : Int} {n : Nat} {t : Nat → Int}
theorem hs15 (h : KB T σ b d H) (hx : rng x) (hy : rng y) (k : K P σ) : lawS15 P x y z σ K := by
  unfold lawS15
  exact okGl h.2.2.1 h.1 hx hy (mkGl h.2.2.1 h.2.1 hx hy ⟨rfl, k⟩)
theorem hs16 (h : KB T σ b d H) (hx : rng x) (hy : rng y) (k : K P σ) : lawS16 P x y z σ K := by
  unfold lawS16
  exact okEv (by omega) h.2.2.1 h.1 hx hy (mkEv h.2.2.1 h.2.1 hx hy ⟨rfl, k⟩)
theorem hs20 (h : KB T σ b d H) (ht : TX σ n t) (hx : rng x) (k : K P σ) : lawS20 P x y z σ K := by
  unfold lawS20
  refine okCn (T := T) (by omega) h.2.2.1 h.1 h.2.2.2.2.1 hx (mkCn h.2.2.1 h.2.1 h.2.2.2.2.2.1 hx ⟨?_, k⟩)
  rw [ht.2.1, ht.2.2.1]
theorem hs0 (h : TX σ n t) (hx : rng x) (k : ∀ σ', TXx σ' → Ft σ σ' → K P σ') : lawS0 P x y z σ K := by
  have k0 := k σ ⟨n, t, h⟩ (Ft.refl σ)
  obtain ⟨hn, h1, h5, h2, h3⟩ := h
  unfold lawS0 vX4_type
  have bad : (x < 0 ∨ 127 < x) → vX5_type x σ (fun r2 u2 => -2 = r2 ∧ K P u2) := fun q => by
    unfold vX5_type
    exact mkIn hx rng0 ⟨by omega, by omega⟩ (fun _ _ => absurd q (by omega)) (fun _ => ⟨rng0, fun w => absurd rfl w, fun _ => ⟨rfl, k0⟩⟩)
  refine ⟨hx, fun q => bad (Or.inl q), fun q1 => ⟨fun q2 => ?_, fun q2 => bad (Or.inr (by omega))⟩⟩
  unfold vX3_append
  rw [h1]
  refine ⟨⟨by omega, by omega⟩, fun q => ⟨by omega, fun s hs s2 hs2 => ⟨⟨by omega, by omega⟩, fun w => absurd w (by omega), fun _ => ?_⟩⟩, fun q => ⟨rng0, fun _ => ?_, fun w => absurd rfl w⟩⟩
  · subst hs
    subst hs2
    unfold vX3_length vX5_type
    refine mkIn hx rng0 ⟨by omega, by omega⟩ (fun _ _ => ⟨⟨by omega, by omega⟩, fun _ => ?_, fun w => absurd w (by omega)⟩) (fun q => absurd q (by omega))
    have e5 : xup (xup σ 2 ((n : Int)).toNat x) 1 1 (xup σ 2 ((n : Int)).toNat x 1 1 + 1) 20 5 = (n : Int) := by
      rw [xup_app, if_neg (by omega), xup_app, if_neg (by omega), h5]
    rw [e5]
    refine ⟨⟨by omega, by omega⟩, fun _ => ⟨by omega, fun s hs s2 hs2 => ?_⟩, fun w => absurd w (by omega)⟩
    subst hs
    subst hs2
    simp only [xup_app]
    simp (disch := omega) only [if_neg, if_pos, and_self, h1, h5, Int.toNat_natCast, ite_true]
    refine ⟨trivial, k _ ⟨n + 1, fun i => if i = n then x else t i, by omega, ?_, ?_, fun i hi => ⟨?_, ?_⟩, fun i hi => ?_⟩ ⟨fun r a1 a2 a3 a4 a5 a6 a7 a8 => ?_, fun j a1 a2 a3 a4 a5 => ?_⟩⟩
    · simp (disch := omega) only [xup_app, if_neg, if_pos, and_self, ite_true]
      omega
    · simp (disch := omega) only [xup_app, if_neg, if_pos, and_self, ite_true]
      omega
    · by_cases hi2 : i = n
      · subst hi2
        simp (disch := omega) only [xup_app, if_neg, if_pos, and_self, ite_true]
      · simp (disch := omega) only [xup_app, if_neg, if_pos, and_self, ite_true]
        exact (h2 i (by omega)).1
    · by_cases hi2 : i = n
      · subst hi2
        simp (disch := omega) only [xup_app, if_neg, if_pos, and_self, ite_true]
      · simp (disch := omega) only [xup_app, if_neg, if_pos, and_self, ite_true]
        exact (h2 i (by omega)).2
    · show 0 ≤ (if i = n then x else t i) ∧ (if i = n then x else t i) ≤ 127
      by_cases hi2 : i = n
      · rw [if_pos hi2]; omega
      · rw [if_neg hi2]; exact h3 i (by omega)
    · rw [xup_ne a5, xup_ne a6, xup_ne a1, xup_ne a2]
    · simp (disch := omega) only [xup_app, if_neg]
  · unfold vX5_type
    refine mkIn hx rng0 ⟨by omega, by omega⟩ (fun _ _ => ⟨⟨by omega, by omega⟩, fun _ => ?_, fun w => absurd w (by omega)⟩) (fun q => absurd q (by omega))
    rw [h5]
    exact ⟨⟨by omega, by omega⟩, fun w => absurd (by omega) w, fun _ => ⟨rfl, k0⟩⟩
theorem hs1 (h : TX σ n t) (k : ∀ σ', TXx σ' → Ft σ σ' → K P σ') : lawS1 P x y z σ K := by
  obtain ⟨hn, h1, h5, h2, h3⟩ := h
  unfold lawS1 vX4_clearText vX3_clear
  intro s hs
  subst hs
  unfold vX5_clearText
  intro s hs
  subst hs
  refine ⟨?_, k _ ⟨0, t, by omega, ?_, ?_, fun i hi => absurd hi (Nat.not_lt_zero i), fun i hi => absurd hi (Nat.not_lt_zero i)⟩ ⟨fun r a1 a2 a3 a4 a5 a6 a7 a8 => ?_, fun j a1 a2 a3 a4 a5 => ?_⟩⟩
  · rw [xup_app, if_neg (by omega), h1, h5]
  · simp (disch := omega) only [xup_app, if_neg, if_pos, and_self, ite_true]
    rfl
  · simp (disch := omega) only [xup_app, if_neg, if_pos, and_self, ite_true]
    rfl
  · rw [xup_ne a5, xup_ne a1]
  · simp (disch := omega) only [xup_app, if_neg]
end
