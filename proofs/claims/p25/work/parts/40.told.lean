theorem at8 {τ : xS} {F : xS → Prop} (h : F (xset τ 8 (τ 8))) : F τ := by rw [xset_self] at h; exact h
theorem okHas' {τ : xS} {b : xS} {g : Int} {Q : Int → xS → Prop} {T : Int} (hw : WFt T b) (hr : rng g) (h : CB (τ 8) b) (k1 : ∀ i : Nat, g = (i : Int) → (i : Int) < b 3 0 → Q 1 τ) (k0 : (g < 0 ∨ b 3 0 ≤ g) → Q 0 τ) : vX0_has g τ Q := by
  have := okHas (σ := τ) (c := τ 8) (Q := Q) hw hr h
  rw [xset_self] at this
  exact this (fun z z2 => k1 g.toNat (by omega) (by omega)) k0
theorem okR' {τ : xS} {b : xS} {g p : Int} {Q : Int → xS → Prop} (h : CB (τ 8) b) (i q : Nat) (hi : i < 3) (hn : (i : Int) < b 3 0) (hq : q < 7) (hg : g = (i : Int)) (hp : p = (q : Int)) (k : Q (b i q) τ) : vX0_property g p τ Q := by
  have := okR (σ := τ) (c := τ 8) (Q := Q) h i q hi hn hq hg hp
  rw [xset_self] at this
  exact this k
theorem okIn' {τ : xS} {b : xS} {s : Int} {Q : Int → xS → Prop} {T : Int} (hw : WFt T b) (h : CB (τ 8) b) (hs : 0 ≤ s ∧ s ≤ 3) (k : Q (aIn b s) τ) : vX0_glassesOf s τ Q := by
  have := okIn (σ := τ) (c := τ 8) (Q := Q) hw h hs
  rw [xset_self] at this
  exact this k
theorem okStacks' {τ : xS} {b : xS} {Q : Int → xS → Prop} {T : Int} (hw : WFt T b) (h : CB (τ 8) b) (k : Q (aStacks b) τ) : vX0_stacks τ Q := by
  have := okStacks (σ := τ) (c := τ 8) (Q := Q) hw h
  rw [xset_self] at this
  exact this k
theorem okTimeFor' {τ : xS} {b : xS} {s : Int} {Q : Int → xS → Prop} {T : Int} (hT : T ≤ 100000) (hw : WFt T b) (h : CB (τ 8) b) (hs : rng s) (k1 : b 3 1 + s ≤ 9999 → Q 1 τ) (k0 : 9999 < b 3 1 + s → Q 0 τ) : vX0_hasTimeFor s τ Q := by
  have := okTimeFor (σ := τ) (c := τ 8) (Q := Q) hT hw h hs
  rw [xset_self] at this
  exact this k1 k0
theorem okUnt' {τ : xS} {b : xS} {Q : Int → xS → Prop} {T : Int} (hw : WFt T b) (h : CB (τ 8) b) (k : Q (aUnt b) τ) : vX0_secondsToEvent τ Q := by
  have := okUnt (σ := τ) (c := τ 8) (Q := Q) hw h
  rw [xset_self] at this
  exact this k
theorem okListed' {τ : xS} {b : xS} {Q : Int → xS → Prop} {T : Int} (hT : T ≤ 100000) (hw : WFt T b) (h : CB (τ 8) b) (k : Q (aListed b) τ) : vX0_eventsListed τ Q := by
  have := okListed (σ := τ) (c := τ 8) (Q := Q) hT hw h
  rw [xset_self] at this
  exact this k
theorem okRuns' {τ : xS} {b : xS} {g : Int} {Q : Int → xS → Prop} {T : Int} (hw : WFt T b) (h : CB (τ 8) b) (i : Nat) (hn : (i : Int) < b 3 0) (hg : g = (i : Int)) (k1 : aRuns b i → Q 1 τ) (k0 : ¬ aRuns b i → Q 0 τ) : vX0_runs g τ Q := by
  have := okRuns (σ := τ) (c := τ 8) (Q := Q) hw h i hn hg
  rw [xset_self] at this
  exact this k1 k0
theorem aIn_in {T : Int} {b : xS} (hw : WFt T b) (s : Int) : 0 ≤ aIn b s ∧ aIn b s ≤ 3 := by
  have hn := hw.1
  have := cntB_in (fun i => decide (b i 5 = s)) (b 3 0).toNat
  unfold aIn
  omega
theorem aStacks_in {T : Int} {b : xS} (hw : WFt T b) : 0 ≤ aStacks b ∧ aStacks b ≤ 3 := by
  have hn := hw.1
  have := cntB_in (fun i => decide (b i 5 = (i : Int))) (b 3 0).toNat
  unfold aStacks
  omega
theorem aTurn_3 {b : xS} (hn : b 3 0 ≤ 3) (s : Int) (p : Nat) : aTurn b s 3 p = if p = 4 then b 3 4 + 1 else b 3 p := by
  unfold aTurn
  rw [xup_app]
  by_cases h : p = 4
  · rw [if_pos ⟨rfl, h⟩, if_pos h]
  · rw [if_neg (fun q => h q.2), if_neg h, aMap_3 hn (by omega)]
theorem aPass_33 {T : Int} {b : xS} (hw : WFt T b) : ∀ n : Nat, b 3 3 ≤ aPass n b 3 3 ∧ aPass n b 3 3 ≤ b 3 3 + 3 * n
  | 0 => by unfold aPass; omega
  | n + 1 => by
    have ih := aPass_33 hw n
    have := aSec_33 (hw.pass n)
    unfold aPass
    omega
def vGl (b : xS) (x y : Int) : Int := if (x < 0 ∨ b 3 0 ≤ x) ∨ (y < 0 ∨ 7 < y) then -2 else if y = 7 then (if aRuns b x.toNat then 1 else 0) else b x.toNat y.toNat
def vEv (b : xS) (x y : Int) : Int := if x < 0 ∨ (y < 0 ∨ 2 < y) then -2 else if aListed b ≤ x then -1 else aPart b x.toNat y.toNat
def vCn (b : xS) (d : Nat) (ln : Int) (x : Int) : Int := if x < 0 ∨ 9 < x then -2 else if x = 0 then b 3 0 else if x = 1 then aStacks b else if x = 2 then b 3 1 else if x = 3 then (if b 3 2 = -1 then -1 else b 3 1 - b 3 2) else if x = 4 then b 3 3 else if x = 5 then aListed b else if x = 6 then b 3 4 else if x = 7 then b 3 5 else if x = 8 then (d : Int) else ln
theorem okGl {τ : xS} {b : xS} {x y : Int} {Q : Int → xS → Prop} {T : Int} (hw : WFt T b) (h : CB (τ 8) b) (hx : rng x) (hy : rng y) (k : Q (vGl b x y) τ) : vX4_glass x y τ Q := by
  unfold vX4_glass
  refine okHas' hw hx h (fun i hi hin => ⟨⟨by omega, by omega⟩, fun w => absurd w (by omega), fun _ => ⟨hy, fun q => ?_, fun q1 => ⟨fun q2 => ⟨fun q3 => ?_, fun q3 => ?_⟩, fun q2 => ?_⟩⟩⟩) (fun q => ⟨rng0, fun _ => ?_, fun w => absurd rfl w⟩)
  · rw [vGl, if_pos (Or.inr (Or.inl q))] at k; exact k
  · rw [vGl, if_neg (by omega), if_pos (by omega), hi, Int.toNat_natCast] at k
    refine okRuns' hw h i hin hi (fun q => ⟨⟨by omega, by omega⟩, fun w => absurd w (by omega), fun _ => ?_⟩) (fun q => ⟨rng0, fun _ => ?_, fun w => absurd rfl w⟩)
    · rw [if_pos q] at k; exact k
    · rw [if_neg q] at k; exact k
  · rw [vGl, if_neg (by omega), if_neg (by omega), hi, Int.toNat_natCast] at k
    exact okR' h i y.toNat (hw.n3 hin) hin (by omega) hi (by omega) k
  · rw [vGl, if_pos (Or.inr (Or.inr (by omega)))] at k; exact k
  · rw [vGl, if_pos (Or.inl q)] at k; exact k
theorem aListed_in {T : Int} {b : xS} (hw : WFt T b) : 0 ≤ aListed b ∧ aListed b ≤ 12 ∧ aListed b ≤ b 3 3 := by
  have := hw.2.2.2.1
  have := jmin_le (b 3 3) 12
  unfold aListed
  omega
theorem okEv {τ : xS} {b : xS} {x y : Int} {Q : Int → xS → Prop} {T : Int} (hT : T ≤ 100000) (hw : WFt T b) (h : CB (τ 8) b) (hx : rng x) (hy : rng y) (k : Q (vEv b x y) τ) : vX4_event x y τ Q := by
  have hl := aListed_in hw
  unfold vX4_event
  refine ⟨hx, fun q => ?_, fun q1 => ⟨hy, fun q => ?_, fun q2 => ⟨fun q3 => ?_, fun q3 => ?_⟩⟩⟩
  · rw [vEv, if_pos (by omega)] at k; exact k
  · rw [vEv, if_pos (by omega)] at k; exact k
  · refine okListed' hT hw h ⟨⟨by omega, by omega⟩, fun q => ?_, fun q => ?_⟩
    · rw [vEv, if_neg (by omega), if_pos q] at k; exact k
    · rw [vEv, if_neg (by omega), if_neg q] at k
      have := okPart (σ := τ) (c := τ 8) (x := x) (y := y) (Q := fun r s => Q r s) hT hw h x.toNat y.toNat (by omega) (by omega) (by omega) (by omega)
      rw [xset_self] at this
      exact this k
  · rw [vEv, if_pos (by omega)] at k; exact k
theorem okCn {T : Int} {τ b : xS} {d : Nat} {H : Nat → xS} {x : Int} {Q : Int → xS → Prop} {T' : Int} (hT : T' ≤ 100000) (hw : WFt T' b) (h : CB (τ 8) b) (hc : HC τ d H) (hx : rng x) (k : Q (vCn b d (τ 1 1) x) τ) : vX4_count x τ Q := by
  have hm := hw.2.2.1
  have n := fun j hj => h.n j hj
  unfold vX4_count
  unfold vCn at k
  refine ⟨hx, fun q => ?_, fun q => ?_, fun q => ?_, fun q => ?_, fun q => ?_, fun q => ?_, fun q => ?_, fun q => ?_, fun q => ?_, fun q => ?_, fun q => ?_⟩
  · rw [if_pos q] at k; exact k
  · subst q
    unfold vX0_glasses
    rw [show τ 8 57 = b 3 0 from n 0 (by omega)]
    exact k
  · subst q
    exact okStacks' hw h k
  · subst q
    unfold vX0_time
    rw [show τ 8 58 = b 3 1 from n 1 (by omega)]
    exact k
  · subst q
    unfold vX0_markedTime vX0_time
    dsimp only
    rw [show τ 8 58 = b 3 1 from n 1 (by omega), show τ 8 59 = b 3 2 from n 2 (by omega)]
    have k' : Q (if b 3 2 = -1 then -1 else b 3 1 - b 3 2) τ := k
    refine ⟨⟨by omega, by omega⟩, fun q => ?_, fun q => ?_⟩
    · rw [if_neg q] at k'; exact k'
    · rw [if_pos q] at k'; exact k'
  · subst q
    unfold vX0_eventsEver
    rw [show τ 8 60 = b 3 3 from n 3 (by omega)]
    exact k
  · subst q
    exact okListed' hT hw h k
  · subst q
    unfold vX0_turns
    rw [show τ 8 61 = b 3 4 from n 4 (by omega)]
    exact k
  · subst q
    unfold vX0_taps
    rw [show τ 8 62 = b 3 5 from n 5 (by omega)]
    exact k
  · subst q
    unfold vX1_states
    obtain ⟨_, nx, _, e, _⟩ := hc
    rw [e]
    exact k
  · subst q
    exact k
def b00 : xS := fun r j => if r = 3 ∧ j = 2 then -1 else 0
def b01 : xS := aFill (aFill (aFill (aRenew b00 3) 0 3) 1 5) 2 8
theorem b01_wf : WF b01 := by
  refine ⟨by decide, by decide, by decide, by decide, fun i hi => ?_⟩
  have h3 : b01 3 0 = 3 := by decide
  rw [h3] at hi
  rcases (show i = 0 ∨ i = 1 ∨ i = 2 by omega) with rfl | rfl | rfl <;> decide
theorem c00_cb : CB (cu (fun _ => 0) 59 (-1)) b00 := by
  refine ⟨fun i p h1 _ _ => ?_, fun k hk => ?_, fun e q h1 _ _ => ?_⟩
  · have : b00 3 0 = 0 := by decide
    omega
  · rcases (show k = 0 ∨ k = 1 ∨ k = 2 ∨ k = 3 ∨ k = 4 ∨ k = 5 by omega) with rfl | rfl | rfl | rfl | rfl | rfl <;> decide
  · have : b00 3 3 = 0 := by decide
    omega
theorem ok_init {s1 : xS} {Q : xS → Prop} (k : ∀ u : xS, CB (u 8) b01 → (∀ j, u 1 j = 0) → (∀ j, u 5 j = 0) → Q u) : vX4_init s1 Q := by
  unfold vX4_init vX0_init vX1_init vX3_init
  intro s2 e2 s3 e3 s4 e4
  have e4' : s4 = xset s2 8 (cu (fun _ => 0) 59 (-1)) := by rw [e4, e3, xup_cu]
  subst e4'
  refine okRenew c00_cb ⟨by decide, by decide⟩ ⟨by decide, by decide⟩ (fun c1 h1 => okFill h1 0 (by omega) rfl (fun c2 h2 => okFill h2 1 (by omega) rfl (fun c3 h3 => okFill h3 2 (by omega) rfl (fun c4 h4 => ?_))))
  intro s5 e5 s6 e6 s7 e7 s8 e8 s9 e9 s10 e10
  subst e10 e9 e8 e7 e6 e5
  refine k _ ?_ (fun j => ?_) (fun j => ?_)
  · rw [xset_ne (by omega), xset_ne (by omega), xset_ne (by omega), xset_ne (by omega), xset_ne (by omega), xset_ne (by omega), xset_eq]
    exact h4
  · rw [xset_ne (by omega), xset_ne (by omega), xset_ne (by omega), xset_eq]
  · rw [xset_ne (by omega), xset_ne (by omega), xset_ne (by omega), xset_ne (by omega), xset_ne (by omega), xset_eq]
