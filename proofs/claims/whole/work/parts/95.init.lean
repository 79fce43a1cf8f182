/-! at first -/
def b00 : xS := fun r j => if r = 3 ∧ j = 2 then -1 else 0
def b01 : xS := aFill (aFill (aFill (aRenew b00 3) 0 3) 1 5) 2 8
theorem b01_wf : WF b01 := by
  refine ⟨by decide, by decide, by decide, by decide, fun i hi => ?_⟩
  have h3 : b01 3 0 = 3 := by decide
  rw [h3] at hi
  rcases (show i = 0 ∨ i = 1 ∨ i = 2 by omega) with rfl | rfl | rfl <;> decide
theorem b01_tt : TT 0 b01 := by
  unfold TT
  decide
def m01 : Nat → Int := fun j => if j = 0 then 3 else if j = 7 then 5 else if j = 14 then 8 else if j = 3 ∨ j = 10 ∨ j = 17 then 3 else if j = 13 then 1 else if j = 20 then 2 else if j = 21 then 3 else if j = 23 then -1 else 0
theorem m01_mb : MB m01 b01 := by
  refine ⟨fun i p _ h2 h3 => ?_, fun k hk => ?_, by decide, fun k q h1 _ => ?_⟩
  · rcases (show i = 0 ∨ i = 1 ∨ i = 2 by omega) with rfl | rfl | rfl <;> rcases (show p = 0 ∨ p = 1 ∨ p = 2 ∨ p = 3 ∨ p = 4 ∨ p = 5 ∨ p = 6 by omega) with rfl | rfl | rfl | rfl | rfl | rfl | rfl <;> decide
  · rcases (show k = 0 ∨ k = 1 ∨ k = 2 ∨ k = 3 ∨ k = 4 ∨ k = 5 by omega) with rfl | rfl | rfl | rfl | rfl | rfl <;> decide
  · have : m01 27 = 0 := by decide
    omega
theorem c00_cb : CB (cu (fun _ => 0) 59 (-1)) b00 := by
  refine ⟨fun i p h1 _ _ => ?_, fun k hk => ?_, fun e q h1 _ _ => ?_⟩
  · have : b00 3 0 = 0 := by decide
    omega
  · rcases (show k = 0 ∨ k = 1 ∨ k = 2 ∨ k = 3 ∨ k = 4 ∨ k = 5 by omega) with rfl | rfl | rfl | rfl | rfl | rfl <;> decide
  · have : b00 3 3 = 0 := by decide
    omega
theorem ok_init {s1 : xS} {Q : xS → Prop} (k : ∀ u : xS, CB (u 8) b01 → (∀ j, u 1 j = 0) → (∀ j, u 5 j = 0) → Q u) : vX4_init s1 Q := by
  unfold vX4_init vX0_init vX1_init vX3_init
  intro s2 e2 s3 e3 s4 e4
  have e4' : s4 = xset s2 8 (cu (fun _ => 0) 59 (-1)) := by rw [e4, e3, xup_cu]
  subst e4'
  refine okRenew c00_cb ⟨by decide, by decide⟩ ⟨by decide, by decide⟩ (fun c1 h1 => okFill h1 0 (by omega) rfl (fun c2 h2 => okFill h2 1 (by omega) rfl (fun c3 h3 => okFill h3 2 (by omega) rfl (fun c4 h4 => ?_))))
  intro s5 e5 s6 e6 s7 e7 s8 e8 s9 e9 s10 e10
  subst e10 e9 e8 e7 e6 e5
  refine k _ ?_ (fun j => ?_) (fun j => ?_)
  · rw [xset_ne (by omega), xset_ne (by omega), xset_ne (by omega), xset_ne (by omega), xset_ne (by omega), xset_ne (by omega), xset_eq]
    exact h4
  · rw [xset_ne (by omega), xset_ne (by omega), xset_ne (by omega), xset_eq]
  · rw [xset_ne (by omega), xset_ne (by omega), xset_ne (by omega), xset_ne (by omega), xset_ne (by omega), xset_eq]
theorem mk_put3 {τ : xS} {f : Nat → Int} {x : Nat} {y : Int} {K : Int × xS → Prop} {Q : xS → Prop} (hx : x < 3) (hf : τ 21 = f) (k : K ((x : Int) + 1, xset τ 21 (cu (cu (cu f (7 * x) y) (7 * x + 3) 3) (7 * x + 6) (x : Int)))) : vX5_init_149 K Q (x : Int) (x : Int) 0 y τ := by
  unfold vX5_init_149 vX5_put
  rw [show (7 * (x : Int) + 0).toNat = 7 * x by omega, show (7 * (x : Int) + 3).toNat = 7 * x + 3 by omega, show (7 * (x : Int) + 6).toNat = 7 * x + 6 by omega]
  refine ⟨⟨by omega, by omega⟩, fun s2 e2 => ⟨⟨by omega, by omega⟩, fun s3 e3 => ⟨⟨by omega, by omega⟩, fun s4 e4 => ?_⟩⟩⟩
  have : s4 = xset τ 21 (cu (cu (cu f (7 * x) y) (7 * x + 3) 3) (7 * x + 6) (x : Int)) := by
    rw [e4, e3, e2, ← hf, xup_set τ, xup_cu, xup_cu]
    rfl
  rw [this]
  exact k
theorem mk_init {s0 : xS} {Q : xS → Prop} (k : ∀ v : xS, v 21 = m01 → (∀ r, (r < 21 ∨ 33 < r) → v r = s0 r) → Q v) : vX5_init s0 Q := by
  unfold vX5_init
  intro s1 e1 s2 e2 s3 e3 s4 e4 s5 e5 s6 e6 s7 e7 s8 e8 s9 e9 s10 e10 s11 e11 s12 e12 s13 e13 s14 e14 s15 e15
  have h21 : s15 21 = cu (cu (fun _ => 0) 21 3) 23 (-1) := by
    rw [e15, xup_eq, e14, xup_eq, e13, xset_ne (by omega), e12, xset_ne (by omega), e11, xset_ne (by omega), e10, xset_ne (by omega), e9, xset_ne (by omega), e8, xset_ne (by omega), e7, xset_ne (by omega), e6, xset_ne (by omega), e5, xset_ne (by omega), e4, xset_ne (by omega), e3, xset_ne (by omega), e2, xset_ne (by omega), e1, xset_eq]
    rfl
  have hr : ∀ r, (r < 21 ∨ 33 < r) → s15 r = s0 r := fun r h => by
    rw [e15, xup_ne (by omega), e14, xup_ne (by omega), e13, xset_ne (by omega), e12, xset_ne (by omega), e11, xset_ne (by omega), e10, xset_ne (by omega), e9, xset_ne (by omega), e8, xset_ne (by omega), e7, xset_ne (by omega), e6, xset_ne (by omega), e5, xset_ne (by omega), e4, xset_ne (by omega), e3, xset_ne (by omega), e2, xset_ne (by omega), e1, xset_ne (by omega)]
  clear e1 e2 e3 e4 e5 e6 e7 e8 e9 e10 e11 e12 e13 e14 e15
  refine ⟨4, ?_⟩
  show vX5_init_122 Q (itr (vX5_init_122 Q) 3) (0, s15)
  unfold vX5_init_122
  refine ⟨rng0, fun w => absurd w (by decide), fun _ => ⟨fun w => absurd rfl w, fun _ => mk_put3 (x := 0) (by omega) h21 ?_⟩⟩
  show vX5_init_122 Q (itr (vX5_init_122 Q) 2) (1, _)
  unfold vX5_init_122
  refine ⟨⟨by decide, by decide⟩, fun w => absurd w (by decide), fun _ => ⟨fun _ => ⟨fun w => absurd rfl w, fun _ => mk_put3 (x := 1) (by omega) xset_eq ?_⟩, fun w => absurd w (by decide)⟩⟩
  show vX5_init_122 Q (itr (vX5_init_122 Q) 1) (2, _)
  unfold vX5_init_122
  refine ⟨⟨by decide, by decide⟩, fun w => absurd w (by decide), fun _ => ⟨fun _ => ⟨fun _ => mk_put3 (x := 2) (by omega) xset_eq ?_, fun w => absurd w (by decide)⟩, fun w => absurd w (by decide)⟩⟩
  show vX5_init_122 Q (itr (vX5_init_122 Q) 0) (3, _)
  unfold vX5_init_122
  refine ⟨⟨by decide, by decide⟩, fun _ => k _ ?_ (fun r h => ?_), fun w => absurd (by decide) w⟩
  · rw [xset_eq]
    funext j
    by_cases hj : j < 24
    · unfold m01
      simp only [cu_app]
      repeat' split
      all_goals omega
    · unfold m01
      simp only [cu_app]
      repeat' split
      all_goals omega
  · rw [xset_ne (by omega), xset_ne (by omega), xset_ne (by omega)]
    exact hr r h
theorem REL.init : ∀ s1 : xS, s1 = xset (fun _ _ => 0) 0 (fun _ => 0) → vX4_init s1 (fun u => ∀ s2 : xS, s2 = xset u 20 (fun _ => 0) → vX5_init s2 (fun v => REL 0 false v)) := by
  intro s1 _
  refine ok_init (fun u hc h1 h5 s2 e2 => mk_init (fun v hm hv => ?_))
  have g : ∀ r, r < 20 → v r = u r := fun r hr => by rw [hv r (by omega), e2, xset_ne (by omega)]
  have g20 : ∀ j, v 20 j = 0 := fun j => by rw [hv 20 (by omega), e2, xset_eq]
  refine ⟨b01, 0, fun _ => b01, 0, fun _ => 0, ⟨by rw [g 8 (by omega)]; exact hc, by rw [hm]; exact m01_mb, b01_wf, fun k hk => absurd hk (by omega), ⟨by omega, 0, by omega, by rw [g 5 (by omega)]; exact h5 1, by rw [g 5 (by omega)]; exact h5 2, fun k hk => absurd hk (by omega)⟩, ⟨g20 3, fun k hk => absurd hk (by omega)⟩, b01_tt, fun k hk => absurd hk (by omega)⟩, ⟨by omega, by rw [g 1 (by omega)]; exact h1 1, g20 5, fun i hi => absurd hi (by omega), fun i hi => absurd hi (by omega)⟩, fun w => absurd w (by decide), ⟨Or.inl (g20 16), fun w => ?_⟩⟩
  rw [g20 16] at w
  exact absurd w (by decide)
