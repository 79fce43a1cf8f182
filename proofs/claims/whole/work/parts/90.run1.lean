/-! a list of steps, performed -/
def pf (x : Int × Int) (b : xS) : Option xS :=
  if x.1 = 116 then some (aTurn b (b x.2.toNat 5)) else if x.1 = 107 then some (aTap b x.2.toNat) else if x.1 = 119 then (if b 3 1 + x.2 ≤ 9999 then some (aPass x.2.toNat b) else none) else (if b 3 1 + aUnt b ≤ 9999 then some (aPass (aUnt b).toNat b) else none)
def ev : ST → Nat → xS → Bool × Nat × xS
  | [], k, b => (true, k, b)
  | x :: X, k, b => if k = 100 then (false, k, b) else (pf x b).elim (false, k, b) (fun b' => ev X (k + 1) b')
theorem ev_app_t : ∀ (X Y : ST) (k k' : Nat) (b b' : xS), ev X k b = (true, k', b') → ev (X ++ Y) k b = ev Y k' b'
  | [], Y, k, k', b, b', h => by
    have h' : (true, k, b) = (true, k', b') := h
    injection h' with _ h'
    injection h' with h1 h2
    subst h1 h2
    rfl
  | x :: X, Y, k, k', b, b', h => by
    show (if k = 100 then (false, k, b) else (pf x b).elim (false, k, b) (fun b' => ev (X ++ Y) (k + 1) b')) = _
    have h' : (if k = 100 then (false, k, b) else (pf x b).elim (false, k, b) (fun b' => ev X (k + 1) b')) = (true, k', b') := h
    by_cases hk : k = 100
    · rw [if_pos hk] at h'
      exact absurd (congrArg Prod.fst h') (by simp)
    · rw [if_neg hk] at h' ⊢
      cases hp : pf x b with
      | none => rw [hp] at h'; exact absurd (congrArg Prod.fst h') (by simp)
      | some b1 => rw [hp] at h'; exact ev_app_t X Y (k + 1) k' b1 b' h'
theorem ev_app_f : ∀ (X Y : ST) (k k' : Nat) (b b' : xS), ev X k b = (false, k', b') → ev (X ++ Y) k b = (false, k', b')
  | [], Y, k, k', b, b', h => by
    have h' : (true, k, b) = (false, k', b') := h
    exact absurd (congrArg Prod.fst h') (by simp)
  | x :: X, Y, k, k', b, b', h => by
    show (if k = 100 then (false, k, b) else (pf x b).elim (false, k, b) (fun b' => ev (X ++ Y) (k + 1) b')) = _
    have h' : (if k = 100 then (false, k, b) else (pf x b).elim (false, k, b) (fun b' => ev X (k + 1) b')) = (false, k', b') := h
    by_cases hk : k = 100
    · rw [if_pos hk] at h' ⊢
      exact h'
    · rw [if_neg hk] at h' ⊢
      cases hp : pf x b with
      | none => rw [hp] at h'; exact h'
      | some b1 => rw [hp] at h'; exact ev_app_f X Y (k + 1) k' b1 b' h'
def vld (G : Int) (x : Int × Int) : Prop := ∃ k v, x = (lts k, v) ∧ bas G k v
theorem vld_in {G : Int} {x : Int × Int} (h : vld G x) : (x.1 = 116 ∧ 0 ≤ x.2 ∧ x.2 < G) ∨ (x.1 = 107 ∧ 0 ≤ x.2 ∧ x.2 < G) ∨ (x.1 = 119 ∧ 1 ≤ x.2 ∧ x.2 ≤ 99) ∨ x.1 = 101 := by
  obtain ⟨k, v, rfl, hb⟩ := h
  rcases hb with ⟨h | h, h2⟩ | ⟨h, h2⟩ | ⟨h, h2⟩
  · subst h; exact Or.inl ⟨rfl, h2⟩
  · subst h; exact Or.inr (Or.inl ⟨rfl, h2⟩)
  · subst h; exact Or.inr (Or.inr (Or.inl ⟨rfl, h2⟩))
  · subst h; exact Or.inr (Or.inr (Or.inr rfl))
theorem rept_mem {x : Int × Int} : ∀ (v : Nat) (Y : ST), x ∈ rept v Y → x ∈ Y
  | 0, Y, h => absurd h (by simp [rept])
  | v + 1, Y, h => by
    have h' : x ∈ Y ++ rept v Y := h
    rcases List.mem_append.1 h' with h | h
    · exact h
    · exact rept_mem v Y h
theorem SEG.vld {n : Nat} {t : Nat → Int} {G : Int} : ∀ (f d j e : Nat) (X : ST), SEG n t G f d j e X → ∀ x, x ∈ X → vld G x
  | 0, _, _, _, X, h, x, hx => by
    rw [h.2] at hx
    exact absurd hx (by simp)
  | f + 1, d, j, e, X, h, x, hx => by
    rcases h with ⟨_, h⟩ | ⟨hb, X', h, rfl⟩ | ⟨_, _, m, v, Y, X', _, _, _, h1, _, h2, rfl⟩
    · rw [h] at hx
      exact absurd hx (by simp)
    · rcases List.mem_cons.1 hx with hx | hx
      · exact ⟨_, _, hx, hb⟩
      · exact SEG.vld f _ _ _ _ h x hx
    · rcases List.mem_append.1 hx with hx | hx
      · exact SEG.vld f _ _ _ _ h1 x (rept_mem v Y hx)
      · exact SEG.vld f _ _ _ _ h2 x hx
def pin (T G : Int) (k : Nat) (b : xS) : Prop := WF b ∧ TT (T + (k : Int)) b ∧ b 3 0 = G
theorem pin.s {T G : Int} {k : Nat} {b b' : xS} {x : Int × Int} (h : pin T G k b) (hx : vld G x) (hp : pf x b = some b') : pin T G (k + 1) b' := by
  obtain ⟨h1, h2, h3⟩ := h
  have hn := h1.1
  have e1 : T + ((k + 1 : Nat) : Int) = T + (k : Int) + 1 := by omega
  have pas : ∀ m : Nat, b 3 1 + (m : Int) ≤ 9999 → pin T G (k + 1) (aPass m b) := fun m hm => ⟨h1.passed m hm, (h2.pass h1 m).mono (by omega), by rw [aPass_3 h1 (by omega) (by omega)]; exact h3⟩
  unfold pf at hp
  rcases vld_in hx with ⟨a, a2⟩ | ⟨a, a2⟩ | ⟨a, a2⟩ | a
  · rw [if_pos a] at hp
    have : aTurn b (b x.2.toNat 5) = b' := by simpa using hp
    subst this
    exact ⟨h1.turn _, by rw [e1]; exact h2.turn hn.2 _, by rw [aTurn_3 hn.2, if_neg (by omega)]; exact h3⟩
  · rw [if_neg (by omega), if_pos a] at hp
    have : aTap b x.2.toNat = b' := by simpa using hp
    subst this
    exact ⟨h1.tap _ (by omega), by rw [e1]; exact h2.tap _ (by omega), by rw [aTap_app, if_neg (by omega), if_neg (by omega)]; exact h3⟩
  · rw [if_neg (by omega), if_neg (by omega), if_pos a] at hp
    split at hp
    · have : aPass x.2.toNat b = b' := by simpa using hp
      subst this
      exact pas _ (by omega)
    · exact absurd hp (by simp)
  · rw [if_neg (by omega), if_neg (by omega), if_neg (by omega)] at hp
    have hu := aUnt_in h1
    split at hp
    · have : aPass (aUnt b).toNat b = b' := by simpa using hp
      subst this
      exact pas _ (by omega)
    · exact absurd hp (by simp)
section
variable {σ s : xS} {b : xS} {T G : Int} {k : Nat} {c : Nat → Int}
theorem okPerf49 {Q : Int → xS → Prop} (hw : WF b) (hc : CB c b) (m : Nat) (hm : m ≤ 100) {y : Int} (hy : y = (m : Int)) (k1 : b 3 1 + (m : Int) ≤ 9999 → ∀ c', CB c' (aPass m b) → Q 1 (xset σ 8 c')) (k0 : ¬ b 3 1 + (m : Int) ≤ 9999 → Q 0 (xset σ 8 c)) : vX4_perform_49 Q y (xset σ 8 c) := by
  subst hy
  unfold vX4_perform_49
  refine okTimeFor (T := 9999) (by omega) hw hc ⟨by omega, by omega⟩ (fun q => ⟨⟨by decide, by decide⟩, fun _ => ?_, fun w => absurd w (by decide)⟩) (fun q => ⟨rng0, fun w => absurd rfl w, fun _ => k0 (by omega)⟩)
  exact okPass (T := 9999) (by omega) hw hc m (by omega) rfl (fun c' h' => k1 q c' h')
theorem okPerform {Q : Int → xS → Prop} {x : Int × Int} (hi : pin T G k b) (hx : vld G x) (hc : CB c b) (k1 : ∀ b' c', pf x b = some b' → CB c' b' → Q 1 (xset σ 8 c')) (k0 : pf x b = none → Q 0 (xset σ 8 c)) : vX4_perform x.1 x.2 (xset σ 8 c) Q := by
  obtain ⟨hw, _, hG⟩ := hi
  have hn := hw.1
  unfold pf at k1 k0
  unfold vX4_perform
  have hv := vld_in hx
  refine ⟨⟨by omega, by omega⟩, fun z1 => ⟨fun z2 => ⟨fun z3 => ?_, fun z => ?_⟩, fun z => ?_⟩, fun z => ?_⟩
  · rw [if_neg z1, if_neg z2, if_neg z3] at k0
    have hu := aUnt_in hw
    refine okUnt hw hc (okPerf49 hw hc (aUnt b).toNat (by omega) (by omega) (fun q c' h' => k1 _ c' ?_ h') (fun q => k0 ?_))
    · rw [if_neg z1, if_neg z2, if_neg z3, if_pos (by omega)]
    · rw [if_neg (by omega)]
  · rw [if_neg z1, if_neg z2, if_pos z] at k0
    refine okPerf49 hw hc x.2.toNat (by omega) (by omega) (fun q c' h' => k1 _ c' ?_ h') (fun q => k0 ?_)
    · rw [if_neg z1, if_neg z2, if_pos z, if_pos (by omega)]
    · rw [if_neg (by omega)]
  · refine okTap hc x.2.toNat (by omega) (by omega) (fun c' h' => k1 _ c' ?_ h')
    rw [if_neg z1, if_pos z]
  · refine okTurn hw hc x.2.toNat (by omega) (by omega) (fun c' h' => k1 _ c' ?_ h')
    rw [if_pos z]
theorem mk79 {Q : Int → xS → Prop} (hw : WF b) (hm : MB (s 21) b) (m : Nat) (hm1 : m ≤ 100) {y : Int} (hy : y = (m : Int)) (k1 : b 3 1 + (m : Int) ≤ 9999 → ∀ c', MB c' (aPass m b) → Q 1 (xset s 21 c')) (k0 : ¬ b 3 1 + (m : Int) ≤ 9999 → Q 0 s) : vX5_does_79 Q y s := by
  subst hy
  have ht := hw.2.1
  have h33 := hw.2.2.2.1
  have hp := aPass_33 hw m
  unfold vX5_does_79
  rw [show s 21 22 = b 3 1 from hm.n 1 (by omega)]
  refine ⟨⟨by omega, by omega⟩, fun q => ?_, fun q => k0 q⟩
  have := mkPasses (σ := s) (m := s 21) (x := (m : Int)) (Q := fun r3 σ4 => rng r3 ∧ ((r3 < 0 → Q 0 σ4) ∧ (¬ r3 < 0 → Q 1 σ4))) (T := 9999) (by omega) hw hm m (by omega) rfl
  rw [xset_self] at this
  exact this (fun c' h' => ⟨⟨by omega, by omega⟩, fun w => absurd w (by omega), fun _ => k1 q c' h'⟩)
theorem mkDoes {Q : Int → xS → Prop} {i : Nat} {kk vv : Int} (hi : pin T G k b) (hb : bas G kk vv) (hm : MB (s 21) b) (h25 : s 25 i = kk) (h26 : s 26 i = vv) (hi6 : i < 60) (k1 : ∀ s' b', pf (lts kk, vv) b = some b' → MB (s' 21) b' → (∀ r, r ≠ 21 → r ≠ 23 → s' r = s r) → Q 1 s') (k0 : ∀ s', pf (lts kk, vv) b = none → MB (s' 21) b → (∀ r, r ≠ 21 → r ≠ 23 → s' r = s r) → Q 0 s') : vX5_does (i : Int) s Q := by
  obtain ⟨hw, _, hG⟩ := hi
  have hn := hw.1
  have up1 : ∀ b' c', pf (lts kk, vv) b = some b' → MB c' b' → Q 1 (xset s 21 c') := fun b' c' h1 h2 => k1 _ b' h1 (by rw [xset_eq]; exact h2) (fun r a _ => xset_ne a)
  unfold pf at k1 k0 up1
  unfold vX5_does
  rw [Int.toNat_natCast, h25, h26]
  have hkr : rng kk := by
    unfold bas at hb
    exact ⟨by omega, by omega⟩
  refine ⟨⟨by omega, by omega⟩, hkr, fun z => ⟨fun z2 => ?_, fun z2 => ?_⟩, fun z => ⟨fun z2 => ?_, fun z2 => ?_⟩⟩
  · have : kk = 3 := by unfold bas at hb; omega
    subst this
    have hu := aUnt_in hw
    have hl : lts 3 = 101 := rfl
    rw [hl] at k0 k1 up1
    have := mkRunsAny (σ := s) (m := s 21) (Q := fun r11 σ12 => rng r11 ∧ ((r11 = 0 → vX5_does_79 Q 0 σ12) ∧ (¬ r11 = 0 → vX5_untilEvent σ12 (fun r15 σ16 => vX5_does_79 Q r15 σ16)))) hw hm
    rw [xset_self] at this
    refine this (fun q => ⟨rng0, fun _ => ?_, fun w => absurd rfl w⟩) (fun q => ⟨⟨by decide, by decide⟩, fun w => absurd w (by decide), fun _ => ?_⟩)
    · refine mk79 hw hm 0 (by omega) rfl (fun q2 c' h' => up1 _ c' ?_ h') (fun q2 => k0 s ?_ hm (fun _ _ _ => rfl))
      · rw [if_neg (by simp), if_neg (by simp), if_neg (by simp), if_pos (by omega), q]
        rfl
      · rw [if_neg (by simp), if_neg (by simp), if_neg (by simp), if_neg (by omega)]
    · rw [← xset_self s 21]
      refine mkUnt (T := 9999) (by omega) hw hm q (fun a m' h' => ?_)
      refine mk79 hw (by rw [xset_eq]; exact h') (aUnt b).toNat (by omega) (by omega) (fun q2 c' h2 => k1 _ _ ?_ (by rw [xset_eq]; exact h2) (fun r a1 a2 => by rw [xset_ne a1, xset_ne a1, xset_ne a2])) (fun q2 => k0 _ ?_ (by rw [xset_eq]; exact h') (fun r a1 a2 => by rw [xset_ne a1, xset_ne a2]))
      · rw [if_neg (by simp), if_neg (by simp), if_neg (by simp), if_pos (by omega)]
      · rw [if_neg (by simp), if_neg (by simp), if_neg (by simp), if_neg (by omega)]
  · subst z2
    have hv : 1 ≤ vv ∧ vv ≤ 99 := by unfold bas at hb; omega
    have hl : lts 2 = 119 := rfl
    rw [hl] at k0 k1 up1
    refine mk79 hw hm vv.toNat (by omega) (by omega) (fun q2 c' h' => up1 _ c' ?_ h') (fun q2 => k0 s ?_ hm (fun _ _ _ => rfl))
    · rw [if_neg (by simp), if_neg (by simp), if_pos rfl, if_pos (by show b 3 1 + vv ≤ 9999; omega)]
    · rw [if_neg (by simp), if_neg (by simp), if_pos rfl, if_neg (by show ¬ b 3 1 + vv ≤ 9999; omega)]
  · have hk1 : kk = 1 ∧ 0 ≤ vv ∧ vv < G := by unfold bas at hb; omega
    obtain ⟨rfl, hv⟩ := hk1
    have hl : lts 1 = 107 := rfl
    rw [hl] at k0 k1 up1
    have := mkTap (σ := s) (m := s 21) (g := vv) (Q := fun r18 σ19 => Q 1 σ19) hw hm vv.toNat (by omega) (by omega)
    rw [xset_self] at this
    exact this (fun c' h' => up1 _ c' (by rw [if_neg (by simp), if_pos rfl]) h')
  · have hk1 : 0 ≤ vv ∧ vv < G := by unfold bas at hb; omega
    subst z2
    have hl : lts 0 = 116 := rfl
    rw [hl] at k0 k1 up1
    have := mkTurn (σ := s) (m := s 21) (g := vv) (Q := fun σ21 => Q 1 σ21) hw hm vv.toNat (by omega) (by omega)
    rw [xset_self] at this
    exact this (fun c' h' => up1 _ c' (by rw [if_pos rfl]) h')
end
