/-! the relation of the bench and of the states kept, and its steps -/
/-- turns and taps stay within bounds -/
def TT (T : Int) (b : xS) : Prop := (0 ≤ b 3 4 ∧ b 3 4 ≤ T) ∧ (0 ≤ b 3 5 ∧ b 3 5 ≤ T)
theorem TT.mono {T T' : Int} {b : xS} (h : TT T b) (hT : T ≤ T') : TT T' b := by
  unfold TT at h ⊢
  omega
theorem TT.same {T : Int} {b b' : xS} (h : TT T b) (h4 : b' 3 4 = b 3 4) (h5 : b' 3 5 = b 3 5) : TT (T + 100) b' := by
  unfold TT at h ⊢
  rw [h4, h5]
  omega
def KB (T : Int) (σ : xS) (b : xS) (d : Nat) (H : Nat → xS) : Prop := CB (σ 8) b ∧ MB (σ 21) b ∧ WF b ∧ (∀ k, k < d → WF (H k)) ∧ HC σ d H ∧ HM σ d H ∧ TT T b ∧ ∀ k, k < d → TT T (H k)
def Fr (σ σ' : xS) : Prop := (∀ r, r ≠ 5 → r ≠ 6 → r ≠ 8 → r ≠ 20 → r ≠ 21 → r ≠ 22 → r ≠ 23 → σ' r = σ r) ∧ ∀ j, j ≠ 3 → σ' 20 j = σ 20 j
def KBx (T : Int) (σ : xS) : Prop := ∃ b d H, KB T σ b d H
theorem KB.x {T : Int} {σ b : xS} {d : Nat} {H : Nat → xS} (h : KB T σ b d H) {T' : Int} (hT : T ≤ T') : KBx T' σ := by
  obtain ⟨h1, h2, h3, h4, h5, h6, h7, h8⟩ := h
  exact ⟨b, d, H, h1, h2, h3, h4, h5, h6, h7.mono hT, fun k hk => (h8 k hk).mono hT⟩
theorem Fr.refl (σ : xS) : Fr σ σ := ⟨fun _ _ _ _ _ _ _ _ => rfl, fun _ _ => rfl⟩
theorem Fr.trans {σ τ ρ : xS} (h1 : Fr σ τ) (h2 : Fr τ ρ) : Fr σ ρ := ⟨fun r a1 a2 a3 a4 a5 a6 a7 => (h2.1 r a1 a2 a3 a4 a5 a6 a7).trans (h1.1 r a1 a2 a3 a4 a5 a6 a7), fun j hj => (h2.2 j hj).trans (h1.2 j hj)⟩
theorem at8 {τ : xS} {F : xS → Prop} (h : F (xset τ 8 (τ 8))) : F τ := by rw [xset_self] at h; exact h
theorem at21 {τ : xS} {F : xS → Prop} (h : F (xset τ 21 (τ 21))) : F τ := by rw [xset_self] at h; exact h
theorem okHas' {τ : xS} {b : xS} {g : Int} {Q : Int → xS → Prop} {T : Int} (hw : WFt T b) (hr : rng g) (h : CB (τ 8) b) (k1 : ∀ i : Nat, g = (i : Int) → (i : Int) < b 3 0 → Q 1 τ) (k0 : (g < 0 ∨ b 3 0 ≤ g) → Q 0 τ) : vX0_has g τ Q := by
  have := okHas (σ := τ) (c := τ 8) (Q := Q) hw hr h
  rw [xset_self] at this
  exact this (fun z z2 => k1 g.toNat (by omega) (by omega)) k0
theorem mkIs' {τ : xS} {b : xS} {g : Int} {Q : Int → xS → Prop} {T : Int} (hw : WFt T b) (hr : rng g) (h : MB (τ 21) b) (k1 : ∀ i : Nat, g = (i : Int) → (i : Int) < b 3 0 → Q 1 τ) (k0 : (g < 0 ∨ b 3 0 ≤ g) → Q 0 τ) : vX5_isGlass g τ Q := by
  have := mkIs (σ := τ) (m := τ 21) (Q := Q) hw hr h
  rw [xset_self] at this
  exact this (fun z z2 => k1 g.toNat (by omega) (by omega)) k0
theorem okR' {τ : xS} {b : xS} {g p : Int} {Q : Int → xS → Prop} (h : CB (τ 8) b) (i q : Nat) (hi : i < 3) (hn : (i : Int) < b 3 0) (hq : q < 7) (hg : g = (i : Int)) (hp : p = (q : Int)) (k : Q (b i q) τ) : vX0_property g p τ Q := by
  have := okR (σ := τ) (c := τ 8) (Q := Q) h i q hi hn hq hg hp
  rw [xset_self] at this
  exact this k
theorem mkR' {τ : xS} {b : xS} {g w : Int} {Q : Int → xS → Prop} (h : MB (τ 21) b) (i p : Nat) (hi : i < 3) (hn : (i : Int) < b 3 0) (hp : p < 7) (hg : g = (i : Int)) (hw : w = (pip p : Int)) (k : Q (b i p) τ) : vX5_of g w τ Q := by
  have := mkR (σ := τ) (m := τ 21) (Q := Q) h i p hi hn hp hg hw
  rw [xset_self] at this
  exact this k
theorem pushH_all {R : xS → Prop} {d : Nat} {H : Nat → xS} {b : xS} (hd : d ≤ 8) (hw : R b) (h : ∀ k, k < d → R (H k)) : ∀ k, k < pushD d → R (pushH d H b k) := by
  intro k hk
  unfold pushD at hk
  unfold pushH
  by_cases hd8 : d < 8
  · rw [if_pos hd8] at hk ⊢
    by_cases z : k = d
    · rw [if_pos z]; exact hw
    · rw [if_neg z]; exact h k (by omega)
  · rw [if_neg hd8] at hk ⊢
    by_cases z : k = 7
    · rw [if_pos z]; exact hw
    · rw [if_neg z]; exact h (k + 1) (by omega)
/-- an operation that keeps the state first, on both sides -/
theorem kept {T : Int} {σ b b' : xS} {d : Nat} {H : Nat → xS} {r : Int} {K : xS → Prop} {A B M : xS → (Int → xS → Prop) → Prop} (h : KB T σ b d H) (hw : WF b') (ht : TT (T + 100) b')
    (hA : ∀ (τ : xS) (Q : Int → xS → Prop), CB (τ 8) b → (∀ c, CB c b' → Q r (xset τ 8 c)) → A τ Q)
    (hB : ∀ (τ : xS) (Q : Int → xS → Prop), MB (τ 21) b → (∀ m, MB m b' → Q r (xset τ 21 m)) → B τ Q)
    (hM : ∀ (u : xS) (Q : Int → xS → Prop), MB (u 21) b → (∀ τ : xS, (∀ q, q ≠ 21 → q ≠ 23 → τ q = u q) → MB (τ 21) b → vX5_keeps τ (fun s => B s Q)) → M u Q)
    (k : ∀ σ', KBx (T + 100) σ' → Fr σ σ' → K σ') : vX1_keep σ (fun s => A s (fun x u => M u (fun y v => x = y ∧ K v))) := by
  obtain ⟨h1, h2, h3, h4, h5, h6, h7, h8⟩ := h
  have hd : d ≤ 8 := h5.1
  refine okKeep h1 h5 (fun f p hc => hA _ _ ?_ (fun c hcb => hM _ _ ?_ (fun τ hτ hmb => ?_)))
  · rw [xset_ne (by omega), xset_ne (by omega)]; exact h1
  · rw [xset_ne (by omega), xset_ne (by omega), xset_ne (by omega)]; exact h2
  · have t20 : τ 20 = σ 20 := by rw [hτ 20 (by omega) (by omega), xset_ne (by omega), xset_ne (by omega), xset_ne (by omega)]
    have t22 : τ 22 = σ 22 := by rw [hτ 22 (by omega) (by omega), xset_ne (by omega), xset_ne (by omega), xset_ne (by omega)]
    refine mkKeep hmb hd (by have := h3.2.2.2.1; omega) (fun k hk => by have := (h4 k hk).2.2.2.1; omega) (h6.congr (by rw [t20]) t22) (fun f2 p2 hf2 hm => hB _ _ ?_ (fun m hmb' => ⟨rfl, k _ ⟨b', pushD d, pushH d H b, ?_, ?_, hw, pushH_all hd h3 h4, ?_, ?_, ht, pushH_all hd (h7.mono (by omega)) (fun k hk => (h8 k hk).mono (by omega))⟩ ⟨fun r a1 a2 a3 a4 a5 a6 a7 => ?_, fun j hj => ?_⟩⟩))
    · rw [xset_ne (by omega), xset_ne (by omega)]; exact hmb
    · rw [xset_ne (by omega), xset_ne (by omega), xset_ne (by omega), hτ 8 (by omega) (by omega), xset_eq]; exact hcb
    · rw [xset_eq]; exact hmb'
    · refine hc.congr ?_ ?_
      · rw [xset_ne (by omega), xset_ne (by omega), xset_ne (by omega), hτ 5 (by omega) (by omega), xset_ne (by omega)]
      · rw [xset_ne (by omega), xset_ne (by omega), xset_ne (by omega), hτ 6 (by omega) (by omega), xset_ne (by omega)]
    · refine hm.congr ?_ ?_
      · rw [xset_ne (by omega)]
      · rw [xset_ne (by omega)]
    · rw [xset_ne (by omega), xset_ne (by omega), xset_ne (by omega), hτ r (by omega) (by omega), xset_ne (by omega), xset_ne (by omega), xset_ne (by omega)]
    · rw [xset_ne (by omega), xset_ne (by omega), xset_eq, hf2 j hj, t20]
section
variable {T : Int} {P : Bool} {σ b : xS} {d : Nat} {H : Nat → xS} {K : Bool → xS → Prop} {x y z : Int}
theorem hs3 (h : KB T σ b d H) (hx : rng x) (k : ∀ σ', KBx (T + 100) σ' → Fr σ σ' → K P σ') : lawS3 P x y z σ K := by
  have k0 := k σ (h.x (by omega)) (Fr.refl σ)
  have hn := h.2.2.1.1
  unfold lawS3 vX4_setGlasses
  have bad : (x < 1 ∨ 3 < x) → vX5_setGlasses x σ (fun r2 u2 => -2 = r2 ∧ K P u2) := fun q => by
    unfold vX5_setGlasses
    exact mkIn hx ⟨by omega, by omega⟩ ⟨by omega, by omega⟩ (fun q1 q2 => absurd q (by omega)) (fun _ => ⟨rng0, fun z => absurd rfl z, fun _ => ⟨rfl, k0⟩⟩)
  refine ⟨hx, fun q => bad (Or.inl q), fun q1 => ⟨fun q2 => ?_, fun q2 => bad (Or.inr (by omega))⟩⟩
  have hx3 : 1 ≤ x ∧ x ≤ 3 := by omega
  refine kept (A := fun s Q => vX0_glasses s (fun r s => vX0_renew x s (fun s => Q r s))) (B := fun s Q => mu (vX5_setGlasses_26 Q) (x, s 21 21, 0, s)) (M := fun u Q => vX5_setGlasses x u Q) h (h.2.2.1.renew hx3) (h.2.2.2.2.2.2.1.same (by unfold aRenew; rw [if_neg (by omega), if_neg (by omega)]) (by unfold aRenew; rw [if_neg (by omega), if_neg (by omega)])) (r := b 3 0) (fun τ Q hc kk => ?_) (fun τ Q hm kk => ?_) (fun u Q hm kk => ?_) k
  · rw [← xset_self τ 8]
    exact okG hc (okRenew hc (by omega) hx3 (fun c hcc => kk c hcc))
  · have := mkRenew (σ := τ) (Q := Q) hm (by omega) hx3 kk
    rw [xset_self, ← hm.n 0 (by omega)] at this
    exact this
  · unfold vX5_setGlasses
    exact mkIn hx ⟨by omega, by omega⟩ ⟨by omega, by omega⟩ (fun _ _ => ⟨⟨by omega, by omega⟩, fun _ => kk u (fun _ _ _ => rfl) hm, fun z => absurd z (by omega)⟩) (fun q => absurd q (by omega))
theorem hs4 (h : KB T σ b d H) (hx : rng x) (hy : rng y) (k : ∀ σ', KBx (T + 100) σ' → Fr σ σ' → K P σ') : lawS4 P x y z σ K := by
  have k0 := k σ (h.x (by omega)) (Fr.refl σ)
  have hw := h.2.2.1
  unfold lawS4 vX4_setAmount
  refine okHas' hw hx h.1 (fun i hi hn => ?_) (fun q => ⟨rng0, fun _ => ?_, fun z => absurd rfl z⟩)
  · have hi3 := hw.n3 hn
    have bad : (y < 1 ∨ 12 < y) → vX5_setAmount x y σ (fun r2 u2 => -2 = r2 ∧ K P u2) := fun q => by
      unfold vX5_setAmount
      refine mkIs' hw hx h.2.1 (fun _ _ _ => ⟨⟨by omega, by omega⟩, fun z => absurd z (by omega), fun _ => ?_⟩) (fun q2 => ⟨rng0, fun _ => ⟨rfl, k0⟩, fun z => absurd rfl z⟩)
      exact mkIn hy ⟨by omega, by omega⟩ ⟨by omega, by omega⟩ (fun q1 q2 => absurd q (by omega)) (fun _ => ⟨rng0, fun z => absurd rfl z, fun _ => ⟨rfl, k0⟩⟩)
    refine ⟨⟨by omega, by omega⟩, fun z => absurd z (by omega), fun _ => ⟨hy, fun q => bad (Or.inl q), fun q1 => ⟨fun q2 => ?_, fun q2 => bad (Or.inr (by omega))⟩⟩⟩
    refine kept (A := fun s Q => vX0_property x 0 s (fun r s => vX0_fill x y s (fun s => Q r s))) (B := fun s Q => vX5_of x 0 s (fun r s => vX5_put x 0 y s (fun s => vX5_put x 1 0 s (fun s => vX5_resets x s (fun s => Q r s))))) (M := fun u Q => vX5_setAmount x y u Q) h (hw.fill i hi3 (u := y) (by omega)) (h.2.2.2.2.2.2.1.same (by unfold aFill; rw [aFree_app, if_neg (by omega), xup_app, if_neg (by omega), xup_app, if_neg (by omega)]) (by unfold aFill; rw [aFree_app, if_neg (by omega), xup_app, if_neg (by omega), xup_app, if_neg (by omega)])) (r := b i 0) (fun τ Q hc kk => ?_) (fun τ Q hm kk => ?_) (fun u Q hm kk => ?_) k
    · rw [← xset_self τ 8]
      exact okR hc i 0 hi3 hn (by omega) hi rfl (okFill hc i hi3 hi kk)
    · rw [← xset_self τ 21]
      exact mkR hm i 0 hi3 hn (by omega) hi rfl (mkP hm i 0 hi3 (by omega) hi rfl (fun m1 h1 => mkP h1 i 1 hi3 (by omega) hi rfl (fun m2 h2 => mkF h2 i hi3 hi kk)))
    · unfold vX5_setAmount
      refine mkIs' hw hx hm (fun _ _ _ => ⟨⟨by omega, by omega⟩, fun z => absurd z (by omega), fun _ => ?_⟩) (fun q2 => absurd q2 (by omega))
      exact mkIn hy ⟨by omega, by omega⟩ ⟨by omega, by omega⟩ (fun q1 q2 => ⟨⟨by omega, by omega⟩, fun _ => kk u (fun _ _ _ => rfl) hm, fun z => absurd z (by omega)⟩) (fun q => absurd q (by omega))
  · unfold vX5_setAmount
    exact mkIs' hw hx h.2.1 (fun i hi hn => absurd q (by omega)) (fun _ => ⟨rng0, fun _ => ⟨rfl, k0⟩, fun z => absurd rfl z⟩)
theorem hs5 (h : KB T σ b d H) (hx : rng x) (hy : rng y) (hz : rng z) (k : ∀ σ', KBx (T + 100) σ' → Fr σ σ' → K P σ') : lawS5 P x y z σ K := by
  have k0 := k σ (h.x (by omega)) (Fr.refl σ)
  have hw := h.2.2.1
  have hM : ∀ (u : xS) (Q : Int → xS → Prop), MB (u 21) b → (((0 ≤ x ∧ x < b 3 0) ∧ (0 ≤ y ∧ y ≤ 2) ∧ (1 ≤ z ∧ z ≤ 9)) → vX5_keeps u (fun s => vX5_of x 2 s (fun r s => vX5_put x 2 y s (fun s => vX5_put x 3 z s (fun s => vX5_resets x s (fun s => Q r s)))))) → (¬ ((0 ≤ x ∧ x < b 3 0) ∧ (0 ≤ y ∧ y ≤ 2) ∧ (1 ≤ z ∧ z ≤ 9)) → Q (-2) u) → vX5_setKind x y z u Q := fun u Q hm k1 k2 => by
    unfold vX5_setKind
    refine mkIs' hw hx hm (fun i hi hn => ⟨⟨by omega, by omega⟩, fun w => absurd w (by omega), fun _ => ?_⟩) (fun q2 => ⟨rng0, fun _ => k2 (by omega), fun w => absurd rfl w⟩)
    refine mkIn hy rng0 ⟨by omega, by omega⟩ (fun q1 q2 => ⟨⟨by omega, by omega⟩, fun w => absurd w (by omega), fun _ => ?_⟩) (fun q => ⟨rng0, fun _ => k2 (by omega), fun w => absurd rfl w⟩)
    exact mkIn hz ⟨by omega, by omega⟩ ⟨by omega, by omega⟩ (fun q3 q4 => ⟨⟨by omega, by omega⟩, fun _ => k1 (by omega), fun w => absurd w (by omega)⟩) (fun q => ⟨rng0, fun w => absurd rfl w, fun _ => k2 (by omega)⟩)
  have bad : ¬ ((0 ≤ x ∧ x < b 3 0) ∧ (0 ≤ y ∧ y ≤ 2) ∧ (1 ≤ z ∧ z ≤ 9)) → vX5_setKind x y z σ (fun r2 u2 => -2 = r2 ∧ K P u2) := fun q => hM σ _ h.2.1 (fun q2 => absurd q2 q) (fun _ => ⟨rfl, k0⟩)
  unfold lawS5 vX4_setKind
  refine okHas' hw hx h.1 (fun i hi hn => ?_) (fun q => ⟨rng0, fun _ => bad (by omega), fun w => absurd rfl w⟩)
  have hi3 := hw.n3 hn
  refine ⟨⟨by omega, by omega⟩, fun w => absurd w (by omega), fun _ => ⟨hy, fun q => bad (by omega), fun q1 => ⟨fun q2 => bad (by omega), fun q2 => ⟨hz, fun q => bad (by omega), fun q3 => ⟨fun q4 => ?_, fun q4 => bad (by omega)⟩⟩⟩⟩⟩
  refine kept (A := fun s Q => vX0_property x 2 s (fun r s => vX0_makeKind x y z s (fun s => Q r s))) (B := fun s Q => vX5_of x 2 s (fun r s => vX5_put x 2 y s (fun s => vX5_put x 3 z s (fun s => vX5_resets x s (fun s => Q r s))))) (M := fun u Q => vX5_setKind x y z u Q) h (hw.kind i hi3 (kd := y) (gr := z) (by omega) (by omega)) (h.2.2.2.2.2.2.1.same (by unfold aKind; rw [aFree_app, if_neg (by omega), xup_app, if_neg (by omega), xup_app, if_neg (by omega)]) (by unfold aKind; rw [aFree_app, if_neg (by omega), xup_app, if_neg (by omega), xup_app, if_neg (by omega)])) (r := b i 2) (fun τ Q hc kk => ?_) (fun τ Q hm kk => ?_) (fun u Q hm kk => ?_) k
  · rw [← xset_self τ 8]
    exact okR hc i 2 hi3 hn (by omega) hi rfl (okKind hc i hi3 hi kk)
  · rw [← xset_self τ 21]
    exact mkR hm i 2 hi3 hn (by omega) hi rfl (mkP hm i 2 hi3 (by omega) hi rfl (fun m1 h1 => mkP h1 i 3 hi3 (by omega) hi rfl (fun m2 h2 => mkF h2 i hi3 hi kk)))
  · exact hM u Q hm (fun _ => kk u (fun _ _ _ => rfl) hm) (fun q => absurd q (by omega))
theorem hs6 (h : KB T σ b d H) (hx : rng x) (hy : rng y) (k : ∀ σ', KBx (T + 100) σ' → Fr σ σ' → K P σ') : lawS6 P x y z σ K := by
  have k0 := k σ (h.x (by omega)) (Fr.refl σ)
  have hw := h.2.2.1
  have hn := hw.1
  unfold lawS6 vX4_fix
  refine okHas' hw hx h.1 (fun i hi hin => ⟨⟨by omega, by omega⟩, fun w => absurd w (by omega), fun _ => ?_⟩) (fun q => ⟨rng0, fun _ => ?_, fun w => absurd rfl w⟩)
  · have hi3 := hw.n3 hin
    have vi := hw.root hin
    refine okHas' hw hy h.1 (fun j hj hjn => ⟨⟨by omega, by omega⟩, fun _ => ?_, fun w => absurd w (by omega)⟩) (fun q => ⟨rng0, fun w => absurd rfl w, fun _ => ?_⟩)
    · have hj3 := hw.n3 hjn
      have vj := hw.root hjn
      refine okR' h.1 i 5 hi3 hin (by omega) hi rfl (okR' h.1 j 5 hj3 hjn (by omega) hj rfl ⟨⟨by omega, by omega⟩, ⟨by omega, by omega⟩, fun q => ?_, fun q => ?_⟩)
      · have hjm := jmin_le (b i 5) (b j 5)
        have e5 : aMap (joinV (b i 5) (b j 5) (jmin (b i 5) (b j 5))) b i 5 = jmin (b i 5) (b j 5) := by rw [aMap_row hin, joinV, if_pos (Or.inl rfl), if_pos rfl]
        refine kept (A := fun s Q => vX0_join (b i 5) (b j 5) s (fun s => vX0_property x 5 s (fun r s => Q r s))) (B := fun s Q => (b j 5 ≤ b i 5 → mu (vX5_fix_66 Q) (b i 5, b j 5, b j 5, 0, s)) ∧ (¬ b j 5 ≤ b i 5 → mu (vX5_fix_66 Q) (b i 5, b j 5, b i 5, 0, s))) (M := fun u Q => vX5_fix x y u Q) h (hw.join ⟨i, hin, rfl⟩ ⟨j, hjn, rfl⟩) (h.2.2.2.2.2.2.1.same (aMap_3 hn.2 (by omega) 4) (aMap_3 hn.2 (by omega) 5)) (r := jmin (b i 5) (b j 5)) (fun τ Q hc kk => ?_) (fun τ Q hm kk => ?_) (fun u Q hm kk => ?_) k
        · rw [← xset_self τ 8]
          refine okJoin hw hc (by omega) (by omega) (fun c hcc => okR hcc i 5 hi3 (by rw [aMap_3 hn.2 (by omega)]; exact hin) (by omega) hi rfl ?_)
          rw [e5]
          exact kk c hcc
        · rw [← xset_self τ 21]
          have e : ∀ j2, j2 = jmin (b i 5) (b j 5) → mu (vX5_fix_66 Q) (b i 5, b j 5, j2, 0, xset τ 21 (τ 21)) := fun j2 hj2 => by
            subst hj2
            exact mkJoin hw hm (by omega) (by omega) rfl kk
          exact ⟨fun q1 => e _ (by unfold jmin; split <;> omega), fun q1 => e _ (by unfold jmin; split <;> omega)⟩
        · unfold vX5_fix
          refine mkIs' hw hx hm (fun _ _ _ => ⟨⟨by omega, by omega⟩, fun w => absurd w (by omega), fun _ => ?_⟩) (fun q2 => absurd q2 (by omega))
          refine mkIs' hw hy hm (fun _ _ _ => ⟨⟨by omega, by omega⟩, fun _ => ?_, fun w => absurd w (by omega)⟩) (fun q2 => absurd q2 (by omega))
          exact mkR' hm i 5 hi3 hin (by omega) hi rfl (mkR' hm j 5 hj3 hjn (by omega) hj rfl ⟨⟨by omega, by omega⟩, ⟨by omega, by omega⟩, fun _ => kk u (fun _ _ _ => rfl) hm, fun w => absurd w q⟩)
      · unfold vX5_fix
        refine mkIs' hw hx h.2.1 (fun _ _ _ => ⟨⟨by omega, by omega⟩, fun w => absurd w (by omega), fun _ => ?_⟩) (fun q2 => absurd q2 (by omega))
        refine mkIs' hw hy h.2.1 (fun _ _ _ => ⟨⟨by omega, by omega⟩, fun _ => ?_, fun w => absurd w (by omega)⟩) (fun q2 => absurd q2 (by omega))
        exact mkR' h.2.1 i 5 hi3 hin (by omega) hi rfl (mkR' h.2.1 j 5 hj3 hjn (by omega) hj rfl ⟨⟨by omega, by omega⟩, ⟨by omega, by omega⟩, fun w => absurd q w, fun _ => ⟨rfl, k0⟩⟩)
    · unfold vX5_fix
      refine mkIs' hw hx h.2.1 (fun _ _ _ => ⟨⟨by omega, by omega⟩, fun w => absurd w (by omega), fun _ => ?_⟩) (fun q2 => absurd q2 (by omega))
      exact mkIs' hw hy h.2.1 (fun j hj hjn => absurd q (by omega)) (fun _ => ⟨rng0, fun w => absurd rfl w, fun _ => ⟨rfl, k0⟩⟩)
  · unfold vX5_fix
    exact mkIs' hw hx h.2.1 (fun i hi hin => absurd q (by omega)) (fun _ => ⟨rng0, fun _ => ⟨rfl, k0⟩, fun w => absurd rfl w⟩)
end
