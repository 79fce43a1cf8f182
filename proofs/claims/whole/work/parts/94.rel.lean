/-! the cells as the machine holds them -/
def nrm (σ : xS) : xS := fun r j => if r = 8 ∨ r = 21 ∨ r = 30 then (i32 (σ r j)).toInt else σ r j
theorem nrm_n {σ : xS} {r : Nat} (h8 : r ≠ 8) (h21 : r ≠ 21) (h30 : r ≠ 30) : nrm σ r = σ r := by
  funext j
  exact if_neg (by omega)
theorem nrm_8 (σ : xS) (j : Nat) : nrm σ 8 j = (i32 (σ 8 j)).toInt := if_pos (Or.inl rfl)
theorem nrm_21 (σ : xS) (j : Nat) : nrm σ 21 j = (i32 (σ 21 j)).toInt := if_pos (Or.inr (Or.inl rfl))
theorem nrm_30 (σ : xS) (j : Nat) : nrm σ 30 j = (i32 (σ 30 j)).toInt := if_pos (Or.inr (Or.inr rfl))
theorem wL_nrm (P : Bool) (ad adm : Nat → Nat) (cI cJ cZ : ClassId) (σ : xS) : wL P ad adm cI cJ cZ (nrm σ) = wL P ad adm cI cJ cZ σ := by
  have g : ∀ r, r ≠ 8 → r ≠ 21 → r ≠ 30 → nrm σ r = σ r := fun r a b c => nrm_n a b c
  have e8 : ∀ j, i32 (nrm σ 8 j) = i32 (σ 8 j) := fun j => by rw [nrm_8, i32_asI]
  have e21 : ∀ j, i32 (nrm σ 21 j) = i32 (σ 21 j) := fun j => by rw [nrm_21, i32_asI]
  have e30 : ∀ j, i32 (nrm σ 30 j) = i32 (σ 30 j) := fun j => by rw [nrm_30, i32_asI]
  have h1 := g 1 (by decide) (by decide) (by decide)
  have h2 := g 2 (by decide) (by decide) (by decide)
  have h3 := g 3 (by decide) (by decide) (by decide)
  have h4 := g 4 (by decide) (by decide) (by decide)
  have h5 := g 5 (by decide) (by decide) (by decide)
  have h6 := g 6 (by decide) (by decide) (by decide)
  have h9 := g 9 (by decide) (by decide) (by decide)
  have h10 := g 10 (by decide) (by decide) (by decide)
  have h11 := g 11 (by decide) (by decide) (by decide)
  have h12 := g 12 (by decide) (by decide) (by decide)
  have h13 := g 13 (by decide) (by decide) (by decide)
  have h14 := g 14 (by decide) (by decide) (by decide)
  have h20 := g 20 (by decide) (by decide) (by decide)
  have h22 := g 22 (by decide) (by decide) (by decide)
  have h23 := g 23 (by decide) (by decide) (by decide)
  have h24 := g 24 (by decide) (by decide) (by decide)
  have h25 := g 25 (by decide) (by decide) (by decide)
  have h26 := g 26 (by decide) (by decide) (by decide)
  have h27 := g 27 (by decide) (by decide) (by decide)
  have h28 := g 28 (by decide) (by decide) (by decide)
  have h29 := g 29 (by decide) (by decide) (by decide)
  have h31 := g 31 (by decide) (by decide) (by decide)
  have h32 := g 32 (by decide) (by decide) (by decide)
  have h33 := g 33 (by decide) (by decide) (by decide)
  cases P <;> simp only [wL, wX, wXP, wM, e8, e21, e30, h1, h2, h3, h4, h5, h6, h9, h10, h11, h12, h13, h14, h20, h22, h23, h24, h25, h26, h27, h28, h29, h31, h32, h33]
theorem nrm_x (σ : xS) : NRx (nrm σ) := ⟨fun g _ => by rw [nrm_21]; exact i32_rng _, fun j _ => by rw [nrm_30]; exact i32_rng _, fun j _ => by rw [nrm_8]; exact i32_rng _⟩
def nrb (b : xS) : xS := fun r j => if r < 4 then b r j else (i32 (b r j)).toInt
theorem nrb_l (b : xS) {r : Nat} (h : r < 4) : nrb b r = b r := by
  funext j
  exact if_pos h
theorem nrb_e (b : xS) (e j : Nat) : nrb b (4 + e) j = (i32 (b (4 + e) j)).toInt := if_neg (by omega)
theorem nrb_wf {T : Int} {b : xS} (h : WFt T b) : WFt T (nrb b) := by
  have e3 := nrb_l b (show 3 < 4 by omega)
  unfold WFt at h ⊢
  rw [e3]
  refine ⟨h.1, h.2.1, h.2.2.1, h.2.2.2.1, fun i hi => ?_⟩
  have hi3 : i < 3 := by have := h.1; omega
  have g := h.2.2.2.2 i hi
  rw [nrb_l b (show i < 4 by omega), nrb_l b (show (b i 5).toNat < 4 by omega)]
  exact g
theorem RowOK.rn {T : Int} {b : xS} (h : WFt T b) {i p : Nat} (hi : (i : Int) < b 3 0) (hp : p < 7) : rng (b i p) := by
  have g := h.2.2.2.2 i hi
  have hn := h.1
  rcases (show p = 0 ∨ p = 1 ∨ p = 2 ∨ p = 3 ∨ p = 4 ∨ p = 5 ∨ p = 6 by omega) with rfl | rfl | rfl | rfl | rfl | rfl | rfl <;> exact ⟨by omega, by omega⟩
theorem scal_rn {T : Int} {b : xS} (h : WF b) (ht : TT T b) (hT : T ≤ 1000000) {k : Nat} (hk : k < 6) : rng (b 3 k) := by
  obtain ⟨h1, h2, h3, h4, _⟩ := h
  obtain ⟨h5, h6⟩ := ht
  rcases (show k = 0 ∨ k = 1 ∨ k = 2 ∨ k = 3 ∨ k = 4 ∨ k = 5 by omega) with rfl | rfl | rfl | rfl | rfl | rfl <;> exact ⟨by omega, by omega⟩
theorem CB.nrmd {T : Int} {σ b : xS} (h : CB (σ 8) b) (hw : WF b) (ht : TT T b) (hT : T ≤ 1000000) : CB (nrm σ 8) (nrb b) := by
  have e3 := nrb_l b (show 3 < 4 by omega)
  refine ⟨fun i p h1 h2 h3 => ?_, fun k hk => ?_, fun e q h1 h2 h3 => ?_⟩
  · rw [e3] at h1
    rw [nrm_8, nrb_l b (show i < 4 by omega), h.1 i p h1 h2 h3]
    exact i32_toInt (RowOK.rn hw h1 h3)
  · rw [nrm_8, e3, h.2.1 k hk]
    exact i32_toInt (scal_rn hw ht hT hk)
  · rw [e3] at h1 h2
    rw [nrm_8, nrb_e, h.2.2 e q h1 h2 h3]
theorem MB.nrmd {T : Int} {σ b : xS} (h : MB (σ 21) b) (hw : WF b) (ht : TT T b) (hT : T ≤ 1000000) : MB (nrm σ 21) (nrb b) := by
  have e3 := nrb_l b (show 3 < 4 by omega)
  have hj := jmin_le (b 3 3) 12
  have h33 := hw.2.2.2.1
  have h31 := hw.2.1
  have hl := aListed_in hw
  have e27 : nrm σ 21 27 = σ 21 27 := by
    rw [nrm_21, h.2.2.1]
    unfold aListed at hl
    exact i32_toInt ⟨by omega, by omega⟩
  refine ⟨fun i p h1 h2 h3 => ?_, fun k hk => ?_, ?_, fun k q h1 h2 => ?_⟩
  · rw [e3] at h1
    rw [nrm_21, nrb_l b (show i < 4 by omega), h.1 i p h1 h2 h3]
    exact i32_toInt (RowOK.rn hw h1 h3)
  · rw [nrm_21, e3, h.2.1 k hk]
    exact i32_toInt (scal_rn hw ht hT hk)
  · rw [e27, e3]
    exact h.2.2.1
  · rw [e27] at h1 ⊢
    rw [nrm_21, e3, Nat.add_assoc 4, nrb_e, h.2.2.2 k q h1 h2, Nat.add_assoc 4]
/-- the relation of the law's loop, at place i of the argument -/
def REL (i : Int) (P : Bool) (σ : xS) : Prop := ∃ (b : xS) (d : Nat) (H : Nat → xS) (n : Nat) (t : Nat → Int), KB (25 * i) σ b d H ∧ TX σ n t ∧ (P = true → PCl σ) ∧ MT σ
theorem MT.nrmd {σ : xS} (h : MT σ) : MT (nrm σ) := by
  have e20 := nrm_n (σ := σ) (r := 20) (by omega) (by omega) (by omega)
  have e29 := nrm_n (σ := σ) (r := 29) (by omega) (by omega) (by omega)
  refine ⟨by rw [e20]; exact h.1, fun w => ?_⟩
  rw [e20] at w
  obtain ⟨b0, hw, hk, hc⟩ := h.2 w
  refine ⟨b0, hw, fun g hg => ?_, by rw [e29]; exact hc⟩
  obtain ⟨raw, ⟨k1, k2, k3⟩, hr⟩ := hk g hg
  have ha := (am_in hw g).1
  have hl := lyI_01 b0 g
  refine ⟨(i32 raw).toInt, ⟨?_, ?_, ?_⟩, fun hi => ?_⟩
  · rw [nrm_30, k1]
    exact i32_toInt ⟨by omega, by omega⟩
  · rw [nrm_30, k2]
    exact i32_toInt ⟨by omega, by omega⟩
  · rw [nrm_30, k3]
  · rw [hr hi]
    exact i32_toInt (RowOK.rn hw hi (by omega))
theorem REL.nrmd {i : Int} {P : Bool} {σ : xS} (hi : i ≤ 2048) (h : REL i P σ) : REL i P (nrm σ) := by
  obtain ⟨b, d, H, n, t, ⟨h1, h2, h3, h4, h5, h6, h7, h8⟩, ht, hp, hm⟩ := h
  have g : ∀ r, r ≠ 8 → r ≠ 21 → r ≠ 30 → nrm σ r = σ r := fun r a b c => nrm_n a b c
  have e3 := nrb_l b (show 3 < 4 by omega)
  have g20 := g 20 (by omega) (by omega) (by omega)
  refine ⟨nrb b, d, H, n, t, ⟨h1.nrmd h3 h7 (by omega), h2.nrmd h3 h7 (by omega), nrb_wf h3, h4, h5.congr (g 5 (by omega) (by omega) (by omega)) (g 6 (by omega) (by omega) (by omega)), h6.congr (by rw [g20]) (g 22 (by omega) (by omega) (by omega)), ?_, h8⟩, ⟨ht.1, ?_, ?_, ?_, ht.2.2.2.2⟩, fun w => (hp w).congr (fun r a1 a2 => g r (by omega) (by omega) (by omega)), hm.nrmd⟩
  · unfold TT at h7 ⊢
    rw [e3]
    exact h7
  · rw [g 1 (by omega) (by omega) (by omega)]; exact ht.2.1
  · rw [g20]; exact ht.2.2.1
  · rw [g 2 (by omega) (by omega) (by omega), g 24 (by omega) (by omega) (by omega)]; exact ht.2.2.2.1
