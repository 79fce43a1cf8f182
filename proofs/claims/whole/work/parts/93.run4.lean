/-! step 13: a script is run -/
theorem KB.fr {T : Int} {σ σ' b : xS} {d : Nat} {H : Nat → xS} (h : KB T σ b d H) (h8 : σ' 8 = σ 8) (h21 : σ' 21 = σ 21) (h5 : σ' 5 = σ 5) (h6 : σ' 6 = σ 6) (h22 : σ' 22 = σ 22) (h20 : σ' 20 3 = σ 20 3) : KB T σ' b d H :=
  ⟨by rw [h8]; exact h.1, by rw [h21]; exact h.2.1, h.2.2.1, h.2.2.2.1, h.2.2.2.2.1.congr h5 h6, h.2.2.2.2.2.1.congr h20 h22, h.2.2.2.2.2.2⟩
/-- all but the text's reading, the bench, the states kept stays -/
def Fscr (σ σ' : xS) : Prop := (∀ r, r ≠ 1 → r ≠ 3 → r ≠ 4 → r ≠ 5 → r ≠ 6 → r ≠ 8 → r ≠ 20 → r ≠ 21 → r ≠ 22 → r ≠ 23 → r ≠ 25 → r ≠ 26 → r ≠ 27 → r ≠ 28 → σ' r = σ r) ∧ ∀ j, j ≠ 3 → j ≠ 8 → j ≠ 9 → j ≠ 10 → j ≠ 11 → σ' 20 j = σ 20 j
section
variable {T : Int} {P : Bool} {σ b : xS} {d : Nat} {H : Nat → xS} {K : Bool → xS → Prop} {x y z : Int} {n : Nat} {t : Nat → Int}
theorem hs13 (h : KB T σ b d H) (ht : TX σ n t) (k : ∀ σ', KBx (T + 100) σ' → TXx σ' → Fscr σ σ' → K P σ') : lawS13 P x y z σ K := by
  have hw := h.2.2.1
  unfold lawS13 vX4_run vX0_glasses
  rw [show σ 8 57 = b 3 0 from h.1.2.1 0 (by omega)]
  refine p_read hw ht (fun τ1 j1 f1 r1 hr1 ⟨p1, L1, c1, hX1⟩ => ⟨hr1, fun hf => ?_, fun hf => ?_⟩)
  · obtain ⟨g1, g2⟩ := c1.fr
    have ht1 := c1.tx ht
    have hk1 : KB T τ1 b d H := h.fr (g1 8 (by omega) (by omega) (by omega)) (g1 21 (by omega) (by omega) (by omega)) (g1 5 (by omega) (by omega) (by omega)) (g1 6 (by omega) (by omega) (by omega)) (g1 22 (by omega) (by omega) (by omega)) (by rw [g1 20 (by omega) (by omega) (by omega)])
    obtain ⟨X, hsg, hL⟩ := hX1 hf
    subst hL
    obtain ⟨a1, a2, a3, a4, a5, a6, a7, a8⟩ := hk1
    have hd : d ≤ 8 := a5.1
    have hpin : pin T (b 3 0) 0 b := ⟨a3, by rw [show T + ((0 : Nat) : Int) = T by omega]; exact a7, rfl⟩
    refine okKeep a1 a5 (fun f p hc => ?_)
    refine okRun (T := T) (G := b 3 0) (X := X) hpin (by rw [xset_ne (by omega), xset_ne (by omega)]; exact a1) (by obtain ⟨f', hf'⟩ := hsg; exact SEG.vld f' _ _ _ _ hf') (by rw [xset_ne (by omega), xset_ne (by omega)]; exact c1.2.2.2.1) (by rw [xset_ne (by omega), xset_ne (by omega), xset_ne (by omega), xset_ne (by omega)]; exact c1.2.2.2.2.2) (fun c' hcb hp' hle => ?_)
    have e2 : ∀ r, r ≠ 5 → r ≠ 6 → r ≠ 8 → (xset (xset (xset τ1 5 f) 6 p) 8 c') r = τ1 r := fun r b1 b2 b3 => by rw [xset_ne b3, xset_ne b2, xset_ne b1]
    have e28 : (xset (xset (xset τ1 5 f) 6 p) 8 c') 8 = c' := by rw [xset_eq]
    have e25 : (xset (xset (xset τ1 5 f) 6 p) 8 c') 5 = (xset (xset τ1 5 f) 6 p) 5 := by rw [xset_ne (by omega)]
    have e26 : (xset (xset (xset τ1 5 f) 6 p) 8 c') 6 = (xset (xset τ1 5 f) 6 p) 6 := by rw [xset_ne (by omega)]
    generalize xset (xset (xset τ1 5 f) 6 p) 8 c' = u2 at *
    generalize xset (xset τ1 5 f) 6 p = u1 at *
    have ht2 : TX u2 n t := ⟨ht1.1, by rw [e2 1 (by omega) (by omega) (by omega)]; exact ht1.2.1, by rw [e2 20 (by omega) (by omega) (by omega)]; exact ht1.2.2.1, by rw [e2 2 (by omega) (by omega) (by omega), e2 24 (by omega) (by omega) (by omega)]; exact ht1.2.2.2.1, ht1.2.2.2.2⟩
    unfold vX5_run
    refine q_reads hw (by rw [e2 21 (by omega) (by omega) (by omega)]; exact a2) ht2 (fun τ2 j2 f2 r2 ⟨p2, st, dp, A, B, m2, htk⟩ => ?_)
    obtain ⟨rfl, hff⟩ := r1.uniq r2
    have hf2 : f2 = -1 := by rw [← hff]; exact hf
    obtain ⟨rfl, htok⟩ := htk hf2
    have hin := PD_in st r1.1
    have htn := ht.1
    have m20 := m2.1.2
    have m21 := m2.1.1
    rw [m2.2.2.1]
    refine ⟨by rw [hf2]; exact ⟨by decide, by decide⟩, fun _ => ?_, fun w => absurd hf2 w⟩
    refine mkKeep (b := b) (d := d) (H := H) (by rw [m21 21 (by omega) (by omega) (by omega), e2 21 (by omega) (by omega) (by omega)]; exact a2) hd (by have := a3.2.2.2.1; omega) (fun k hk => by have := (a4 k hk).2.2.2.1; omega) (a6.congr (by rw [m20 3 (by omega) (by omega) (by omega) (by omega), e2 20 (by omega) (by omega) (by omega)]) (by rw [m21 22 (by omega) (by omega) (by omega), e2 22 (by omega) (by omega) (by omega)])) (fun f3 p3 hf3 hm3 => ?_)
    refine mkRun (T := T) (G := b 3 0) (n := n) (t := t) (J := st) (X := X) ?_ (by omega) ?_ hsg ?_ hpin (fun s' b1 b2 b3 => ⟨rfl, k s' ⟨(ev X 0 b).2.2, pushD d, pushH d H b, ?_, b1, b2.1, pushH_all hd a3 a4, ?_, ?_, b2.2.1.mono (by omega), pushH_all hd (a7.mono (by omega)) (fun k hk => (a8 k hk).mono (by omega))⟩ ⟨n, t, ht.1, ?_, ?_, ?_, ht.2.2.2.2⟩ ⟨fun r c1 c2 c3 c4 c5 c6 c7 c8 c9 c10 c11 c12 c13 c14 => ?_, fun j c1 c2 c3 c4 c5 => ?_⟩⟩)
    · rw [xset_ne (by omega), xset_eq, hf3 8 (by omega)]
      exact m2.2.2.2.1
    · intro i hi
      rw [xset_ne (by omega), xset_ne (by omega), xset_ne (by omega), xset_ne (by omega), m2.2.2.2.2.2.1, m2.2.2.2.2.2.2]
      exact htok i hi
    · rw [xset_ne (by omega), xset_ne (by omega), m21 21 (by omega) (by omega) (by omega), e2 21 (by omega) (by omega) (by omega)]
      exact a2
    · rw [b3 8 (by omega) (by omega) (by omega) (by omega), xset_ne (by omega), xset_ne (by omega), m21 8 (by omega) (by omega) (by omega), e28]
      exact hcb
    · refine hc.congr ?_ ?_
      · rw [b3 5 (by omega) (by omega) (by omega) (by omega), xset_ne (by omega), xset_ne (by omega), m21 5 (by omega) (by omega) (by omega), e25]
      · rw [b3 6 (by omega) (by omega) (by omega) (by omega), xset_ne (by omega), xset_ne (by omega), m21 6 (by omega) (by omega) (by omega), e26]
    · refine hm3.congr ?_ ?_
      · rw [b3 20 (by omega) (by omega) (by omega) (by omega)]
      · rw [b3 22 (by omega) (by omega) (by omega) (by omega)]
    · rw [b3 1 (by omega) (by omega) (by omega) (by omega), xset_ne (by omega), xset_ne (by omega), m21 1 (by omega) (by omega) (by omega)]
      exact ht2.2.1
    · rw [b3 20 (by omega) (by omega) (by omega) (by omega), xset_ne (by omega), xset_eq, hf3 5 (by omega), m20 5 (by omega) (by omega) (by omega) (by omega)]
      exact ht2.2.2.1
    · rw [b3 2 (by omega) (by omega) (by omega) (by omega), xset_ne (by omega), xset_ne (by omega), m21 2 (by omega) (by omega) (by omega), b3 24 (by omega) (by omega) (by omega) (by omega), xset_ne (by omega), xset_ne (by omega), m21 24 (by omega) (by omega) (by omega)]
      exact ht2.2.2.2.1
    · rw [b3 r c8 c10 c13 c14, xset_ne c9, xset_ne c7, m21 r c7 c11 c12, e2 r c4 c5 c6]
      exact g1 r c1 c2 c3
    · rw [b3 20 (by omega) (by omega) (by omega) (by omega), xset_ne (by omega), xset_eq, hf3 j c1, m20 j c2 c3 c4 c5, e2 20 (by omega) (by omega) (by omega), g1 20 (by omega) (by omega) (by omega)]
  · obtain ⟨g1, g2⟩ := c1.fr
    have ht1 := c1.tx ht
    unfold vX5_run
    refine q_reads hw (by rw [g1 21 (by omega) (by omega) (by omega)]; exact h.2.1) ht1 (fun τ2 j2 f2 r2 ⟨p2, st, dp, A, B, m2, _⟩ => ?_)
    have hff := (r1.uniq r2).2
    rw [m2.2.2.1, ← hff]
    refine ⟨hr1, fun w => absurd w hf, fun _ => ⟨rfl, k τ2 ?_ ⟨n, t, m2.tx ht1⟩ ⟨fun r c1 c2 c3 c4 c5 c6 c7 c8 c9 c10 c11 c12 c13 c14 => (m2.1.1 r c7 c11 c12).trans (g1 r c1 c2 c3), fun j c1 c2 c3 c4 c5 => (m2.1.2 j c2 c3 c4 c5).trans (by rw [g1 20 (by omega) (by omega) (by omega)])⟩⟩⟩
    refine KB.x (T := T) (h.fr ?_ ?_ ?_ ?_ ?_ ?_) (by omega)
    · rw [m2.1.1 8 (by omega) (by omega) (by omega)]; exact g1 8 (by omega) (by omega) (by omega)
    · rw [m2.1.1 21 (by omega) (by omega) (by omega)]; exact g1 21 (by omega) (by omega) (by omega)
    · rw [m2.1.1 5 (by omega) (by omega) (by omega)]; exact g1 5 (by omega) (by omega) (by omega)
    · rw [m2.1.1 6 (by omega) (by omega) (by omega)]; exact g1 6 (by omega) (by omega) (by omega)
    · rw [m2.1.1 22 (by omega) (by omega) (by omega)]; exact g1 22 (by omega) (by omega) (by omega)
    · rw [m2.1.2 3 (by omega) (by omega) (by omega) (by omega), g1 20 (by omega) (by omega) (by omega)]
end
