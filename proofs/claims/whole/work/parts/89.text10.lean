/-! both read: the fault -/
section
variable {σ b : xS} {n : Nat} {t : Nat → Int} {T : Int}
theorem p_read {Q : Int → xS → Prop} (hw : WFt T b) (ht : TX σ n t) (k : ∀ τ' j fl, RD n t (b 3 0) j fl → rng fl → (∃ p L, CS (xup σ 1 7 (b 3 0)) τ' p fl L ∧ (fl = -1 → ∃ X, SG n t (b 3 0) 0 0 j X ∧ L = cap [] X)) → Q fl τ') : vX3_read (b 3 0) σ Q := by
  have htn := ht.1
  have hn := hw.1
  have ht1 : TX (xup σ 1 7 (b 3 0)) n t := ⟨ht.1, by rw [xup_app, if_neg (by omega)]; exact ht.2.1, by rw [xup_app, if_neg (by omega)]; exact ht.2.2.1, fun i hi => by rw [xup_ne (by omega), xup_ne (by omega)]; exact ht.2.2.2.1 i hi, ht.2.2.2.2⟩
  have hG : (xup σ 1 7 (b 3 0)) 1 7 = b 3 0 ∧ rng (b 3 0) := ⟨by rw [xup_app, if_pos ⟨rfl, rfl⟩], by omega, by omega⟩
  unfold vX3_read
  intro s1 e1 s2 e2 s3 e3 s4 e4
  have h0 : CS (xup σ 1 7 (b 3 0)) s4 0 (-1) [] := by
    rw [← e1]
    subst e4 e3 e2
    refine ⟨⟨fun r a _ _ => by rw [xup_ne a, xup_ne a, xup_ne a], fun j a c d => by rw [xup_app, if_neg (by omega), xup_app, if_neg (by omega), xup_app, if_neg (by omega)]⟩, ?_, ?_, ?_, by show 0 ≤ 100; omega, fun i x hx => absurd hx (by simp)⟩
    · rw [xup_app, if_neg (by omega), xup_app, if_neg (by omega), xup_app, if_pos ⟨rfl, rfl⟩]; rfl
    · rw [xup_app, if_neg (by omega), xup_app, if_pos ⟨rfl, rfl⟩]
    · rw [xup_app, if_pos ⟨rfl, rfl⟩]; rfl
  have r2 : RSc (xup σ 1 7 (b 3 0)) n t (b 3 0) 2 RS1 := p_readSteps ht1 hG hn.2 (by omega) (fun w => absurd w (by omega))
  have r1 : RSc (xup σ 1 7 (b 3 0)) n t (b 3 0) 1 RS2 := p_readSteps ht1 hG hn.2 (by omega) (fun _ => r2)
  have r0 : RSc (xup σ 1 7 (b 3 0)) n t (b 3 0) 0 (vX3_readSteps RS2) := p_readSteps ht1 hG hn.2 (by omega) (fun _ => r1)
  show vX3_readSteps RS2 ((0 : Nat) : Int) s4 _
  refine r0 s4 0 0 [] _ h0 (fun i hi => absurd hi (by omega)) rfl rfl (by omega) (fun τ' hF => ?_) (fun τ' p' j' X hst hGE => ?_)
  · obtain ⟨j, f, p, L, g1, g2, g3, g4, g5, g6⟩ := hF
    rw [g4.2.2.1]
    exact ⟨⟨by omega, by omega⟩, fun _ => k τ' j f ⟨g1, Or.inr ⟨g2, f, g3, rfl⟩⟩ ⟨by omega, by omega⟩ ⟨p, L, g4, fun w => absurd w (by omega)⟩, fun w => absurd w (by omega)⟩
  · obtain ⟨g1, g2, g3, g4, g5, g6⟩ := hGE
    have hin := PD_in j' g1
    have hbt := tb_in ht.2.2.2.2 (PD n t j').1
    rw [g6.2.2.1]
    refine ⟨⟨by decide, by decide⟩, fun w => absurd rfl w, fun _ => p_peek ht1 g6 (by omega) (fun τ2 h2 => ?_)⟩
    rw [g2] at h2 ⊢
    refine ⟨⟨by omega, by omega⟩, fun z => ?_, fun z s hs => ?_⟩
    · rw [h2.2.2.1]
      refine k τ2 j' (-1) ⟨g1, Or.inl ⟨fun g => ?_, rfl⟩⟩ ⟨by decide, by decide⟩ ⟨_, _, h2, fun _ => ⟨X, g5, rfl⟩⟩
      rcases g with g | g
      · have := hbt.2.2 g
        have := ht.2.2.2.2 _ g
        omega
      · omega
    · have hg : gos n t j' := by
        refine Or.inl ?_
        by_cases w : (PD n t j').1 < n
        · exact w
        · exact absurd (hbt.2.1 (by omega)) z
      have he : ers n t (b 3 0) j' = some (PD n t j').1 := by
        unfold ers er
        rw [if_neg (fun w => by omega), if_neg (fun w => hst (by rcases w with w | w; exact Or.inl w; exact Or.inr (Or.inl w))), if_neg (fun w => hst (Or.inr (Or.inr (Or.inl w)))), if_neg (fun w => hst (Or.inr (Or.inr (Or.inr (Or.inl w))))), if_neg (fun w => hst (Or.inr (Or.inr (Or.inr (Or.inr w)))))]
      rw [h2.2.1] at hs
      subst hs
      have h3 := h2.at6 ((PD n t j').1 : Int)
      rw [h3.2.2.1]
      exact k _ j' _ ⟨g1, Or.inr ⟨hg, _, he, rfl⟩⟩ ⟨by omega, by omega⟩ ⟨_, _, h3, fun w => absurd w (by omega)⟩
theorem CS.fr {τ : xS} {p : Nat} {fl g : Int} {L : ST} (h : CS (xup σ 1 7 g) τ p fl L) : (∀ r, r ≠ 1 → r ≠ 3 → r ≠ 4 → τ r = σ r) ∧ τ 1 1 = σ 1 1 :=
  ⟨fun r a c d => (h.1.1 r a c d).trans (xup_ne a), (h.1.2 1 (by omega) (by omega) (by omega)).trans (by rw [xup_app, if_neg (by omega)])⟩
theorem CS.tx {τ : xS} {p : Nat} {fl g : Int} {L : ST} (h : CS (xup σ 1 7 g) τ p fl L) (ht : TX σ n t) : TX τ n t := by
  obtain ⟨f1, f2⟩ := h.fr
  refine ⟨ht.1, f2.trans ht.2.1, ?_, fun i hi => ?_, ht.2.2.2.2⟩
  · rw [f1 20 (by omega) (by omega) (by omega)]; exact ht.2.2.1
  · rw [f1 2 (by omega) (by omega) (by omega), f1 24 (by omega) (by omega) (by omega)]; exact ht.2.2.2.1 i hi
theorem MS.tx {τ : xS} {p st : Nat} {fl dp : Int} {A B : Nat → Int} (h : MS σ τ p fl st dp A B) (ht : TX σ n t) : TX τ n t := by
  refine ⟨ht.1, ?_, ?_, fun i hi => ?_, ht.2.2.2.2⟩
  · rw [h.1.1 1 (by omega) (by omega) (by omega)]; exact ht.2.1
  · rw [h.1.2 5 (by omega) (by omega) (by omega) (by omega)]; exact ht.2.2.1
  · rw [h.1.1 2 (by omega) (by omega) (by omega), h.1.1 24 (by omega) (by omega) (by omega)]; exact ht.2.2.2.1 i hi
end
section
variable {T : Int} {P : Bool} {σ b : xS} {d : Nat} {H : Nat → xS} {K : Bool → xS → Prop} {x y z : Int} {n : Nat} {t : Nat → Int}
theorem hs2 (h : KB T σ b d H) (ht : TX σ n t) (k : ∀ σ', TXx σ' → Ft σ σ' → K P σ') : lawS2 P x y z σ K := by
  have hw := h.2.2.1
  unfold lawS2 vX4_fault vX0_glasses
  rw [show σ 8 57 = b 3 0 from h.1.2.1 0 (by omega)]
  refine p_read hw ht (fun τ1 j1 f1 r1 _ ⟨p1, L1, c1, _⟩ => ?_)
  obtain ⟨g1, g2⟩ := c1.fr
  have ht1 := c1.tx ht
  unfold vX5_fault
  refine q_reads hw (by rw [g1 21 (by omega) (by omega) (by omega)]; exact h.2.1) ht1 (fun τ2 j2 f2 r2 ⟨p2, st, dp, A, B, m2, _⟩ => ?_)
  rw [m2.2.2.1]
  refine ⟨(r1.uniq r2).2, k τ2 ⟨n, t, m2.tx ht1⟩ ⟨fun r a1 a2 a3 a4 a5 a6 a7 a8 => (m2.1.1 r a5 a7 a8).trans (g1 r a1 a3 a4), fun j _ a2 a3 a4 a5 => (m2.1.2 j a2 a3 a4 a5).trans ?_⟩⟩
  rw [g1 20 (by omega) (by omega) (by omega)]
end
