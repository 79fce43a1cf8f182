/-- the reference reads the text -/
theorem q_reads {σ b : xS} {T : Int} {n : Nat} {t : Nat → Int} {Q : xS → Prop} (hw : WFt T b) (hm : MB (σ 21) b) (ht : TX σ n t) (k : ∀ τ' j fl, RD n t (b 3 0) j fl → (∃ (p st : Nat) (dp : Int) (A B : Nat → Int), MS σ τ' p fl st dp A B ∧ (fl = -1 → st = j ∧ ∀ i, i < j → A i = kks n t i ∧ B i = vvs n t i)) → Q τ') : vX5_reads σ Q := by
  have htn := ht.1
  unfold vX5_reads
  intro s1 e1 s2 e2 s3 e3 s4 e4
  have h0 : MS σ s4 0 (-1) 0 0 (σ 25) (σ 26) := by
    subst e4 e3 e2 e1
    refine ⟨⟨fun r a _ _ => by rw [xup_ne a, xup_ne a, xup_ne a, xup_ne a], fun j a c d e => by rw [xup_app, if_neg (by omega), xup_app, if_neg (by omega), xup_app, if_neg (by omega), xup_app, if_neg (by omega)]⟩, ?_, ?_, ?_, ?_, ?_, ?_⟩
    · rw [xup_app, if_neg (by omega), xup_app, if_neg (by omega), xup_app, if_neg (by omega), xup_app, if_pos ⟨rfl, rfl⟩]; rfl
    · rw [xup_app, if_neg (by omega), xup_app, if_neg (by omega), xup_app, if_pos ⟨rfl, rfl⟩]
    · rw [xup_app, if_neg (by omega), xup_app, if_pos ⟨rfl, rfl⟩]; rfl
    · rw [xup_app, if_pos ⟨rfl, rfl⟩]
    · rw [xup_ne (by omega), xup_ne (by omega), xup_ne (by omega), xup_ne (by omega)]
    · rw [xup_ne (by omega), xup_ne (by omega), xup_ne (by omega), xup_ne (by omega)]
  refine q_blanks ht h0 (by omega) (fun τ1 h1 => ?_)
  refine mu_of (fun a => ∃ j, oks n t (b 3 0) j ∧ ((∃ A B, MS σ a (PD n t j).1 (-1) j ((PD n t j).2 : Int) A B ∧ ∀ i, i < j → A i = kks n t i ∧ B i = vvs n t i) ∨ (∃ f, gos n t j ∧ ers n t (b 3 0) j = some f ∧ FS σ a f))) (fun a => if a 20 10 = -1 then 100 - (a 20 9).toNat else 0) ?_ _ ⟨0, fun i hi => absurd hi (by omega), Or.inl ⟨σ 25, σ 26, h1, fun i hi => absurd hi (by omega)⟩⟩
  rintro K a ⟨j, hok, hc⟩ hK
  obtain ⟨b1, b2, b3⟩ := PD_in j hok
  unfold vX5_reads_24
  dsimp only
  rcases hc with ⟨A, B, hms, hAB⟩ | ⟨f, hg, he, p, st, dp, A, B, hms⟩
  · have hem : (if a 20 10 = -1 then 100 - (a 20 9).toNat else 0) = 100 - (PD n t j).1 := by
      rw [hms.2.2.1, hms.2.1, if_pos rfl]
      omega
    rw [hms.2.2.1, hms.2.1, hms.1.2 5 (by omega) (by omega) (by omega) (by omega), ht.2.2.1, hms.2.2.2.2.1]
    have go : gos n t j → vX5_reads_50 K Q a := fun hg => by
      have bad : ∀ τ' f, ers n t (b 3 0) j = some f → FS σ τ' f → K τ' := fun τ' f he hf => by
        refine hK τ' ⟨j, hok, Or.inr ⟨f, hg, he, hf⟩⟩ ?_
        rw [hem]
        obtain ⟨_, _, _, _, _, hf⟩ := hf
        rw [hf.2.2.1, if_neg (by omega)]
        omega
      have good : ∀ τ', ers n t (b 3 0) j = none → MS σ τ' (nxp n t (PD n t j).1 (PD n t j).2) (-1) (j + 1) (nxd n t (PD n t j).1 (PD n t j).2 : Int) (cu A j (kks n t j)) (cu B j (vvs n t j)) → K τ' := fun τ' he hn => by
        have hok' := oks_s hok hg he
        have hp' := PD_in (j + 1) hok'
        refine hK τ' ⟨j + 1, hok', Or.inl ⟨_, _, hn, fun i hi => ?_⟩⟩ ?_
        · by_cases w : i = j
          · subst w
            rw [cu_app, cu_app, if_pos rfl, if_pos rfl]
            exact ⟨rfl, rfl⟩
          · rw [cu_app, cu_app, if_neg w, if_neg w]
            exact hAB i (by omega)
        · rw [hem]
          have hgt := nxp_gt n t (PD n t j).1 (PD n t j).2
          rw [hn.2.2.1, if_pos rfl, hn.2.1]
          have : nxp n t (PD n t j).1 (PD n t j).2 ≤ n := hp'.1
          omega
      have hb := tb_in ht.2.2.2.2 (PD n t j).1
      have step : ¬ (tb n t (PD n t j).1 = 41 ∧ 0 < (PD n t j).2) → vX5_reads_108 K Q a := fun h41 => by
        unfold vX5_reads_108
        exact q_readsStep hw hm ht hms (by omega) (by omega) b2 h41 bad good
      unfold vX5_reads_50
      refine q_next ht hms (by omega) ⟨⟨by omega, by omega⟩, fun z => step (fun w => z w.1), fun z => ⟨?_, fun w => step (fun v => ?_), fun w => ?_⟩⟩
      · rw [hms.2.2.2.2.1]
        exact ⟨by omega, by omega⟩
      · rw [hms.2.2.2.2.1] at w
        omega
      · rw [hms.2.2.2.2.1] at w
        have h41 : tb n t (PD n t j).1 = 41 ∧ 0 < (PD n t j).2 := ⟨z, by omega⟩
        have hbb := bl_is n t ((PD n t j).1 + 1)
        refine q_needs ht hms ⟨by decide, by decide⟩ (by omega) ⟨by decide, by decide⟩ (fun τ1 p1 _ h1 e1 s hs => ?_)
        rw [if_pos rfl, if_neg (by omega)] at h1
        obtain rfl := e1 rfl (by omega)
        rw [h1.2.2.2.2.1] at hs
        have h2 : MS σ s (bl n t ((PD n t j).1 + 1)) (-1) j (((PD n t j).2 - 1 : Nat) : Int) A B := by
          rw [hs, show (((PD n t j).2 - 1 : Nat) : Int) = ((PD n t j).2 : Int) - 1 by omega]
          exact h1.at11 _
        unfold ers er at bad good
        unfold nxp nxd kks vvs nxk nxv at good
        rw [if_pos h41] at bad
        rw [if_pos h41, if_pos h41, if_pos h41, if_pos h41, if_pos h41] at good
        exact q_adds h2 (by omega) (fun τ3 h3 => q_semi ht h3 (by omega) bad (fun τ4 hs h4 => good τ4 hs h4))
    refine ⟨⟨by decide, by decide⟩, fun w => absurd rfl w, fun _ => ⟨⟨by omega, by omega⟩, ⟨by omega, by omega⟩, fun w => go (Or.inl (by omega)), fun w => ⟨⟨by omega, by omega⟩, fun w2 => ?_, fun w2 => go (Or.inr (by omega))⟩⟩⟩
    exact k a j (-1) ⟨hok, Or.inl ⟨fun g => by rcases g with g | g <;> omega, rfl⟩⟩ ⟨_, _, _, _, _, hms, fun _ => ⟨rfl, hAB⟩⟩
  · have hf : f ≤ 200 := er_le htn (by omega) he
    rw [hms.2.2.1]
    exact ⟨⟨by omega, by omega⟩, fun _ => k a j f ⟨hok, Or.inr ⟨hg, f, he, rfl⟩⟩ ⟨_, _, _, _, _, hms, fun w => absurd w (by omega)⟩, fun w => absurd w (by omega)⟩
