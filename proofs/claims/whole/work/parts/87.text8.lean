theorem SEG.le {n : Nat} {t : Nat → Int} {G : Int} : ∀ (f d j e : Nat) (X : ST), SEG n t G f d j e X → j ≤ e
  | 0, _, _, _, _, h => by have := h.1; omega
  | f + 1, d, j, e, X, h => by
    rcases h with ⟨h, _⟩ | ⟨_, X', h, _⟩ | ⟨_, _, m, v, Y, X', _, _, _, h1, _, h2, _⟩
    · omega
    · have := SEG.le f _ _ _ _ h
      omega
    · have := SEG.le f _ _ _ _ h1
      have := SEG.le f _ _ _ _ h2
      omega
theorem SG.le {n : Nat} {t : Nat → Int} {G : Int} {d j e : Nat} {X : ST} (h : SG n t G d j e X) : j ≤ e := by
  obtain ⟨f, hf⟩ := h
  exact SEG.le f d j e X hf
/-- a level's reading of steps, told from what it starts with -/
def RSc (σ : xS) (n : Nat) (t : Nat → Int) (G : Int) (lv : Nat) (RS : Int → xS → (xS → Prop) → Prop) : Prop := ∀ (τ : xS) (p j : Nat) (L : ST) (Q : xS → Prop), CS σ τ p (-1) L → oks n t G j → bl n t p = (PD n t j).1 → (PD n t j).2 = lv → p ≤ 60 → (∀ τ', FE σ n t G L.length τ' → Q τ') → (∀ τ' p' j' X, ¬ stpc (tb n t (PD n t j').1) → GE σ n t G lv j L p' j' X τ' → Q τ') → RS (lv : Int) τ Q
section
variable {σ τ : xS} {n p j lv l : Nat} {t : Nat → Int} {G : Int} {L : ST}
theorem p_readRepeat {RS : Int → xS → (xS → Prop) → Prop} {Q : xS → Prop} (ht : TX σ n t) (hlv : lv ≤ 2) (hRS : lv < 2 → RSc σ n t G (lv + 1) RS) (h : CS σ τ p (-1) L) (hok : oks n t G j) (hp : bl n t p = (PD n t j).1) (hd : (PD n t j).2 = lv) (hp6 : p ≤ 60) (hdg : isd (tb n t (PD n t j).1)) (kF : ∀ τ', FE σ n t G L.length τ' → Q τ') (kG : ∀ τ' p' j' X, j + 1 ≤ j' → GE σ n t G lv j L p' j' X τ' → Q τ') : vX3_readRepeat RS (lv : Int) τ (fun s => vX3_expect 59 s Q) := by
  have htn := ht.1
  have hl := h.2.2.2.2.1
  have hin := PD_in j hok
  have hna := naN_is n t (PD n t j).1
  have hbn := bl_is n t (naN n t (PD n t j).1)
  have hbt := tb_in ht.2.2.2.2 (PD n t j).1
  have hg : gos n t j := by
    refine Or.inl ?_
    by_cases w : (PD n t j).1 < n
    · exact w
    · have := hbt.2.1 (by omega)
      omega
  have hers : ers n t G j = (neN n t (PD n t j).1 20).elim (if tb n t (bl n t (naN n t (PD n t j).1)) = 40 ∧ (PD n t j).2 < 2 then none else some (bl n t (naN n t (PD n t j).1))) some := by
    unfold ers er
    rw [if_neg (by omega), if_neg (by omega), if_neg (by omega), if_neg (by omega), if_pos hdg]
  have hnp : nxp n t (PD n t j).1 (PD n t j).2 = bl n t (bl n t (naN n t (PD n t j).1) + 1) := by
    unfold nxp
    rw [if_neg (by omega), if_neg (by omega), if_neg (by omega), if_neg (by omega)]
  have hnd : nxd n t (PD n t j).1 (PD n t j).2 = lv + 1 := by
    unfold nxd
    rw [if_neg (by omega), if_neg (by omega), hd]
  have hk : kks n t j = 4 := by
    unfold kks nxk
    rw [if_neg (by omega), if_neg (by omega), if_neg (by omega), if_neg (by omega), if_neg (by omega)]
  have hvv : vvs n t j = (nvN n t (PD n t j).1 : Int) := by
    unfold vvs nxv
    rw [if_neg (by omega), if_neg (by omega), if_neg (by omega), if_neg (by omega)]
  unfold vX3_readRepeat
  show vX3_readNumber ((20 : Nat) : Int) τ _
  refine p_number ht h (by omega) (by omega) (fun τ1 q v hq hv hbad h1 => ?_) (fun τ1 hdd hrg h1 => ?_)
  · rw [hp] at hbad h1 hq
    rw [h1.2.2.1]
    have hF : FE σ n t G L.length τ1 := FE.mk' ht hok hg (by rw [hers, neN_q hbad]; rfl) h1 (Nat.le_refl _)
    exact ⟨⟨by omega, by omega⟩, fun _ => hF.rr33 hv kF, fun w => absurd w (by omega)⟩
  · rw [hp] at hdd hrg h1 ⊢
    rw [ne_open hdd hrg] at hers
    have hv9 := nvN_le hdd
    rw [h1.2.2.1]
    refine ⟨⟨by decide, by decide⟩, fun w => absurd rfl w, fun _ => ⟨⟨by omega, by omega⟩, fun w => ?_, fun w => p_peek ht h1 (by omega) (fun τ2 h2 s hs => ?_)⟩⟩
    · unfold vX3_readRepeat_33
      refine p_expect ⟨by decide, by decide⟩ ht h1 (by omega) (fun τ2 hc h2 => ?_) (fun τ2 hc h2 => ?_)
      · have hF : FE σ n t G L.length τ2 := FE.mk' ht hok hg (by rw [hers, if_neg (fun z => hc z.1)]) h2 (Nat.le_refl _)
        rw [h2.2.2.1, h2.2.2.2.1]
        exact ⟨⟨by omega, by omega⟩, fun _ => hF.rr59 (Nat.le_refl _) (by omega) kF, fun w => absurd w (by omega)⟩
      · have hn : ers n t G j = none := by rw [hers, if_pos ⟨hc, by omega⟩]
        have hok' := oks_s hok hg hn
        have hin' := PD_in (j + 1) hok'
        rw [h2.2.2.1, h2.2.2.2.1]
        refine ⟨⟨by decide, by decide⟩, fun w => absurd rfl w, fun _ => ?_⟩
        have hlt : bl n t (naN n t (PD n t j).1) < n := by
          unfold tb at hc
          split at hc
          · assumption
          · omega
        show RS ((lv + 1 : Nat) : Int) τ2 _
        refine hRS (by omega) τ2 _ (j + 1) L _ h2 hok' hnp.symm hnd (by omega) (fun τ3 h3 => h3.rr59 (Nat.le_refl _) (by omega) kF) (fun τ3 p3 j3 Y hst ⟨g1, g2, g3, g4, g5, g6⟩ => ?_)
        have hin3 := PD_in j3 g1
        have hg3 : gos n t j3 := Or.inr (by omega)
        have hle : L.length ≤ (cap L Y).length := cap_ge Y hl
        unfold vX3_readRepeat_59
        refine p_expect ⟨by decide, by decide⟩ ht g6 (by omega) (fun τ4 hc4 h4 => ?_) (fun τ4 hc4 h4 => ?_)
        · rw [g2] at hc4 h4
          have he : ers n t G j3 = some (PD n t j3).1 := by
            unfold ers er
            rw [if_neg (fun w => hc4 w.1), if_neg (fun w => hst (by rcases w with w | w; exact Or.inl w; exact Or.inr (Or.inl w))), if_neg (fun w => hst (Or.inr (Or.inr (Or.inl w)))), if_neg (fun w => hst (Or.inr (Or.inr (Or.inr (Or.inl w))))), if_neg (fun w => hst (Or.inr (Or.inr (Or.inr (Or.inr w)))))]
          have hF : FE σ n t G L.length τ4 := FE.mk' ht g1 hg3 he h4 hle
          exact hF.repeat (Nat.le_refl _) (by omega) (fun τ5 h5 => h5.expect (kF τ5 h5))
        · rw [g2] at hc4 h4
          have h41 : tb n t (PD n t j3).1 = 41 ∧ 0 < (PD n t j3).2 := ⟨hc4, by omega⟩
          refine p_repeat h4 hle (by omega) (fun τ5 h5 => ?_)
          rw [cap_rep (by omega) hl] at h5
          have hb5 := bl_is n t ((PD n t j3).1 + 1)
          refine p_end (l := L.length) (j := j3) ht h5 (by omega) g1 hg3 (by unfold ers er; rw [if_pos h41]) (cap_ge _ hl) kF (fun τ6 hok6 hp6 h6 => kG τ6 _ (j3 + 1) (rept (nvN n t (PD n t j).1) Y) ?_ ⟨hok6, ?_, ?_, hp6, ?_, h6⟩)
          · have := g5.le
            omega
          · show _ = nxp n t (PD n t j3).1 (PD n t j3).2
            unfold nxp
            rw [if_pos h41]
          · show nxd n t (PD n t j3).1 (PD n t j3).2 = lv
            unfold nxd
            rw [if_pos h41]
            omega
          · exact SG.rep hk (by omega) hvv (by omega) (by omega) g5 (by unfold kks nxk; rw [if_pos h41])
    · rw [h2.2.1] at hs
      subst hs
      have hF : FE σ n t G L.length (xup τ2 1 6 (bl n t (naN n t (PD n t j).1) : Int)) := FE.mk' ht hok hg (by rw [hers, if_neg (by omega)]) (h2.at6 _) (Nat.le_refl _)
      exact hF.rr33 (by omega) kF
end
