section
variable {σ τ : xS} {n p j lv l : Nat} {t : Nat → Int} {G : Int} {L : ST}
theorem p_readStep {RS : Int → xS → (xS → Prop) → Prop} {Q : xS → Prop} (ht : TX σ n t) (hG : σ 1 7 = G ∧ rng G) (hG3 : G ≤ 3) (hlv : lv ≤ 2) (hRS : lv < 2 → RSc σ n t G (lv + 1) RS) (h : CS σ τ p (-1) L) (hok : oks n t G j) (hp : bl n t p = (PD n t j).1) (hd : (PD n t j).2 = lv) (hp6 : p ≤ 60) (hst : stpc (tb n t (PD n t j).1)) (kF : ∀ τ', FE σ n t G L.length τ' → Q τ') (kG : ∀ τ' p' j' X, j + 1 ≤ j' → GE σ n t G lv j L p' j' X τ' → Q τ') : vX3_readStep RS (lv : Int) τ (fun s => vX3_expect 59 s Q) := by
  have htn := ht.1
  have hl := h.2.2.2.2.1
  have hin := PD_in j hok
  have hbt := tb_in ht.2.2.2.2 (PD n t j).1
  have hg : gos n t j := by
    refine Or.inl ?_
    by_cases w : (PD n t j).1 < n
    · exact w
    · have := hbt.2.1 (by omega)
      unfold stpc at hst
      omega
  have hb1 := bl_is n t ((PD n t j).1 + 1)
  have hb1c := tb_in ht.2.2.2.2 (bl n t ((PD n t j).1 + 1))
  have hnb := naN_is n t (bl n t ((PD n t j).1 + 1))
  have hbb := bl_is n t (bl n t ((PD n t j).1 + 1) + 1)
  -- the last of it
  have fin : ∀ (τ1 : xS) (q : Nat) (v : Int), q ≤ 200 → CS σ τ1 q (-1) L → ers n t G j = semi n t (bl n t q) → nxp n t (PD n t j).1 (PD n t j).2 = bl n t (bl n t q + 1) → nxd n t (PD n t j).1 (PD n t j).2 = lv → bas G (kks n t j) (vvs n t j) → lts (kks n t j) = tb n t (PD n t j).1 → vvs n t j = v → vX3_readStep_57 RS (fun s => vX3_expect 59 s Q) (tb n t (PD n t j).1) v τ1 := fun τ1 q v hq h1 he hx hdd hb hk hv => by
    unfold vX3_readStep_57
    refine p_add h1 (fun τ2 h2 => p_end (l := L.length) (j := j) ht h2 hq hok hg he (cap_ge _ hl) kF (fun τ3 hok3 hp3 h3 => kG τ3 _ (j + 1) _ (Nat.le_refl _) ⟨hok3, hx.symm, hdd, hp3, ?_, h3⟩))
    rw [← hk, ← hv]
    exact SG.one hb
  have finF : ∀ (τ1 : xS) (v : Int) (f q : Nat), CS σ τ1 q (f : Int) L → ers n t G j = some f → vX3_readStep_57 RS (fun s => vX3_expect 59 s Q) (tb n t (PD n t j).1) v τ1 := fun τ1 v f q h1 he => by
    unfold vX3_readStep_57
    exact p_add h1 (fun τ2 h2 => (FE.mk' (l := L.length) ht hok hg he h2 (cap_ge _ hl)).expect (kF τ2 (FE.mk' ht hok hg he h2 (cap_ge _ hl))))
  unfold vX3_readStep
  refine p_peek ht h (by omega) (fun τ1 h1 => ?_)
  rw [hp] at h1 ⊢
  have hsx : ∀ s, s = xup τ1 1 5 (τ1 1 5 + 1) → CS σ s ((PD n t j).1 + 1) (-1) L := fun s hs => by
    rw [hs]
    exact h1.at5 _ (by rw [h1.2.1, Int.natCast_add]; rfl)
  refine p_isDigit ⟨by omega, by omega⟩ (fun hdg => ⟨⟨by omega, by omega⟩, fun w => absurd w (by omega), fun _ => ?_⟩) (fun hdg => ⟨rng0, fun _ s hs => ⟨⟨by omega, by omega⟩, fun z1 => ⟨fun z2 => ?_, fun z2 => ?_⟩, fun z1 => ?_⟩, fun w => absurd rfl w⟩)
  · exact p_readRepeat ht hlv hRS h1 hok (PD_bl n t j) hd (by omega) hdg kF kG
  · have hs' := hsx s hs
    refine fin s _ 0 (by omega) hs' ?_ ?_ ?_ ?_ ?_ ?_
    · unfold ers er
      rw [if_neg (by omega), if_neg (by omega), if_neg (by omega), if_pos z2]
    · unfold nxp
      rw [if_neg (by omega), if_neg (by omega), if_neg (by omega), if_pos z2]
    · unfold nxd
      rw [if_neg (by omega), if_pos (by omega), hd]
    · have : kks n t j = 3 ∧ vvs n t j = 0 := by
        unfold kks vvs nxk nxv
        rw [if_neg (by omega), if_neg (by omega), if_neg (by omega), if_neg (by omega), if_pos z2, if_neg (by omega), if_neg (by omega), if_neg (by omega), if_pos z2]
        exact ⟨rfl, rfl⟩
      exact Or.inr (Or.inr this)
    · have : kks n t j = 3 := by
        unfold kks nxk
        rw [if_neg (by omega), if_neg (by omega), if_neg (by omega), if_neg (by omega), if_pos z2]
      rw [this, z2]
      rfl
    · unfold vvs nxv
      rw [if_neg (by omega), if_neg (by omega), if_neg (by omega), if_pos z2]
  · have hs' := hsx s hs
    have hc : tb n t (PD n t j).1 = 116 ∨ tb n t (PD n t j).1 = 107 := by
      rcases hst with w | w | w | w | w
      · exact Or.inl w
      · exact Or.inr w
      · exact absurd w z1
      · exact absurd w z2
      · exact absurd w hdg
    have hers : ers n t G j = (if 48 ≤ tb n t (bl n t ((PD n t j).1 + 1)) ∧ tb n t (bl n t ((PD n t j).1 + 1)) - 48 < G then semi n t (bl n t (bl n t ((PD n t j).1 + 1) + 1)) else some (bl n t ((PD n t j).1 + 1))) := by
      unfold ers er
      rw [if_neg (by omega), if_pos hc]
    refine p_readGlass ht hG hs' (by omega) (fun τ2 hgl h2 => ?_) (fun τ2 hgl h2 => ?_) hG3
    · have hv : vvs n t j = tb n t (bl n t ((PD n t j).1 + 1)) - 48 := by
        unfold vvs nxv
        rw [if_neg (by omega), if_pos hc]
      have hk : (kks n t j = 0 ∨ kks n t j = 1) ∧ lts (kks n t j) = tb n t (PD n t j).1 := by
        unfold kks nxk
        rw [if_neg (by omega)]
        rcases hc with w | w
        · rw [if_pos w, w]
          exact ⟨Or.inl rfl, rfl⟩
        · rw [if_neg (by omega), if_pos w, w]
          exact ⟨Or.inr rfl, rfl⟩
      refine fin τ2 _ _ (by omega) h2 (by rw [hers, if_pos hgl]) ?_ ?_ (Or.inl ⟨hk.1, by omega⟩) hk.2 hv
      · unfold nxp
        rw [if_neg (by omega), if_pos hc]
      · unfold nxd
        rw [if_neg (by omega), if_pos (by omega), hd]
    · exact finF τ2 0 _ _ h2 (by rw [hers, if_neg hgl])
  · have hs' := hsx s hs
    have hers : ers n t G j = (neN n t (bl n t ((PD n t j).1 + 1)) 99).elim (semi n t (bl n t (naN n t (bl n t ((PD n t j).1 + 1))))) some := by
      unfold ers er
      rw [if_neg (by omega), if_neg (by omega), if_pos z1]
    show vX3_readNumber ((99 : Nat) : Int) s _
    refine p_number ht hs' (by omega) (by omega) (fun τ2 q v hq hv hbad h2 => finF τ2 v _ q h2 (by rw [hers, neN_q hbad]; rfl)) (fun τ2 hdd hrg h2 => ?_)
    rw [ne_semi hdd hrg] at hers
    have hv9 := nvN_le hdd
    have hv : vvs n t j = (nvN n t (bl n t ((PD n t j).1 + 1)) : Int) := by
      unfold vvs nxv
      rw [if_neg (by omega), if_neg (by omega), if_pos z1]
    have hk : kks n t j = 2 := by
      unfold kks nxk
      rw [if_neg (by omega), if_neg (by omega), if_neg (by omega), if_pos z1]
    refine fin τ2 _ _ (by omega) h2 hers ?_ ?_ (Or.inr (Or.inl ⟨hk, by omega⟩)) (by rw [hk, z1]; rfl) hv
    · unfold nxp
      rw [if_neg (by omega), if_neg (by omega), if_pos z1]
    · unfold nxd
      rw [if_neg (by omega), if_pos (by omega), hd]
/-- a level reads its steps -/
theorem p_readSteps {RS : Int → xS → (xS → Prop) → Prop} (ht : TX σ n t) (hG : σ 1 7 = G ∧ rng G) (hG3 : G ≤ 3) (hlv : lv ≤ 2) (hRS : lv < 2 → RSc σ n t G (lv + 1) RS) : RSc σ n t G lv (vX3_readSteps RS) := by
  intro τ p j L Q h hok hp hd hp6 kF kG
  have htn := ht.1
  have hl := h.2.2.2.2.1
  unfold vX3_readSteps
  refine mu_of (fun a => ∃ (i : Nat) (ρ : xS), a = ((lv : Int), (i : Int), ρ) ∧ i ≤ 60 ∧ (FE σ n t G L.length ρ ∨ ∃ p' j' X, i ≤ j' ∧ GE σ n t G lv j L p' j' X ρ)) (fun a => 100 - a.2.1.toNat) ?_ _ ⟨0, τ, rfl, by omega, Or.inr ⟨p, j, [], by omega, hok, hp, hd, hp6, SG.nil, by rw [cap_nil hl]; exact h⟩⟩
  rintro K _ ⟨i, ρ, rfl, hi, hc⟩ hK
  unfold vX3_readSteps_2
  dsimp only
  rcases hc with hF | ⟨p', j', X, hij, hGE⟩
  · obtain ⟨a1, f, a3, a4, a5, a6, a7, a8, a9, a10⟩ := hF
    rw [a8.2.2.1]
    have hF : FE σ n t G L.length ρ := ⟨a1, f, a3, a4, a5, a6, a7, a8, a9, a10⟩
    exact ⟨⟨by omega, by omega⟩, fun _ => kF ρ hF, fun _ => ⟨⟨by omega, by omega⟩, fun _ => kF ρ hF, fun w => absurd w (by omega)⟩⟩
  · obtain ⟨g1, g2, g3, g4, g5, g6⟩ := hGE
    have hin := PD_in j' g1
    rw [g6.2.2.1]
    refine ⟨⟨by omega, by omega⟩, fun w => absurd w (by omega), fun _ => ⟨⟨by decide, by decide⟩, fun w => absurd rfl w, fun _ => p_isStep ht g6 (by omega) (fun τ1 hst h1 => ⟨⟨by decide, by decide⟩, fun w => absurd w (by decide), fun _ => ?_⟩) (fun τ1 hst h1 => ⟨rng0, fun _ => ?_, fun w => absurd rfl w⟩)⟩⟩
    · rw [g2] at hst h1
      refine p_readStep ht hG hG3 hlv hRS h1 g1 (PD_bl n t j') g3 (by omega) hst (fun τ2 h2 => ?_) (fun τ2 p2 j2 X2 hj2 ⟨k1, k2, k3, k4, k5, k6⟩ => ?_)
      · refine hK _ ⟨i + 1, τ2, rfl, by omega, Or.inl (h2.mono (cap_ge X hl))⟩ ?_
        show 100 - ((i : Int) + 1).toNat < 100 - (i : Int).toNat
        omega
      · refine hK _ ⟨i + 1, τ2, rfl, by omega, Or.inr ⟨p2, j2, X ++ X2, by omega, k1, k2, k3, k4, SG.app g5 k5, by rw [← cap_cap]; exact k6⟩⟩ ?_
        show 100 - ((i : Int) + 1).toNat < 100 - (i : Int).toNat
        omega
    · rw [g2] at hst h1
      exact kG τ1 _ j' X hst ⟨g1, PD_bl n t j', g3, by omega, g5, h1⟩
end
