/-! the class runs what it has listed -/
theorem drop_at {X : ST} {i : Nat} (h : i < X.length) : X.drop i = X[i] :: X.drop (i + 1) := List.drop_eq_getElem_cons h
section
variable {σ s : xS} {b : xS} {T G : Int} {n : Nat} {t : Nat → Int} {X : ST}
theorem okRun {Q : Int → xS → Prop} (hi : pin T G 0 b) (hc : CB (σ 8) b) (hX : ∀ x, x ∈ X → vld G x) (h4 : σ 1 4 = ((cap [] X).length : Int)) (hL : ∀ i x, (cap [] X)[i]? = some x → σ 3 i = x.1 ∧ σ 4 i = x.2) (k : ∀ c, CB c (ev X 0 b).2.2 → pin T G (ev X 0 b).2.1 (ev X 0 b).2.2 → (ev X 0 b).2.1 ≤ 100 → Q ((ev X 0 b).2.1 : Int) (xset σ 8 c)) : mu (vX4_run_34 Q) (0, σ) := by
  have hlen : (cap [] X).length = min 100 X.length := by
    unfold cap
    rw [List.nil_append, List.length_take]
  refine mu_of (fun a => ∃ (i : Nat) (c : Nat → Int) (bi : xS), a = ((i : Int), xset σ 8 c) ∧ CB c bi ∧ pin T G i bi ∧ i ≤ (cap [] X).length ∧ ev X 0 b = ev (X.drop i) i bi) (fun a => 100 - a.1.toNat) ?_ _ ⟨0, σ 8, b, by rw [xset_self]; rfl, hc, hi, by omega, rfl⟩
  rintro K _ ⟨i, c, bi, rfl, hcb, hpi, hil, he⟩ hK
  unfold vX4_run_34 vX3_steps
  dsimp only
  rw [xset_ne (by omega), h4]
  refine ⟨⟨by omega, by omega⟩, ⟨by omega, by omega⟩, fun w => ?_, fun w => ?_⟩
  · have hend : (ev X 0 b).2 = (i, bi) := by
      rw [he]
      by_cases h : X.length ≤ i
      · rw [List.drop_of_length_le h]
        rfl
      · rw [drop_at (by omega)]
        show (if i = 100 then (false, i, bi) else _).2 = _
        rw [if_pos (by omega)]
    rw [hend] at k
    exact k c hcb hpi (by show i ≤ 100; omega)
  · have hiX : i < X.length := by omega
    have hat : (cap [] X)[i]? = some X[i] := by
      unfold cap
      rw [List.nil_append, List.getElem?_take, if_pos (by omega), List.getElem?_eq_getElem hiX]
    obtain ⟨g1, g2⟩ := hL i _ hat
    have hd := drop_at hiX
    have hev : ev X 0 b = (pf X[i] bi).elim (false, i, bi) (fun b' => ev (X.drop (i + 1)) (i + 1) b') := by
      rw [he, hd]
      show (if i = 100 then (false, i, bi) else _) = _
      rw [if_neg (by omega)]
    have hv := hX X[i] (List.getElem_mem hiX)
    have perf : vX4_perform (X[i]).1 (X[i]).2 (xset σ 8 c) (fun r10 σ11 => rng r10 ∧ ((r10 = 0 → Q (i : Int) σ11) ∧ (¬ r10 = 0 → K (((i : Int) + 1), σ11)))) := by
      refine okPerform hpi hv hcb (fun b' c' hp h' => ⟨⟨by decide, by decide⟩, fun w => absurd w (by decide), fun _ => ?_⟩) (fun hp => ⟨rng0, fun _ => ?_, fun w => absurd rfl w⟩)
      · refine hK _ ⟨i + 1, c', b', by rw [Int.natCast_succ], h', hpi.s hv hp, by omega, by rw [hev, hp]; rfl⟩ ?_
        show 100 - ((i : Int) + 1).toNat < 100 - (i : Int).toNat
        omega
      · have hend : (ev X 0 b).2 = (i, bi) := by rw [hev, hp]; rfl
        rw [hend] at k
        exact k c hcb hpi (by show i ≤ 100; omega)
    have a1 : (xset σ 8 c) 1 4 = ((cap [] X).length : Int) := by rw [xset_ne (by omega)]; exact h4
    have a2 : (xset σ 8 c) 3 i = (X[i]).1 := by rw [xset_ne (by omega)]; exact g1
    have a3 : (xset σ 8 c) 4 i = (X[i]).2 := by rw [xset_ne (by omega)]; exact g2
    have l1 : ∀ R : Int → xS → Prop, R (X[i]).1 (xset σ 8 c) → vX3_letter (i : Int) (xset σ 8 c) R := fun R hr => by
      unfold vX3_letter
      rw [a1, Int.toNat_natCast, a2]
      exact ⟨⟨by omega, by omega⟩, fun w => absurd w (by omega), fun _ => ⟨⟨by omega, by omega⟩, fun w2 => absurd w2 w, fun _ => ⟨⟨by omega, by omega⟩, hr⟩⟩⟩
    have l2 : ∀ R : Int → xS → Prop, R (X[i]).2 (xset σ 8 c) → vX3_number (i : Int) (xset σ 8 c) R := fun R hr => by
      unfold vX3_number
      rw [a1, Int.toNat_natCast, a3]
      exact ⟨⟨by omega, by omega⟩, fun w => absurd w (by omega), fun _ => ⟨⟨by omega, by omega⟩, fun w2 => absurd w2 w, fun _ => ⟨⟨by omega, by omega⟩, hr⟩⟩⟩
    exact l1 _ (l2 _ perf)
end
