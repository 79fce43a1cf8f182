/-! the reference reads a step -/
def FS (σ τ : xS) (f : Nat) : Prop := ∃ (p st : Nat) (dp : Int) (A B : Nat → Int), MS σ τ p (f : Int) st dp A B
theorem neN_le {n : Nat} {t : Nat → Int} {p m f : Nat} (h : neN n t p m = some f) : f ≤ p + 2 := by
  have hn := naN_is n t p
  unfold neN at h
  split at h
  · have : p = f := by simpa using h
    omega
  · split at h
    · have : p = f := by simpa using h
      omega
    · split at h
      · have : naN n t p = f := by simpa using h
        omega
      · exact absurd h (by simp)
section
variable {σ τ : xS} {n p st d : Nat} {t : Nat → Int} {fl dp : Int} {A B : Nat → Int} {b : xS} {T : Int}
theorem q_semi {Q : xS → Prop} (ht : TX σ n t) (h : MS σ τ p (-1) st dp A B) (hp : p ≤ 400) (k1 : ∀ τ' f, semi n t p = some f → FS σ τ' f → Q τ') (k2 : ∀ τ', semi n t p = none → MS σ τ' (bl n t (p + 1)) (-1) st dp A B → Q τ') : vX5_next τ (fun r s => rng r ∧ ((¬ r = 59 → vX5_needs 0 s (fun s => Q s)) ∧ (r = 59 → vX5_needs 1 s (fun s => Q s)))) := by
  have hb := tb_in ht.2.2.2.2 p
  refine q_next ht h (by omega) ⟨⟨by omega, by omega⟩, fun z => ?_, fun z => ?_⟩
  · refine q_needs ht h ⟨by decide, by decide⟩ (by omega) rng0 (fun τ' p' _ h' _ => k1 τ' p (by unfold semi; rw [if_neg z]) ⟨p', st, dp, A, B, ?_⟩)
    rw [if_pos rfl, if_pos rfl] at h'
    exact h'
  · refine q_needs ht h ⟨by decide, by decide⟩ (by omega) ⟨by decide, by decide⟩ (fun τ' p' _ h' hp' => k2 τ' (by unfold semi; rw [if_pos z]) ?_)
    rw [if_pos rfl, if_neg (by omega)] at h'
    rw [← hp' rfl (by omega)]
    exact h'
theorem q_semi_f {Q : xS → Prop} {f : Nat} (ht : TX σ n t) (h : MS σ τ p (f : Int) st dp A B) (hp : p ≤ 700) (hf : f ≤ 1000) (k : ∀ τ', FS σ τ' f → Q τ') : vX5_next τ (fun r s => rng r ∧ ((¬ r = 59 → vX5_needs 0 s (fun s => Q s)) ∧ (r = 59 → vX5_needs 1 s (fun s => Q s)))) := by
  have hb := tb_in ht.2.2.2.2 p
  refine q_next ht h (by omega) ⟨⟨by omega, by omega⟩, fun z => ?_, fun z => ?_⟩
  · refine q_needs ht h ⟨by omega, by omega⟩ (by omega) rng0 (fun τ' p' _ h' _ => k τ' ⟨p', st, dp, A, B, ?_⟩)
    rw [if_neg (by omega)] at h'
    exact h'
  · refine q_needs ht h ⟨by omega, by omega⟩ (by omega) ⟨by decide, by decide⟩ (fun τ' p' _ h' _ => k τ' ⟨p', st, dp, A, B, ?_⟩)
    rw [if_neg (by omega)] at h'
    exact h'
theorem q_198f {Q : xS → Prop} {f : Nat} {y : Int} (ht : TX σ n t) (h : MS σ τ p (f : Int) st dp A B) (hp : p ≤ 700) (hf : f ≤ 1000) (hy : rng y) (k : ∀ τ', FS σ τ' f → Q τ') : vX5_readsStep_198 Q y τ := by
  unfold vX5_readsStep_198
  refine q_needs ht h ⟨by omega, by omega⟩ (by omega) hy (fun τ' p' _ h' _ s hs => k s ?_)
  rw [if_neg (by omega)] at h'
  subst hs
  exact ⟨p', st, _, A, B, h'.at11 _⟩
theorem q_198b {Q : xS → Prop} (ht : TX σ n t) (h : MS σ τ p (-1) st dp A B) (hp : p ≤ 700) (k : ∀ τ', FS σ τ' p → Q τ') : vX5_readsStep_198 Q 0 τ := by
  unfold vX5_readsStep_198
  refine q_needs ht h ⟨by decide, by decide⟩ (by omega) rng0 (fun τ' p' _ h' _ s hs => k s ?_)
  rw [if_pos rfl, if_pos rfl] at h'
  subst hs
  exact ⟨p', st, _, A, B, h'.at11 _⟩
theorem q_tk {Q : xS → Prop} (hw : WFt T b) (hm : MB (σ 21) b) (ht : TX σ n t) (h : MS σ τ p (-1) st dp A B) (hp : p ≤ 60) (hst : st < 60) {r : Int} (hr : r = 116 ∨ r = 107) (k1 : ∀ τ' f, (if 48 ≤ tb n t (bl n t (p + 1)) ∧ tb n t (bl n t (p + 1)) - 48 < b 3 0 then semi n t (bl n t (bl n t (p + 1) + 1)) else some (bl n t (p + 1))) = some f → FS σ τ' f → Q τ') (k2 : ∀ τ', (48 ≤ tb n t (bl n t (p + 1)) ∧ tb n t (bl n t (p + 1)) - 48 < b 3 0) → semi n t (bl n t (bl n t (p + 1) + 1)) = none → MS σ τ' (bl n t (bl n t (bl n t (p + 1) + 1) + 1)) (-1) (st + 1) dp (cu A st (if r = 116 then 0 else 1)) (cu B st (tb n t (bl n t (p + 1)) - 48)) → Q τ') : vX5_readsStep_17 Q r τ := by
  have htn := ht.1
  have hb1 := bl_is n t (p + 1)
  have hb2 := bl_is n t (bl n t (p + 1) + 1)
  have hc := tb_in ht.2.2.2.2 (bl n t (p + 1))
  unfold vX5_readsStep_17
  refine q_needs ht h ⟨by decide, by decide⟩ (by omega) ⟨by decide, by decide⟩ (fun τ1 p1 _ h1 e1 => ?_)
  rw [if_pos rfl, if_neg (by omega)] at h1
  obtain rfl := e1 rfl (by omega)
  refine q_next ht h1 (by omega) ?_
  have hmm : MB (τ1 21) b := by rw [h1.1.1 21 (by omega) (by omega) (by omega)]; exact hm
  refine mkIs' hw ⟨by omega, by omega⟩ hmm (fun i hi hin => ?_) (fun z => ?_)
  · have hc1 : 48 ≤ tb n t (bl n t (p + 1)) ∧ tb n t (bl n t (p + 1)) - 48 < b 3 0 := by omega
    rw [if_pos hc1] at k1
    refine q_needs ht h1 ⟨by decide, by decide⟩ (by omega) ⟨by decide, by decide⟩ (fun τ2 p2 _ h2 e2 => ?_)
    rw [if_pos rfl, if_neg (by omega)] at h2
    obtain rfl := e2 rfl (by omega)
    have fin : ∀ kind, kind = (if r = 116 then 0 else 1) → vX5_readsStep_51 Q (tb n t (bl n t (p + 1)) - 48) kind τ2 := fun kind hk => by
      unfold vX5_readsStep_51
      refine q_adds h2 hst (fun τ3 h3 => q_semi ht h3 (by omega) k1 (fun τ4 hs h4 => k2 τ4 hc1 hs ?_))
      rw [← hk]
      exact h4
    refine ⟨⟨by omega, by omega⟩, fun z => fin 1 ?_, fun z => fin 0 ?_⟩
    · rw [if_neg z]
    · rw [if_pos z]
  · have hc1 : ¬ (48 ≤ tb n t (bl n t (p + 1)) ∧ tb n t (bl n t (p + 1)) - 48 < b 3 0) := by omega
    rw [if_neg hc1] at k1
    refine q_needs ht h1 ⟨by decide, by decide⟩ (by omega) rng0 (fun τ2 p2 hp2 h2 _ => ?_)
    rw [if_pos rfl, if_pos rfl] at h2
    have fin : ∀ kind, vX5_readsStep_51 Q (tb n t (bl n t (p + 1)) - 48) kind τ2 := fun kind => by
      unfold vX5_readsStep_51
      exact q_adds h2 hst (fun τ3 h3 => q_semi_f ht h3 (by omega) (by omega) (fun τ4 h4 => k1 τ4 _ rfl h4))
    exact ⟨⟨by omega, by omega⟩, fun z => fin 1, fun z => fin 0⟩
theorem q_readsStep {Q : xS → Prop} (hw : WFt T b) (hm : MB (σ 21) b) (ht : TX σ n t) (h : MS σ τ p (-1) st (d : Int) A B) (hp : p ≤ 60) (hst : st < 60) (hd2 : d ≤ 2) (h41 : ¬ (tb n t p = 41 ∧ 0 < d)) (k1 : ∀ τ' f, er n t (b 3 0) p d = some f → FS σ τ' f → Q τ') (k2 : ∀ τ', er n t (b 3 0) p d = none → MS σ τ' (nxp n t p d) (-1) (st + 1) (nxd n t p d : Int) (cu A st (nxk n t p d)) (cu B st (nxv n t p d)) → Q τ') : vX5_readsStep τ Q := by
  have htn := ht.1
  have hb := tb_in ht.2.2.2.2 p
  have hb1 := bl_is n t (p + 1)
  unfold er at k1 k2
  unfold nxp nxd nxk nxv at k2
  rw [if_neg h41] at k1
  rw [if_neg h41, if_neg h41, if_neg h41, if_neg h41, if_neg h41] at k2
  unfold vX5_readsStep
  refine q_next ht h (by omega) ⟨⟨by omega, by omega⟩, fun z => ?_, fun z1 => ⟨fun z2 => ⟨fun z3 => ⟨fun z4 => ?_, fun z => ?_⟩, fun z => ?_⟩, fun z => ?_⟩⟩
  · rw [if_pos (Or.inl z)] at k1
    rw [if_pos (Or.inl z), if_pos (Or.inl z), if_pos (Or.inl z), if_pos z, if_pos (Or.inl z)] at k2
    refine q_tk hw hm ht h hp hst (Or.inl z) k1 (fun τ' c1 c2 h' => k2 τ' ?_ ?_)
    · rw [if_pos c1]; exact c2
    · rw [if_pos z] at h'; exact h'
  · have c1 : ¬ (tb n t p = 116 ∨ tb n t p = 107) := by omega
    have c2 : ¬ (tb n t p = 116 ∨ tb n t p = 107 ∨ tb n t p = 119 ∨ tb n t p = 101) := by omega
    rw [if_neg c1, if_neg z3, if_neg z4] at k1
    rw [if_neg c1, if_neg c1, if_neg c2, if_neg z1, if_neg c1, if_neg z3, if_neg z4, if_neg z3, if_neg z4, if_neg z2, if_neg z3, if_neg z4, if_neg z3, if_neg z4] at k2
    refine q_isDigit ht h (by omega) (fun hd => ⟨⟨by omega, by omega⟩, fun w => absurd w (by omega), fun _ => ?_⟩) (fun hd => ⟨rng0, fun _ => ?_, fun w => absurd rfl w⟩)
    · rw [if_pos hd] at k1 k2
      show vX5_number ((20 : Nat) : Int) τ _
      have hnl := naN_is n t p
      have hbn := bl_is n t (naN n t p)
      refine q_number ht h (by omega) (by omega) (fun τ1 p1 v hp1 hv hf hno => ?_)
      cases hne : neN n t p 20 with
      | some f =>
        have hfl := neN_le hne
        rw [hne] at k1
        refine q_adds (hf f hne) hst (fun τ2 h2 => ?_)
        have hb2 := tb_in ht.2.2.2.2 p1
        have go : ∀ y, rng y → vX5_readsStep_198 Q y τ2 := fun y hy => q_198f ht h2 (by omega) (by omega) hy (fun τ' h' => k1 τ' f rfl h')
        refine q_next ht h2 (by omega) ⟨⟨by omega, by omega⟩, fun _ => go 0 rng0, fun _ => ⟨?_, fun _ => go 0 rng0, fun _ => go 1 ⟨by decide, by decide⟩⟩⟩
        rw [h2.2.2.2.2.1]
        exact ⟨by omega, by omega⟩
      | none =>
        rw [hne] at k1 k2
        obtain ⟨h1, hv1, rfl⟩ := hno hne
        refine q_adds h1 hst (fun τ2 h2 => ?_)
        have hb2 := tb_in ht.2.2.2.2 (bl n t (naN n t p))
        have bad : ¬ (tb n t (bl n t (naN n t p)) = 40 ∧ d < 2) → vX5_readsStep_197 Q τ2 := fun c => by
          unfold vX5_readsStep_197
          refine q_198b ht h2 (by omega) (fun τ' h' => k1 τ' _ ?_ h')
          show (if _ then none else _) = _
          rw [if_neg c]
        refine q_next ht h2 (by omega) ⟨⟨by omega, by omega⟩, fun w => bad (fun c => w c.1), fun w => ⟨?_, fun w2 => bad (fun c => ?_), fun w2 => ?_⟩⟩
        · rw [h2.2.2.2.2.1]
          exact ⟨by omega, by omega⟩
        · rw [h2.2.2.2.2.1] at w2
          omega
        · rw [h2.2.2.2.2.1] at w2
          unfold vX5_readsStep_198
          refine q_needs ht h2 ⟨by decide, by decide⟩ (by omega) ⟨by decide, by decide⟩ (fun τ3 p3 _ h3 e3 s hs => k2 s ?_ ?_)
          · show (if _ then none else _) = _
            rw [if_pos ⟨w, by omega⟩]
          · rw [if_pos rfl, if_neg (by omega)] at h3
            obtain rfl := e3 rfl (by omega)
            subst hs
            rw [h3.2.2.2.2.1, ← hv1]
            exact h3.at11 _
    · rw [if_neg hd] at k1
      rw [h.2.1]
      refine q_fails h ⟨by decide, by decide⟩ (fun τ' h' => k1 τ' p rfl ⟨p, st, (d : Int), A, B, ?_⟩)
      rw [if_pos rfl] at h'
      exact h'
  · have c1 : ¬ (tb n t p = 116 ∨ tb n t p = 107) := by omega
    have c2 : (tb n t p = 116 ∨ tb n t p = 107 ∨ tb n t p = 119 ∨ tb n t p = 101) := by omega
    rw [if_neg c1, if_neg z3, if_pos z] at k1
    rw [if_neg c1, if_neg c1, if_pos c2, if_neg z1, if_neg c1, if_neg z3, if_pos z, if_neg z3, if_pos z, if_neg z2, if_neg z3, if_pos z, if_neg z3, if_pos z] at k2
    refine q_needs ht h ⟨by decide, by decide⟩ (by omega) ⟨by decide, by decide⟩ (fun τ1 p1 _ h1 e1 => ?_)
    rw [if_pos rfl, if_neg (by omega)] at h1
    obtain rfl := e1 rfl (by omega)
    exact q_adds h1 hst (fun τ2 h2 => q_semi ht h2 (by omega) k1 (fun τ3 hs h3 => k2 τ3 hs h3))
  · have c1 : ¬ (tb n t p = 116 ∨ tb n t p = 107) := by omega
    have c2 : (tb n t p = 116 ∨ tb n t p = 107 ∨ tb n t p = 119 ∨ tb n t p = 101) := by omega
    rw [if_neg c1, if_pos z] at k1
    rw [if_neg c1, if_neg c1, if_pos c2, if_neg z1, if_neg c1, if_pos z, if_pos z, if_neg z2, if_pos z, if_pos z] at k2
    refine q_needs ht h ⟨by decide, by decide⟩ (by omega) ⟨by decide, by decide⟩ (fun τ1 p1 _ h1 e1 => ?_)
    rw [if_pos rfl, if_neg (by omega)] at h1
    obtain rfl := e1 rfl (by omega)
    show vX5_number ((99 : Nat) : Int) τ1 _
    have hnl := naN_is n t (bl n t (p + 1))
    have hbn := bl_is n t (naN n t (bl n t (p + 1)))
    refine q_number ht h1 (by omega) (by omega) (fun τ2 p2 v hp2 hv hf hno => ?_)
    cases hne : neN n t (bl n t (p + 1)) 99 with
    | some f =>
      have hfl := neN_le hne
      rw [hne] at k1
      exact q_adds (hf f hne) hst (fun τ3 h3 => q_semi_f ht h3 (by omega) (by omega) (fun τ4 h4 => k1 τ4 f rfl h4))
    | none =>
      rw [hne] at k1 k2
      obtain ⟨h2, hv1, rfl⟩ := hno hne
      refine q_adds h2 hst (fun τ3 h3 => q_semi ht h3 (by omega) k1 (fun τ4 hs h4 => k2 τ4 hs ?_))
      rw [← hv1]
      exact h4
  · have c1 : (tb n t p = 116 ∨ tb n t p = 107) := Or.inr z
    have c2 : (tb n t p = 116 ∨ tb n t p = 107 ∨ tb n t p = 119 ∨ tb n t p = 101) := by omega
    rw [if_pos c1] at k1
    rw [if_pos c1, if_pos c1, if_pos c2, if_neg z1, if_pos z, if_pos c1] at k2
    refine q_tk hw hm ht h hp hst (Or.inr z) k1 (fun τ' d1 d2 h' => k2 τ' ?_ ?_)
    · rw [if_pos d1]; exact d2
    · rw [if_neg z1] at h'; exact h'
end
