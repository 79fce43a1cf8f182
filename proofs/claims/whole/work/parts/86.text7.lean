/-! the class reads a step -/
def stpc (c : Int) : Prop := c = 116 ∨ c = 107 ∨ c = 119 ∨ c = 101 ∨ isd c
def FE (σ : xS) (n : Nat) (t : Nat → Int) (G : Int) (l : Nat) (τ : xS) : Prop := ∃ (j f p : Nat) (L : ST), oks n t G j ∧ gos n t j ∧ ers n t G j = some f ∧ CS σ τ p (f : Int) L ∧ l ≤ L.length ∧ f ≤ 200
def GE (σ : xS) (n : Nat) (t : Nat → Int) (G : Int) (lv j : Nat) (L : ST) (p j' : Nat) (X : ST) (τ : xS) : Prop := oks n t G j' ∧ bl n t p = (PD n t j').1 ∧ (PD n t j').2 = lv ∧ p ≤ 60 ∧ SG n t G lv j j' X ∧ CS σ τ p (-1) (cap L X)
theorem cap_ge {L : ST} (X : ST) (h : L.length ≤ 100) : L.length ≤ (cap L X).length := by
  unfold cap
  rw [List.length_take, List.length_append]
  omega
section
variable {σ τ : xS} {n p j lv l : Nat} {t : Nat → Int} {G : Int} {L : ST}
theorem FE.mk' (ht : TX σ n t) {f : Nat} (h1 : oks n t G j) (h2 : gos n t j) (h3 : ers n t G j = some f) (h4 : CS σ τ p (f : Int) L) (h5 : l ≤ L.length) : FE σ n t G l τ :=
  ⟨j, f, p, L, h1, h2, h3, h4, h5, er_le ht.1 (by have := PD_in j h1; have := ht.1; omega) h3⟩
theorem FE.mono {l' : Nat} (h : FE σ n t G l τ) (hl : l' ≤ l) : FE σ n t G l' τ := by
  obtain ⟨j, f, p, L, h1, h2, h3, h4, h5, h6⟩ := h
  exact ⟨j, f, p, L, h1, h2, h3, h4, by omega, h6⟩
theorem FE.expect {Q : xS → Prop} {c : Int} (h : FE σ n t G l τ) (k : Q τ) : vX3_expect c τ Q := by
  obtain ⟨j, f, p, L, _, _, _, hc, _, hf⟩ := h
  exact p_expectf hc (by omega) k
theorem FE.repeat {Q : xS → Prop} {x v : Nat} (h : FE σ n t G l τ) (hx : x ≤ l) (hv : v ≤ 99) (k : ∀ τ', FE σ n t G l τ' → Q τ') : vX3_repeat (x : Int) (v : Int) τ Q := by
  obtain ⟨j, f, p, L, h1, h2, h3, h4, h5, h6⟩ := h
  exact p_repeat h4 (by omega) hv (fun τ' h' => k τ' ⟨j, f, p, _, h1, h2, h3, h', Nat.le_trans h5 (cap_ge _ h4.2.2.2.2.1), h6⟩)
theorem FE.rr59 {RS : Int → xS → (xS → Prop) → Prop} {Q : xS → Prop} {x v : Nat} (h : FE σ n t G l τ) (hx : x ≤ l) (hv : v ≤ 99) (k : ∀ τ', FE σ n t G l τ' → Q τ') : vX3_readRepeat_59 RS (fun s => vX3_expect 59 s Q) (v : Int) (x : Int) τ := by
  unfold vX3_readRepeat_59
  exact h.expect (h.repeat hx hv (fun τ' h' => h'.expect (k τ' h')))
theorem FE.rr33 {RS : Int → xS → (xS → Prop) → Prop} {Q : xS → Prop} {v : Nat} {lv : Int} (h : FE σ n t G l τ) (hv : v ≤ 99) (k : ∀ τ', FE σ n t G l τ' → Q τ') : vX3_readRepeat_33 RS (fun s => vX3_expect 59 s Q) lv (v : Int) τ := by
  unfold vX3_readRepeat_33
  obtain ⟨j, f, p, L, h1, h2, h3, h4, h5, h6⟩ := h
  refine p_expectf h4 (by omega) ?_
  rw [h4.2.2.1, h4.2.2.2.1]
  have hF : FE σ n t G L.length τ := ⟨j, f, p, L, h1, h2, h3, h4, Nat.le_refl _, h6⟩
  exact ⟨⟨by omega, by omega⟩, fun _ => hF.rr59 (Nat.le_refl _) hv (fun τ' h' => k τ' (h'.mono h5)), fun w => absurd w (by omega)⟩
theorem p_end {Q : xS → Prop} (ht : TX σ n t) (h : CS σ τ p (-1) L) (hp : p ≤ 200) (hok : oks n t G j) (hg : gos n t j) (he : ers n t G j = semi n t (bl n t p)) (hl : l ≤ L.length) (k1 : ∀ τ', FE σ n t G l τ' → Q τ') (k2 : ∀ τ', oks n t G (j + 1) → bl n t p + 1 ≤ 60 → CS σ τ' (bl n t p + 1) (-1) L → Q τ') : vX3_expect 59 τ Q := by
  have htn := ht.1
  refine p_expect ⟨by decide, by decide⟩ ht h (by omega) (fun τ' hc h' => k1 τ' ?_) (fun τ' hc h' => ?_)
  · exact FE.mk' ht hok hg (by rw [he]; unfold semi; rw [if_neg hc]) h' hl
  · have hn : semi n t (bl n t p) = none := by unfold semi; rw [if_pos hc]
    have := semi_lt hn
    exact k2 τ' (oks_s hok hg (he.trans hn)) (by omega) h'
theorem neN_q {p m : Nat} (h : ¬ isd (tb n t p) ∨ ¬ (1 ≤ nvN n t p ∧ nvN n t p ≤ m)) : neN n t p m = some p := by
  unfold neN
  by_cases h1 : isd (tb n t p)
  · rw [if_neg (fun w => w h1)]
    rcases h with h | h
    · exact absurd h1 h
    · rw [if_pos h]
  · rw [if_pos h1]
theorem bl_d {q : Nat} (h : isd (tb n t q)) : bl n t q = q := bl_0 (fun w => by unfold tb at h; rw [if_pos w.1, w.2] at h; omega)
theorem neN_ok {p m : Nat} (h1 : isd (tb n t p)) (h2 : 1 ≤ nvN n t p ∧ nvN n t p ≤ m) : neN n t p m = if isd (tb n t (naN n t p)) then some (naN n t p) else none := by
  unfold neN
  rw [if_neg (fun w => w h1), if_neg (fun w => w h2)]
theorem ne_semi {p m : Nat} (h1 : isd (tb n t p)) (h2 : 1 ≤ nvN n t p ∧ nvN n t p ≤ m) : (neN n t p m).elim (semi n t (bl n t (naN n t p))) some = semi n t (bl n t (naN n t p)) := by
  rw [neN_ok h1 h2]
  by_cases h : isd (tb n t (naN n t p))
  · rw [if_pos h, bl_d h]
    unfold semi
    rw [if_neg (by omega)]
    rfl
  · rw [if_neg h]
    rfl
theorem ne_open {p m d : Nat} (h1 : isd (tb n t p)) (h2 : 1 ≤ nvN n t p ∧ nvN n t p ≤ m) : (neN n t p m).elim (if tb n t (bl n t (naN n t p)) = 40 ∧ d < 2 then none else some (bl n t (naN n t p))) some = if tb n t (bl n t (naN n t p)) = 40 ∧ d < 2 then none else some (bl n t (naN n t p)) := by
  rw [neN_ok h1 h2]
  by_cases h : isd (tb n t (naN n t p))
  · rw [if_pos h, bl_d h, if_neg (by omega)]
    rfl
  · rw [if_neg h]
    rfl
theorem p_isStep {Q : Int → xS → Prop} {fl : Int} (ht : TX σ n t) (h : CS σ τ p fl L) (hp : p ≤ 900) (k1 : ∀ τ', stpc (tb n t (bl n t p)) → CS σ τ' (bl n t p) fl L → Q 1 τ') (k0 : ∀ τ', ¬ stpc (tb n t (bl n t p)) → CS σ τ' (bl n t p) fl L → Q 0 τ') : vX3_isStepAhead τ Q := by
  have hb := tb_in ht.2.2.2.2 (bl n t p)
  unfold vX3_isStepAhead
  refine p_peek ht h hp (fun τ1 h1 => ⟨⟨by omega, by omega⟩, fun z => k1 τ1 (Or.inl z) h1, fun z1 => ⟨fun z => k1 τ1 (Or.inr (Or.inl z)) h1, fun z2 => ⟨fun z => k1 τ1 (Or.inr (Or.inr (Or.inl z))) h1, fun z3 => ⟨fun z => k1 τ1 (Or.inr (Or.inr (Or.inr (Or.inl z)))) h1, fun z4 => p_isDigit ⟨by omega, by omega⟩ (fun hd => ⟨⟨by omega, by omega⟩, fun w => absurd w (by omega), fun _ => k1 τ1 (Or.inr (Or.inr (Or.inr (Or.inr hd)))) h1⟩) (fun hd => ⟨rng0, fun _ => k0 τ1 ?_ h1, fun w => absurd rfl w⟩)⟩⟩⟩⟩)
  rintro (w | w | w | w | w)
  · exact z1 w
  · exact z2 w
  · exact z3 w
  · exact z4 w
  · exact hd w
theorem p_readGlass {Q : Int → xS → Prop} (ht : TX σ n t) (hG : σ 1 7 = G ∧ rng G) (h : CS σ τ p (-1) L) (hp : p ≤ 900) (k1 : ∀ τ', (48 ≤ tb n t (bl n t p) ∧ tb n t (bl n t p) - 48 < G) → CS σ τ' (bl n t p + 1) (-1) L → Q (tb n t (bl n t p) - 48) τ') (k0 : ∀ τ', ¬ (48 ≤ tb n t (bl n t p) ∧ tb n t (bl n t p) - 48 < G) → CS σ τ' (bl n t p) (bl n t p : Int) L → Q 0 τ') (hG3 : G ≤ 3) : vX3_readGlass τ Q := by
  have hb := tb_in ht.2.2.2.2 (bl n t p)
  unfold vX3_readGlass
  refine p_peek ht h hp (fun τ1 h1 => ?_)
  have bad : ¬ (48 ≤ tb n t (bl n t p) ∧ tb n t (bl n t p) - 48 < G) → vX3_readGlass_23 Q τ1 := fun w => by
    unfold vX3_readGlass_23
    intro s hs
    rw [h1.2.1] at hs
    subst hs
    exact k0 _ w (h1.at6 _)
  have h17 : τ1 1 7 = G := (h1.1.2 7 (by omega) (by omega) (by omega)).trans hG.1
  refine p_isDigit ⟨by omega, by omega⟩ (fun hd => ⟨⟨by omega, by omega⟩, fun w => absurd w (by omega), fun _ => ⟨⟨by omega, by omega⟩, by rw [h17]; exact hG.2, fun w s hs => ?_, fun w => bad (by omega)⟩⟩) (fun hd => ⟨rng0, fun _ => bad (fun w => hd ⟨w.1, by omega⟩), fun w => absurd rfl w⟩)
  rw [h1.2.1] at hs
  subst hs
  exact k1 _ ⟨hd.1, by omega⟩ (h1.at5 _ (by rw [Int.natCast_add]; rfl))
end
