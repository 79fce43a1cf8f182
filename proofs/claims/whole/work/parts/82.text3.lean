/-! the steps in a row -/
def PD (n : Nat) (t : Nat → Int) : Nat → Nat × Nat
  | 0 => (bl n t 0, 0)
  | j + 1 => (nxp n t (PD n t j).1 (PD n t j).2, nxd n t (PD n t j).1 (PD n t j).2)
def gos (n : Nat) (t : Nat → Int) (j : Nat) : Prop := (PD n t j).1 < n ∨ 0 < (PD n t j).2
def ers (n : Nat) (t : Nat → Int) (G : Int) (j : Nat) : Option Nat := er n t G (PD n t j).1 (PD n t j).2
def kks (n : Nat) (t : Nat → Int) (j : Nat) : Int := nxk n t (PD n t j).1 (PD n t j).2
def vvs (n : Nat) (t : Nat → Int) (j : Nat) : Int := nxv n t (PD n t j).1 (PD n t j).2
def oks (n : Nat) (t : Nat → Int) (G : Int) (j : Nat) : Prop := ∀ i, i < j → gos n t i ∧ ers n t G i = none
/-- where the reading ends, and its fault -/
def RD (n : Nat) (t : Nat → Int) (G : Int) (j : Nat) (fl : Int) : Prop := oks n t G j ∧ ((¬ gos n t j ∧ fl = -1) ∨ (gos n t j ∧ ∃ f : Nat, ers n t G j = some f ∧ fl = (f : Int)))
theorem RD.uniq {n : Nat} {t : Nat → Int} {G : Int} {j j' : Nat} {fl fl' : Int} (h : RD n t G j fl) (h' : RD n t G j' fl') : j = j' ∧ fl = fl' := by
  have no : ∀ {a c : Nat} {x y : Int}, RD n t G a x → RD n t G c y → ¬ a < c := fun ha hc hlt => by
    obtain ⟨g1, g2⟩ := hc.1 _ hlt
    rcases ha.2 with w | ⟨_, f, w, _⟩
    · exact w.1 g1
    · rw [w] at g2
      exact absurd g2 (by simp)
  have e : j = j' := by
    have := no h h'
    have := no h' h
    omega
  subst e
  refine ⟨rfl, ?_⟩
  rcases h.2 with w | ⟨w1, f, w2, w3⟩
  · rcases h'.2 with v | v
    · rw [w.2, v.2]
    · exact absurd v.1 w.1
  · rcases h'.2 with v | ⟨v1, f', v2, v3⟩
    · exact absurd w1 v.1
    · rw [w2] at v2
      have : f = f' := by simpa using v2
      rw [w3, v3, this]
theorem semi_lt {n : Nat} {t : Nat → Int} {q : Nat} (h : semi n t q = none) : q < n := by
  unfold semi at h
  split at h
  · rename_i z
    unfold tb at z
    split at z
    · assumption
    · omega
  · exact absurd h (by simp)
theorem nxp_le {n : Nat} {t : Nat → Int} {G : Int} {p d : Nat} (h : er n t G p d = none) : nxp n t p d ≤ n := by
  have fin : ∀ q, q < n → bl n t (q + 1) ≤ n := fun q hq => by
    have := bl_is n t (q + 1)
    omega
  unfold er at h
  unfold nxp
  by_cases h1 : tb n t p = 41 ∧ 0 < d
  · rw [if_pos h1] at h ⊢
    exact fin _ (semi_lt h)
  · rw [if_neg h1] at h ⊢
    by_cases h2 : tb n t p = 116 ∨ tb n t p = 107
    · rw [if_pos h2] at h ⊢
      split at h
      · exact fin _ (semi_lt h)
      · exact absurd h (by simp)
    · rw [if_neg h2] at h ⊢
      by_cases h3 : tb n t p = 119
      · rw [if_pos h3] at h ⊢
        cases hn : neN n t (bl n t (p + 1)) 99 with
        | some f => rw [hn] at h; exact absurd h (by simp)
        | none => rw [hn] at h; exact fin _ (semi_lt h)
      · rw [if_neg h3] at h ⊢
        by_cases h4 : tb n t p = 101
        · rw [if_pos h4] at h ⊢
          exact fin _ (semi_lt h)
        · rw [if_neg h4] at h ⊢
          by_cases h5 : isd (tb n t p)
          · rw [if_pos h5] at h
            cases hn : neN n t p 20 with
            | some f => rw [hn] at h; exact absurd h (by simp)
            | none =>
              rw [hn] at h
              have h' : (if tb n t (bl n t (naN n t p)) = 40 ∧ d < 2 then none else some (bl n t (naN n t p))) = (none : Option Nat) := h
              split at h'
              · rename_i z
                refine fin _ ?_
                have z1 := z.1
                unfold tb at z1
                split at z1
                · assumption
                · omega
              · exact absurd h' (by simp)
          · rw [if_neg h5] at h
            exact absurd h (by simp)
theorem nxd_le {n : Nat} {t : Nat → Int} {G : Int} {p d : Nat} (hd : d ≤ 2) (h : er n t G p d = none) : nxd n t p d ≤ 2 := by
  unfold er at h
  unfold nxd
  by_cases h1 : tb n t p = 41 ∧ 0 < d
  · rw [if_pos h1]
    omega
  · rw [if_neg h1] at h ⊢
    by_cases h2 : tb n t p = 116 ∨ tb n t p = 107 ∨ tb n t p = 119 ∨ tb n t p = 101
    · rw [if_pos h2]
      exact hd
    · rw [if_neg h2]
      rw [if_neg (by omega), if_neg (by omega), if_neg (by omega)] at h
      by_cases h5 : isd (tb n t p)
      · rw [if_pos h5] at h
        cases hn : neN n t p 20 with
        | some f => rw [hn] at h; exact absurd h (by simp)
        | none =>
          rw [hn] at h
          have h' : (if tb n t (bl n t (naN n t p)) = 40 ∧ d < 2 then none else some (bl n t (naN n t p))) = (none : Option Nat) := h
          split at h'
          · omega
          · exact absurd h' (by simp)
      · rw [if_neg h5] at h
        exact absurd h (by simp)
theorem nxp_bl (n : Nat) (t : Nat → Int) (p d : Nat) : bl n t (nxp n t p d) = nxp n t p d := by
  unfold nxp
  split
  · exact bl_bl ..
  · split
    · exact bl_bl ..
    · split
      · exact bl_bl ..
      · split <;> exact bl_bl ..
theorem PD_bl (n : Nat) (t : Nat → Int) : ∀ j, bl n t (PD n t j).1 = (PD n t j).1
  | 0 => bl_bl ..
  | j + 1 => nxp_bl ..
theorem PD_in {n : Nat} {t : Nat → Int} {G : Int} : ∀ j, oks n t G j → (PD n t j).1 ≤ n ∧ (PD n t j).2 ≤ 2 ∧ 2 * j ≤ (PD n t j).1
  | 0, _ => ⟨by have := bl_is n t 0; show bl n t 0 ≤ n; omega, by show 0 ≤ 2; omega, by omega⟩
  | j + 1, h => by
    obtain ⟨h1, h2, h3⟩ := PD_in j (fun i hi => h i (by omega))
    have he := (h j (by omega)).2
    have hg := nxp_gt n t (PD n t j).1 (PD n t j).2
    exact ⟨nxp_le he, nxd_le h2 he, by show 2 * (j + 1) ≤ nxp n t (PD n t j).1 (PD n t j).2; omega⟩
theorem oks_s {n : Nat} {t : Nat → Int} {G : Int} {j : Nat} (h : oks n t G j) (h1 : gos n t j) (h2 : ers n t G j = none) : oks n t G (j + 1) := fun i hi => by
  by_cases w : i = j
  · subst w
    exact ⟨h1, h2⟩
  · exact h i (by omega)
theorem er_le {n : Nat} {t : Nat → Int} {G : Int} {p d f : Nat} (hn : n ≤ 60) (hp : p ≤ 60) (h : er n t G p d = some f) : f ≤ 200 := by
  have h1 := bl_is n t (p + 1)
  have h2 := bl_is n t (bl n t (p + 1) + 1)
  have h4 := naN_is n t (bl n t (p + 1))
  have h5 := bl_is n t (naN n t (bl n t (p + 1)))
  have h7 := naN_is n t p
  have h8 := bl_is n t (naN n t p)
  have hs : ∀ q, semi n t q = some f → f = q := fun q w => by
    unfold semi at w
    split at w
    · exact absurd w (by simp)
    · have : q = f := by simpa using w
      omega
  have hso : ∀ q, some q = some f → f = q := fun q w => by
    have : q = f := by simpa using w
    omega
  unfold er at h
  split at h
  · have := hs _ h
    omega
  · split at h
    · split at h
      · have := hs _ h
        omega
      · have := hso _ h
        omega
    · split at h
      · cases hn : neN n t (bl n t (p + 1)) 99 with
        | some f' =>
          rw [hn] at h
          have := neN_le hn
          have := hso _ h
          omega
        | none =>
          rw [hn] at h
          have := hs _ h
          omega
      · split at h
        · have := hs _ h
          omega
        · split at h
          · cases hn : neN n t p 20 with
            | some f' =>
              rw [hn] at h
              have := neN_le hn
              have := hso _ h
              omega
            | none =>
              rw [hn] at h
              have h' : (if tb n t (bl n t (naN n t p)) = 40 ∧ d < 2 then none else some (bl n t (naN n t p))) = some f := h
              split at h'
              · exact absurd h' (by simp)
              · have := hso _ h'
                omega
          · have := hso _ h
            omega
