/-! the bound, shape by shape (printed by wip/whole/gen/bound.py) -/
noncomputable def f3 (a b c g : Nat) : Nat := Nat.rec (motive := fun _ => Nat) a (fun n _ => Nat.rec (motive := fun _ => Nat) b (fun _ _ => c) n) g
noncomputable def allB (p : Nat → Bool) (n : Nat) : Bool := Nat.rec (motive := fun _ => Bool) true (fun k a => Bool.rec (motive := fun _ => Bool) false a (p k)) n
theorem allB_t {p : Nat → Bool} : ∀ {n : Nat}, allB p n = true → ∀ k, k < n → p k = true
  | 0, _, k, hk => absurd hk (Nat.not_lt_zero k)
  | n + 1, h, k, hk => by
    have e : allB p (n + 1) = Bool.rec (motive := fun _ => Bool) false (allB p n) (p n) := rfl
    rw [e] at h
    cases hp : p n with
    | false =>
      rw [hp] at h
      exact absurd (show false = true from h) (by decide)
    | true =>
      rw [hp] at h
      have h' : allB p n = true := h
      by_cases hkn : k = n
      · rw [hkn, hp]
      · exact allB_t h' k (by omega)
/-- how many moments three glasses have -/
noncomputable def momB (a b c : Nat) : Nat := Nat.sub (Nat.mul (Nat.mul (a + 1) (b + 1)) (c + 1)) (Nat.mul (Nat.mul a b) c)
noncomputable def ckS (lim O L Fl M ex : Nat) (S : Nat → Nat) (a b c : Nat) : Bool := Bool.rec (motive := fun _ => Bool) (shB lim O L Fl (f3 a b c) S ex) true (Nat.ble (momB a b c) M)
theorem ckS_t {lim O L Fl M ex a b c : Nat} {S : Nat → Nat} (h : ckS lim O L Fl M ex S a b c = true) : momB a b c ≤ M ∨ shB lim O L Fl (f3 a b c) S ex = true := by
  unfold ckS at h
  rw [ble_dec] at h
  by_cases hm : momB a b c ≤ M
  · exact Or.inl hm
  · rw [show decide (momB a b c ≤ M) = false by simpa using hm] at h
    exact Or.inr h
