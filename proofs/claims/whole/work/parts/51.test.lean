noncomputable def f3 (a b c g : Nat) : Nat := Nat.rec (motive := fun _ => Nat) a (fun n _ => Nat.rec (motive := fun _ => Nat) b (fun _ _ => c) n) g
noncomputable def allB (p : Nat → Bool) (n : Nat) : Bool := Nat.rec (motive := fun _ => Bool) true (fun k a => Bool.rec (motive := fun _ => Bool) false a (p k)) n
theorem tst1 : allB (fun c => shB (f3 12 12 (c + 3)) (f3 0 0 2) true false true) 10 = true := by decide +kernel
