/-! each step keeps the relation -/
theorem MT.congr {σ σ' : xS} (h : MT σ) (h29 : σ' 29 = σ 29) (h30 : σ' 30 = σ 30) (h20 : σ' 20 16 = σ 20 16) : MT σ' := by
  unfold MT at h ⊢
  rw [h29, h30, h20]
  exact h
theorem TX.congr {σ σ' : xS} {n : Nat} {t : Nat → Int} (h : TX σ n t) (h1 : σ' 1 = σ 1) (h2 : σ' 2 = σ 2) (h24 : σ' 24 = σ 24) (h20 : σ' 20 5 = σ 20 5) : TX σ' n t := by
  unfold TX at h ⊢
  rw [h1, h2, h24, h20]
  exact h
section
variable {i : Int} {P : Bool} {σ σ' b : xS} {d : Nat} {H : Nat → xS} {n : Nat} {t : Nat → Int}
theorem REL.same (h : KB (25 * i) σ b d H) (ht : TX σ n t) (hp : P = true → PCl σ) (hm : MT σ) : REL (i + 4) P σ := by
  obtain ⟨b', d', H', h'⟩ := h.x (T' := 25 * (i + 4)) (by omega)
  exact ⟨b', d', H', n, t, h', ht, hp, hm⟩
theorem REL.fr (ht : TX σ n t) (hp : P = true → PCl σ) (hm : MT σ) (hk : KBx (25 * i + 100) σ') (hf : Fr σ σ') : REL (i + 4) P σ' := by
  obtain ⟨b', d', H', h'⟩ := hk
  obtain ⟨f1, f2⟩ := hf
  rw [show 25 * i + 100 = 25 * (i + 4) by omega] at h'
  have g : ∀ r, r < 5 ∨ r = 7 ∨ (9 ≤ r ∧ r < 20) ∨ 24 ≤ r → σ' r = σ r := fun r hr => f1 r (by omega) (by omega) (by omega) (by omega) (by omega) (by omega) (by omega)
  exact ⟨b', d', H', n, t, h', ht.congr (g 1 (by omega)) (g 2 (by omega)) (g 24 (by omega)) (f2 5 (by omega)), fun w => (hp w).congr (fun r a1 a2 => g r (by omega)), hm.congr (g 29 (by omega)) (g 30 (by omega)) (f2 16 (by omega))⟩
theorem REL.ft (h : KB (25 * i) σ b d H) (hp : P = true → PCl σ) (hm : MT σ) (hk : TXx σ') (hf : Ft σ σ') : REL (i + 4) P σ' := by
  obtain ⟨n', t', ht'⟩ := hk
  obtain ⟨f1, f2⟩ := hf
  have g : ∀ r, r = 0 ∨ (5 ≤ r ∧ r < 20) ∨ (21 ≤ r ∧ r < 24) ∨ 27 ≤ r → σ' r = σ r := fun r hr => f1 r (by omega) (by omega) (by omega) (by omega) (by omega) (by omega) (by omega) (by omega)
  obtain ⟨b', d', H', h'⟩ := (h.fr (g 8 (by omega)) (g 21 (by omega)) (g 5 (by omega)) (g 6 (by omega)) (g 22 (by omega)) (f2 3 (by omega) (by omega) (by omega) (by omega) (by omega))).x (T' := 25 * (i + 4)) (by omega)
  exact ⟨b', d', H', n', t', h', ht', fun w => (hp w).congr (fun r a1 a2 => g r (by omega)), hm.congr (g 29 (by omega)) (g 30 (by omega)) (f2 16 (by omega) (by omega) (by omega) (by omega) (by omega))⟩
theorem REL.fs (hp : P = true → PCl σ) (hm : MT σ) (hk : KBx (25 * i + 100) σ') (hx : TXx σ') (hf : Fscr σ σ') : REL (i + 4) P σ' := by
  obtain ⟨b', d', H', h'⟩ := hk
  obtain ⟨n', t', ht'⟩ := hx
  obtain ⟨f1, f2⟩ := hf
  rw [show 25 * i + 100 = 25 * (i + 4) by omega] at h'
  have g : ∀ r, (9 ≤ r ∧ r < 20) ∨ 29 ≤ r → σ' r = σ r := fun r hr => f1 r (by omega) (by omega) (by omega) (by omega) (by omega) (by omega) (by omega) (by omega) (by omega) (by omega) (by omega) (by omega) (by omega) (by omega)
  exact ⟨b', d', H', n', t', h', ht', fun w => (hp w).congr (fun r a1 a2 => g r (by omega)), hm.congr (g 29 (by omega)) (g 30 (by omega)) (f2 16 (by omega) (by omega) (by omega) (by omega) (by omega))⟩
theorem REL.fp (h : KB (25 * i) σ b d H) (ht : TX σ n t) (hf : Fpl σ σ') (hp : PCl σ') (hm : MT σ') : REL (i + 4) true σ' := by
  obtain ⟨f1, f2⟩ := hf
  have g : ∀ r, r < 9 ∨ (15 ≤ r ∧ r < 20) ∨ (21 ≤ r ∧ r < 29) → σ' r = σ r := fun r hr => f1 r (by omega) (by omega) (by omega) (by omega) (by omega) (by omega) (by omega)
  exact REL.same (h.fr (g 8 (by omega)) (g 21 (by omega)) (g 5 (by omega)) (g 6 (by omega)) (g 22 (by omega)) (f2 3 (by omega) (by omega) (by omega))) (ht.congr (g 1 (by omega)) (g 2 (by omega)) (g 24 (by omega)) (f2 5 (by omega) (by omega) (by omega))) (fun _ => hp) hm
end
theorem REL.step : ∀ (i : Int) (P : Bool) (k a b c : Int) (σ : xS), 0 ≤ i → i + 4 ≤ 2048 → rng k → rng a → rng b → rng c → REL i P σ → NRx σ → lawS P k a b c σ (REL (i + 4)) := by
  intro i P k x y z σ hi0 hi1 hk hx hy hz ⟨b, d, H, n, t, h, ht, hp, hm⟩ hn
  have s0 : REL (i + 4) P σ := REL.same h ht hp hm
  unfold lawS
  refine ⟨fun _ => s0, ?_⟩
  refine ⟨fun _ => hs0 ht hx (fun σ' hk' hf' => REL.ft h hp hm hk' hf'), ?_⟩
  refine ⟨fun _ => hs1 ht (fun σ' hk' hf' => REL.ft h hp hm hk' hf'), ?_⟩
  refine ⟨fun _ => hs2 h ht (fun σ' hk' hf' => REL.ft h hp hm hk' hf'), ?_⟩
  refine ⟨fun _ => hs3 h hx (fun σ' hk' hf' => REL.fr ht hp hm hk' hf'), ?_⟩
  refine ⟨fun _ => hs4 h hx hy (fun σ' hk' hf' => REL.fr ht hp hm hk' hf'), ?_⟩
  refine ⟨fun _ => hs5 h hx hy hz (fun σ' hk' hf' => REL.fr ht hp hm hk' hf'), ?_⟩
  refine ⟨fun _ => hs6 h hx hy (fun σ' hk' hf' => REL.fr ht hp hm hk' hf'), ?_⟩
  refine ⟨fun _ => hs7 h hx (fun σ' hk' hf' => REL.fr ht hp hm hk' hf'), ?_⟩
  refine ⟨fun _ => hs8 h hx (fun σ' hk' hf' => REL.fr ht hp hm hk' hf'), ?_⟩
  refine ⟨fun _ => hs9 h hx (fun σ' hk' hf' => REL.fr ht hp hm hk' hf'), ?_⟩
  refine ⟨fun _ => hs10 h hx (fun σ' hk' hf' => REL.fr ht hp hm hk' hf'), ?_⟩
  refine ⟨fun _ => hs11 h (fun σ' hk' hf' => REL.fr ht hp hm hk' hf'), ?_⟩
  refine ⟨fun _ => hs12 h (fun σ' hk' hf' => REL.fr ht hp hm hk' hf'), ?_⟩
  refine ⟨fun _ => hs13 h ht (fun σ' hk' hx' hf' => REL.fs hp hm hk' hx' hf'), ?_⟩
  refine ⟨fun _ => hs14 h (fun σ' hk' hf' => REL.fr ht hp hm hk' hf'), ?_⟩
  refine ⟨fun _ => hs15 h hx hy s0, ?_⟩
  refine ⟨fun _ => hs16 h hx hy s0, ?_⟩
  refine ⟨fun _ => hs17 h hn hm hp hx s0 (fun v hf' hp' hm' => REL.fp h ht hf' hp' hm'), ?_⟩
  refine ⟨fun _ => hs18 h hn hm hp hx hy s0 (fun v hf' hp' hm' => REL.fp h ht hf' hp' hm'), ?_⟩
  refine ⟨fun _ => hs19 h hn hm hp hx hy s0 (fun v hf' hp' hm' => REL.fp h ht hf' hp' hm'), ?_⟩
  refine ⟨fun _ => hs20 h ht hx s0, ?_⟩
  exact fun _ => hs21 (by omega) h hn hm ht hp (fun v hf' hp' hm' => REL.fp h ht hf' hp' hm')
