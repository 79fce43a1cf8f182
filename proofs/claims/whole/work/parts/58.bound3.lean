/-! the bound of costs -/
theorem chs_triv {st : Nat → Prop} {A S : Nat → Nat} {j m n : Nat} {P : Nat → Nat → Nat → Nat → Prop} (hP : ∀ c x y z, P c x y z → P m x y z) (hm : ∀ c d x y z, c ≤ d → P c x y z → P d x y z) (hn : st j → 1 ≤ n) : ∀ c x y z, chs dnN st A S j P c x y z → chs dnN st A S j P (m + n) x y z := by
  intro c x y z h
  rcases h with h | ⟨h1, c', _, h3⟩
  · exact Or.inl (hm m (m + n) _ _ _ (by omega) (hP _ _ _ _ h))
  · have := hn h1
    exact Or.inr ⟨h1, m + n - 1, by unfold dnN; omega, hm m _ _ _ _ (by omega) (hP _ _ _ _ h3)⟩
theorem chs_monoN {st : Nat → Prop} {A S : Nat → Nat} {j : Nat} {P : Nat → Nat → Nat → Nat → Prop} (hm : ∀ c d x y z, c ≤ d → P c x y z → P d x y z) : ∀ c d x y z, c ≤ d → chs dnN st A S j P c x y z → chs dnN st A S j P d x y z :=
  chs_mono (R := fun c d => c ≤ d) (fun c d c' hr h => ⟨d - 1, by unfold dnN at h ⊢; omega, by unfold dnN at h; omega⟩) (fun c d x y z hr h => hm c d x y z hr h)
theorem chA_triv {st : Nat → Prop} {A S : Nat → Nat} {m n0 n1 n2 : Nat} {P : Nat → Nat → Nat → Nat → Prop} (hP : ∀ c x y z, P c x y z → P m x y z) (hm : ∀ c d x y z, c ≤ d → P c x y z → P d x y z) (h0 : st 0 → 1 ≤ n0) (h1 : st 1 → 1 ≤ n1) (h2 : st 2 → 1 ≤ n2) : ∀ c x y z, chA dnN st A S P c x y z → chA dnN st A S P (m + n0 + n1 + n2) x y z :=
  chs_triv (chs_triv (chs_triv hP hm h0) (chs_monoN hm) h1) (chs_monoN (chs_monoN hm)) h2
theorem pRun_monoN {st : Nat → Prop} {A S : Nat → Nat} {r : Nat} : ∀ c d x y z, c ≤ d → pRun dnN st A S r c x y z → pRun dnN st A S r d x y z :=
  fun c d x y z hr h => pRun_mono (R := fun c d => c ≤ d) (fun c d c' hr h => ⟨d - 1, by unfold dnN at h ⊢; omega, by unfold dnN at h; omega⟩) r c d x y z hr h
theorem pRun_triv {st : Nat → Prop} {A S : Nat → Nat} {n0 n1 n2 : Nat} (h0 : st 0 → 1 ≤ n0) (h1 : st 1 → 1 ≤ n1) (h2 : st 2 → 1 ≤ n2) : ∀ r c x y z, pRun dnN st A S (r + 1) c x y z → pRun dnN st A S (r + 1) ((n0 + n1 + n2) * r) x y z
  | 0, c, x, y, z, h => by
    obtain ⟨h3, h4⟩ := h
    refine ⟨h3, ?_⟩
    rcases h4 with h4 | ⟨h4, _⟩
    · exact False.elim h4
    · exact Or.inr ⟨h4, Or.inl rfl⟩
  | r + 1, c, x, y, z, h => by
    have ih := pRun_triv (A := A) (S := S) h0 h1 h2 r
    obtain ⟨h3, h4⟩ := h
    refine ⟨h3, ?_⟩
    rcases h4 with h4 | ⟨h4, h5⟩
    · exact Or.inl (pRun_monoN _ _ _ _ _ (Nat.mul_le_mul_left _ (by omega)) (ih _ _ _ _ h4))
    · refine Or.inr ⟨h4, ?_⟩
      rcases h5 with h5 | h5
      · omega
      · refine Or.inr ?_
        have := chA_triv (m := (n0 + n1 + n2) * r) ih pRun_monoN h0 h1 h2 _ _ _ _ h5
        rw [show (n0 + n1 + n2) * r + n0 + n1 + n2 = (n0 + n1 + n2) * (r + 1) by rw [Nat.mul_succ]; omega] at this
        exact this
theorem Can.triv {st : Nat → Prop} {A S : Nat → Nat} {n0 n1 n2 r c x y z : Nat} (h0 : st 0 → 1 ≤ n0) (h1 : st 1 → 1 ≤ n1) (h2 : st 2 → 1 ≤ n2) (hr : 1 ≤ r) (h : Can st A S r c x y z) : Can st A S r ((n0 + n1 + n2) * r) x y z := by
  obtain ⟨q, rfl⟩ : ∃ q, r = q + 1 := ⟨r - 1, by omega⟩
  have := chA_triv (m := (n0 + n1 + n2) * q) (pRun_triv h0 h1 h2 q) pRun_monoN h0 h1 h2 _ _ _ _ h
  rw [show (n0 + n1 + n2) * q + n0 + n1 + n2 = (n0 + n1 + n2) * (q + 1) by rw [Nat.mul_succ]; omega] at this
  exact this
theorem Can.triv' {st : Nat → Prop} {A S : Nat → Nat} {n0 n1 n2 r c m x y z : Nat} (h0 : st 0 → 1 ≤ n0) (h1 : st 1 → 1 ≤ n1) (h2 : st 2 → 1 ≤ n2) (hr : 1 ≤ r ∧ r ≤ 40) (hm : (n0 + n1 + n2) * 40 ≤ m) (h : Can st A S r c x y z) : Can st A S r m x y z :=
  (h.triv h0 h1 h2 hr.1).mono (Nat.le_trans (Nat.mul_le_mul_left _ hr.2) hm)
theorem chA_congr {dn : Nat → Nat → Prop} {st st' : Nat → Prop} {A A' S S' : Nat → Nat} {P P' : Nat → Nat → Nat → Nat → Prop} (hs : ∀ j, j < 3 → (st j ↔ st' j)) (hA : ∀ g, g < 3 → A g = A' g) (hS : ∀ g, g < 3 → S g = S' g) (hP : ∀ c x y z, P c x y z ↔ P' c x y z) (c x y z : Nat) : chA dn st A S P c x y z ↔ chA dn st' A' S' P' c x y z := by
  have e : ∀ j g x, g < 3 → tnG A S j g x = tnG A' S' j g x := fun j g x hg => by unfold tnG; rw [hA g hg, hS g hg]
  unfold chA chs
  simp only [e _ 0 _ (by omega : (0 : Nat) < 3), e _ 1 _ (by omega : (1 : Nat) < 3), e _ 2 _ (by omega : (2 : Nat) < 3), hs 0 (by omega), hs 1 (by omega), hs 2 (by omega), hP]
theorem pRun_congr {dn : Nat → Nat → Prop} {st st' : Nat → Prop} {A A' S S' : Nat → Nat} (hs : ∀ j, j < 3 → (st j ↔ st' j)) (hA : ∀ g, g < 3 → A g = A' g) (hS : ∀ g, g < 3 → S g = S' g) : ∀ r c x y z, pRun dn st A S r c x y z ↔ pRun dn st' A' S' r c x y z
  | 0, _, _, _, _ => Iff.rfl
  | r + 1, c, x, y, z => by
    have ih := pRun_congr (dn := dn) hs hA hS r
    unfold pRun
    rw [ih, chA_congr hs hA hS ih]
theorem Can.congr {st st' : Nat → Prop} {A A' S S' : Nat → Nat} (hs : ∀ j, j < 3 → (st j ↔ st' j)) (hA : ∀ g, g < 3 → A g = A' g) (hS : ∀ g, g < 3 → S g = S' g) (r c x y z : Nat) : Can st A S r c x y z ↔ Can st' A' S' r c x y z :=
  chA_congr hs hA hS (fun c x y z => pRun_congr hs hA hS r c x y z) c x y z
theorem momB_le : ∀ a, a < 13 → ∀ b, b < 13 → ∀ c, c < 13 → momB a b c ≤ 469 := by decide +kernel
theorem OK3_mk (lim : Nat) (hk : ∀ c, c < lim + 2 → (2 ^ (lim + 1) - 2 : Nat).testBit c = decide (1 ≤ c ∧ c < lim + 1)) (hf : ∀ c, c < lim + 2 → (2 ^ (lim + 1) : Nat).testBit c = decide (c = lim + 1)) (h1 : (2 ^ (lim + 1) - 2 : Nat) < 2 ^ (lim + 2)) (h2 : (2 ^ (lim + 1) : Nat) < 2 ^ (lim + 2)) : OK3 lim (2 ^ (lim + 2) - 1) (2 ^ (lim + 1) - 2) (2 ^ (lim + 1)) := ⟨rfl, h1, h2, hk, hf⟩
theorem OKa : OK3 11 8191 4094 4096 := OK3_mk 11 (by decide +kernel) (by decide +kernel) (by decide +kernel) (by decide +kernel)
theorem OKb : OK3 22 16777215 8388606 8388608 := OK3_mk 22 (by decide +kernel) (by decide +kernel) (by decide +kernel) (by decide +kernel)
theorem OKe : OK3 20 4194303 2097150 2097152 := OK3_mk 20 (by decide +kernel) (by decide +kernel) (by decide +kernel) (by decide +kernel)
theorem bound_lim {lim O L Fl M ex n0 n1 n2 K r c x y z : Nat} {st : Nat → Prop} {A S S' : Nat → Nat} (hO : OK3 lim O L Fl) (hex : ex < 8) (hS : S' 0 < 3 ∧ S' 1 < 3 ∧ S' 2 < 3) (hSS : ∀ g, g < 3 → S g = S' g) (hst : ∀ j, j < 3 → (Nat.testBit ex j = true ↔ st j)) (h0 : st 0 → 1 ≤ n0) (h1 : st 1 → 1 ≤ n1) (h2 : st 2 → 1 ≤ n2) (hA : ∀ g, g < 3 → 1 ≤ A g ∧ A g ≤ 12) (hck : ckS lim O L Fl M ex S' (A 0) (A 1) (A 2) = true) (hl : lim ≤ 24) (hM : ∀ m, m ≤ M → 11725 < (K + 1) * m → (n0 + n1 + n2) * 40 ≤ K - 1) (hK : 11725 < (K + 1) * momB (A 0) (A 1) (A 2)) (hr : 1 ≤ r ∧ r ≤ 40) (hx : x ≤ A 0) (hy : y ≤ A 1) (hz : z ≤ A 2) (h : Can st A S r c x y z) : Can st A S r (K - 1) x y z := by
  have a0 := hA 0 (by omega)
  have a1 := hA 1 (by omega)
  have a2 := hA 2 (by omega)
  have hml := momB_le (A 0) (by omega) (A 1) (by omega) (A 2) (by omega)
  rcases ckS_t hck with hm | hs
  · exact h.triv' h0 h1 h2 hr (hM _ hm hK)
  · have hK24 : 25 ≤ K := by
      by_cases hk : K ≤ 24
      · have := Nat.mul_le_mul (show K + 1 ≤ 25 by omega) hml
        omega
      · omega
    have hA3 : ∀ g, g < 3 → A g = f3 (A 0) (A 1) (A 2) g := fun g hg => by
      rcases (show g = 0 ∨ g = 1 ∨ g = 2 by omega) with rfl | rfl | rfl <;> rfl
    have h' := (Can.congr (st := st) (st' := st) (fun _ _ => Iff.rfl) hA3 hSS r c x y z).mp h
    have := shB_t hO hS hex hst hs hr hx hy hz h'
    exact ((Can.congr (st := st) (st' := st) (fun _ _ => Iff.rfl) hA3 hSS r lim x y z).mpr this).mono (by omega)
/-- no span within 40 seconds costs as much as there is no room for -/
theorem bound {K r c x y z : Nat} {st : Nat → Prop} {A S : Nat → Nat} (hS0 : S 0 = 0) (hS1 : S 1 ≤ 1) (hS2 : S 2 ≤ 2) (hSS : S (S 2) = S 2) (hst : ∀ j, j < 3 → (st j ↔ S j = j)) (hA : ∀ g, g < 3 → 1 ≤ A g ∧ A g ≤ 12) (hK : 11725 < (K + 1) * momB (A 0) (A 1) (A 2)) (hr : 1 ≤ r ∧ r ≤ 40) (hx : x ≤ A 0) (hy : y ≤ A 1) (hz : z ≤ A 2) (h : Can st A S r c x y z) : Can st A S r (K - 1) x y z := by
  have a0 := hA 0 (by omega)
  have a1 := hA 1 (by omega)
  have a2 := hA 2 (by omega)
  have s0 := hst 0 (by omega)
  have s1 := hst 1 (by omega)
  have s2 := hst 2 (by omega)
  have big : ∀ M N m : Nat, (∀ k, k ≤ N → (k + 1) * M ≤ 11725) → m ≤ M → 11725 < (K + 1) * m → N < K := fun M N m hN hm hk => by
    by_cases hle : K ≤ N
    · have h1 := hN K hle
      have h2 := Nat.mul_le_mul_left (K + 1) hm
      omega
    · omega
  have t3 : ∀ {p0 p1 p2 : Nat} (g : Nat), g < 3 → S 0 = p0 → S 1 = p1 → S 2 = p2 → S g = f3 p0 p1 p2 g := fun g hg e0 e1 e2 => by
    rcases (show g = 0 ∨ g = 1 ∨ g = 2 by omega) with rfl | rfl | rfl
    · exact e0
    · exact e1
    · exact e2
  have tb : ∀ (ex : Nat), (∀ j, j < 3 → (Nat.testBit ex j = true ↔ S j = j)) → ∀ j, j < 3 → (Nat.testBit ex j = true ↔ st j) := fun ex hx j hj => (hx j hj).trans (hst j hj).symm
  have cases5 : (S 1 = 1 ∧ S 2 = 2) ∨ (S 1 = 0 ∧ S 2 = 2) ∨ (S 1 = 1 ∧ S 2 = 0) ∨ (S 1 = 1 ∧ S 2 = 1) ∨ (S 1 = 0 ∧ S 2 = 0) := by
    rcases (show S 2 = 0 ∨ S 2 = 1 ∨ S 2 = 2 by omega) with e | e | e
    · omega
    · rw [e] at hSS
      omega
    · omega
  rcases cases5 with ⟨e1, e2⟩ | ⟨e1, e2⟩ | ⟨e1, e2⟩ | ⟨e1, e2⟩ | ⟨e1, e2⟩
  · refine bound_lim (n0 := 1) (n1 := 1) (n2 := 1) (S' := f3 0 1 2) OKa (by omega) ⟨by decide, by decide, by decide⟩ (fun g hg => t3 g hg hS0 e1 e2) (tb 7 (fun j hj => ?_)) (fun _ => by omega) (fun _ => by omega) (fun _ => by omega) hA (bka a0 a1 a2) (by omega) (fun m hm hk => ?_) hK hr hx hy hz h
    · rcases (show j = 0 ∨ j = 1 ∨ j = 2 by omega) with rfl | rfl | rfl
      · exact ⟨fun _ => hS0, fun _ => by decide⟩
      · exact ⟨fun _ => e1, fun _ => by decide⟩
      · exact ⟨fun _ => e2, fun _ => by decide⟩
    · have := big 96 120 m (fun k hk => by omega) hm hk
      omega
  · refine bound_lim (n0 := 1) (n1 := 0) (n2 := 1) (S' := f3 0 0 2) OKb (by omega) ⟨by decide, by decide, by decide⟩ (fun g hg => t3 g hg hS0 e1 e2) (tb 5 (fun j hj => ?_)) (fun _ => by omega) (fun q => by have := s1.mp q; omega) (fun _ => by omega) hA (bkb a0 a1 a2) (by omega) (fun m hm hk => ?_) hK hr hx hy hz h
    · rcases (show j = 0 ∨ j = 1 ∨ j = 2 by omega) with rfl | rfl | rfl
      · exact ⟨fun _ => hS0, fun _ => by decide⟩
      · exact ⟨fun q => absurd q (by decide), fun q => by omega⟩
      · exact ⟨fun _ => e2, fun _ => by decide⟩
    · have := big 144 80 m (fun k hk => by omega) hm hk
      omega
  · refine bound_lim (n0 := 1) (n1 := 1) (n2 := 0) (S' := f3 0 1 0) OKb (by omega) ⟨by decide, by decide, by decide⟩ (fun g hg => t3 g hg hS0 e1 e2) (tb 3 (fun j hj => ?_)) (fun _ => by omega) (fun _ => by omega) (fun q => by have := s2.mp q; omega) hA (bkc a0 a1 a2) (by omega) (fun m hm hk => ?_) hK hr hx hy hz h
    · rcases (show j = 0 ∨ j = 1 ∨ j = 2 by omega) with rfl | rfl | rfl
      · exact ⟨fun _ => hS0, fun _ => by decide⟩
      · exact ⟨fun _ => e1, fun _ => by decide⟩
      · exact ⟨fun q => absurd q (by decide), fun q => by omega⟩
    · have := big 144 80 m (fun k hk => by omega) hm hk
      omega
  · refine bound_lim (n0 := 1) (n1 := 1) (n2 := 0) (S' := f3 0 1 1) OKb (by omega) ⟨by decide, by decide, by decide⟩ (fun g hg => t3 g hg hS0 e1 e2) (tb 3 (fun j hj => ?_)) (fun _ => by omega) (fun _ => by omega) (fun q => by have := s2.mp q; omega) hA (bkd a0 a1 a2) (by omega) (fun m hm hk => ?_) hK hr hx hy hz h
    · rcases (show j = 0 ∨ j = 1 ∨ j = 2 by omega) with rfl | rfl | rfl
      · exact ⟨fun _ => hS0, fun _ => by decide⟩
      · exact ⟨fun _ => e1, fun _ => by decide⟩
      · exact ⟨fun q => absurd q (by decide), fun q => by omega⟩
    · have := big 144 80 m (fun k hk => by omega) hm hk
      omega
  · refine bound_lim (n0 := 1) (n1 := 0) (n2 := 0) (S' := f3 0 0 0) OKe (by omega) ⟨by decide, by decide, by decide⟩ (fun g hg => t3 g hg hS0 e1 e2) (tb 1 (fun j hj => ?_)) (fun _ => by omega) (fun q => by have := s1.mp q; omega) (fun q => by have := s2.mp q; omega) hA (bke a0 a1 a2) (by omega) (fun m hm hk => ?_) hK hr hx hy hz h
    · rcases (show j = 0 ∨ j = 1 ∨ j = 2 by omega) with rfl | rfl | rfl
      · exact ⟨fun _ => hS0, fun _ => by decide⟩
      · exact ⟨fun q => absurd q (by decide), fun q => by omega⟩
      · exact ⟨fun q => absurd q (by decide), fun q => by omega⟩
    · have := big 285 40 m (fun k hk => by omega) hm hk
      omega
