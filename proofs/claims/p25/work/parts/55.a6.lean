/-! what the law's loop keeps -/
theorem EV.sink {b : xS} (h : EV b) (h3 : 0 ≤ b 3 3) (h1 : 0 ≤ b 3 1) {i : Nat} (hi : i < 3) : EV (aSink b i) := by
  have d3 : ∀ p, aDec b i 3 p = b 3 p := fun p => by rw [aDec_app, if_neg (by omega)]
  have dr : ∀ e p, aDec b i (4 + e) p = b (4 + e) p := fun e p => by rw [aDec_app, if_neg (by omega)]
  have hd : EV (aDec b i) := h.same (d3 3) (by rw [d3]; omega) dr
  have x3 : ∀ p, xup (aDec b i) i 4 1 3 p = b 3 p := fun p => by rw [xup_app, if_neg (by omega), d3]
  have hx : EV (xup (aDec b i) i 4 1) := h.same (x3 3) (by rw [x3]; omega) (fun e p => by rw [xup_app, if_neg (by omega), dr])
  unfold aSink
  split
  · exact hd.ev (by rw [d3]; exact h3) (by rw [d3]; exact h1) hi ⟨by omega, by omega⟩
  · split
    · exact hx.ev (by rw [x3]; exact h3) (by rw [x3]; exact h1) hi ⟨by omega, by omega⟩
    · exact hd
theorem EV.sec {T : Int} {b : xS} (hw : WFt T b) (h : EV b) : EV (aSec b) := by
  have h1 := hw.2.1
  have h33 := hw.2.2.2.1
  have key : ∀ k, k ≤ 3 → EV (aSecI b k) := by
    intro k
    induction k with
    | zero =>
      intro _
      unfold aSecI
      exact h.same (by rw [xup_app, if_neg (by omega)]) (by rw [xup_app, if_pos ⟨rfl, rfl⟩]; omega) (fun e p => by rw [xup_app, if_neg (by omega)])
    | succ k ih =>
      intro hk
      have e33 := aSecI_33 b k (by omega)
      have e31 := aSecI_31 b k (by omega)
      unfold aSecI
      split
      · exact (ih (by omega)).sink (by omega) (by omega) (by omega)
      · exact ih (by omega)
  exact key _ (by have := hw.1; omega)
theorem EV.pass {T : Int} {b : xS} (hw : WFt T b) (h : EV b) : ∀ n : Nat, EV (aPass n b)
  | 0 => h
  | n + 1 => EV.sec (hw.pass n) (EV.pass hw h n)
def LIb (N : Nat) (b : xS) : Prop := WF b ∧ EV b ∧ b 3 1 ≤ 15 * (N : Int) ∧ (0 ≤ b 3 4 ∧ b 3 4 ≤ (N : Int)) ∧ (0 ≤ b 3 5 ∧ b 3 5 ≤ (N : Int))
theorem LIb.mk' {N : Nat} {b b' : xS} (h : LIb N b) (hw : WF b') (h3 : b' 3 3 = b 3 3) (h1 : b' 3 1 = b 3 1) (hr : ∀ e p, b' (4 + e) p = b (4 + e) p) (h4 : b 3 4 ≤ b' 3 4 ∧ b' 3 4 ≤ b 3 4 + 1) (h5 : b 3 5 ≤ b' 3 5 ∧ b' 3 5 ≤ b 3 5 + 1) : LIb (N + 1) b' := by
  obtain ⟨g1, g2, g3, g4, g5⟩ := h
  refine ⟨hw, g2.same h3 (by omega) hr, by rw [h1]; push_cast; omega, ⟨by omega, by push_cast; omega⟩, ⟨by omega, by push_cast; omega⟩⟩
theorem LIb.up {N : Nat} {b : xS} (h : LIb N b) : LIb (N + 1) b := h.mk' h.1 rfl rfl (fun _ _ => rfl) ⟨by omega, by omega⟩ ⟨by omega, by omega⟩
theorem LIb.turn {N : Nat} {b : xS} (h : LIb N b) (s : Int) : LIb (N + 1) (aTurn b s) := by
  have hn := h.1.1
  refine h.mk' (h.1.turn s) (by rw [aTurn_3 hn.2, if_neg (by omega)]) (by rw [aTurn_3 hn.2, if_neg (by omega)]) (fun e p => ?_) ?_ ?_
  · unfold aTurn
    rw [xup_app, if_neg (by omega), aMap_3 hn.2 (by omega)]
  · rw [aTurn_3 hn.2, if_pos rfl]; omega
  · rw [aTurn_3 hn.2, if_neg (by omega)]; omega
theorem LIb.tap {N : Nat} {b : xS} (h : LIb N b) (i : Nat) (hi : i < 3) : LIb (N + 1) (aTap b i) := by
  have o : ∀ r j, 3 ≤ r → (r ≠ 3 ∨ j ≠ 5) → aTap b i r j = b r j := fun r j hr hj => by rw [aTap_app, if_neg (by omega), if_neg (by omega)]
  refine h.mk' (h.1.tap i hi) (o 3 3 (by omega) (by omega)) (o 3 1 (by omega) (by omega)) (fun e p => o _ p (by omega) (by omega)) ?_ ?_
  · rw [o 3 4 (by omega) (by omega)]; omega
  · rw [aTap_app, if_pos ⟨rfl, rfl⟩]; omega
theorem LIb.rest {N : Nat} {b b' : xS} (h : LIb N b) (hw : WF b') (o : ∀ r j, 3 ≤ r → (r ≠ 3 ∨ (j ≠ 0 ∧ j ≠ 2)) → b' r j = b r j) : LIb (N + 1) b' :=
  h.mk' hw (o 3 3 (by omega) (by omega)) (o 3 1 (by omega) (by omega)) (fun e p => o _ p (by omega) (by omega)) (by rw [o 3 4 (by omega) (by omega)]; omega) (by rw [o 3 5 (by omega) (by omega)]; omega)
theorem LIb.pass {N : Nat} {b : xS} (h : LIb N b) (hN : N ≤ 34) (n : Nat) (hn : n ≤ 15) : LIb (N + 1) (aPass n b) := by
  obtain ⟨g1, g2, g3, g4, g5⟩ := h
  have e31 := aPass_31 g1 n
  have e34 := aPass_3 g1 (p := 4) (by omega) (by omega) n
  have e35 := aPass_3 g1 (p := 5) (by omega) (by omega) n
  exact ⟨g1.passed n (by omega), EV.pass g1 g2 n, by rw [e31]; push_cast; omega, ⟨by omega, by rw [e34]; push_cast; omega⟩, ⟨by omega, by rw [e35]; push_cast; omega⟩⟩
/-- the remainders that the law takes its choices by -/
theorem jand_max (x : Int) : 0 ≤ jand x 2147483647 ∧ jand x 2147483647 < 2147483648 := by
  refine ⟨?_, (i32_rng _).2⟩
  unfold jand
  show 0 ≤ (i32 x &&& i32 2147483647).toBitVec.toInt
  rw [Int32.toBitVec_and, BitVec.toInt_eq_toNat_of_msb]
  · exact Int.natCast_nonneg _
  · rw [BitVec.msb_and, show (i32 2147483647).toBitVec.msb = false by decide +kernel, Bool.and_false]
theorem akLow {σ : xS} {x n : Int} {Q : Int → xS → Prop} (hn : 1 ≤ n ∧ n ≤ 100) (k : ∀ r : Nat, (r : Int) < n → Q (r : Int) σ) : vL_low x n σ Q := by
  have hj := jand_max x
  unfold vL_low
  refine ⟨⟨⟨by omega, by omega⟩, by omega⟩, ?_⟩
  obtain ⟨m, rfl⟩ : ∃ m : Nat, n = (m : Int) := ⟨n.toNat, by omega⟩
  rw [jrem_nat hj.1 hj.2 (by omega) (by omega)]
  have := Nat.mod_lt (jand x 2147483647).toNat (show 0 < m by omega)
  exact k _ (by omega)
def LI (N : Nat) (σ b : xS) : Prop := CHx σ b ∧ AB (σ 40) b ∧ LIb N b
theorem CHx.a {σ b : xS} (h : CHx σ b) (m : Nat → Int) : CHx (xset σ 40 m) b := by
  obtain ⟨h1, d, H, hc⟩ := h
  refine ⟨by rw [xset_ne (by omega)]; exact h1, d, H, hc.congr ?_ ?_⟩
  · rw [xset_ne (by omega)]
  · rw [xset_ne (by omega)]
theorem FrC.a {σ σ' : xS} {m : Nat → Int} (h : FrC (xset σ 40 m) σ') : σ' 40 = m := by
  rw [h 40 (by omega) (by omega) (by omega), xset_eq]
section
variable {K : Int × Int × xS → Prop} {Q : Int → xS → Prop} {N : Nat} {σ b : xS} {x3 : Int}
/-- behind a step: all is told rightly, and the time since the mark -/
theorem lk545 (hN : N < 34) (h : LI (N + 1) σ b) (h3 : x3 = b 3 2) (k : K (x3, (N : Int) + 1, σ)) : vL_law_545 K Q x3 (N : Int) 1 σ := by
  obtain ⟨hc, ha, hw, he, ht, h4, h5⟩ := h
  have hm := hw.2.2.1
  have h1 := hw.2.1
  unfold vL_law_545
  refine ⟨⟨by omega, by omega⟩, fun z => absurd z (by omega), fun _ => ?_⟩
  refine akTold (by omega) hw hc ha he ⟨by omega, by omega⟩ ⟨by omega, by omega⟩ ?_
  refine ⟨⟨by omega, by omega⟩, fun z => absurd z (by omega), fun _ => ?_⟩
  obtain ⟨hb, d, H, hh⟩ := hc
  refine okCn (T := 0) (by omega) hw hb hh ⟨by omega, by omega⟩ ?_
  have ev : vCn b d (σ 1 1) 3 = if b 3 2 = -1 then -1 else b 3 1 - b 3 2 := rfl
  rw [ev, h3, ha.2.2.1]
  rw [h3] at k
  unfold vL_law_578
  refine ⟨⟨by omega, by omega⟩, fun z => ?_, fun z => ?_⟩
  · rw [if_neg z]
    exact ⟨⟨by omega, by omega⟩, ⟨by omega, by omega⟩, fun _ => k, fun w => absurd rfl w⟩
  · rw [if_pos z]
    exact ⟨⟨by omega, by omega⟩, ⟨by omega, by omega⟩, fun _ => k, fun w => absurd rfl w⟩
theorem lk_pass (hN : N < 34) (h : LI N σ b) (h3 : x3 = b 3 2) (k : ∀ σ' b', LI (N + 1) σ' b' → x3 = b' 3 2 → K (x3, (N : Int) + 1, σ')) (y : Int) (y2 : Int) (hy2 : 1 ≤ y2 ∧ y2 ≤ 15) : vL_law_479 K Q x3 (N : Int) 1 y y2 σ := by
  obtain ⟨hc, ha, hl⟩ := h
  have hw := hl.1
  have ht := hl.2.2.1
  unfold vL_law_479
  refine akLow ⟨by omega, by omega⟩ (fun r hr => ?_)
  have hb := aPass_33 hw (r + 1)
  have h33 := hw.2.2.2.1
  have P := akPasses (σ := σ) (m := σ 40) (x := 1 + (r : Int)) (Q := fun r16 σ17 => vX4_pass (1 + (r : Int)) σ17 (fun r18 σ19 => rng r18 ∧ (rng r16 ∧ ((¬ r18 = r16 → vL_law_545 K Q x3 (N : Int) 0 σ19) ∧ (r18 = r16 → vL_law_545 K Q x3 (N : Int) 1 σ19))))) (by omega) hw ha (r + 1) (by omega) (by push_cast; omega)
  rw [xset_self] at P
  refine P (fun m' h' => ?_)
  refine cPass (by omega) hw (hc.a m') (r + 1) (by push_cast; omega) ⟨by omega, by omega⟩ (by push_cast; omega) (fun σ' hc' hf => ?_)
  have ha' : AB (σ' 40) (aPass (r + 1) b) := by rw [hf.a]; exact h'
  have hl' := hl.pass (by omega) (r + 1) (by omega)
  have e2 : x3 = aPass (r + 1) b 3 2 := by rw [aPass_3 hw (by omega) (by omega)]; exact h3
  exact ⟨⟨by omega, by omega⟩, ⟨by omega, by omega⟩, fun z => absurd rfl z, fun _ => lk545 hN ⟨hc', ha', hl'⟩ e2 (k _ _ ⟨hc', ha', hl'⟩ e2)⟩
theorem lk404 (hN : N < 34) (h : LI N σ b) (h3 : x3 = b 3 2) (k : ∀ σ' b', LI (N + 1) σ' b' → x3 = b' 3 2 → K (x3, (N : Int) + 1, σ')) : vL_law_404 K Q x3 (N : Int) σ := by
  obtain ⟨hc, ha, hl⟩ := h
  have hw := hl.1
  have ht := hl.2.2.1
  have hu := aUnt_in hw
  unfold vL_law_404
  have R := akRunsAny (σ := σ) (m := σ 40) (Q := fun r27 σ28 => rng r27 ∧ ((r27 = 0 → vX4_await σ28 (fun r31 σ32 => rng r31 ∧ ((¬ r31 = (-3) → vL_law_545 K Q x3 (N : Int) 0 σ32) ∧ (r31 = (-3) → vL_law_545 K Q x3 (N : Int) 1 σ32)))) ∧ (¬ r27 = 0 → vL_awaits σ28 (fun r35 σ36 => vX4_await σ36 (fun r37 σ38 => rng r37 ∧ (rng r35 ∧ ((¬ r37 = r35 → vL_law_545 K Q x3 (N : Int) 0 σ38) ∧ (r37 = r35 → vL_law_545 K Q x3 (N : Int) 1 σ38)))))))) hw ha
  rw [xset_self] at R
  refine R (fun z => ⟨rng0, fun _ => ?_, fun w => absurd rfl w⟩) (fun z => ⟨⟨by omega, by omega⟩, fun w => absurd w (by omega), fun _ => ?_⟩)
  · refine cAwait (by omega) hw hc (by omega) (fun _ => ⟨⟨by omega, by omega⟩, fun w => absurd rfl w, fun _ => ?_⟩) (fun w => absurd z w)
    exact lk545 hN ⟨hc, ha, hl.up⟩ h3 (k _ _ ⟨hc, ha, hl.up⟩ h3)
  · have P := akAwaits (σ := σ) (m := σ 40) (Q := fun r35 σ36 => vX4_await σ36 (fun r37 σ38 => rng r37 ∧ (rng r35 ∧ ((¬ r37 = r35 → vL_law_545 K Q x3 (N : Int) 0 σ38) ∧ (r37 = r35 → vL_law_545 K Q x3 (N : Int) 1 σ38))))) (by omega) hw ha z
    rw [xset_self] at P
    refine P (fun m' h' => ?_)
    refine cAwait (by omega) hw (hc.a m') (by omega) (fun w => absurd w z) (fun _ σ' hc' hf => ?_)
    have ha' : AB (σ' 40) (aPass (aUnt b).toNat b) := by rw [hf.a]; exact h'
    have hl' := hl.pass (by omega) (aUnt b).toNat (by omega)
    have e2 : x3 = aPass (aUnt b).toNat b 3 2 := by rw [aPass_3 hw (by omega) (by omega)]; exact h3
    exact ⟨⟨by omega, by omega⟩, ⟨by omega, by omega⟩, fun z => absurd rfl z, fun _ => lk545 hN ⟨hc', ha', hl'⟩ e2 (k _ _ ⟨hc', ha', hl'⟩ e2)⟩
theorem lk_fixes (hN : N < 34) (h : LI N σ b) (h3 : x3 = b 3 2) (k : ∀ σ' b', LI (N + 1) σ' b' → x3 = b' 3 2 → K (x3, (N : Int) + 1, σ')) (i j : Nat) (hi : (i : Int) < b 3 0) (hj : (j : Int) < b 3 0) : vL_fixes (i : Int) (j : Int) σ (fun r76 σ77 => vL_law_545 K Q x3 (N : Int) r76 σ77) := by
  obtain ⟨hc, ha, hl⟩ := h
  have hw := hl.1
  have hn := hw.1
  have hi3 := hw.n3 hi
  have hj3 := hw.n3 hj
  have vi := hw.root hi
  have vj := hw.root hj
  unfold vL_fixes
  rw [show (7 * (i : Int) + 6).toNat = 7 * i + 6 by omega, show (7 * (j : Int) + 6).toNat = 7 * j + 6 by omega, ha.r5 hi3 hi, ha.r5 hj3 hj]
  refine ⟨⟨by omega, by omega⟩, fun t ht => ⟨⟨by omega, by omega⟩, fun t2 ht2 => ?_⟩⟩
  rw [ht, ht2]
  have hjm := jmin_le (b i 5) (b j 5)
  have join : b i 5 ≠ b j 5 → ∀ l : Int, l = jmin (b i 5) (b j 5) → mu (vL_fixes_65 (fun r76 σ77 => vL_law_545 K Q x3 (N : Int) r76 σ77)) ((i : Int), (j : Int), b i 5, b j 5, l, 0, σ) := fun hne l hle => by
    subst hle
    rw [← xset_self σ 40]
    refine akJoin hw ha (by omega) (by omega) (fun m' h' => ?_)
    refine cFix hw (hc.a m') i j rfl hi rfl hj (fun z => absurd z hne) (fun _ σ' hc' hf => ?_)
    have ha' : AB (σ' 40) (aMap (joinV (b i 5) (b j 5) (jmin (b i 5) (b j 5))) b) := by rw [hf.a]; exact h'
    have hl' : LIb (N + 1) (aMap (joinV (b i 5) (b j 5) (jmin (b i 5) (b j 5))) b) := hl.rest (hw.join ⟨i, hi, rfl⟩ ⟨j, hj, rfl⟩) (fun r p hr _ => aMap_3 hn.2 hr p)
    have e2 : x3 = aMap (joinV (b i 5) (b j 5) (jmin (b i 5) (b j 5))) b 3 2 := by rw [aMap_3 hn.2 (by omega)]; exact h3
    exact ⟨⟨by omega, by omega⟩, ⟨by omega, by omega⟩, fun z => absurd rfl z, fun _ => lk545 hN ⟨hc', ha', hl'⟩ e2 (k _ _ ⟨hc', ha', hl'⟩ e2)⟩
  refine ⟨⟨by omega, by omega⟩, ⟨by omega, by omega⟩, fun z => ⟨fun q => join z _ ?_, fun q => join z _ ?_⟩, fun z => ?_⟩
  · unfold jmin; split <;> omega
  · unfold jmin; split <;> omega
  · refine cFix hw hc i j rfl hi rfl hj (fun _ => ⟨⟨by omega, by omega⟩, fun w => absurd rfl w, fun _ => ?_⟩) (fun w => absurd z w)
    exact lk545 hN ⟨hc, ha, hl.up⟩ h3 (k _ _ ⟨hc, ha, hl.up⟩ h3)
theorem lk_loosens (hN : N < 34) (h : LI N σ b) (h3 : x3 = b 3 2) (k : ∀ σ' b', LI (N + 1) σ' b' → x3 = b' 3 2 → K (x3, (N : Int) + 1, σ')) (i : Nat) (hi : (i : Int) < b 3 0) : vL_loosens (i : Int) σ (fun r76 σ77 => vL_law_545 K Q x3 (N : Int) r76 σ77) := by
  obtain ⟨hc, ha, hl⟩ := h
  have hw := hl.1
  have hn := hw.1
  have hi3 := hw.n3 hi
  have vi := hw.root hi
  have hws := hw.scat (b i 5)
  have hst := aStacks_in hws
  have L := akLoosens (σ := σ) (m := σ 40) (g := (i : Int)) (Q := fun r76 σ77 => vL_law_545 K Q x3 (N : Int) r76 σ77) hw ha i hi rfl
  rw [xset_self] at L
  refine L (fun z => ?_) (fun z => ?_)
  · refine cLoosen hw hc i rfl hi (fun _ => ⟨⟨by omega, by omega⟩, fun w => absurd rfl w, fun _ => ?_⟩) (fun w => absurd z w)
    exact lk545 hN ⟨hc, ha, hl.up⟩ h3 (k _ _ ⟨hc, ha, hl.up⟩ h3)
  · rw [← xset_self σ 40]
    refine akScat hw ha (by omega) (fun m' h' => ?_)
    refine cLoosen hw (hc.a m') i rfl hi (fun w => absurd w z) (fun _ σ' hc' hf => ?_)
    have ha' : AB (σ' 40) (aMap (scatV (b i 5)) b) := by rw [hf.a]; exact h'
    have hl' : LIb (N + 1) (aMap (scatV (b i 5)) b) := hl.rest hws (fun r p hr _ => aMap_3 hn.2 hr p)
    have e2 : x3 = aMap (scatV (b i 5)) b 3 2 := by rw [aMap_3 hn.2 (by omega)]; exact h3
    exact ⟨⟨by omega, by omega⟩, ⟨by omega, by omega⟩, fun z => absurd rfl z, fun _ => lk545 hN ⟨hc', ha', hl'⟩ e2 (k _ _ ⟨hc', ha', hl'⟩ e2)⟩
theorem lk_amount (hN : N < 34) (h : LI N σ b) (h3 : x3 = b 3 2) (k : ∀ σ' b', LI (N + 1) σ' b' → x3 = b' 3 2 → K (x3, (N : Int) + 1, σ')) (i : Nat) (hi : (i : Int) < b 3 0) (u : Int) (hu : 1 ≤ u ∧ u ≤ 12) : vL_setsAmount (i : Int) u σ (fun r76 σ77 => vL_law_545 K Q x3 (N : Int) r76 σ77) := by
  obtain ⟨hc, ha, hl⟩ := h
  have hw := hl.1
  have hn := hw.1
  have hi3 := hw.n3 hi
  have hv := hw.2.2.2.2 i hi
  unfold vL_setsAmount
  rw [show (7 * (i : Int)).toNat = 7 * i by omega, show (7 * (i : Int) + 1).toNat = 7 * i + 1 by omega, show (7 * (i : Int) + 4).toNat = 7 * i + 4 by omega, show (7 * (i : Int) + 5).toNat = 7 * i + 5 by omega, ha.r0 hi3 hi]
  refine ⟨⟨by omega, by omega⟩, fun s1 e1 => ⟨⟨by omega, by omega⟩, fun s2 e2 => ⟨⟨by omega, by omega⟩, fun s3 e3 => ⟨⟨by omega, by omega⟩, fun s4 e4 => ?_⟩⟩⟩⟩
  have A1 : AB (cu (σ 40) (7 * i) u) (xup b i 0 u) := ha.glass hi3 (p := 0) (by omega) u
  have A2 : AB (cu (cu (σ 40) (7 * i) u) (7 * i + 1) 0) (xup (xup b i 0 u) i 1 0) := A1.glass hi3 (p := 1) (by omega) 0
  have A3 : AB (cu (cu (cu (σ 40) (7 * i) u) (7 * i + 1) 0) (7 * i + 4) 0) (xup (xup (xup b i 0 u) i 1 0) i 4 0) := A2.glass hi3 (p := 4) (by omega) 0
  have A4 : AB (cu (cu (cu (cu (σ 40) (7 * i) u) (7 * i + 1) 0) (7 * i + 4) 0) (7 * i + 5) 0) (aFill b i u) := A3.glass hi3 (p := 6) (by omega) 0
  have e5 : s4 = xset σ 40 (cu (cu (cu (cu (σ 40) (7 * i) u) (7 * i + 1) 0) (7 * i + 4) 0) (7 * i + 5) 0) := by
    rw [e4, e3, e2, e1, xup_set σ, xup_cu, xup_cu, xup_cu]
    rfl
  rw [e5]
  refine cAmount hw (hc.a _) i rfl hi hu (fun σ' hc' hf => ?_)
  have ha' : AB (σ' 40) (aFill b i u) := by rw [hf.a]; exact A4
  have o : ∀ r j, 3 ≤ r → aFill b i u r j = b r j := fun r j hr => by unfold aFill; rw [aFree_app, if_neg (by omega), xup_app, if_neg (by omega), xup_app, if_neg (by omega)]
  have hl' : LIb (N + 1) (aFill b i u) := hl.rest (hw.fill i hi3 hu) (fun r p hr _ => o r p hr)
  have e2 : x3 = aFill b i u 3 2 := by rw [o 3 2 (by omega)]; exact h3
  refine ⟨⟨by omega, by omega⟩, ⟨by omega, by omega⟩, fun z => absurd rfl z, fun _ => ?_⟩
  refine cAmountBad hl'.1 hc' ⟨by omega, by omega⟩ ⟨by omega, by omega⟩ (Or.inr (by omega)) ⟨⟨by omega, by omega⟩, fun z => absurd rfl z, fun _ => ?_⟩
  exact lk545 hN ⟨hc', ha', hl'⟩ e2 (k _ _ ⟨hc', ha', hl'⟩ e2)
theorem lk_kind (hN : N < 34) (h : LI N σ b) (h3 : x3 = b 3 2) (k : ∀ σ' b', LI (N + 1) σ' b' → x3 = b' 3 2 → K (x3, (N : Int) + 1, σ')) (i : Nat) (hi : (i : Int) < b 3 0) (kd gr : Int) (hk : 0 ≤ kd ∧ kd ≤ 2) (hg : 1 ≤ gr ∧ gr ≤ 9) : vL_setsKind (i : Int) kd gr σ (fun r76 σ77 => vL_law_545 K Q x3 (N : Int) r76 σ77) := by
  obtain ⟨hc, ha, hl⟩ := h
  have hw := hl.1
  have hn := hw.1
  have hi3 := hw.n3 hi
  have hv := hw.2.2.2.2 i hi
  unfold vL_setsKind
  rw [show (7 * (i : Int) + 2).toNat = 7 * i + 2 by omega, show (7 * (i : Int) + 3).toNat = 7 * i + 3 by omega, show (7 * (i : Int) + 4).toNat = 7 * i + 4 by omega, show (7 * (i : Int) + 5).toNat = 7 * i + 5 by omega, ha.r2 hi3 hi]
  refine ⟨⟨by omega, by omega⟩, fun t ht s1 e1 => ⟨⟨by omega, by omega⟩, fun s2 e2 => ⟨⟨by omega, by omega⟩, fun s3 e3 => ⟨⟨by omega, by omega⟩, fun s4 e4 => ?_⟩⟩⟩⟩
  rw [ht]
  have A1 : AB (cu (σ 40) (7 * i + 2) kd) (xup b i 2 kd) := ha.glass hi3 (p := 2) (by omega) kd
  have A2 : AB (cu (cu (σ 40) (7 * i + 2) kd) (7 * i + 3) gr) (xup (xup b i 2 kd) i 3 gr) := A1.glass hi3 (p := 3) (by omega) gr
  have A3 : AB (cu (cu (cu (σ 40) (7 * i + 2) kd) (7 * i + 3) gr) (7 * i + 4) 0) (xup (xup (xup b i 2 kd) i 3 gr) i 4 0) := A2.glass hi3 (p := 4) (by omega) 0
  have A4 : AB (cu (cu (cu (cu (σ 40) (7 * i + 2) kd) (7 * i + 3) gr) (7 * i + 4) 0) (7 * i + 5) 0) (aKind b i kd gr) := A3.glass hi3 (p := 6) (by omega) 0
  have e5 : s4 = xset σ 40 (cu (cu (cu (cu (σ 40) (7 * i + 2) kd) (7 * i + 3) gr) (7 * i + 4) 0) (7 * i + 5) 0) := by
    rw [e4, e3, e2, e1, xup_set σ, xup_cu, xup_cu, xup_cu]
    rfl
  rw [e5]
  refine cKind hw (hc.a _) i rfl hi hk hg (fun σ' hc' hf => ?_)
  have ha' : AB (σ' 40) (aKind b i kd gr) := by rw [hf.a]; exact A4
  have o : ∀ r j, 3 ≤ r → aKind b i kd gr r j = b r j := fun r j hr => by unfold aKind; rw [aFree_app, if_neg (by omega), xup_app, if_neg (by omega), xup_app, if_neg (by omega)]
  have hl' : LIb (N + 1) (aKind b i kd gr) := hl.rest (hw.kind i hi3 hk hg) (fun r p hr _ => o r p hr)
  have e2 : x3 = aKind b i kd gr 3 2 := by rw [o 3 2 (by omega)]; exact h3
  refine ⟨⟨by omega, by omega⟩, ⟨by omega, by omega⟩, fun z => absurd rfl z, fun _ => ?_⟩
  refine cKindBad hl'.1 hc' ⟨by omega, by omega⟩ ⟨by omega, by omega⟩ ⟨by omega, by omega⟩ (Or.inl (Or.inr (by omega))) ⟨⟨by omega, by omega⟩, fun z => absurd rfl z, fun _ => ?_⟩
  refine cKindBad hl'.1 hc' ⟨by omega, by omega⟩ ⟨by omega, by omega⟩ ⟨by omega, by omega⟩ (Or.inr (Or.inr (by omega))) ⟨⟨by omega, by omega⟩, fun z => absurd rfl z, fun _ => ?_⟩
  exact lk545 hN ⟨hc', ha', hl'⟩ e2 (k _ _ ⟨hc', ha', hl'⟩ e2)
theorem lk_glasses (hN : N < 34) (h : LI N σ b) (h3 : x3 = b 3 2) (k : ∀ σ' b', LI (N + 1) σ' b' → x3 = b' 3 2 → K (x3, (N : Int) + 1, σ')) (n : Int) (hn : 1 ≤ n ∧ n ≤ 3) : vL_setsGlasses n σ (fun r89 σ90 => rng r89 ∧ ((r89 = 0 → vL_law_545 K Q x3 (N : Int) 0 σ90) ∧ (¬ r89 = 0 → vL_law_545 K Q x3 (N : Int) 1 σ90))) := by
  obtain ⟨hc, ha, hl⟩ := h
  have hw := hl.1
  have hn3 := hw.1
  rw [← xset_self σ 40]
  refine akRenew ha (by omega) hn (fun m' h' => ?_)
  refine cGlasses hw (hc.a m') hn (fun σ' hc' hf => ?_)
  have ha' : AB (σ' 40) (aRenew b n) := by rw [hf.a]; exact h'
  have o : ∀ r p : Nat, 3 ≤ r → (r ≠ 3 ∨ p ≠ 0) → aRenew b n r p = b r p := fun r p hr hp => by
    unfold aRenew
    rw [if_neg (by omega), if_neg (by omega)]
  have hl' : LIb (N + 1) (aRenew b n) := hl.rest (hw.renew hn) (fun r p hr hp => o r p hr (by omega))
  have e2 : x3 = aRenew b n 3 2 := by rw [o 3 2 (by omega) (by omega)]; exact h3
  refine ⟨⟨by omega, by omega⟩, ⟨by omega, by omega⟩, fun z => absurd rfl z, fun _ => ?_⟩
  refine cGlassesBad ⟨by omega, by omega⟩ (Or.inr (by omega)) ⟨⟨by omega, by omega⟩, fun z => absurd rfl z, fun _ => ⟨⟨by omega, by omega⟩, fun z => absurd z (by omega), fun _ => ?_⟩⟩
  exact lk545 hN ⟨hc', ha', hl'⟩ e2 (k _ _ ⟨hc', ha', hl'⟩ e2)
end
