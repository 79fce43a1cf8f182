/-! the reference's second: first the sand, then the events -/
def mskI (b : xS) : Nat → Int
  | 0 => 0
  | k + 1 => if aRuns b k then jor (mskI b k) (jshl 1 (k : Int)) else mskI b k
theorem mskI_3 (b : xS) (n : Nat) (hn : n ≤ 3) (i : Nat) (hi : i < n) : rng (jand (jshr (mskI b n) (i : Int)) 1) ∧ (jand (jshr (mskI b n) (i : Int)) 1 = 1 ↔ aRuns b i) := by
  refine ⟨i32_rng _, ?_⟩
  have t : ∀ k, aRuns b k → ((if aRuns b k then jor (mskI b k) (jshl 1 (k : Int)) else mskI b k) = jor (mskI b k) (jshl 1 (k : Int))) := fun k h => if_pos h
  have f : ∀ k, ¬ aRuns b k → ((if aRuns b k then jor (mskI b k) (jshl 1 (k : Int)) else mskI b k) = mskI b k) := fun k h => if_neg h
  have e0 : mskI b 0 = 0 := rfl
  have d0 : (aRuns b 0 ∧ mskI b 1 = 1) ∨ (¬ aRuns b 0 ∧ mskI b 1 = 0) := by
    by_cases h : aRuns b 0
    · exact Or.inl ⟨h, by rw [mskI, t 0 h, e0]; decide⟩
    · exact Or.inr ⟨h, by rw [mskI, f 0 h, e0]⟩
  have d1 : (aRuns b 1 ∧ mskI b 2 = jor (mskI b 1) 2) ∨ (¬ aRuns b 1 ∧ mskI b 2 = mskI b 1) := by
    by_cases h : aRuns b 1
    · exact Or.inl ⟨h, by rw [mskI, t 1 h]; rfl⟩
    · exact Or.inr ⟨h, by rw [mskI, f 1 h]⟩
  have d2 : (aRuns b 2 ∧ mskI b 3 = jor (mskI b 2) 4) ∨ (¬ aRuns b 2 ∧ mskI b 3 = mskI b 2) := by
    by_cases h : aRuns b 2
    · exact Or.inl ⟨h, by rw [mskI, t 2 h]; rfl⟩
    · exact Or.inr ⟨h, by rw [mskI, f 2 h]⟩
  rcases (show n = 1 ∨ n = 2 ∨ n = 3 by omega) with rfl | rfl | rfl
  · have : i = 0 := by omega
    subst this
    rcases d0 with ⟨h0, q0⟩ | ⟨h0, q0⟩ <;> rw [q0]
    · exact ⟨fun _ => h0, fun _ => by decide⟩
    · exact ⟨fun q => absurd q (by decide), fun q => absurd q h0⟩
  · rcases (show i = 0 ∨ i = 1 by omega) with rfl | rfl <;> rcases d0 with ⟨h0, q0⟩ | ⟨h0, q0⟩ <;> rcases d1 with ⟨h1, q1⟩ | ⟨h1, q1⟩ <;> rw [q1, q0] <;> first | exact ⟨fun _ => h0, fun _ => by decide⟩ | exact ⟨fun _ => h1, fun _ => by decide⟩ | exact ⟨fun q => absurd q (by decide), fun q => absurd q h0⟩ | exact ⟨fun q => absurd q (by decide), fun q => absurd q h1⟩
  · rcases (show i = 0 ∨ i = 1 ∨ i = 2 by omega) with rfl | rfl | rfl <;> rcases d0 with ⟨h0, q0⟩ | ⟨h0, q0⟩ <;> rcases d1 with ⟨h1, q1⟩ | ⟨h1, q1⟩ <;> rcases d2 with ⟨h2, q2⟩ | ⟨h2, q2⟩ <;> rw [q2, q1, q0] <;> first | exact ⟨fun _ => h0, fun _ => by decide⟩ | exact ⟨fun _ => h1, fun _ => by decide⟩ | exact ⟨fun _ => h2, fun _ => by decide⟩ | exact ⟨fun q => absurd q (by decide), fun q => absurd q h0⟩ | exact ⟨fun q => absurd q (by decide), fun q => absurd q h1⟩ | exact ⟨fun q => absurd q (by decide), fun q => absurd q h2⟩
/-- the table behind the first loop, and within the second -/
def aD (b : xS) (q : Nat) : xS := fun i p => if i < q ∧ i < 3 ∧ aRuns b i then aDec b i i p else b i p
def aG (b : xS) (q : Nat) : xS := fun i p => if i < 3 ∧ q ≤ i then (if aRuns b i then aDec b i i p else b i p) else aSecI b q i p
theorem aEv_ge3 {x y : xS} (g : Nat) (kd : Int) (h : ∀ i p, 3 ≤ i → x i p = y i p) {i p : Nat} (hi : 3 ≤ i) : aEv x g kd i p = aEv y g kd i p := by
  rw [aEv_app, aEv_app, h 3 3 (by omega), h 3 1 (by omega), h i p hi]
theorem mkSecond_67 {σ : xS} {m : Nat → Int} {b : xS} {K : Int × Int × xS → Prop} {Q : Int → xS → Prop} {x g y z : Int} (h : MB m b) (i : Nat) (hi : i < 3) (hg : g = (i : Int)) (k : ∀ m', MB m' (xup b i 6 (y + z)) → K (x, g + 1, xset σ 21 m')) : vX5_second_67 K Q x g g 5 y z (xset σ 21 m) := by
  unfold vX5_second_67
  exact mkP h i 6 hi (by omega) hg rfl k
theorem mkSec {σ : xS} {m : Nat → Int} {b : xS} {Q : Int → xS → Prop} {T : Int} (hT : T ≤ 100000) (hw : WFt T b) (h : MB m b) (k : ∀ m', MB m' (aSec b) → Q (aSec b 3 3 - b 3 3) (xset σ 21 m')) : vX5_second (xset σ 21 m) Q := by
  have hn := hw.1
  have ht := hw.2.1
  have he := hw.2.2.2.1
  unfold vX5_second
  refine mu_of (fun a => ∃ (q : Nat) (m1 : Nat → Int), a = (mskI b q, (q : Int), xset σ 21 m1) ∧ (q : Int) ≤ b 3 0 ∧ MB m1 (aD b q)) (fun a => (3 - a.2.1).toNat) ?_ _ ⟨0, m, rfl, by omega, h.congr (fun i p _ _ _ => by unfold aD; rw [if_neg (by omega)]) (fun i p _ => by unfold aD; rw [if_neg (by omega)])⟩
  rintro K _ ⟨q, m1, rfl, hq, h1⟩ hK
  have e3 : ∀ i p, 3 ≤ i → aD b q i p = b i p := fun i p hi => by unfold aD; rw [if_neg (by omega)]
  unfold vX5_second_4
  dsimp only
  rw [xset_at, h1.n 0 (by omega), e3 3 0 (by omega)]
  refine ⟨⟨by omega, by omega⟩, ⟨by omega, by omega⟩, fun r s hs => ?_, fun r => ?_⟩
  · -- the second loop
    have hqn : (b 3 0).toNat = q := by omega
    rw [hs, xset_at, xup_cu, h1.n 1 (by omega), e3 3 1 (by omega)]
    have h2 : MB (cu m1 22 (b 3 1 + 1)) (aG b 0) := by
      refine (h1.scal (k := 1) (by omega) (by omega) (by omega) (b 3 1 + 1)).congr (fun i p hi hi3 hp => ?_) (fun i p hi => ?_)
      · rw [xup_app, if_neg (by omega), e3 3 0 (by omega)] at hi
        rw [xup_app, if_neg (by omega)]
        unfold aG aD
        rw [if_pos ⟨hi3, Nat.zero_le _⟩]
        by_cases hr : aRuns b i
        · rw [if_pos hr, if_pos ⟨by omega, hi3, hr⟩]
        · rw [if_neg hr, if_neg (fun z => hr z.2.2)]
      · unfold aG
        rw [if_neg (by omega)]
        unfold aSecI
        rw [xup_app, xup_app, e3 i p hi]
    refine mu_of (fun a => ∃ (j : Nat) (m2 : Nat → Int), a = (mskI b q, aSecI b j 3 3 - b 3 3, (j : Int), xset σ 21 m2) ∧ (j : Int) ≤ b 3 0 ∧ MB m2 (aG b j)) (fun a => (3 - a.2.2.1).toNat) ?_ _ ⟨0, _, by unfold aSecI; rw [xup_app, if_neg (by omega), Int.sub_self]; rfl, by omega, h2⟩
    rintro K2 _ ⟨j, m2, rfl, hj, h3⟩ hK2
    have g3 : ∀ i p, 3 ≤ i → aG b j i p = aSecI b j i p := fun i p hi => by unfold aG; rw [if_neg (by omega)]
    have s30 : aSecI b j 3 0 = b 3 0 := aSecI_3 b j (by omega) 0 (by omega) (by omega)
    have s33 := aSecI_33 b j (by omega)
    unfold vX5_second_92
    dsimp only
    rw [xset_at, h3.n 0 (by omega), g3 3 0 (by omega), s30]
    refine ⟨⟨by omega, by omega⟩, ⟨by omega, by omega⟩, fun r2 => ?_, fun r2 => ?_⟩
    · have hjn : (b 3 0).toNat = j := by omega
      have ej : aSec b = aSecI b j := by unfold aSec; rw [hjn]
      have := k m2 (h3.congr (fun i p hi hi3 hp => ?_) (fun i p hi => ?_))
      · rw [ej] at this
        exact this
      · rw [g3 3 0 (by omega), s30] at hi
        rw [ej]
        unfold aG
        rw [if_neg (by omega)]
      · rw [ej, g3 i p hi]
    · have hj1 : (j : Int) < b 3 0 := by omega
      have hj3 : j < 3 := by omega
      have hv := hw.2.2.2.2 j hj1
      have hm := mskI_3 b q (by omega) j (by omega)
      have gn : (j : Int) < aG b j 3 0 := by rw [g3 3 0 (by omega), s30]; exact hj1
      have grow : ∀ p, aG b j j p = if aRuns b j then aDec b j j p else b j p := fun p => by unfold aG; rw [if_pos ⟨hj3, Nat.le_refl j⟩]
      have srun : aRuns (aSecI b j) j ↔ aRuns b j := by
        unfold aRuns
        rw [aSecI_hi b j (by omega) j 1 (Nat.le_refl j) hj3, aSecI_hi b j (by omega) j 2 (Nat.le_refl j) hj3, aSecI_hi b j (by omega) j 4 (Nat.le_refl j) hj3]
      have hsj : ∀ p, aSecI b j j p = b j p := fun p => aSecI_hi b j (by omega) j p (Nat.le_refl j) hj3
      have nxt : ∀ (x : Int) (m4 : Nat → Int) (γ : xS), x = aSecI b (j + 1) 3 3 - b 3 3 → MB m4 γ → (∀ i p : Nat, (i : Int) < b 3 0 → i < 3 → p < 7 → aG b (j + 1) i p = γ i p) → (∀ i p, 3 ≤ i → aSecI b (j + 1) i p = γ i p) → K2 (mskI b q, x, (j : Int) + 1, xset σ 21 m4) := by
        intro x m4 γ hx h4 h5 h6
        refine hK2 _ ⟨j + 1, m4, by rw [hx]; push_cast; rfl, by omega, ?_⟩ (by show (3 - ((j : Int) + 1)).toNat < (3 - (j : Int)).toNat; omega)
        refine h4.congr (fun i p hi hi3 hp => h5 i p ?_ hi3 hp) (fun i p hi => ?_)
        · rw [← h6 3 0 (by omega), aSecI_3 b (j + 1) (by omega) 0 (by omega) (by omega)] at hi
          exact hi
        · unfold aG
          rw [if_neg (by omega)]
          exact h6 i p hi
      -- rows other than j are the same before and behind
      have other : ∀ i p : Nat, (i : Int) < b 3 0 → i < 3 → i ≠ j → aG b (j + 1) i p = aG b j i p := by
        intro i p hi hi3 hij
        unfold aG
        by_cases hlt : j + 1 ≤ i
        · rw [if_pos (show i < 3 ∧ j + 1 ≤ i from ⟨hi3, hlt⟩), if_pos (show i < 3 ∧ j ≤ i from ⟨hi3, by omega⟩)]
        · rw [if_neg (by omega), if_neg (by omega), aSecI_lo b (j + 1) (by omega) i p (by omega), aSecI_lo b j (by omega) i p (by omega)]
      have rowj : ∀ p, aG b (j + 1) j p = if aRuns b j then aSink b j j p else b j p := by
        intro p
        unfold aG
        rw [if_neg (by omega), aSecI_lo b (j + 1) (by omega) j p (by omega)]
      -- nothing happens to glass j, or it ran and nothing is told
      have quiet : ∀ m4, (¬ aRuns b j ∨ (b j 1 - 1 ≠ 0 ∧ ¬ (b j 2 = 1 ∧ b j 3 ≤ b j 6 + 1))) → MB m4 (xup (aG b j) j 4 (b j 4)) → K2 (mskI b q, aSecI b j 3 3 - b 3 3, (j : Int) + 1, xset σ 21 m4) := by
        intro m4 hq4 h4
        have same : aSecI b (j + 1) = if aRuns b j then aDec (aSecI b j) j else aSecI b j := by
          rw [aSecI]
          by_cases hr : aRuns b j
          · rw [if_pos (srun.mpr hr), if_pos hr]
            rcases hq4 with hq4 | hq4
            · exact absurd hr hq4
            · unfold aSink
              rw [hsj, hsj, hsj, hsj, if_neg hq4.1, if_neg hq4.2]
          · rw [if_neg (fun z => hr (srun.mp z)), if_neg hr]
        have ge3 : ∀ i p, 3 ≤ i → aSecI b (j + 1) i p = aSecI b j i p := by
          intro i p hi
          rw [same]
          by_cases hr : aRuns b j
          · rw [if_pos hr, aDec_app, if_neg (by omega)]
          · rw [if_neg hr]
        refine nxt _ m4 _ (by rw [ge3 3 3 (by omega)]) h4 (fun i p hi hi3 hp => ?_) (fun i p hi => ?_)
        · by_cases hij : i = j
          · subst hij
            rw [rowj, xup_app]
            by_cases hr : aRuns b i
            · rw [if_pos hr, aSink_row _ hi3]
              rcases hq4 with hq4 | hq4
              · exact absurd hr hq4
              · rw [if_neg (fun z => hq4.2 z.2.2)]
                by_cases p4 : p = 4
                · rw [if_pos ⟨rfl, p4⟩, p4, aDec_app, if_pos rfl, if_neg (by omega), if_neg (by omega)]
                · rw [if_neg (fun z => p4 z.2), grow, if_pos hr]
            · rw [if_neg hr]
              by_cases p4 : p = 4
              · rw [if_pos ⟨rfl, p4⟩, p4]
              · rw [if_neg (fun z => p4 z.2), grow, if_neg hr]
          · rw [xup_app, if_neg (by omega)]
            exact other i p hi hi3 hij
        · rw [ge3 i p hi, xup_app, if_neg (by omega), g3 i p hi]
      -- it is told
      have told : ∀ (m4 : Nat → Int) (v kd : Int), aRuns b j → ((b j 1 - 1 = 0 ∧ v = b j 4 ∧ kd = 0) ∨ (b j 1 - 1 ≠ 0 ∧ (b j 2 = 1 ∧ b j 3 ≤ b j 6 + 1) ∧ v = 1 ∧ kd = 1)) → MB m4 (xup (aG b j) j 4 v) → vX5_writes (j : Int) kd (xset σ 21 m4) (fun σ2 => K2 (mskI b q, aSecI b j 3 3 - b 3 3 + 1, (j : Int) + 1, σ2)) := by
        intro m4 v kd hr hc h4
        have z33 : xup (aG b j) j 4 v 3 3 = aSecI b j 3 3 := by rw [xup_app, if_neg (by omega), g3 3 3 (by omega)]
        refine mkWrite (by rw [z33]; omega) h4 j rfl (fun m5 h5 => ?_)
        have ge3 : ∀ i p, 3 ≤ i → aSecI b (j + 1) i p = aEv (xup (aG b j) j 4 v) j kd i p := by
          intro i p hi
          rw [aSecI, if_pos (srun.mpr hr)]
          unfold aSink
          rw [hsj, hsj, hsj, hsj]
          rcases hc with ⟨c1, c2, c3⟩ | ⟨c1, c2, c3, c4⟩
          · rw [if_pos c1, c3]
            refine aEv_ge3 j 0 (fun i p hi => ?_) hi
            rw [aDec_app, if_neg (by omega), xup_app, if_neg (by omega), g3 i p hi]
          · rw [if_neg c1, if_pos c2, c4]
            refine aEv_ge3 j 1 (fun i p hi => ?_) hi
            rw [xup_app, if_neg (by omega), aDec_app, if_neg (by omega), xup_app, if_neg (by omega), g3 i p hi]
        refine nxt _ m5 _ ?_ h5 (fun i p hi hi3 hp => ?_) ge3
        · rw [ge3 3 3 (by omega), aEv_33, z33]
          omega
        · rw [aEv_low _ _ _ hi3, xup_app]
          by_cases hij : i = j
          · subst hij
            rw [rowj, if_pos hr, aSink_row _ hi3]
            by_cases p4 : p = 4
            · rw [if_pos (show i = i ∧ p = 4 from ⟨rfl, p4⟩)]
              rcases hc with ⟨c1, c2, c3⟩ | ⟨c1, c2, c3, c4⟩
              · rw [if_neg (fun z => z.2.1 c1), p4, aDec_app, if_pos rfl, if_neg (by omega), if_neg (by omega), c2]
              · rw [if_pos ⟨p4, c1, c2⟩, c3]
            · rw [if_neg (fun z : i = i ∧ p = 4 => p4 z.2), if_neg (fun z => p4 z.1), grow, if_pos hr]
          · rw [if_neg (fun z => hij z.1)]
            exact other i p hi hi3 hij
      -- the printed blocks, from the last to the first
      have b213 : ∀ (m4 : Nat → Int) (x5 v : Int), aRuns b j → ((b j 1 - 1 = 0 ∧ v = b j 4 ∧ x5 = 1) ∨ (b j 1 - 1 ≠ 0 ∧ (b j 2 = 1 ∧ b j 3 ≤ b j 6 + 1) ∧ v = 1 ∧ x5 = 0)) → MB m4 (xup (aG b j) j 4 v) → vX5_second_213 K2 Q (mskI b q) (aSecI b j 3 3 - b 3 3) (j : Int) x5 (xset σ 21 m4) := by
        intro m4 x5 v hr hc h4
        unfold vX5_second_213 vX5_second_225
        refine ⟨⟨by omega, by omega⟩, fun z => told m4 v 1 hr (Or.inr ?_) h4, fun z => told m4 v 0 hr (Or.inl ?_) h4⟩
        · rcases hc with hc | hc
          · exact absurd hc.2.2 (by omega)
          · exact ⟨hc.1, hc.2.1, hc.2.2.1, rfl⟩
        · rcases hc with hc | hc
          · exact ⟨hc.1, hc.2.1, rfl⟩
          · exact absurd hc.2.2.2 z
      have b200 : ∀ (x5 x6 v : Int), (x5 = 0 ∨ x5 = 1) → (x6 = 0 ∨ x6 = 1) → (x5 = 1 → aRuns b j ∧ b j 1 - 1 = 0 ∧ v = b j 4) → (x5 = 0 → x6 = 1 → aRuns b j ∧ b j 1 - 1 ≠ 0 ∧ (b j 2 = 1 ∧ b j 3 ≤ b j 6 + 1) ∧ v = 1) → (x5 = 0 → x6 = 0 → (¬ aRuns b j ∨ (b j 1 - 1 ≠ 0 ∧ ¬ (b j 2 = 1 ∧ b j 3 ≤ b j 6 + 1))) ∧ v = b j 4) → vX5_second_200 K2 Q (mskI b q) (aSecI b j 3 3 - b 3 3) (j : Int) x5 x6 (j : Int) 4 v (xset σ 21 m2) := by
        intro x5 x6 v hx5 hx6 c1 c2 c3
        unfold vX5_second_200
        refine mkP h3 j 4 hj3 (by omega) rfl rfl (fun m4 h4 => ⟨⟨by omega, by omega⟩, fun z => ?_, fun z => ⟨⟨by omega, by omega⟩, fun z2 => ?_, fun z2 => ?_⟩⟩)
        · have hx : x5 = 1 := by omega
          obtain ⟨d1, d2, d3⟩ := c1 hx
          exact b213 m4 x5 v d1 (Or.inl ⟨d2, d3, hx⟩) h4
        · obtain ⟨d1, d2⟩ := c3 z z2
          exact quiet m4 d1 (by rw [← d2]; exact h4)
        · have hx : x6 = 1 := by omega
          obtain ⟨d1, d2, d3, d4⟩ := c2 z hx
          exact b213 m4 x5 v d1 (Or.inr ⟨d2, d3, d4, z⟩) h4
      have g4 : aG b j j 4 = b j 4 := by
        rw [grow]
        by_cases hr : aRuns b j
        · rw [if_pos hr, aDec_app, if_pos rfl, if_neg (by omega), if_neg (by omega)]
        · rw [if_neg hr]
      have b180n : ∀ x5 : Int, (x5 = 0 ∨ x5 = 1) → (x5 = 1 → aRuns b j ∧ b j 1 - 1 = 0) → (x5 = 0 → (¬ aRuns b j ∨ (b j 1 - 1 ≠ 0 ∧ ¬ (b j 2 = 1 ∧ b j 3 ≤ b j 6 + 1)))) → vX5_second_179 K2 Q (mskI b q) (aSecI b j 3 3 - b 3 3) (j : Int) x5 (xset σ 21 m2) := by
        intro x5 hx c1 c2
        unfold vX5_second_179 vX5_second_180
        refine ⟨rng0, fun _ => mkR h3 j 4 hj3 gn (by omega) rfl rfl ?_, fun z => absurd rfl z⟩
        rw [g4]
        exact b200 x5 0 (b j 4) hx (Or.inl rfl) (fun z => ⟨(c1 z).1, (c1 z).2, rfl⟩) (fun _ z => absurd z (by omega)) (fun z _ => ⟨c2 z, rfl⟩)
      have b138 : ∀ (x4 y0 : Int), (x4 = 1 ∧ aRuns b j ∨ x4 = 0 ∧ ¬ aRuns b j) → ((y0 = 1 ∧ x4 = 1 ∧ b j 1 - 1 = 0) ∨ (y0 = 0 ∧ (x4 = 1 → b j 1 - 1 ≠ 0))) → vX5_second_138 K2 Q (mskI b q) (aSecI b j 3 3 - b 3 3) (j : Int) x4 y0 (xset σ 21 m2) := by
        intro x4 y0 hx hy
        unfold vX5_second_138
        refine ⟨⟨by omega, by omega⟩, fun z => ?_, fun z => ⟨⟨by omega, by omega⟩, fun z2 => ?_, fun z2 => ?_⟩⟩
        · have hnr : ¬ aRuns b j := by rcases hx with hx | hx; exact absurd hx.1 (by omega); exact hx.2
          exact b180n y0 (by omega) (fun w => by omega) (fun _ => Or.inl hnr)
        · have hr : aRuns b j := by rcases hx with hx | hx; exact hx.2; exact absurd hx.1 z
          exact b180n y0 (by omega) (fun w => ⟨hr, by omega⟩) (fun w => absurd w z2)
        · have hr : aRuns b j := by rcases hx with hx | hx; exact hx.2; exact absurd hx.1 z
          have hx1 : x4 = 1 := by omega
          have hne : b j 1 - 1 ≠ 0 := by rcases hy with hy | hy; exact absurd hy.1 (by omega); exact hy.2 hx1
          have r2v : aG b j j 2 = b j 2 := by rw [grow, if_pos hr, aDec_app, if_pos rfl, if_neg (by omega), if_neg (by omega)]
          have r3v : aG b j j 3 = b j 3 := by rw [grow, if_pos hr, aDec_app, if_pos rfl, if_neg (by omega), if_neg (by omega)]
          have r6v : aG b j j 6 = if b j 2 = 1 then b j 6 + 1 else b j 6 := by rw [grow, if_pos hr, aDec_app, if_pos rfl, if_neg (by omega), if_pos rfl]
          refine mkR h3 j 2 hj3 gn (by omega) rfl rfl ?_
          rw [r2v]
          refine ⟨⟨by omega, by omega⟩, fun z3 => b180n y0 (by omega) (fun w => by omega) (fun _ => Or.inr ⟨hne, fun w => z3 w.1⟩), fun z3 => ?_⟩
          refine mkR h3 j 6 hj3 gn (by omega) rfl rfl (mkR h3 j 3 hj3 gn (by omega) rfl rfl ?_)
          rw [r6v, r3v, if_pos z3]
          refine ⟨⟨by omega, by omega⟩, ⟨by omega, by omega⟩, fun z4 => b180n y0 (by omega) (fun w => by omega) (fun _ => Or.inr ⟨hne, fun w => by omega⟩), fun z4 => ?_⟩
          unfold vX5_second_180
          refine ⟨⟨by omega, by omega⟩, fun w => absurd w (by omega), fun _ => ?_⟩
          exact b200 y0 1 1 (by omega) (Or.inr rfl) (fun w => by omega) (fun _ _ => ⟨hr, hne, ⟨z3, by omega⟩, rfl⟩) (fun _ w => absurd w (by omega))
      have b117 : ∀ x4 : Int, (x4 = 1 ∧ aRuns b j ∨ x4 = 0 ∧ ¬ aRuns b j) → vX5_second_117 K2 Q (mskI b q) (aSecI b j 3 3 - b 3 3) (j : Int) x4 (xset σ 21 m2) := by
        intro x4 hx
        unfold vX5_second_117 vX5_second_137
        refine ⟨⟨by omega, by omega⟩, fun z => b138 x4 0 hx (Or.inr ⟨rfl, fun w => absurd w (by omega)⟩), fun z => ?_⟩
        have hr : aRuns b j := by rcases hx with hx | hx; exact hx.2; exact absurd hx.1 z
        have hr1 := hr.1
        have r1v : aG b j j 1 = b j 1 - 1 := by rw [grow, if_pos hr, aDec_app, if_pos rfl, if_pos rfl]
        refine mkR h3 j 1 hj3 gn (by omega) rfl rfl ?_
        rw [r1v]
        exact ⟨⟨by omega, by omega⟩, fun z2 => b138 x4 0 hx (Or.inr ⟨rfl, fun _ => z2⟩), fun z2 => b138 x4 1 hx (Or.inl ⟨rfl, by omega, z2⟩)⟩
      refine ⟨hm.1, fun z => b117 0 (Or.inr ⟨rfl, fun w => z (hm.2.mpr w)⟩), fun z => b117 1 (Or.inl ⟨rfl, hm.2.mp z⟩)⟩
  · have hq1 : (q : Int) < b 3 0 := by omega
    have hq3 : q < 3 := by omega
    have hv := hw.2.2.2.2 q hq1
    have dn : (q : Int) < aD b q 3 0 := by rw [e3 3 0 (by omega)]; exact hq1
    have drow : ∀ p, aD b q q p = b q p := fun p => by unfold aD; rw [if_neg (by omega)]
    have nxt : ∀ (x : Int) (m4 : Nat → Int) (γ : xS), x = mskI b (q + 1) → MB m4 γ → (∀ p, aD b (q + 1) q p = γ q p) → (∀ i p, i ≠ q → aD b (q + 1) i p = γ i p) → K (x, (q : Int) + 1, xset σ 21 m4) := by
      intro x m4 γ hx h4 h5 h6
      refine hK _ ⟨q + 1, m4, by rw [hx]; push_cast; rfl, by omega, ?_⟩ (by show (3 - ((q : Int) + 1)).toNat < (3 - (q : Int)).toNat; omega)
      have e : aD b (q + 1) = γ := xS_ext fun i p => by
        by_cases hi : i = q
        · subst hi; exact h5 p
        · exact h6 i p hi
      rw [e]
      exact h4
    have dother : ∀ i p, i ≠ q → aD b (q + 1) i p = aD b q i p := by
      intro i p hi
      unfold aD
      by_cases hlt : i < q
      · by_cases hr : i < 3 ∧ aRuns b i
        · rw [if_pos ⟨by omega, hr⟩, if_pos ⟨hlt, hr⟩]
        · rw [if_neg (fun z => hr z.2), if_neg (fun z => hr z.2)]
      · rw [if_neg (by omega), if_neg (by omega)]
    have drun : aRuns (aD b q) q ↔ aRuns b q := by unfold aRuns; rw [drow, drow, drow]
    have hw1 : vX5_runs (q : Int) (xset σ 21 m1) (fun r48 σ49 => rng r48 ∧ ((r48 = 0 → K (mskI b q, ((q : Int) + 1), σ49)) ∧ (¬ r48 = 0 → vX5_of (q : Int) 1 σ49 (fun r52 σ53 => vX5_put (q : Int) 1 (r52 - 1) σ53 (fun σ55 => vX5_of (q : Int) 5 σ55 (fun r56 σ57 => vX5_of (q : Int) 2 σ57 (fun r58 σ59 => rng r58 ∧ ((¬ r58 = 1 → vX5_second_67 K Q (jor (mskI b q) (jshl 1 (q : Int))) (q : Int) (q : Int) 5 r56 0 σ59) ∧ (r58 = 1 → vX5_second_67 K Q (jor (mskI b q) (jshl 1 (q : Int))) (q : Int) (q : Int) 5 r56 1 σ59))))))))) := by
      have stay : ¬ aRuns b q → K (mskI b q, (q : Int) + 1, xset σ 21 m1) := fun hr => nxt _ m1 _ (by rw [mskI, if_neg hr]) h1 (fun p => by unfold aD; rw [if_neg (fun z => hr z.2.2), if_neg (by omega)]) dother
      unfold vX5_runs
      refine mkR h1 q 1 hq3 dn (by omega) rfl rfl ?_
      rw [drow]
      refine ⟨⟨by omega, by omega⟩, fun r1 => ⟨rng0, fun _ => stay (fun w => by have := w.1; omega), fun z => absurd rfl z⟩, fun r1 => ?_⟩
      refine mkR h1 q 2 hq3 dn (by omega) rfl rfl ?_
      rw [drow]
      refine ⟨⟨by omega, by omega⟩, fun r2 => ⟨rng0, fun _ => stay (fun w => w.2.1 r2), fun z => absurd rfl z⟩, fun r2 => ?_⟩
      refine mkR h1 q 4 hq3 dn (by omega) rfl rfl ?_
      rw [drow]
      refine ⟨⟨by omega, by omega⟩, fun r3 => ⟨rng0, fun _ => stay (fun w => r3 w.2.2), fun z => absurd rfl z⟩, fun r3 => ⟨⟨by omega, by omega⟩, fun z => absurd z (by omega), fun _ => ?_⟩⟩
      have hr : aRuns b q := ⟨by omega, r2, r3⟩
      refine mkR h1 q 1 hq3 dn (by omega) rfl rfl ?_
      rw [drow]
      refine mkP h1 q 1 hq3 (by omega) rfl rfl (fun m3 h3 => ?_)
      have dn3 : (q : Int) < xup (aD b q) q 1 (b q 1 - 1) 3 0 := by rw [xup_app, if_neg (by omega)]; exact dn
      refine mkR h3 q 6 hq3 dn3 (by omega) rfl rfl (mkR h3 q 2 hq3 dn3 (by omega) rfl rfl ?_)
      rw [xup_app, if_neg (by omega), xup_app, if_neg (by omega), drow, drow]
      have fin : ∀ v : Int, v = (if b q 2 = 1 then 1 else 0) → vX5_second_67 K Q (jor (mskI b q) (jshl 1 (q : Int))) (q : Int) (q : Int) 5 (b q 6) v (xset σ 21 m3) := by
        intro v hv6
        refine mkSecond_67 h3 q hq3 rfl (fun m4 h4 => nxt _ m4 _ (by rw [mskI, if_pos hr]) h4 (fun p => ?_) (fun i p hi => ?_))
        · rw [xup_app, xup_app, drow]
          unfold aD
          rw [if_pos ⟨Nat.lt_succ_self q, hq3, hr⟩, aDec_app, if_pos rfl]
          by_cases p1 : p = 1
          · rw [if_pos p1, if_neg (by omega), if_pos ⟨rfl, p1⟩]
          · rw [if_neg p1]
            by_cases p6 : p = 6
            · rw [if_pos p6, if_pos (show q = q ∧ p = 6 from ⟨rfl, p6⟩), hv6]
              split <;> omega
            · rw [if_neg p6, if_neg (fun z => p6 z.2), if_neg (fun z => p1 z.2)]
        · rw [dother i p hi, xup_app, if_neg (by omega), xup_app, if_neg (by omega)]
      exact ⟨⟨by omega, by omega⟩, fun z => fin 0 (by rw [if_neg z]), fun z => fin 1 (by rw [if_pos z])⟩
    exact hw1
