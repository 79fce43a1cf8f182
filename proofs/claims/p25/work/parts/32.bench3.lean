theorem xS_ext {a b : xS} (h : ∀ i p, a i p = b i p) : a = b := funext fun i => funext fun p => h i p
theorem WFt.time {T T' : Int} {b : xS} (h : WFt T b) (h2 : b 3 1 ≤ T') : WFt T' b := ⟨h.1, ⟨h.2.1.1, h2⟩, h.2.2⟩
/-- a second keeps the table well -/
theorem aSec_3 {T : Int} {b : xS} (h : WFt T b) {p : Nat} (h3 : p ≠ 3) (h1 : p ≠ 1) : aSec b 3 p = b 3 p := aSecI_3 b _ (by have := h.1; omega) p h3 h1
theorem aSec_31 {T : Int} {b : xS} (h : WFt T b) : aSec b 3 1 = b 3 1 + 1 := aSecI_31 b _ (by have := h.1; omega)
theorem aSec_33 {T : Int} {b : xS} (h : WFt T b) : b 3 3 ≤ aSec b 3 3 ∧ aSec b 3 3 ≤ b 3 3 + 3 := by
  have := h.1
  have := aSecI_33 b (b 3 0).toNat (by omega)
  exact ⟨this.1, by have h2 := this.2; unfold aSec; omega⟩
theorem aSec_lo {T : Int} {b : xS} (h : WFt T b) {j p : Nat} (hj : (j : Int) < b 3 0) : aSec b j p = if aRuns b j then aSink b j j p else b j p := aSecI_lo b _ (by have := h.1; omega) j p (by omega)
theorem WFt.sec {T : Int} {b : xS} (h : WFt T b) : WFt (T + 1) (aSec b) := by
  have h33 := aSec_33 h
  have hn := h.1
  have ht := h.2.1
  have hm := h.2.2.1
  have he := h.2.2.2.1
  refine ⟨by rw [aSec_3 h (by omega) (by omega)]; exact hn, by rw [aSec_31 h]; omega, by rw [aSec_3 h (by omega) (by omega)]; exact hm, by rw [aSec_31 h]; omega, fun i hi => ?_⟩
  rw [aSec_3 h (by omega) (by omega)] at hi
  have hv := h.2.2.2.2 i hi
  have hi3 : i < 3 := h.n3 hi
  have hs5 : aSec b (b i 5).toNat 5 = b (b i 5).toNat 5 := by
    have hj : (((b i 5).toNat : Nat) : Int) < b 3 0 := by omega
    rw [aSec_lo h hj]
    split
    · rw [aSink_row _ (by omega), if_neg (by omega), aDec_app, if_pos rfl, if_neg (by omega), if_neg (by omega)]
    · rfl
  have e5 : aSec b i 5 = b i 5 := by
    rw [aSec_lo h hi]
    split
    · rw [aSink_row _ (by omega), if_neg (by omega), aDec_app, if_pos rfl, if_neg (by omega), if_neg (by omega)]
    · rfl
  rw [e5, hs5]
  by_cases hr : aRuns b i
  · have e : ∀ p, aSec b i p = aSink b i i p := fun p => by rw [aSec_lo h hi, if_pos hr]
    have e0 : aSec b i 0 = b i 0 := by rw [e, aSink_row _ hi3, if_neg (by omega), aDec_app, if_pos rfl, if_neg (by omega), if_neg (by omega)]
    have e1 : aSec b i 1 = b i 1 - 1 := by rw [e, aSink_row _ hi3, if_neg (by omega), aDec_app, if_pos rfl, if_pos rfl]
    have e2 : aSec b i 2 = b i 2 := by rw [e, aSink_row _ hi3, if_neg (by omega), aDec_app, if_pos rfl, if_neg (by omega), if_neg (by omega)]
    have e3 : aSec b i 3 = b i 3 := by rw [e, aSink_row _ hi3, if_neg (by omega), aDec_app, if_pos rfl, if_neg (by omega), if_neg (by omega)]
    have e6 : aSec b i 6 = if b i 2 = 1 then b i 6 + 1 else b i 6 := by rw [e, aSink_row _ hi3, if_neg (by omega), aDec_app, if_pos rfl, if_neg (by omega), if_pos rfl]
    have e4 : aSec b i 4 = if b i 1 - 1 ≠ 0 ∧ b i 2 = 1 ∧ b i 3 ≤ b i 6 + 1 then 1 else b i 4 := by
      rw [e, aSink_row _ hi3]
      by_cases q : b i 1 - 1 ≠ 0 ∧ b i 2 = 1 ∧ b i 3 ≤ b i 6 + 1
      · rw [if_pos ⟨rfl, q⟩, if_pos q]
      · rw [if_neg (fun r => q r.2), if_neg q, aDec_app, if_pos rfl, if_neg (by omega), if_neg (by omega)]
    have hr1 := hr.1
    have hr4 := hr.2.2
    rw [e0, e1, e2, e3, e4, e6, hr4]
    by_cases h2 : b i 2 = 1
    · have hlt := hv.2.2.2.2.2.2.2.2.1 h2 hr4 hr1
      rw [if_pos h2]
      by_cases q : b i 1 - 1 ≠ 0 ∧ b i 2 = 1 ∧ b i 3 ≤ b i 6 + 1
      · rw [if_pos q]
        exact ⟨hv.1, by omega, by omega, hv.2.2.2.1, by omega, hv.2.2.2.2.2.1, by omega, fun z => absurd h2 z, fun _ z => absurd z (by omega), hv.2.2.2.2.2.2.2.2.2⟩
      · rw [if_neg q]
        refine ⟨hv.1, by omega, by omega, hv.2.2.2.1, by omega, hv.2.2.2.2.2.1, by omega, fun z => absurd h2 z, fun _ _ z => ?_, hv.2.2.2.2.2.2.2.2.2⟩
        by_cases z2 : b i 3 ≤ b i 6 + 1
        · exact absurd ⟨by omega, h2, z2⟩ q
        · omega
    · rw [if_neg h2, if_neg (fun r => h2 r.2.1)]
      have hz := hv.2.2.2.2.2.2.2.1 h2
      exact ⟨hv.1, by omega, hv.2.2.1, hv.2.2.2.1, by omega, hv.2.2.2.2.2.1, hv.2.2.2.2.2.2.1, fun _ => ⟨hz.1, rfl⟩, fun z => absurd z h2, hv.2.2.2.2.2.2.2.2.2⟩
  · have e : ∀ p, aSec b i p = b i p := fun p => by rw [aSec_lo h hi, if_neg hr]
    simp only [e]
    exact hv
def aPass : Nat → xS → xS
  | 0, b => b
  | k + 1, b => aSec (aPass k b)
theorem WFt.pass {T : Int} {b : xS} (h : WFt T b) : ∀ k : Nat, WFt (T + k) (aPass k b)
  | 0 => by unfold aPass; rw [show T + ((0 : Nat) : Int) = T by omega]; exact h
  | k + 1 => by unfold aPass; rw [show T + ((k + 1 : Nat) : Int) = T + (k : Int) + 1 by omega]; exact (h.pass k).sec
theorem aPass_31 {T : Int} {b : xS} (h : WFt T b) : ∀ k : Nat, aPass k b 3 1 = b 3 1 + k
  | 0 => by unfold aPass; omega
  | k + 1 => by unfold aPass; rw [aSec_31 (h.pass k), aPass_31 h k]; omega
theorem aPass_3 {T : Int} {b : xS} (h : WFt T b) {p : Nat} (h3 : p ≠ 3) (h1 : p ≠ 1) : ∀ k : Nat, aPass k b 3 p = b 3 p
  | 0 => rfl
  | k + 1 => by unfold aPass; rw [aSec_3 (h.pass k) h3 h1, aPass_3 h h3 h1 k]
/-! how long until something happens -/
def aUntOf (b : xS) (i : Nat) : Int := if b i 2 = 1 then jmin (b i 1) (b i 3 - b i 6) else b i 1
def aUntI (b : xS) : Nat → Int
  | 0 => 0
  | k + 1 => if aRuns b k ∧ (aUntI b k = 0 ∨ aUntOf b k < aUntI b k) then aUntOf b k else aUntI b k
def aUnt (b : xS) : Int := aUntI b (b 3 0).toNat
theorem jmin_le (a b : Int) : jmin a b ≤ a ∧ jmin a b ≤ b ∧ (jmin a b = a ∨ jmin a b = b) := by
  unfold jmin
  split <;> omega
theorem aUntOf_in {T : Int} {b : xS} (h : WFt T b) {i : Nat} (hi : (i : Int) < b 3 0) : aUntOf b i ≤ 12 ∧ -100 ≤ aUntOf b i ∧ (aRuns b i → 1 ≤ aUntOf b i) := by
  have hv := h.2.2.2.2 i hi
  unfold aUntOf
  split
  · rename_i h2
    have hj := jmin_le (b i 1) (b i 3 - b i 6)
    refine ⟨by omega, by omega, fun hr => ?_⟩
    have := hv.2.2.2.2.2.2.2.2.1 h2 hr.2.2 hr.1
    have := hr.1
    omega
  · exact ⟨by omega, by omega, fun hr => hr.1⟩
theorem aUntI_in {T : Int} {b : xS} (h : WFt T b) : ∀ k : Nat, (k : Int) ≤ b 3 0 → 0 ≤ aUntI b k ∧ aUntI b k ≤ 12
  | 0, _ => by unfold aUntI; omega
  | k + 1, hk => by
    have ih := aUntI_in h k (by omega)
    have hu := aUntOf_in h (i := k) (by omega)
    unfold aUntI
    split
    · rename_i q
      have := hu.2.2 q.1
      omega
    · exact ih
theorem aUntI_0 {T : Int} {b : xS} (h : WFt T b) : ∀ k : Nat, (k : Int) ≤ b 3 0 → (aUntI b k = 0 ↔ ∀ i, i < k → ¬ aRuns b i)
  | 0, _ => ⟨fun _ i hi => absurd hi (Nat.not_lt_zero i), fun _ => rfl⟩
  | k + 1, hk => by
    have ih := aUntI_0 h k (by omega)
    have hu := aUntOf_in h (i := k) (by omega)
    unfold aUntI
    by_cases q : aRuns b k ∧ (aUntI b k = 0 ∨ aUntOf b k < aUntI b k)
    · rw [if_pos q]
      have := hu.2.2 q.1
      exact ⟨fun z => absurd z (by omega), fun z => absurd q.1 (z k (by omega))⟩
    · rw [if_neg q]
      constructor
      · intro z i hi
        by_cases hik : i = k
        · subst hik
          exact fun r => q ⟨r, Or.inl z⟩
        · exact ih.mp z i (by omega)
      · exact fun z => ih.mpr (fun i hi => z i (by omega))
theorem aUnt_0 {T : Int} {b : xS} (h : WFt T b) : aUnt b = 0 ↔ ∀ i : Nat, (i : Int) < b 3 0 → ¬ aRuns b i := by
  have hn := h.1
  have := aUntI_0 h (b 3 0).toNat (by omega)
  unfold aUnt
  rw [this]
  exact ⟨fun z i hi => z i (by omega), fun z i hi => z i (by omega)⟩
theorem aUnt_in {T : Int} {b : xS} (h : WFt T b) : 0 ≤ aUnt b ∧ aUnt b ≤ 12 := aUntI_in h _ (by have := h.1; omega)
/-- it is the least of those of the glasses that run -/
theorem aUntI_le {T : Int} {b : xS} (h : WFt T b) : ∀ k : Nat, (k : Int) ≤ b 3 0 → (∀ i, i < k → aRuns b i → aUntI b k ≤ aUntOf b i) ∧ (aUntI b k ≠ 0 → ∃ i, i < k ∧ aRuns b i ∧ aUntOf b i = aUntI b k)
  | 0, _ => ⟨fun i hi => absurd hi (Nat.not_lt_zero i), fun z => absurd rfl z⟩
  | k + 1, hk => by
    have ih := aUntI_le h k (by omega)
    have hz := aUntI_in h k (by omega)
    unfold aUntI
    by_cases q : aRuns b k ∧ (aUntI b k = 0 ∨ aUntOf b k < aUntI b k)
    · rw [if_pos q]
      refine ⟨fun i hi hr => ?_, fun _ => ⟨k, by omega, q.1, rfl⟩⟩
      by_cases hik : i = k
      · subst hik; omega
      · rcases q.2 with q2 | q2
        · exact absurd hr ((aUntI_0 h k (by omega)).mp q2 i (by omega))
        · have := ih.1 i (by omega) hr
          omega
    · rw [if_neg q]
      refine ⟨fun i hi hr => ?_, fun z => ?_⟩
      · by_cases hik : i = k
        · subst hik
          by_cases z : aUntI b i = 0
          · exact absurd ⟨hr, Or.inl z⟩ q
          · by_cases z2 : aUntOf b i < aUntI b i
            · exact absurd ⟨hr, Or.inr z2⟩ q
            · omega
        · exact ih.1 i (by omega) hr
      · obtain ⟨i, h1, h2⟩ := ih.2 z
        exact ⟨i, by omega, h2⟩
theorem okUntOf {σ : xS} {c : Nat → Int} {b : xS} {g : Int} {Q : Int → xS → Prop} {T : Int} (hw : WFt T b) (h : CB c b) (i : Nat) (hn : (i : Int) < b 3 0) (hg : g = (i : Int)) (k : Q (aUntOf b i) (xset σ 8 c)) : vX0_secondsToEventOf g (xset σ 8 c) Q := by
  have hi := hw.n3 hn
  have hv := hw.2.2.2.2 i hn
  unfold vX0_secondsToEventOf
  refine okR h i 1 hi hn (by omega) hg rfl (okR h i 2 hi hn (by omega) hg rfl ⟨⟨by omega, by omega⟩, fun q => ?_, fun q => ?_⟩)
  · refine okR h i 3 hi hn (by omega) hg rfl (okR h i 6 hi hn (by omega) hg rfl ⟨⟨by omega, by omega⟩, ⟨by omega, by omega⟩, ?_⟩)
    unfold aUntOf at k
    rw [if_pos q] at k
    exact k
  · unfold aUntOf at k
    rw [if_neg q] at k
    exact k
theorem okUnt {σ : xS} {c : Nat → Int} {b : xS} {Q : Int → xS → Prop} {T : Int} (hw : WFt T b) (h : CB c b) (k : Q (aUnt b) (xset σ 8 c)) : vX0_secondsToEvent (xset σ 8 c) Q := by
  have hn := hw.1
  unfold vX0_secondsToEvent
  refine mu_of (fun a => ∃ q : Nat, a = (aUntI b q, (q : Int), xset σ 8 c) ∧ (q : Int) ≤ b 3 0) (fun a => (3 - a.2.1).toNat) ?_ _ ⟨0, rfl, by omega⟩
  rintro K _ ⟨q, rfl, hq⟩ hK
  have hin := aUntI_in hw q hq
  unfold vX0_secondsToEvent_4
  refine okG h ⟨⟨by omega, by omega⟩, ⟨by omega, by omega⟩, fun r => ?_, fun r => ?_⟩
  · have e : (b 3 0).toNat = q := by omega
    unfold aUnt at k
    rw [e] at k
    exact k
  · have hq1 : (q : Int) < b 3 0 := by omega
    have hu := aUntOf_in hw hq1
    have nxt : ∀ x, x = aUntI b (q + 1) → K (x, (q : Int) + 1, xset σ 8 c) := fun x hx => hK _ ⟨q + 1, by rw [hx]; push_cast; rfl, by omega⟩ (by show (3 - ((q : Int) + 1)).toNat < (3 - (q : Int)).toNat; omega)
    have fin : (aRuns b q ∧ (aUntI b q = 0 ∨ aUntOf b q < aUntI b q)) → vX0_secondsToEvent_33 K Q (q : Int) (xset σ 8 c) := fun z => by
      unfold vX0_secondsToEvent_33
      refine okUntOf hw h q hq1 rfl (nxt _ ?_)
      rw [aUntI, if_pos z]
    refine okRuns hw h q hq1 rfl (fun hr => ?_) (fun hr => ?_)
    · refine ⟨⟨by omega, by omega⟩, fun z => absurd z (by omega), fun _ => ⟨⟨by omega, by omega⟩, fun z => fin ⟨hr, Or.inl z⟩, fun z => okUntOf hw h q hq1 rfl ⟨⟨by omega, by omega⟩, fun z2 => nxt _ ?_, fun z2 => fin ⟨hr, Or.inr (by omega)⟩⟩⟩⟩
      rw [aUntI, if_neg (by rintro ⟨_, q3 | q3⟩ <;> omega)]
    · refine ⟨⟨by omega, by omega⟩, fun _ => nxt _ ?_, fun z => absurd rfl z⟩
      rw [aUntI, if_neg (fun z => hr z.1)]
/-- where no glass runs a second is only time -/
theorem aSec_idle {T : Int} {b : xS} (h : WFt T b) (hz : aUnt b = 0) : aSec b = xup b 3 1 (b 3 1 + 1) := by
  have hn := h.1
  have hr := (aUnt_0 h).mp hz
  have key : ∀ k : Nat, (k : Int) ≤ b 3 0 → aSecI b k = xup b 3 1 (b 3 1 + 1) := by
    intro k
    induction k with
    | zero => intro _; rfl
    | succ k ih =>
      intro hk
      have e := ih (by omega)
      have hr2 : ¬ aRuns (aSecI b k) k := by
        rw [e]
        unfold aRuns
        rw [xup_app, xup_app, xup_app, if_neg (by omega), if_neg (by omega), if_neg (by omega)]
        exact hr k (by omega)
      rw [aSecI, if_neg hr2, e]
  exact key _ (by omega)
theorem aUnt_idle {T : Int} {b : xS} (h : WFt T b) (hz : aUnt b = 0) : aUnt (aSec b) = 0 := by
  refine (aUnt_0 h.sec).mpr (fun i hi => ?_)
  rw [aSec_3 h (by omega) (by omega)] at hi
  have hr := (aUnt_0 h).mp hz i hi
  have hi3 := h.n3 hi
  rw [aSec_idle h hz]
  unfold aRuns
  rw [xup_app, xup_app, xup_app, if_neg (by omega), if_neg (by omega), if_neg (by omega)]
  exact hr
theorem aPass_idle {T : Int} {b : xS} (h : WFt T b) (hz : aUnt b = 0) : ∀ k : Nat, aPass k b = xup b 3 1 (b 3 1 + k) ∧ aUnt (aPass k b) = 0
  | 0 => ⟨by
      refine xS_ext fun i p => ?_
      rw [xup_app]
      unfold aPass
      by_cases q : i = 3 ∧ p = 1
      · rw [if_pos q, q.1, q.2]; omega
      · rw [if_neg q], hz⟩
  | k + 1 => by
    have ih := aPass_idle h hz k
    refine ⟨?_, by unfold aPass; exact aUnt_idle (h.pass k) ih.2⟩
    unfold aPass
    rw [aSec_idle (h.pass k) ih.2, ih.1]
    refine xS_ext fun i p => ?_
    simp only [xup_app]
    by_cases q : i = 3 ∧ p = 1
    · rw [if_pos q, if_pos q]; simp; omega
    · rw [if_neg q, if_neg q, if_neg q]
theorem aPass_add (b : xS) (j : Nat) : ∀ k, aPass (k + j) b = aPass k (aPass j b)
  | 0 => by rw [Nat.zero_add]; rfl
  | k + 1 => by rw [Nat.succ_add]; show aSec (aPass (k + j) b) = aSec (aPass k (aPass j b)); rw [aPass_add b j k]
theorem okPass {σ : xS} {c : Nat → Int} {b : xS} {x : Int} {Q : Int → xS → Prop} {T : Int} (hT : T ≤ 50000) (hw : WFt T b) (h : CB c b) (n : Nat) (hn : n ≤ 10000) (hx : x = (n : Int)) (k : ∀ c', CB c' (aPass n b) → Q (aPass n b 3 3 - b 3 3) (xset σ 8 c')) : vX0_letPass x (xset σ 8 c) Q := by
  subst hx
  unfold vX0_letPass
  rw [xset_at, h.n 3 (by omega)]
  refine mu_of (fun a => ∃ (j q : Nat) (c1 : Nat → Int), a = (b 3 3, (q : Int), xset σ 8 c1) ∧ q + j = n ∧ CB c1 (aPass j b)) (fun a => a.2.1.toNat) ?_ _ ⟨0, n, c, rfl, by omega, h⟩
  rintro K _ ⟨j, q, c1, rfl, hj, h1⟩ hK
  have hw1 := hw.pass j
  have fin : (q = 0 ∨ aUnt (aPass j b) = 0) → vX0_letPass_31 Q (b 3 3) (q : Int) (xset σ 8 c1) := by
    intro hz
    unfold vX0_letPass_31
    intro s hs
    rw [hs, xset_at, xup_cu, h1.n 1 (by omega), xset_at]
    have h2 := h1.scal (k := 1) (by omega) (by omega) (by omega) (aPass j b 3 1 + q)
    have e : xup (aPass j b) 3 1 (aPass j b 3 1 + q) = aPass n b := by
      rw [← hj, aPass_add]
      rcases hz with rfl | hz
      · refine xS_ext fun i p => ?_
        rw [xup_app]
        show _ = aPass j b i p
        by_cases z : i = 3 ∧ p = 1
        · rw [if_pos z, z.1, z.2]; omega
        · rw [if_neg z]
      · exact ((aPass_idle hw1 hz q).1).symm
    rw [e] at h2
    have e3 : cu c1 58 (aPass j b 3 1 + q) 60 = aPass n b 3 3 := by
      have := h2.n 3 (by omega)
      exact this
    rw [e3]
    exact k _ h2
  unfold vX0_letPass_10
  refine ⟨⟨by omega, by omega⟩, fun r => fin (Or.inl (by omega)), fun r => ?_⟩
  have hu := aUnt_in hw1
  refine okUnt hw1 h1 ⟨⟨by omega, by omega⟩, fun r2 => fin (Or.inr (by omega)), fun r2 => okSec (by omega) hw1 h1 (fun c2 h2 => hK _ ⟨j + 1, q - 1, c2, ?_, by omega, h2⟩ ?_)⟩
  · rw [show ((q - 1 : Nat) : Int) = (q : Int) + (-1) by omega]
  · show ((q : Int) + (-1)).toNat < ((q : Int)).toNat
    omega
