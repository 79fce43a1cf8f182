/-! the table stays well -/
def RowOK (v0 v1 v2 v3 v4 v6 : Int) : Prop := (1 ≤ v0 ∧ v0 ≤ 12) ∧ (0 ≤ v1 ∧ v1 ≤ v0) ∧ (0 ≤ v2 ∧ v2 ≤ 2) ∧ (1 ≤ v3 ∧ v3 ≤ 9) ∧ (0 ≤ v4 ∧ v4 ≤ 1) ∧ (0 ≤ v6 ∧ v6 ≤ v3) ∧ (v2 ≠ 1 → v6 = 0 ∧ v4 = 0) ∧ (v2 = 1 → v4 = 0 → 0 < v1 → v6 < v3)
theorem WFt.row {T : Int} {b : xS} (h : WFt T b) {i : Nat} (hi : (i : Int) < b 3 0) : RowOK (b i 0) (b i 1) (b i 2) (b i 3) (b i 4) (b i 6) := by
  have hv := h.2.2.2.2 i hi
  exact ⟨hv.1, hv.2.1, hv.2.2.1, hv.2.2.2.1, hv.2.2.2.2.1, hv.2.2.2.2.2.2.1, hv.2.2.2.2.2.2.2.1, hv.2.2.2.2.2.2.2.2.1⟩
theorem wf_mk {T : Int} {b : xS} (h0 : 1 ≤ b 3 0 ∧ b 3 0 ≤ 3) (h1 : 0 ≤ b 3 1 ∧ b 3 1 ≤ T) (h2 : -1 ≤ b 3 2 ∧ b 3 2 ≤ 9999) (h3 : 0 ≤ b 3 3 ∧ b 3 3 ≤ 3 * b 3 1) (hr : ∀ i : Nat, (i : Int) < b 3 0 → RowOK (b i 0) (b i 1) (b i 2) (b i 3) (b i 4) (b i 6)) (h5 : ∀ i : Nat, (i : Int) < b 3 0 → (0 ≤ b i 5 ∧ b i 5 ≤ (i : Int)) ∧ b (b i 5).toNat 5 = b i 5) : WFt T b := by
  refine ⟨h0, h1, h2, h3, fun i hi => ?_⟩
  have a := hr i hi
  have c := h5 i hi
  exact ⟨a.1, a.2.1, a.2.2.1, a.2.2.2.1, a.2.2.2.2.1, c.1, a.2.2.2.2.2.1, a.2.2.2.2.2.2.1, a.2.2.2.2.2.2.2, c.2⟩
theorem WFt.root {T : Int} {b : xS} (h : WFt T b) {i : Nat} (hi : (i : Int) < b 3 0) : (0 ≤ b i 5 ∧ b i 5 ≤ (i : Int)) ∧ b (b i 5).toNat 5 = b i 5 := by
  have hv := h.2.2.2.2 i hi
  exact ⟨hv.2.2.2.2.2.1, hv.2.2.2.2.2.2.2.2.2⟩
theorem WFt.rows {T : Int} {b b' : xS} (h : WFt T b) (hs : ∀ p, p < 4 → b' 3 p = b 3 p) (h5 : ∀ i : Nat, (i : Int) < b 3 0 → b' i 5 = b i 5) (hr : ∀ i : Nat, (i : Int) < b 3 0 → RowOK (b' i 0) (b' i 1) (b' i 2) (b' i 3) (b' i 4) (b' i 6)) : WFt T b' := by
  refine wf_mk ?_ ?_ ?_ ?_ ?_ ?_
  · rw [hs 0 (by omega)]; exact h.1
  · rw [hs 1 (by omega)]; exact h.2.1
  · rw [hs 2 (by omega)]; exact h.2.2.1
  · rw [hs 3 (by omega), hs 1 (by omega)]; exact h.2.2.2.1
  · rw [hs 0 (by omega)]; exact hr
  · rw [hs 0 (by omega)]
    intro i hi
    have hq := h.root hi
    rw [h5 i hi, h5 _ (by omega)]
    exact hq
theorem WFt.stk {T : Int} {b b' : xS} (h : WFt T b) (hs : ∀ p, p < 4 → b' 3 p = b 3 p) (ho : ∀ i p : Nat, (i : Int) < b 3 0 → p ≠ 5 → b' i p = b i p) (h5 : ∀ i : Nat, (i : Int) < b 3 0 → (0 ≤ b' i 5 ∧ b' i 5 ≤ (i : Int)) ∧ b' (b' i 5).toNat 5 = b' i 5) : WFt T b' := by
  refine wf_mk ?_ ?_ ?_ ?_ ?_ ?_
  · rw [hs 0 (by omega)]; exact h.1
  · rw [hs 1 (by omega)]; exact h.2.1
  · rw [hs 2 (by omega)]; exact h.2.2.1
  · rw [hs 3 (by omega), hs 1 (by omega)]; exact h.2.2.2.1
  · rw [hs 0 (by omega)]
    intro i hi
    rw [ho i 0 hi (by omega), ho i 1 hi (by omega), ho i 2 hi (by omega), ho i 3 hi (by omega), ho i 4 hi (by omega), ho i 6 hi (by omega)]
    exact h.row hi
  · rw [hs 0 (by omega)]; exact h5
theorem aMap_row {T : Nat → (Nat → Int) → Nat → Int} {b : xS} {i : Nat} (hi : (i : Int) < b 3 0) (p : Nat) : aMap T b i p = T i (b i) p := by
  unfold aMap
  rw [aMapK_app, if_pos (by omega)]
theorem aMap_3 {T : Nat → (Nat → Int) → Nat → Int} {b : xS} (hn : b 3 0 ≤ 3) {i : Nat} (hi : 3 ≤ i) (p : Nat) : aMap T b i p = b i p := by
  unfold aMap
  rw [aMapK_app, if_neg (by omega)]
theorem RowOK.free {v0 v1 v2 v3 v4 v6 : Int} (h : RowOK v0 v1 v2 v3 v4 v6) {w : Int} (hw : 0 ≤ w ∧ w ≤ v0) : RowOK v0 w v2 v3 0 0 := by
  unfold RowOK at h ⊢
  omega
theorem WFt.turn {T : Int} {b : xS} (h : WFt T b) (s : Int) : WFt T (aTurn b s) := by
  have hn := h.1
  have e : ∀ i p : Nat, (i : Int) < b 3 0 → aTurn b s i p = turnV s i (b i) p := fun i p hi => by
    unfold aTurn
    rw [xup_app, if_neg (by omega), aMap_row hi]
  refine h.rows (fun p hp => ?_) (fun i hi => ?_) (fun i hi => ?_)
  · unfold aTurn
    rw [xup_app, if_neg (by omega), aMap_3 hn.2 (by omega)]
  · rw [e i 5 hi, turnV]
    split
    · rw [if_neg (by omega), if_neg (by omega)]
    · rfl
  · have hr := h.row hi
    rw [e i _ hi, e i _ hi, e i _ hi, e i _ hi, e i _ hi, e i _ hi]
    unfold turnV
    by_cases z : b i 5 = s
    · simp only [if_pos z]
      exact hr.free (w := b i 0 - b i 1) (by have := hr.2.1; omega)
    · simp only [if_neg z]
      exact hr
theorem WFt.tap {T : Int} {b : xS} (h : WFt T b) (i : Nat) (hi3 : i < 3) : WFt T (aTap b i) := by
  refine h.rows (fun p hp => ?_) (fun j hj => ?_) (fun j hj => ?_)
  · rw [aTap_app, if_neg (by omega), if_neg (by omega)]
  · have := h.1
    rw [aTap_app, if_neg (by omega), if_neg (by omega)]
  · have hr := h.row hj
    have hn := h.1
    by_cases z : j = i
    · subst z
      have e : ∀ p, p ≠ 4 → p ≠ 6 → aTap b j j p = b j p := fun p h4 h6 => by rw [aTap_app, if_neg (by omega), if_neg (by omega)]
      have e4 : aTap b j j 4 = 0 := by rw [aTap_app, if_neg (by omega), if_pos (by omega)]
      have e6 : aTap b j j 6 = 0 := by rw [aTap_app, if_neg (by omega), if_pos (by omega)]
      rw [e 0 (by omega) (by omega), e 1 (by omega) (by omega), e 2 (by omega) (by omega), e 3 (by omega) (by omega), e4, e6]
      exact hr.free hr.2.1
    · have e : ∀ p, aTap b i j p = b j p := fun p => by rw [aTap_app, if_neg (by omega), if_neg (by omega)]
      rw [e, e, e, e, e, e]
      exact hr
theorem WFt.fill {T : Int} {b : xS} (h : WFt T b) (i : Nat) (hi3 : i < 3) {u : Int} (hu : 1 ≤ u ∧ u ≤ 12) : WFt T (aFill b i u) := by
  have e : ∀ j p, aFill b i u j p = if j = i ∧ (p = 4 ∨ p = 6) then 0 else if j = i ∧ p = 1 then 0 else if j = i ∧ p = 0 then u else b j p := fun j p => by unfold aFill; rw [aFree_app, xup_app, xup_app]
  refine h.rows (fun p hp => ?_) (fun j hj => ?_) (fun j hj => ?_)
  · rw [e, if_neg (by omega), if_neg (by omega), if_neg (by omega)]
  · rw [e, if_neg (by omega), if_neg (by omega), if_neg (by omega)]
  · have hr := h.row hj
    by_cases z : j = i
    · subst z
      have e0 : aFill b j u j 0 = u := by rw [e, if_neg (by omega), if_neg (by omega), if_pos ⟨rfl, rfl⟩]
      have e1 : aFill b j u j 1 = 0 := by rw [e, if_neg (by omega), if_pos ⟨rfl, rfl⟩]
      have e2 : aFill b j u j 2 = b j 2 := by rw [e, if_neg (by omega), if_neg (by omega), if_neg (by omega)]
      have e3 : aFill b j u j 3 = b j 3 := by rw [e, if_neg (by omega), if_neg (by omega), if_neg (by omega)]
      have e4 : aFill b j u j 4 = 0 := by rw [e, if_pos (by omega)]
      have e6 : aFill b j u j 6 = 0 := by rw [e, if_pos (by omega)]
      rw [e0, e1, e2, e3, e4, e6]
      unfold RowOK at hr ⊢
      omega
    · have e' : ∀ p, aFill b i u j p = b j p := fun p => by rw [e, if_neg (by omega), if_neg (by omega), if_neg (by omega)]
      rw [e', e', e', e', e', e']
      exact hr
theorem WFt.kind {T : Int} {b : xS} (h : WFt T b) (i : Nat) (hi3 : i < 3) {kd gr : Int} (hk : 0 ≤ kd ∧ kd ≤ 2) (hg : 1 ≤ gr ∧ gr ≤ 9) : WFt T (aKind b i kd gr) := by
  have e : ∀ j p, aKind b i kd gr j p = if j = i ∧ (p = 4 ∨ p = 6) then 0 else if j = i ∧ p = 3 then gr else if j = i ∧ p = 2 then kd else b j p := fun j p => by unfold aKind; rw [aFree_app, xup_app, xup_app]
  refine h.rows (fun p hp => ?_) (fun j hj => ?_) (fun j hj => ?_)
  · rw [e, if_neg (by omega), if_neg (by omega), if_neg (by omega)]
  · rw [e, if_neg (by omega), if_neg (by omega), if_neg (by omega)]
  · have hr := h.row hj
    by_cases z : j = i
    · subst z
      have e0 : aKind b j kd gr j 0 = b j 0 := by rw [e, if_neg (by omega), if_neg (by omega), if_neg (by omega)]
      have e1 : aKind b j kd gr j 1 = b j 1 := by rw [e, if_neg (by omega), if_neg (by omega), if_neg (by omega)]
      have e2 : aKind b j kd gr j 2 = kd := by rw [e, if_neg (by omega), if_neg (by omega), if_pos ⟨rfl, rfl⟩]
      have e3 : aKind b j kd gr j 3 = gr := by rw [e, if_neg (by omega), if_pos ⟨rfl, rfl⟩]
      have e4 : aKind b j kd gr j 4 = 0 := by rw [e, if_pos (by omega)]
      have e6 : aKind b j kd gr j 6 = 0 := by rw [e, if_pos (by omega)]
      rw [e0, e1, e2, e3, e4, e6]
      unfold RowOK at hr ⊢
      omega
    · have e' : ∀ p, aKind b i kd gr j p = b j p := fun p => by rw [e, if_neg (by omega), if_neg (by omega), if_neg (by omega)]
      rw [e', e', e', e', e', e']
      exact hr
theorem WFt.renew {T : Int} {b : xS} (h : WFt T b) {n : Int} (hn : 1 ≤ n ∧ n ≤ 3) : WFt T (aRenew b n) := by
  have hb := h.1
  have s0 : aRenew b n 3 0 = n := by unfold aRenew; rw [if_pos ⟨rfl, rfl⟩]
  have s : ∀ p, p ≠ 0 → aRenew b n 3 p = b 3 p := fun p hp => by unfold aRenew; rw [if_neg (by omega), if_neg (by omega)]
  refine wf_mk (by rw [s0]; exact hn) (by rw [s _ (by omega)]; exact h.2.1) (by rw [s _ (by omega)]; exact h.2.2.1) (by rw [s _ (by omega), s _ (by omega)]; exact h.2.2.2.1) (fun i hi => ?_) (fun i hi => ?_)
  · rw [s0] at hi
    have h5 : 1 ≤ (if (i : Int) < b 3 0 then b i 0 else 5) ∧ (if (i : Int) < b 3 0 then b i 0 else 5) ≤ 12 := by
      split
      · rename_i q
        exact (h.row q).1
      · omega
    rw [aRenew_raw b n i 0 (by omega) (by omega), aRenew_raw b n i 1 (by omega) (by omega), aRenew_raw b n i 2 (by omega) (by omega), aRenew_raw b n i 3 (by omega) (by omega), aRenew_raw b n i 4 (by omega) (by omega), aRenew_raw b n i 6 (by omega) (by omega)]
    generalize (if (i : Int) < b 3 0 then b i 0 else 5) = u at h5
    show RowOK u 0 0 3 0 0
    unfold RowOK
    omega
  · rw [s0] at hi
    have e5 : ∀ j : Nat, j < 3 → aRenew b n j 5 = (j : Int) := fun j hj => by rw [aRenew_raw b n j 5 hj (by omega)]; rfl
    rw [e5 i (by omega), show ((i : Int)).toNat = i by omega, e5 i (by omega)]
    exact ⟨by omega, rfl⟩
theorem WFt.join {T : Int} {b : xS} (h : WFt T b) {x y : Int} (hx : ∃ i : Nat, (i : Int) < b 3 0 ∧ x = b i 5) (hy : ∃ i : Nat, (i : Int) < b 3 0 ∧ y = b i 5) : WFt T (aMap (joinV x y (jmin x y)) b) := by
  have hn := h.1
  obtain ⟨ix, hix, ex⟩ := hx
  obtain ⟨iy, hiy, ey⟩ := hy
  have rx := h.root hix
  have ry := h.root hiy
  rw [← ex] at rx
  rw [← ey] at ry
  have hj := jmin_le x y
  refine h.stk (fun p hp => aMap_3 hn.2 (by omega) p) (fun i p hi hp => ?_) (fun i hi => ?_)
  · rw [aMap_row hi, joinV]
    split <;> rfl
  · have hr := h.root hi
    have row5 : ∀ j : Nat, (j : Int) < b 3 0 → aMap (joinV x y (jmin x y)) b j 5 = if b j 5 = x ∨ b j 5 = y then jmin x y else b j 5 := fun j hj => by
      rw [aMap_row hj, joinV]
      split
      · rw [if_pos rfl]
      · rfl
    rw [row5 i hi]
    by_cases z : b i 5 = x ∨ b i 5 = y
    · rw [if_pos z]
      refine ⟨by omega, ?_⟩
      have hlt : (((jmin x y).toNat : Nat) : Int) < b 3 0 := by omega
      rw [row5 _ hlt]
      have : b (jmin x y).toNat 5 = x ∨ b (jmin x y).toNat 5 = y := by
        rcases hj.2.2 with q | q <;> rw [q]
        · exact Or.inl rx.2
        · exact Or.inr ry.2
      rw [if_pos this]
    · rw [if_neg z]
      refine ⟨hr.1, ?_⟩
      have hlt : (((b i 5).toNat : Nat) : Int) < b 3 0 := by omega
      rw [row5 _ hlt, hr.2, if_neg z]
theorem WFt.scat {T : Int} {b : xS} (h : WFt T b) (x : Int) : WFt T (aMap (scatV x) b) := by
  have hn := h.1
  refine h.stk (fun p hp => aMap_3 hn.2 (by omega) p) (fun i p hi hp => ?_) (fun i hi => ?_)
  · rw [aMap_row hi, scatV]
    split <;> rfl
  · have hr := h.root hi
    have row5 : ∀ j : Nat, (j : Int) < b 3 0 → aMap (scatV x) b j 5 = if b j 5 = x then (j : Int) else b j 5 := fun j hj => by
      rw [aMap_row hj, scatV]
      split
      · rw [if_pos rfl]
      · rfl
    rw [row5 i hi]
    by_cases z : b i 5 = x
    · rw [if_pos z, show ((i : Int)).toNat = i by omega, row5 i hi, if_pos z]
      exact ⟨by omega, rfl⟩
    · rw [if_neg z]
      refine ⟨hr.1, ?_⟩
      rw [row5 _ (by omega), hr.2, if_neg z]
def aMark (b : xS) : xS := xup b 3 2 (b 3 1)
theorem WFt.mark {b : xS} (h : WF b) : WF (aMark b) := by
  have hn := h.1
  have e : ∀ i p, ¬ (i = 3 ∧ p = 2) → aMark b i p = b i p := fun i p hp => by unfold aMark; rw [xup_app, if_neg hp]
  have e2 : aMark b 3 2 = b 3 1 := by unfold aMark; rw [xup_app, if_pos ⟨rfl, rfl⟩]
  have ht := h.2.1
  refine wf_mk ?_ ?_ ?_ ?_ (fun i hi => ?_) (fun i hi => ?_)
  · rw [e _ _ (by omega)]; exact h.1
  · rw [e _ _ (by omega)]; exact h.2.1
  · rw [e2]; omega
  · rw [e _ _ (by omega), e _ _ (by omega)]; exact h.2.2.2.1
  · rw [e _ _ (by omega)] at hi
    rw [e _ _ (by omega), e _ _ (by omega), e _ _ (by omega), e _ _ (by omega), e _ _ (by omega), e _ _ (by omega)]
    exact h.row hi
  · rw [e _ _ (by omega)] at hi
    rw [e _ _ (by omega), e _ _ (by omega)]
    exact h.root hi
theorem WFt.passed {b : xS} (h : WF b) (n : Nat) (hn : b 3 1 + (n : Int) ≤ 9999) : WF (aPass n b) := (h.pass n).time (by rw [aPass_31 h n]; exact hn)
