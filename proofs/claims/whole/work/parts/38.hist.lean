/-! the states kept, on both sides -/
theorem CB.ext {c c' : Nat → Int} {b : xS} (h : CB c b) (he : ∀ x, x < 63 → c' x = c x) : CB c' b := by
  refine ⟨fun i p hi hi3 hp => ?_, fun k hk => ?_, fun e q h1 h2 hq => ?_⟩
  · rw [he _ (by omega)]
    exact h.1 i p hi hi3 hp
  · rw [he _ (by omega)]
    exact h.2.1 k hk
  · rw [he _ (by omega)]
    exact h.2.2 e q h1 h2 hq
def HC (σ : xS) (d : Nat) (H : Nat → xS) : Prop := d ≤ 8 ∧ ∃ nx : Nat, nx < 8 ∧ σ 5 1 = (d : Int) ∧ σ 5 2 = (nx : Int) ∧ ∀ k, k < d → CB (fun x => σ 6 (63 * ((nx + 8 - d + k) % 8) + x)) (H k)
def HM (σ : xS) (d : Nat) (H : Nat → xS) : Prop := σ 20 3 = (d : Int) ∧ ∀ k, k < d → MB (fun x => σ 22 (64 * k + x)) (H k)
def pushH (d : Nat) (H : Nat → xS) (b : xS) : Nat → xS := fun k => if d < 8 then (if k = d then b else H k) else (if k = 7 then b else H (k + 1))
def pushD (d : Nat) : Nat := if d < 8 then d + 1 else 8
theorem HC.congr {σ σ' : xS} {d : Nat} {H : Nat → xS} (h : HC σ d H) (h5 : σ' 5 = σ 5) (h6 : σ' 6 = σ 6) : HC σ' d H := by
  unfold HC
  rw [h5, h6]
  exact h
theorem HM.congr {σ σ' : xS} {d : Nat} {H : Nat → xS} (h : HM σ d H) (h5 : σ' 20 3 = σ 20 3) (h6 : σ' 22 = σ 22) : HM σ' d H := by
  unfold HM
  rw [h5, h6]
  exact h
theorem okKeep {σ : xS} {b : xS} {d : Nat} {H : Nat → xS} {Q : xS → Prop} (h : CB (σ 8) b) (hc : HC σ d H) (k : ∀ f p, HC (xset (xset σ 5 f) 6 p) (pushD d) (pushH d H b) → Q (xset (xset σ 5 f) 6 p)) : vX1_keep σ Q := by
  obtain ⟨hd, nx, hnx, h1, h2, h3⟩ := hc
  have ej : jrem ((nx : Int) + 1) 8 = (((nx + 1) % 8 : Nat) : Int) := by
    have := jrem_nat (a := (nx : Int) + 1) (n := 8) (by omega) (by omega) (by omega) (by omega)
    rw [show ((8 : Nat) : Int) = 8 from rfl] at this
    rw [this, show ((nx : Int) + 1).toNat = nx + 1 by omega]
  have em : jmin ((d : Int) + 1) 8 = ((pushD d : Nat) : Int) := by
    have := jmin_le ((d : Int) + 1) 8
    unfold pushD
    split <;> omega
  unfold vX1_keep vX0_copyTo
  rw [h2]
  refine ⟨by omega, fun s hs s2 hs2 => ?_⟩
  have es : s = xset (xset σ 5 (σ 5)) 6 (va_cpy (σ 8) (σ 6) 0 (((nx : Int) * 63).toNat) 63) := by rw [xset_self]; exact hs
  subst es
  rw [xset_at2 _ _ _ _ _ (by omega), h2, ej, xup_2 _ _ _ _ _ _ _ (by omega)] at hs2
  subst hs2
  rw [xset_at2 _ _ _ _ _ (by omega), cu_app, if_neg (by omega), h1, em]
  refine ⟨⟨by omega, by omega⟩, fun s3 hs3 => ?_⟩
  rw [xup_2 _ _ _ _ _ _ _ (by omega)] at hs3
  subst hs3
  refine k _ _ ⟨by unfold pushD; split <;> omega, (nx + 1) % 8, by omega, ?_, ?_, fun j hj => ?_⟩
  · rw [xset_at2 _ _ _ _ _ (by omega), cu_app, if_pos rfl]
  · rw [xset_at2 _ _ _ _ _ (by omega), cu_app, if_neg (by omega), cu_app, if_pos rfl]
  · rw [xset_eq]
    have at' : ∀ r x : Nat, x < 63 → va_cpy (σ 8) (σ 6) 0 (((nx : Int) * 63).toNat) 63 (63 * r + x) = if r = nx then σ 8 x else σ 6 (63 * r + x) := by
      intro r x hx
      unfold va_cpy
      by_cases hr : r = nx
      · rw [if_pos (by omega), if_pos hr]
        congr 1
        omega
      · rw [if_neg (by omega), if_neg hr]
    unfold pushH
    by_cases hd8 : d < 8
    · have ed : pushD d = d + 1 := by unfold pushD; rw [if_pos hd8]
      rw [ed] at hj ⊢
      rw [if_pos hd8]
      by_cases hjd : j = d
      · rw [if_pos hjd]
        refine h.ext (fun x hx => ?_)
        rw [at' _ x hx, if_pos (by omega)]
      · rw [if_neg hjd]
        refine (h3 j (by omega)).ext (fun x hx => ?_)
        rw [at' _ x hx, if_neg (by omega)]
        congr 3
        omega
    · have ed : pushD d = 8 := by unfold pushD; rw [if_neg hd8]
      rw [ed] at hj ⊢
      rw [if_neg hd8]
      by_cases hjd : j = 7
      · rw [if_pos hjd]
        refine h.ext (fun x hx => ?_)
        rw [at' _ x hx, if_pos (by omega)]
      · rw [if_neg hjd]
        refine (h3 (j + 1) (by omega)).ext (fun x hx => ?_)
        rw [at' _ x hx, if_neg (by omega)]
        congr 3
        omega
theorem okRestore {σ : xS} {d : Nat} {H : Nat → xS} {Q : Int → xS → Prop} (hc : HC σ d H) (k0 : d = 0 → Q 0 σ) (k1 : 0 < d → ∀ f c, CB c (H (d - 1)) → HC (xset (xset σ 5 f) 8 c) (d - 1) H → Q 1 (xset (xset σ 5 f) 8 c)) : vX1_restore σ Q := by
  obtain ⟨hd, nx, hnx, h1, h2, h3⟩ := id hc
  unfold vX1_restore
  rw [h1]
  refine ⟨⟨by omega, by omega⟩, fun z s hs t ht s2 hs2 => ?_, fun z => k0 (by omega)⟩
  have es : s = xset σ 5 (cu (σ 5) 1 ((d : Int) - 1)) := by rw [hs, xup_set]; rfl
  subst es
  have ej : jrem ((nx : Int) + 8 - 1) 8 = (((nx + 7) % 8 : Nat) : Int) := by
    have := jrem_nat (a := (nx : Int) + 8 - 1) (n := 8) (by omega) (by omega) (by omega) (by omega)
    rw [show ((8 : Nat) : Int) = 8 from rfl] at this
    rw [this, show ((nx : Int) + 8 - 1).toNat = nx + 7 by omega]
  rw [xset_at, cu_app, if_neg (by omega), h2, ej] at ht
  subst ht
  rw [xup_cu] at hs2
  subst hs2
  unfold vX0_copyFrom
  rw [xset_at, cu_app, if_pos rfl]
  refine ⟨by omega, fun s3 hs3 => ?_⟩
  rw [xset_ne (by omega), xset_ne (by omega)] at hs3
  subst hs3
  refine k1 (by omega) _ _ ?_ ⟨by omega, (nx + 7) % 8, by omega, ?_, ?_, fun j hj => ?_⟩
  · refine (h3 (d - 1) (by omega)).ext (fun x hx => ?_)
    unfold va_cpy
    rw [if_pos (by omega)]
    congr 1
    omega
  · rw [xset_at2 _ _ _ _ _ (by omega), cu_app, if_neg (by omega), cu_app, if_pos rfl]
    omega
  · rw [xset_at2 _ _ _ _ _ (by omega), cu_app, if_pos rfl]
  · rw [xset_ne (by omega), xset_ne (by omega)]
    refine (h3 j (by omega)).ext (fun x hx => ?_)
    congr 3
    omega
theorem mkKeepC {σ : xS} {f p : Nat → Int} {e : Nat} {Q : xS → Prop} (he : e < 8) (h3 : f 3 = (e : Int)) (k : ∀ p', (∀ x, p' x = if 64 * e ≤ x ∧ x < 64 * e + 64 then σ 21 (x - 64 * e) else p x) → Q (xset (xset σ 20 (cu f 3 ((e : Int) + 1))) 22 p')) : mu (vX5_keeps_51 Q) (0, xset (xset σ 20 f) 22 p) := by
  refine mu_of (fun a => ∃ (q : Nat) (p1 : Nat → Int), a = ((q : Int), xset (xset σ 20 f) 22 p1) ∧ q ≤ 64 ∧ ∀ x, p1 x = if 64 * e ≤ x ∧ x < 64 * e + q then σ 21 (x - 64 * e) else p x) (fun a => (64 - a.1).toNat) ?_ _ ⟨0, p, rfl, by omega, fun x => by rw [if_neg (by omega)]⟩
  rintro K _ ⟨q, p1, rfl, hq, h1⟩ hK
  unfold vX5_keeps_51
  dsimp only
  rw [xset_at2 _ _ _ _ _ (by omega), h3]
  refine ⟨⟨by omega, by omega⟩, fun r s hs => ?_, fun r => ⟨⟨by omega, by omega⟩, ⟨by omega, by omega⟩, fun s hs => ?_⟩⟩
  · have hq64 : q = 64 := by omega
    subst hq64
    rw [xup_2 _ _ _ _ _ _ _ (by omega)] at hs
    subst hs
    exact k p1 h1
  · rw [xup_cu, xset_ne (by omega), xset_ne (by omega)] at hs
    subst hs
    refine hK _ ⟨q + 1, _, by push_cast; rfl, by omega, fun x => ?_⟩ (by show (64 - ((q : Int) + 1)).toNat < (64 - (q : Int)).toNat; omega)
    rw [cu_app, h1]
    by_cases hx : x = 64 * e + q
    · rw [if_pos (by omega), if_pos (by omega)]
      congr 1
      omega
    · rw [if_neg (by omega)]
      by_cases hx2 : 64 * e ≤ x ∧ x < 64 * e + q
      · rw [if_pos hx2, if_pos (by omega)]
      · rw [if_neg hx2, if_neg (by omega)]
theorem mkKeep {σ : xS} {b : xS} {d : Nat} {H : Nat → xS} {Q : xS → Prop} (h : MB (σ 21) b) (hd : d ≤ 8) (h33 : 0 ≤ b 3 3) (hH : ∀ k, k < d → 0 ≤ H k 3 3) (hm : HM σ d H) (k : ∀ f p, (∀ j, j ≠ 3 → f j = σ 20 j) → HM (xset (xset σ 20 f) 22 p) (pushD d) (pushH d H b) → Q (xset (xset σ 20 f) 22 p)) : vX5_keeps σ Q := by
  obtain ⟨h1, h2⟩ := hm
  unfold vX5_keeps
  rw [h1]
  have self : σ = xset (xset σ 20 (σ 20)) 22 (σ 22) := by rw [xset_self, xset_self]
  refine ⟨⟨by omega, by omega⟩, fun z => ?_, fun z => ?_⟩
  · have hd8 : d < 8 := by omega
    rw [self]
    refine mkKeepC hd8 h1 (fun p' hp => k _ _ (fun j hj => by rw [cu_app, if_neg hj]) ⟨?_, fun j hj => ?_⟩)
    · rw [xset_at2 _ _ _ _ _ (by omega), cu_app, if_pos rfl]
      unfold pushD
      rw [if_pos hd8]
      push_cast
      rfl
    · unfold pushD at hj
      rw [if_pos hd8] at hj
      rw [xset_eq]
      unfold pushH
      rw [if_pos hd8]
      by_cases hjd : j = d
      · rw [if_pos hjd]
        refine h.ext (fun x hx => ?_) h33
        rw [hp, if_pos (by omega)]
        congr 1
        omega
      · rw [if_neg hjd]
        refine (h2 j (by omega)).ext (fun x hx => ?_) (hH j (by omega))
        rw [hp, if_neg (by omega)]
  · have hd8 : d = 8 := by omega
    subst hd8
    rw [self]
    refine mu_of (fun a => ∃ (q : Nat) (p1 : Nat → Int), a = ((q : Int), xset (xset σ 20 (σ 20)) 22 p1) ∧ q ≤ 448 ∧ ∀ x, p1 x = if x < q then σ 22 (x + 64) else σ 22 x) (fun a => (448 - a.1).toNat) ?_ _ ⟨0, σ 22, rfl, by omega, fun x => by rw [if_neg (by omega)]⟩
    rintro K _ ⟨q, p1, rfl, hq, hp1⟩ hK
    unfold vX5_keeps_11
    dsimp only
    rw [xset_at2 _ _ _ _ _ (by omega), h1]
    refine ⟨⟨by omega, by omega⟩, fun r s hs => ?_, fun r => ⟨⟨by omega, by omega⟩, ⟨by omega, by omega⟩, fun s hs => ?_⟩⟩
    · have hq4 : q = 448 := by omega
      subst hq4
      rw [xup_2 _ _ _ _ _ _ _ (by omega)] at hs
      subst hs
      refine mkKeepC (e := 7) (by omega) (by rw [cu_app, if_pos rfl]; rfl) (fun p' hp => k _ _ (fun j hj => by rw [cu_app, if_neg hj, cu_app, if_neg hj]) ⟨?_, fun j hj => ?_⟩)
      · rw [xset_at2 _ _ _ _ _ (by omega), cu_app, if_pos rfl]
        rfl
      · unfold pushD at hj
        rw [if_neg (by omega)] at hj
        rw [xset_eq]
        unfold pushH
        rw [if_neg (by omega)]
        by_cases hjd : j = 7
        · rw [if_pos hjd]
          refine h.ext (fun x hx => ?_) h33
          rw [hp, if_pos (by omega)]
          exact congrArg (σ 21) (by omega)
        · rw [if_neg hjd]
          refine (h2 (j + 1) (by omega)).ext (fun x hx => ?_) (hH (j + 1) (by omega))
          rw [hp, if_neg (by omega), hp1, if_pos (by omega)]
          exact congrArg (σ 22) (by omega)
    · rw [xup_cu, xset_at] at hs
      subst hs
      refine hK _ ⟨q + 1, _, by push_cast; rfl, by omega, fun x => ?_⟩ (by show (448 - ((q : Int) + 1)).toNat < (448 - (q : Int)).toNat; omega)
      rw [cu_app, show ((q : Int)).toNat = q by omega, show ((q : Int) + 64).toNat = q + 64 by omega, hp1, hp1]
      by_cases hx : x = q
      · rw [if_pos hx, if_neg (by omega), if_pos (by omega), hx]
      · rw [if_neg hx]
        by_cases hx2 : x < q
        · rw [if_pos hx2, if_pos (by omega)]
        · rw [if_neg hx2, if_neg (by omega)]
theorem mkUndo {σ : xS} {d : Nat} {H : Nat → xS} {Q : Int → xS → Prop} (hd : d ≤ 8) (hH : ∀ k, k < d → 0 ≤ H k 3 3) (hm : HM σ d H) (k0 : d = 0 → Q (-3) σ) (k1 : 0 < d → ∀ f m, (∀ j, j ≠ 3 → f j = σ 20 j) → MB m (H (d - 1)) → HM (xset (xset σ 20 f) 21 m) (d - 1) H → Q (((d - 1 : Nat)) : Int) (xset (xset σ 20 f) 21 m)) : vX5_undo σ Q := by
  obtain ⟨h1, h2⟩ := hm
  unfold vX5_undo
  rw [h1]
  refine ⟨⟨by omega, by omega⟩, fun z s hs => ?_, fun z => k0 (by omega)⟩
  have es : s = xset (xset σ 20 (cu (σ 20) 3 ((d : Int) - 1))) 21 (σ 21) := by
    have e := xset_self (xset σ 20 (cu (σ 20) 3 ((d : Int) - 1))) 21
    rw [xset_ne (show (21 : Nat) ≠ 20 by omega)] at e
    rw [e, hs]
    rfl
  subst es
  refine mu_of (fun a => ∃ (q : Nat) (m1 : Nat → Int), a = ((q : Int), xset (xset σ 20 (cu (σ 20) 3 ((d : Int) - 1))) 21 m1) ∧ q ≤ 64 ∧ ∀ x, x < q → m1 x = σ 22 (64 * (d - 1) + x)) (fun a => (64 - a.1).toNat) ?_ _ ⟨0, σ 21, rfl, by omega, fun x hx => absurd hx (Nat.not_lt_zero x)⟩
  rintro K _ ⟨q, m1, rfl, hq, hm1⟩ hK
  unfold vX5_undo_22
  dsimp only
  rw [xset_at2 _ _ _ _ _ (by omega), cu_app, if_pos rfl]
  refine ⟨⟨by omega, by omega⟩, fun r => ?_, fun r => ⟨⟨by omega, by omega⟩, fun t ht => ⟨⟨by omega, by omega⟩, fun s hs => ?_⟩⟩⟩
  · have hq4 : q = 64 := by omega
    subst hq4
    have := k1 (by omega) (cu (σ 20) 3 ((d : Int) - 1)) m1 (fun j hj => by rw [cu_app, if_neg hj]) ((h2 (d - 1) (by omega)).ext (fun x hx => hm1 x hx) (hH (d - 1) (by omega))) ⟨?_, fun j hj => ?_⟩
    · rw [show (((d - 1 : Nat)) : Int) = (d : Int) - 1 by omega] at this
      exact this
    · rw [xset_at2 _ _ _ _ _ (by omega), cu_app, if_pos rfl]
      omega
    · rw [xset_ne (by omega), xset_ne (by omega)]
      exact h2 j (by omega)
  · rw [xset_ne (by omega), xset_ne (by omega)] at ht
    subst ht
    rw [xup_cu] at hs
    subst hs
    refine hK _ ⟨q + 1, _, by push_cast; rfl, by omega, fun x hx => ?_⟩ (by show (64 - ((q : Int) + 1)).toNat < (64 - (q : Int)).toNat; omega)
    rw [cu_app, show ((q : Int)).toNat = q by omega]
    by_cases hxq : x = q
    · rw [if_pos hxq, hxq]
      congr 1
      omega
    · rw [if_neg hxq]
      exact hm1 x (by omega)
