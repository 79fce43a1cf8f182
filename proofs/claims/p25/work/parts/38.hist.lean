theorem CB.ext {c c' : Nat → Int} {b : xS} (h : CB c b) (he : ∀ x, x < 63 → c' x = c x) : CB c' b := by
  refine ⟨fun i p hi hi3 hp => ?_, fun k hk => ?_, fun e q h1 h2 hq => ?_⟩
  · rw [he _ (by omega)]
    exact h.1 i p hi hi3 hp
  · rw [he _ (by omega)]
    exact h.2.1 k hk
  · rw [he _ (by omega)]
    exact h.2.2 e q h1 h2 hq
def HC (σ : xS) (d : Nat) (H : Nat → xS) : Prop := d ≤ 8 ∧ ∃ nx : Nat, nx < 8 ∧ σ 5 1 = (d : Int) ∧ σ 5 2 = (nx : Int) ∧ ∀ k, k < d → CB (fun x => σ 6 (63 * ((nx + 8 - d + k) % 8) + x)) (H k)
def pushH (d : Nat) (H : Nat → xS) (b : xS) : Nat → xS := fun k => if d < 8 then (if k = d then b else H k) else (if k = 7 then b else H (k + 1))
def pushD (d : Nat) : Nat := if d < 8 then d + 1 else 8
theorem HC.congr {σ σ' : xS} {d : Nat} {H : Nat → xS} (h : HC σ d H) (h5 : σ' 5 = σ 5) (h6 : σ' 6 = σ 6) : HC σ' d H := by
  unfold HC
  rw [h5, h6]
  exact h
theorem okKeep {σ : xS} {b : xS} {d : Nat} {H : Nat → xS} {Q : xS → Prop} (h : CB (σ 8) b) (hc : HC σ d H) (k : ∀ f p, HC (xset (xset σ 5 f) 6 p) (pushD d) (pushH d H b) → Q (xset (xset σ 5 f) 6 p)) : vX1_keep σ Q := by
  obtain ⟨hd, nx, hnx, h1, h2, h3⟩ := hc
  have ej : jrem ((nx : Int) + 1) 8 = (((nx + 1) % 8 : Nat) : Int) := by
    have := jrem_nat (a := (nx : Int) + 1) (n := 8) (by omega) (by omega) (by omega) (by omega)
    rw [show ((8 : Nat) : Int) = 8 from rfl] at this
    rw [this, show ((nx : Int) + 1).toNat = nx + 1 by omega]
  have em : jmin ((d : Int) + 1) 8 = ((pushD d : Nat) : Int) := by
    have := jmin_le ((d : Int) + 1) 8
    unfold pushD
    split <;> omega
  unfold vX1_keep vX0_copyTo
  rw [h2]
  refine ⟨by omega, fun s hs s2 hs2 => ?_⟩
  have es : s = xset (xset σ 5 (σ 5)) 6 (va_cpy (σ 8) (σ 6) 0 (((nx : Int) * 63).toNat) 63) := by rw [xset_self]; exact hs
  subst es
  rw [xset_at2 _ _ _ _ _ (by omega), h2, ej, xup_2 _ _ _ _ _ _ _ (by omega)] at hs2
  subst hs2
  rw [xset_at2 _ _ _ _ _ (by omega), cu_app, if_neg (by omega), h1, em]
  refine ⟨⟨by omega, by omega⟩, fun s3 hs3 => ?_⟩
  rw [xup_2 _ _ _ _ _ _ _ (by omega)] at hs3
  subst hs3
  refine k _ _ ⟨by unfold pushD; split <;> omega, (nx + 1) % 8, by omega, ?_, ?_, fun j hj => ?_⟩
  · rw [xset_at2 _ _ _ _ _ (by omega), cu_app, if_pos rfl]
  · rw [xset_at2 _ _ _ _ _ (by omega), cu_app, if_neg (by omega), cu_app, if_pos rfl]
  · rw [xset_eq]
    have at' : ∀ r x : Nat, x < 63 → va_cpy (σ 8) (σ 6) 0 (((nx : Int) * 63).toNat) 63 (63 * r + x) = if r = nx then σ 8 x else σ 6 (63 * r + x) := by
      intro r x hx
      unfold va_cpy
      by_cases hr : r = nx
      · rw [if_pos (by omega), if_pos hr]
        congr 1
        omega
      · rw [if_neg (by omega), if_neg hr]
    unfold pushH
    by_cases hd8 : d < 8
    · have ed : pushD d = d + 1 := by unfold pushD; rw [if_pos hd8]
      rw [ed] at hj ⊢
      rw [if_pos hd8]
      by_cases hjd : j = d
      · rw [if_pos hjd]
        refine h.ext (fun x hx => ?_)
        rw [at' _ x hx, if_pos (by omega)]
      · rw [if_neg hjd]
        refine (h3 j (by omega)).ext (fun x hx => ?_)
        rw [at' _ x hx, if_neg (by omega)]
        congr 3
        omega
    · have ed : pushD d = 8 := by unfold pushD; rw [if_neg hd8]
      rw [ed] at hj ⊢
      rw [if_neg hd8]
      by_cases hjd : j = 7
      · rw [if_pos hjd]
        refine h.ext (fun x hx => ?_)
        rw [at' _ x hx, if_pos (by omega)]
      · rw [if_neg hjd]
        refine (h3 (j + 1) (by omega)).ext (fun x hx => ?_)
        rw [at' _ x hx, if_neg (by omega)]
        congr 3
        omega
theorem okRestore {σ : xS} {d : Nat} {H : Nat → xS} {Q : Int → xS → Prop} (hc : HC σ d H) (k0 : d = 0 → Q 0 σ) (k1 : 0 < d → ∀ f c, CB c (H (d - 1)) → HC (xset (xset σ 5 f) 8 c) (d - 1) H → Q 1 (xset (xset σ 5 f) 8 c)) : vX1_restore σ Q := by
  obtain ⟨hd, nx, hnx, h1, h2, h3⟩ := id hc
  unfold vX1_restore
  rw [h1]
  refine ⟨⟨by omega, by omega⟩, fun z s hs t ht s2 hs2 => ?_, fun z => k0 (by omega)⟩
  have es : s = xset σ 5 (cu (σ 5) 1 ((d : Int) - 1)) := by rw [hs, xup_set]; rfl
  subst es
  have ej : jrem ((nx : Int) + 8 - 1) 8 = (((nx + 7) % 8 : Nat) : Int) := by
    have := jrem_nat (a := (nx : Int) + 8 - 1) (n := 8) (by omega) (by omega) (by omega) (by omega)
    rw [show ((8 : Nat) : Int) = 8 from rfl] at this
    rw [this, show ((nx : Int) + 8 - 1).toNat = nx + 7 by omega]
  rw [xset_at, cu_app, if_neg (by omega), h2, ej] at ht
  subst ht
  rw [xup_cu] at hs2
  subst hs2
  unfold vX0_copyFrom
  rw [xset_at, cu_app, if_pos rfl]
  refine ⟨by omega, fun s3 hs3 => ?_⟩
  rw [xset_ne (by omega), xset_ne (by omega)] at hs3
  subst hs3
  refine k1 (by omega) _ _ ?_ ⟨by omega, (nx + 7) % 8, by omega, ?_, ?_, fun j hj => ?_⟩
  · refine (h3 (d - 1) (by omega)).ext (fun x hx => ?_)
    unfold va_cpy
    rw [if_pos (by omega)]
    congr 1
    omega
  · rw [xset_at2 _ _ _ _ _ (by omega), cu_app, if_neg (by omega), cu_app, if_pos rfl]
    omega
  · rw [xset_at2 _ _ _ _ _ (by omega), cu_app, if_pos rfl]
  · rw [xset_ne (by omega), xset_ne (by omega)]
    refine (h3 j (by omega)).ext (fun x hx => ?_)
    congr 3
    omega
