/-! the reference's plans: the table -/
def FMd (σ τ : xS) : Prop := (∀ r, r ≠ 20 → r ≠ 29 → r ≠ 30 → r ≠ 31 → r ≠ 32 → r ≠ 33 → τ r = σ r) ∧ ∀ j, j ≠ 16 → j ≠ 20 → τ 20 j = σ 20 j
theorem FMd.refl (σ : xS) : FMd σ σ := ⟨fun _ _ _ _ _ _ _ => rfl, fun _ _ _ => rfl⟩
theorem FMd.trans {σ τ ρ : xS} (h1 : FMd σ τ) (h2 : FMd τ ρ) : FMd σ ρ := ⟨fun r a b c d e f => (h2.1 r a b c d e f).trans (h1.1 r a b c d e f), fun j a b => (h2.2 j a b).trans (h1.2 j a b)⟩
def KEY (w : Nat → Int) (b : xS) (g : Nat) (raw : Int) : Prop := w (3 * g) = (am b g : Int) ∧ w (3 * g + 1) = lyI b g ∧ w (3 * g + 2) = raw
def MT (σ : xS) : Prop := (σ 20 16 = 0 ∨ σ 20 16 = 1) ∧ (σ 20 16 = 1 → ∃ b0 : xS, WF b0 ∧ (∀ g : Nat, g < 3 → ∃ raw, KEY (σ 30) b0 g raw ∧ ((g : Int) < b0 3 0 → raw = b0 g 5)) ∧ ∀ r, 1 ≤ r → r ≤ 40 → CELLS b0 (σ 29) r)
theorem lyI_01 (b : xS) (g : Nat) : lyI b g = 0 ∨ lyI b g = 1 := by
  unfold lyI
  split
  · exact Or.inl rfl
  · exact Or.inr rfl
theorem mk_isTable {σ b : xS} {Q : Int → xS → Prop} (hm : MB (σ 21) b) (hw : WF b) (hraw : ∀ g, g < 3 → rng (σ 21 (7 * g + 6))) (h30 : ∀ j, j < 9 → rng (σ 30 j)) (h16 : σ 20 16 = 0 ∨ σ 20 16 = 1) (k : ∀ (τ : xS) (fl : Int), FMd σ τ → τ 29 = σ 29 → τ 20 16 = 1 → (∀ g, g < 3 → KEY (τ 30) b g (σ 21 (7 * g + 6)) ∧ τ 31 g = (am b g : Int) ∧ τ 32 g = lyI b g) → (fl = 0 ∨ fl = 1) → (fl = 1 → σ 20 16 = 1 ∧ ∀ g, g < 3 → KEY (σ 30) b g (σ 21 (7 * g + 6))) → Q fl τ) : vX5_isTable σ Q := by
  have hn := hw.1
  have hty := lyI_01 b
  unfold vX5_isTable
  refine mu_of (fun v => ∃ (q : Nat) (fl : Int) (τ : xS), v = (fl, (q : Int), τ) ∧ q ≤ 3 ∧ ((∀ r, r ≠ 30 → r ≠ 31 → r ≠ 32 → τ r = σ r) ∧ (fl = 0 ∨ fl = 1) ∧ (fl = 1 → σ 20 16 = 1 ∧ ∀ g, g < q → KEY (σ 30) b g (σ 21 (7 * g + 6))) ∧ (∀ g, g < q → KEY (τ 30) b g (σ 21 (7 * g + 6)) ∧ τ 31 g = (am b g : Int) ∧ τ 32 g = lyI b g) ∧ ∀ j, 3 * q ≤ j → τ 30 j = σ 30 j)) (fun v => 3 - v.2.1.toNat) ?_ _ ⟨0, _, σ, rfl, by omega, fun _ _ _ _ => rfl, h16, fun h => ⟨h, fun g hg => absurd hg (Nat.not_lt_zero g)⟩, fun g hg => absurd hg (Nat.not_lt_zero g), fun _ _ => rfl⟩
  rintro K _ ⟨q, fl, τ, rfl, hq, hf, hfl, hold, hkey, hrest⟩ hK
  have m21 : τ 21 = σ 21 := hf 21 (by omega) (by omega) (by omega)
  have hn21 : τ 21 21 = b 3 0 := by rw [m21]; exact hm.n 0 (by omega)
  unfold vX5_isTable_7
  refine ⟨⟨by omega, by omega⟩, fun r s hs => ⟨hfl, ?_⟩, fun r => ?_⟩
  · have hq3 : q = 3 := by omega
    subst hq3
    subst hs
    refine k _ fl ⟨fun r a1 a2 a3 a4 a5 a6 => by rw [xup_ne a1, hf r a3 a4 a5], fun j a1 a2 => by rw [xup_app, if_neg (by omega), hf 20 (by omega) (by omega) (by omega)]⟩ (by rw [xup_ne (by omega), hf 29 (by omega) (by omega) (by omega)]) (by rw [xup_app, if_pos ⟨rfl, rfl⟩]) (fun g hg => ?_) hfl hold
    rw [xup_ne (by omega), xup_ne (by omega), xup_ne (by omega)]
    exact hkey g hg
  · have hq3 : q < 3 := by omega
    have ha12 := (am_in hw q).1
    have hA := am_in hw q
    -- the last writes
    have b144 : ∀ (y0 : Int) (ρ : xS), (y0 = 0 ∨ y0 = 1) → (y0 = 1 → fl = 1 ∧ KEY (σ 30) b q (σ 21 (7 * q + 6))) → (∀ r, r ≠ 31 → r ≠ 32 → ρ r = τ r) → (∀ j, j ≠ q → ρ 31 j = τ 31 j ∧ ρ 32 j = τ 32 j) → ρ 31 q = (am b q : Int) → ρ 32 q = lyI b q → vX5_isTable_144 K Q (q : Int) y0 ρ := by
      intro y0 ρ hy hy1 hr hoth h31 h32
      have r21 : ρ 21 = σ 21 := by rw [hr 21 (by omega) (by omega), m21]
      unfold vX5_isTable_144
      refine ⟨by omega, by omega, fun s hs => ?_⟩
      rw [Int.toNat_natCast, h31, show (3 * (q : Int)).toNat = 3 * q by omega] at hs
      subst hs
      have e32 : xup ρ 30 (3 * q) (am b q : Int) 32 ((q : Int).toNat) = lyI b q := by rw [xup_ne (by omega), Int.toNat_natCast, h32]
      rw [e32]
      have b182 : ∀ y2 : Int, y2 = lyI b q → vX5_isTable_182 K Q y0 (q : Int) (3 * (q : Int) + 1) y2 (xup ρ 30 (3 * q) (am b q : Int)) := by
        intro y2 hy2
        unfold vX5_isTable_182 vX5_of
        refine ⟨by omega, fun s hs => ⟨by omega, by omega, fun s2 hs2 => ?_⟩⟩
        rw [show (3 * (q : Int) + 1).toNat = 3 * q + 1 by omega] at hs
        have ers : s 21 ((7 * (q : Int) + 6).toNat) = σ 21 (7 * q + 6) := by rw [hs, xup_ne (by omega), xup_ne (by omega), r21, show (7 * (q : Int) + 6).toNat = 7 * q + 6 by omega]
        rw [ers, show (3 * (q : Int) + 2).toNat = 3 * q + 2 by omega] at hs2
        have e30 : ∀ j, s2 30 j = if j = 3 * q + 2 then σ 21 (7 * q + 6) else if j = 3 * q + 1 then lyI b q else if j = 3 * q then (am b q : Int) else τ 30 j := fun j => by
          rw [hs2, xup_app, hs, xup_app, xup_app, hr 30 (by omega) (by omega), hy2]
          by_cases c2 : j = 3 * q + 2
          · rw [if_pos ⟨rfl, c2⟩, if_pos c2]
          · rw [if_neg (fun w => c2 w.2), if_neg c2]
            by_cases c1 : j = 3 * q + 1
            · rw [if_pos ⟨rfl, c1⟩, if_pos c1]
            · rw [if_neg (fun w => c1 w.2), if_neg c1]
              by_cases c0 : j = 3 * q
              · rw [if_pos ⟨rfl, c0⟩, if_pos c0]
              · rw [if_neg (fun w => c0 w.2), if_neg c0]
        have eo : ∀ r, r ≠ 30 → s2 r = ρ r := fun r hr2 => by rw [hs2, xup_ne hr2, hs, xup_ne hr2, xup_ne hr2]
        refine hK _ ⟨q + 1, y0, s2, by rw [Int.natCast_succ], by omega, fun r a1 a2 a3 => by rw [eo r a1, hr r a2 a3, hf r a1 a2 a3], hy, fun h1 => ?_, fun g hg => ?_, fun j hj => ?_⟩ (by show 3 - ((q : Int) + 1).toNat < 3 - ((q : Int)).toNat; omega)
        · obtain ⟨hf1, hk1⟩ := hy1 h1
          obtain ⟨ho1, ho2⟩ := hold hf1
          refine ⟨ho1, fun g hg => ?_⟩
          by_cases e1 : g = q
          · rw [e1]; exact hk1
          · exact ho2 g (by omega)
        · by_cases e1 : g = q
          · subst e1
            rw [eo 31 (by omega), eo 32 (by omega), h31, h32]
            refine ⟨⟨?_, ?_, ?_⟩, rfl, rfl⟩
            · rw [e30, if_neg (by omega), if_neg (by omega), if_pos rfl]
            · rw [e30, if_neg (by omega), if_pos rfl]
            · rw [e30, if_pos rfl]
          · obtain ⟨⟨k1, k2, k3⟩, k4, k5⟩ := hkey g (by omega)
            rw [eo 31 (by omega), eo 32 (by omega), (hoth g e1).1, (hoth g e1).2]
            refine ⟨⟨?_, ?_, ?_⟩, k4, k5⟩
            · rw [e30, if_neg (by omega), if_neg (by omega), if_neg (by omega)]; exact k1
            · rw [e30, if_neg (by omega), if_neg (by omega), if_neg (by omega)]; exact k2
            · rw [e30, if_neg (by omega), if_neg (by omega), if_neg (by omega)]; exact k3
        · rw [e30, if_neg (by omega), if_neg (by omega), if_neg (by omega)]
          exact hrest j (by omega)
      have := hty q
      exact ⟨⟨by omega, by omega⟩, fun z => b182 0 z.symm, fun z => b182 1 (by omega)⟩
    have b143 : ∀ ρ : xS, (∀ r, r ≠ 31 → r ≠ 32 → ρ r = τ r) → (∀ j, j ≠ q → ρ 31 j = τ 31 j ∧ ρ 32 j = τ 32 j) → ρ 31 q = (am b q : Int) → ρ 32 q = lyI b q → vX5_isTable_143 K Q (q : Int) ρ := fun ρ a1 a2 a3 a4 => by
      unfold vX5_isTable_143
      exact b144 0 ρ (Or.inl rfl) (fun h => absurd h (by decide)) a1 a2 a3 a4
    have b70 : ∀ ρ : xS, (∀ r, r ≠ 31 → ρ r = τ r) → (∀ j, j ≠ q → ρ 31 j = τ 31 j) → ρ 31 q = (am b q : Int) → ∀ y2 : Int, y2 = lyI b q → vX5_isTable_70 K Q fl (q : Int) (q : Int) y2 ρ := by
      intro ρ hr hoth h31 y2 hy2
      unfold vX5_isTable_70
      have := hty q
      refine ⟨by omega, by omega, fun s hs => ?_⟩
      rw [Int.toNat_natCast, hy2] at hs
      have eo : ∀ r, r ≠ 32 → s r = ρ r := fun r h => by rw [hs, xup_ne h]
      have e32 : ∀ j, s 32 j = if j = q then lyI b q else τ 32 j := fun j => by
        rw [hs, xup_app, hr 32 (by omega)]
        by_cases e1 : j = q
        · rw [if_pos ⟨rfl, e1⟩, if_pos e1]
        · rw [if_neg (fun w => e1 w.2), if_neg e1]
      have c1 : ∀ r, r ≠ 31 → r ≠ 32 → s r = τ r := fun r a1 a2 => by rw [eo r a2, hr r a1]
      have c2 : ∀ j, j ≠ q → s 31 j = τ 31 j ∧ s 32 j = τ 32 j := fun j hj => ⟨by rw [eo 31 (by omega), hoth j hj], by rw [e32, if_neg hj]⟩
      have c3 : s 31 q = (am b q : Int) := by rw [eo 31 (by omega), h31]
      have c4 : s 32 q = lyI b q := by rw [e32, if_pos rfl]
      have c30 : ∀ j, 3 * q ≤ j → s 30 j = σ 30 j := fun j hj => by rw [c1 30 (by omega) (by omega), hrest j hj]
      clear hs
      have s21 : s 21 = σ 21 := by rw [c1 21 (by omega) (by omega), m21]
      have r0 := h30 (3 * q) (by omega)
      have r1 := h30 (3 * q + 1) (by omega)
      have r2 := h30 (3 * q + 2) (by omega)
      have rr := hraw q hq3
      refine ⟨⟨by omega, by omega⟩, fun z => b143 s c1 c2 c3 c4, fun z => ⟨by omega, by omega, ?_⟩⟩
      rw [show (3 * (q : Int)).toNat = 3 * q by omega, Int.toNat_natCast, c30 (3 * q) (by omega), c3]
      refine ⟨r0, ⟨by omega, by omega⟩, fun z2 => b143 s c1 c2 c3 c4, fun z2 => ⟨by omega, ?_⟩⟩
      rw [c4, show (3 * (q : Int) + 1).toNat = 3 * q + 1 by omega, c30 (3 * q + 1) (by omega)]
      have b116 : ∀ y1 : Int, y1 = lyI b q → vX5_isTable_116 K Q (q : Int) (σ 30 (3 * q + 1)) y1 s := by
        intro y1 hy1
        unfold vX5_isTable_116 vX5_of
        refine ⟨r1, ⟨by omega, by omega⟩, fun z3 => b143 s c1 c2 c3 c4, fun z3 => ⟨by omega, by omega, ?_⟩⟩
        rw [show (3 * (q : Int) + 2).toNat = 3 * q + 2 by omega, show (7 * (q : Int) + 6).toNat = 7 * q + 6 by omega, c30 (3 * q + 2) (by omega), s21]
        exact ⟨r2, rr, fun z4 => b143 s c1 c2 c3 c4, fun z4 => b144 1 s (Or.inr rfl) (fun _ => ⟨by omega, z2, by omega, z4⟩) c1 c2 c3 c4⟩
      exact ⟨⟨by omega, by omega⟩, fun z3 => b116 0 z3.symm, fun z3 => b116 1 (by omega)⟩
    have b38 : ∀ y2 : Int, y2 = (am b q : Int) → vX5_isTable_38 K Q fl (q : Int) (q : Int) y2 τ := by
      intro y2 hy2
      unfold vX5_isTable_38
      refine ⟨by omega, fun s hs => ?_⟩
      rw [Int.toNat_natCast, hy2] at hs
      have eo : ∀ r, r ≠ 31 → s r = τ r := fun r h => by rw [hs, xup_ne h]
      have e31 : ∀ j, s 31 j = if j = q then (am b q : Int) else τ 31 j := fun j => by
        rw [hs, xup_app]
        by_cases e1 : j = q
        · rw [if_pos ⟨rfl, e1⟩, if_pos e1]
        · rw [if_neg (fun w => e1 w.2), if_neg e1]
      have hh := b70 s eo (fun j hj => by rw [e31, if_neg hj]) (by rw [e31, if_pos rfl])
      have s21 : s 21 = σ 21 := by rw [eo 21 (by omega), m21]
      refine ⟨⟨by omega, by omega⟩, ?_⟩
      rw [show s 21 21 = b 3 0 by rw [s21]; exact hm.n 0 (by omega)]
      refine ⟨⟨by omega, by omega⟩, fun z => hh 1 (by unfold lyI; rw [if_neg (by omega)]), fun z => ?_⟩
      have hlt : (q : Int) < b 3 0 := by omega
      have hrow := hw.row hlt
      unfold RowOK at hrow
      refine mkR' (by rw [s21]; exact hm) q 2 hq3 hlt (by omega) rfl rfl ⟨⟨by omega, by omega⟩, fun z2 => hh 0 (by unfold lyI; rw [if_pos ⟨hlt, z2⟩]), fun z2 => hh 1 (by unfold lyI; rw [if_neg (fun w => w.2 z2)])⟩
    rw [hn21]
    refine ⟨⟨by omega, by omega⟩, fun z => b38 0 ?_, fun z => ?_⟩
    · rw [hA.2.2.1 (by omega)]
      rfl
    · have hlt : (q : Int) < b 3 0 := by omega
      exact mkR' (by rw [m21]; exact hm) q 0 hq3 hlt (by omega) rfl rfl (b38 _ (hA.2.1 hlt).symm)
def DN (b : xS) (w : Nat → Int) (r a0 a1 a2 : Nat) : Prop := ∀ (r' : Nat) (v : Nat → Nat), 1 ≤ r' → r' ≤ 40 → (∀ g, g < 3 → v g ≤ am b g) → (r' < r ∨ (r' = r ∧ (v 0 < a0 ∨ (v 0 = a0 ∧ (v 1 < a1 ∨ (v 1 = a1 ∧ v 2 < a2)))))) → CEL (pA b) (pS b) r' (pj b 0 (v 0)) (pj b 1 (v 1)) (pj b 2 (v 2)) (w (2197 * r' + 169 * v 0 + 13 * v 1 + v 2))
theorem mk_fill {σ b : xS} {Q : xS → Prop} (hB : BK σ b) (k : ∀ τ : xS, (∀ r, r ≠ 20 → r ≠ 29 → r ≠ 33 → τ r = σ r) → (∀ j, j ≠ 20 → τ 20 j = σ 20 j) → (∀ r, 1 ≤ r → r ≤ 40 → CELLS b (τ 29) r) → Q τ) : mu (vX5_fills_10 Q) (1, σ) := by
  have hw := hB.2.1
  have m0 := (am_in hw 0).1
  have m1 := (am_in hw 1).1
  have m2 := (am_in hw 2).1
  refine mu_of (fun v => ∃ (q : Nat) (τ : xS), v = ((q : Int), τ) ∧ (1 ≤ q ∧ q ≤ 41) ∧ ((∀ r, r ≠ 20 → r ≠ 29 → r ≠ 33 → τ r = σ r) ∧ (∀ j, j ≠ 20 → τ 20 j = σ 20 j)) ∧ DN b (τ 29) q 0 0 0) (fun v => 41 - v.1.toNat) ?_ _ ⟨1, σ, rfl, by omega, ⟨fun _ _ _ _ => rfl, fun _ _ => rfl⟩, fun r' v h1 _ _ h => by omega⟩
  rintro K _ ⟨q, τ, rfl, hq, hf, hd⟩ hK
  unfold vX5_fills_10
  refine ⟨⟨by omega, by omega⟩, fun z => k τ hf.1 hf.2 (fun r h1 h2 a ha => hd r a h1 h2 ha (Or.inl (by omega))), fun z => ?_⟩
  have hq40 : q ≤ 40 := by omega
  refine mu_of (fun v => ∃ (x : Nat) (τ : xS), v = ((q : Int), (x : Int), τ) ∧ x ≤ am b 0 + 1 ∧ ((∀ r, r ≠ 20 → r ≠ 29 → r ≠ 33 → τ r = σ r) ∧ (∀ j, j ≠ 20 → τ 20 j = σ 20 j)) ∧ DN b (τ 29) q x 0 0) (fun v => 14 - v.2.1.toNat) ?_ _ ⟨0, τ, rfl, by omega, hf, hd⟩
  rintro K1 _ ⟨x, τ, rfl, hx, hf, hd⟩ hK1
  have e31 : ∀ g, g < 3 → τ 31 g = (am b g : Int) := fun g hg => by rw [hf.1 31 (by omega) (by omega) (by omega)]; exact (hB.2.2 g hg).1
  unfold vX5_fills_18
  dsimp only
  rw [e31 0 (by omega)]
  refine ⟨⟨by omega, by omega⟩, ⟨by omega, by omega⟩, fun z1 => ?_, fun z1 => ?_⟩
  · refine hK _ ⟨q + 1, τ, by rw [Int.natCast_succ], by omega, hf, fun r' v a1 a2 a3 a4 => hd r' v a1 a2 a3 ?_⟩ (by show 41 - ((q : Int) + 1).toNat < 41 - ((q : Int)).toNat; omega)
    have := a3 0 (by omega)
    omega
  · refine mu_of (fun v => ∃ (y : Nat) (τ : xS), v = ((q : Int), (x : Int), (y : Int), τ) ∧ y ≤ am b 1 + 1 ∧ ((∀ r, r ≠ 20 → r ≠ 29 → r ≠ 33 → τ r = σ r) ∧ (∀ j, j ≠ 20 → τ 20 j = σ 20 j)) ∧ DN b (τ 29) q x y 0) (fun v => 14 - v.2.2.1.toNat) ?_ _ ⟨0, τ, rfl, by omega, hf, hd⟩
    rintro K2 _ ⟨y, τ, rfl, hy, hf, hd⟩ hK2
    have e31 : ∀ g, g < 3 → τ 31 g = (am b g : Int) := fun g hg => by rw [hf.1 31 (by omega) (by omega) (by omega)]; exact (hB.2.2 g hg).1
    unfold vX5_fills_30
    dsimp only
    rw [e31 1 (by omega)]
    refine ⟨⟨by omega, by omega⟩, ⟨by omega, by omega⟩, fun z2 => ?_, fun z2 => ?_⟩
    · refine hK1 _ ⟨x + 1, τ, by rw [Int.natCast_succ], by omega, hf, fun r' v a1 a2 a3 a4 => hd r' v a1 a2 a3 ?_⟩ (by show 14 - ((x : Int) + 1).toNat < 14 - ((x : Int)).toNat; omega)
      have := a3 1 (by omega)
      omega
    · refine mu_of (fun v => ∃ (zz : Nat) (τ : xS), v = ((q : Int), (x : Int), (y : Int), (zz : Int), τ) ∧ zz ≤ am b 2 + 1 ∧ ((∀ r, r ≠ 20 → r ≠ 29 → r ≠ 33 → τ r = σ r) ∧ (∀ j, j ≠ 20 → τ 20 j = σ 20 j)) ∧ DN b (τ 29) q x y zz) (fun v => 14 - v.2.2.2.1.toNat) ?_ _ ⟨0, τ, rfl, by omega, hf, hd⟩
      rintro K3 _ ⟨zz, τ, rfl, hz, hf, hd⟩ hK3
      have e31 : ∀ g, g < 3 → τ 31 g = (am b g : Int) := fun g hg => by rw [hf.1 31 (by omega) (by omega) (by omega)]; exact (hB.2.2 g hg).1
      unfold vX5_fills_43 vX5_place
      dsimp only
      rw [e31 2 (by omega)]
      refine ⟨⟨by omega, by omega⟩, ⟨by omega, by omega⟩, fun z3 => ?_, fun z3 => ?_⟩
      · refine hK2 _ ⟨y + 1, τ, by rw [Int.natCast_succ], by omega, hf, fun r' v a1 a2 a3 a4 => hd r' v a1 a2 a3 ?_⟩ (by show 14 - ((y : Int) + 1).toNat < 14 - ((y : Int)).toNat; omega)
        have := a3 2 (by omega)
        omega
      · have hbox : ∀ g, g < 3 → f3 x y zz g ≤ am b g := fun g hg => by
          rcases (show g = 0 ∨ g = 1 ∨ g = 2 by omega) with rfl | rfl | rfl
          · rw [f3_0]; omega
          · rw [f3_1]; omega
          · rw [f3_2]; omega
        refine mk_best (a := f3 x y zz) (hB.congr (hf.1 21 (by omega) (by omega) (by omega)) (hf.1 31 (by omega) (by omega) (by omega)) (hf.1 32 (by omega) (by omega) (by omega))) ⟨hq.1, hq40⟩ rfl rfl rfl hbox (fun r' h1 h2 a ha => hd r' a h1 (by omega) ha (Or.inl h2)) (fun f h v hfe hv => ⟨by omega, fun s hs => ?_⟩)
        rw [show (2197 * (q : Int) + 169 * (x : Int) + 13 * (y : Int) + (zz : Int)).toNat = 2197 * q + 169 * x + 13 * y + zz by omega] at hs
        have eo : ∀ r, r ≠ 20 → r ≠ 29 → r ≠ 33 → s r = τ r := fun r a1 a2 a3 => by rw [hs, xup_ne a2, xset_ne a3, xset_ne a1]
        have e20 : ∀ j, j ≠ 20 → s 20 j = τ 20 j := fun j hj => by rw [hs, xup_ne (by omega), xset_ne (by omega), xset_eq, hfe j hj]
        have e29 : ∀ j, s 29 j = if j = 2197 * q + 169 * x + 13 * y + zz then v else τ 29 j := fun j => by
          rw [hs, xup_app, xset_ne (by omega), xset_ne (by omega)]
          by_cases e1 : j = 2197 * q + 169 * x + 13 * y + zz
          · rw [if_pos ⟨rfl, e1⟩, if_pos e1]
          · rw [if_neg (fun w => e1 w.2), if_neg e1]
        refine hK3 _ ⟨zz + 1, s, by rw [Int.natCast_succ], by omega, ⟨fun r a1 a2 a3 => (eo r a1 a2 a3).trans (hf.1 r a1 a2 a3), fun j hj => (e20 j hj).trans (hf.2 j hj)⟩, fun r' v' a1 a2 a3 a4 => ?_⟩ (by show 14 - ((zz : Int) + 1).toNat < 14 - ((zz : Int)).toNat; omega)
        have v0 := a3 0 (by omega)
        have v1 := a3 1 (by omega)
        have v2 := a3 2 (by omega)
        rw [e29]
        by_cases e1 : 2197 * r' + 169 * v' 0 + 13 * v' 1 + v' 2 = 2197 * q + 169 * x + 13 * y + zz
        · have ee : r' = q ∧ v' 0 = x ∧ v' 1 = y ∧ v' 2 = zz := by omega
          rw [if_pos e1, ee.1, ee.2.1, ee.2.2.1, ee.2.2.2]
          exact hv
        · rw [if_neg e1]
          exact hd r' v' a1 a2 a3 (by omega)
theorem CELLS.congr {T : Int} {b b0 : xS} {w : Nat → Int} {r : Nat} (hw : WFt T b) (hw0 : WFt T b0) (h : CELLS b0 w r) (ha : ∀ g, g < 3 → am b g = am b0 g) (hl : ∀ g, g < 3 → lyI b g = lyI b0 g) (h5 : ∀ g : Nat, g < 3 → (g : Int) < b 3 0 → b g 5 = b0 g 5) : CELLS b w r := by
  have live : ∀ g : Nat, g < 3 → (((g : Int) < b 3 0 ∧ b g 2 ≠ 2) ↔ ((g : Int) < b0 3 0 ∧ b0 g 2 ≠ 2)) := fun g hg => by
    have := hl g hg
    unfold lyI at this
    constructor
    · intro q
      rw [if_pos q] at this
      by_cases q0 : (g : Int) < b0 3 0 ∧ b0 g 2 ≠ 2
      · exact q0
      · rw [if_neg q0] at this
        exact absurd this (by decide)
    · intro q0
      rw [if_pos q0] at this
      by_cases q : (g : Int) < b 3 0 ∧ b g 2 ≠ 2
      · exact q
      · rw [if_neg q] at this
        exact absurd this (by decide)
  have ea : ∀ g, g < 3 → pa b g = pa b0 g := fun g hg => by
    by_cases q : (g : Int) < b 3 0 ∧ b g 2 ≠ 2
    · rw [(am_in hw g).2.2.2 q, (am_in hw0 g).2.2.2 ((live g hg).mp q), ha g hg]
    · rw [((p_in hw g).2.2.2.2.1 q).1, ((p_in hw0 g).2.2.2.2.1 (fun w => q ((live g hg).mpr w))).1]
  have ez : ∀ g, g < 3 → pz b g = pz b0 g := fun g hg => by
    by_cases q : (g : Int) < b 3 0 ∧ b g 2 ≠ 2
    · have q0 := (live g hg).mp q
      have e1 := ((p_in hw g).2.2.2.2.2 q).2.1
      have e2 := ((p_in hw0 g).2.2.2.2.2 q0).2.1
      have e3 := h5 g hg q.1
      omega
    · rw [((p_in hw g).2.2.2.2.1 q).2.1, ((p_in hw0 g).2.2.2.2.1 (fun w => q ((live g hg).mpr w))).2.1]
  have eA : pA b = pA b0 := by unfold pA; rw [ea 0 (by omega), ea 1 (by omega), ea 2 (by omega)]
  have eS : pS b = pS b0 := by unfold pS; rw [ez 0 (by omega), ez 1 (by omega), ez 2 (by omega)]
  have ej : ∀ g x, g < 3 → pj b g x = pj b0 g x := fun g x hg => by
    unfold pj
    by_cases q : (g : Int) < b 3 0 ∧ b g 2 ≠ 2
    · rw [if_pos q, if_pos ((live g hg).mp q)]
    · rw [if_neg q, if_neg (fun w => q ((live g hg).mpr w))]
  intro a hbox
  rw [eA, eS, ej 0 _ (by omega), ej 1 _ (by omega), ej 2 _ (by omega)]
  exact h a (fun g hg => by rw [← ha g hg]; exact hbox g hg)
/-- the table stands for the bench as it is -/
def RDY (τ b : xS) : Prop := BK τ b ∧ (∀ r, 1 ≤ r → r ≤ 40 → CELLS b (τ 29) r) ∧ τ 20 16 = 1 ∧ (∀ g : Nat, g < 3 → KEY (τ 30) b g (τ 21 (7 * g + 6))) ∧ ∀ j, j < 9 → rng (τ 30 j)
theorem key_rng {w : Nat → Int} {b : xS} {T : Int} (hw : WFt T b) {r : Nat → Int} (h : ∀ g, g < 3 → KEY w b g (r g)) (hr : ∀ g, g < 3 → rng (r g)) : ∀ j, j < 9 → rng (w j) := by
  intro j hj
  obtain ⟨g, d, hd, rfl⟩ : ∃ g d, d < 3 ∧ j = 3 * g + d := ⟨j / 3, j % 3, by omega, by omega⟩
  have hg : g < 3 := by omega
  obtain ⟨k1, k2, k3⟩ := h g hg
  have := (am_in hw g).1
  have := lyI_01 b g
  rcases (show d = 0 ∨ d = 1 ∨ d = 2 by omega) with rfl | rfl | rfl
  · rw [Nat.add_zero, k1]; constructor <;> omega
  · rw [k2]; constructor <;> omega
  · rw [k3]; exact hr g hg
theorem mk_fills {σ b : xS} {Q : xS → Prop} (hm : MB (σ 21) b) (hw : WF b) (hraw : ∀ g, g < 3 → rng (σ 21 (7 * g + 6))) (h30 : ∀ j, j < 9 → rng (σ 30 j)) (hT : MT σ) (k : ∀ τ : xS, FMd σ τ → RDY τ b → Q τ) : vX5_fills σ Q := by
  unfold vX5_fills
  refine mk_isTable hm hw hraw h30 hT.1 (fun τ fl hf e29 e16 hkey hfl hold => ?_)
  have e21 : τ 21 = σ 21 := hf.1 21 (by omega) (by omega) (by omega) (by omega) (by omega) (by omega)
  have hB : BK τ b := ⟨by rw [e21]; exact hm, hw, fun g hg => (hkey g hg).2⟩
  have hr30 := key_rng hw (fun g hg => (hkey g hg).1) hraw
  refine ⟨⟨by omega, by omega⟩, fun z => mk_fill hB (fun ρ a1 a2 a3 => ?_), fun z => ?_⟩
  · refine k ρ (hf.trans ⟨fun r x1 x2 x3 x4 x5 x6 => a1 r x1 x2 x6, fun j x1 x2 => a2 j x2⟩) ⟨hB.congr (a1 21 (by omega) (by omega) (by omega)) (a1 31 (by omega) (by omega) (by omega)) (a1 32 (by omega) (by omega) (by omega)), a3, by rw [a2 16 (by omega)]; exact e16, fun g hg => ?_, ?_⟩
    · rw [a1 30 (by omega) (by omega) (by omega), a1 21 (by omega) (by omega) (by omega), e21]
      exact (hkey g hg).1
    · rw [a1 30 (by omega) (by omega) (by omega)]
      exact hr30
  · obtain ⟨h16, hk⟩ := hold (by omega)
    obtain ⟨b0, hw0, hk0, hc0⟩ := hT.2 h16
    refine k τ hf ⟨hB, fun r h1 h2 => ?_, e16, fun g hg => by rw [e21]; exact (hkey g hg).1, hr30⟩
    rw [e29]
    refine (hc0 r h1 h2).congr hw hw0 (fun g hg => ?_) (fun g hg => ?_) (fun g hg hlt => ?_)
    · obtain ⟨raw, ⟨k1, k2, k3⟩, _⟩ := hk0 g hg
      have := (hk g hg).1
      omega
    · obtain ⟨raw, ⟨k1, k2, k3⟩, _⟩ := hk0 g hg
      have := (hk g hg).2.1
      omega
    · obtain ⟨raw, ⟨k1, k2, k3⟩, k4⟩ := hk0 g hg
      have e1 := (hk g hg).2.2
      have e0 := (hk g hg).1
      have hm5 := hm.1 g 5 hlt hg (by omega)
      rw [show 7 * g + pip 5 = 7 * g + 6 from rfl] at hm5
      have hrow := hw.row hlt
      unfold RowOK at hrow
      have ha := (am_in hw g).2.1 hlt
      have hlt0 : (g : Int) < b0 3 0 := by
        by_cases q : (g : Int) < b0 3 0
        · exact q
        · have := (am_in hw0 g).2.2.1 q
          omega
      have := k4 hlt0
      omega
theorem RDY.MT {τ b : xS} (h : RDY τ b) : MT τ := by
  obtain ⟨⟨hm, hw, _⟩, hc, h16, hk, _⟩ := h
  refine ⟨Or.inr h16, fun _ => ⟨b, hw, fun g hg => ⟨_, hk g hg, fun hlt => ?_⟩, hc⟩⟩
  exact hm.1 g 5 hlt hg (by omega)
