/-! the class repeats -/
section
variable {σ τ : xS} {n p d : Nat} {t : Nat → Int} {fl : Int} {L : ST}
theorem CS.len (h : CS σ τ p fl L) {L' : ST} (e : L' = L) : CS σ τ p fl L' := e ▸ h
theorem p_repeat {Q : xS → Prop} (h : CS σ τ p fl L) {x v : Nat} (hx : x ≤ L.length) (hv : v ≤ 99) (k : ∀ τ', CS σ τ' p fl (cap L (rept (v - 1) (L.drop x))) → Q τ') : vX3_repeat (x : Int) (v : Int) τ Q := by
  have hl := h.2.2.2.2.1
  unfold vX3_repeat
  rw [h.2.2.2.1]
  refine mu_of (fun a => ∃ (i : Nat) (ρ : xS), a = ((x : Int), (v : Int), (L.length : Int), (i : Int), ρ) ∧ 1 ≤ i ∧ (i ≤ v ∨ i = 1) ∧ CS σ ρ p fl (cap L (rept (i - 1) (L.drop x)))) (fun a => 100 - a.2.2.2.1.toNat) ?_ _ ⟨1, τ, rfl, by omega, Or.inr rfl, h.len (by show cap L [] = L; exact cap_nil hl)⟩
  rintro K _ ⟨i, ρ, rfl, hi1, hi2, hc⟩ hK
  unfold vX3_repeat_8
  dsimp only
  refine ⟨⟨by omega, by omega⟩, ⟨by omega, by omega⟩, fun w => ?_, fun w => ?_⟩
  · have hiv : v - 1 = i - 1 := by omega
    rw [hiv] at k
    exact k ρ hc
  refine mu_of (fun a => ∃ (j : Nat) (ρ : xS), a = ((x : Int), (v : Int), (L.length : Int), (i : Int), (j : Int), ρ) ∧ x ≤ j ∧ j ≤ L.length ∧ CS σ ρ p fl (cap L (rept (i - 1) (L.drop x) ++ (L.drop x).take (j - x)))) (fun a => 100 - a.2.2.2.2.1.toNat) ?_ _ ⟨x, ρ, rfl, by omega, hx, hc.len (by rw [Nat.sub_self, List.take_zero, List.append_nil])⟩
  rintro K2 _ ⟨j, ρ2, rfl, hj1, hj2, hc2⟩ hK2
  unfold vX3_repeat_17
  dsimp only
  refine ⟨⟨by omega, by omega⟩, ⟨by omega, by omega⟩, fun w => ?_, fun w => ⟨⟨by omega, by omega⟩, ?_⟩⟩
  · refine hK _ ⟨i + 1, ρ2, rfl, by omega, Or.inl (by omega), hc2.len ?_⟩ ?_
    · have hj : (L.drop x).take (j - x) = L.drop x := List.take_of_length_le (by rw [List.length_drop]; omega)
      rw [hj, rept_s, show i + 1 - 1 = (i - 1) + 1 by omega]
      rfl
    · show 100 - ((i : Int) + 1).toNat < 100 - (i : Int).toNat
      omega
  · have hat : L[j]? = some (L[j]'(by omega)) := List.getElem?_eq_getElem (by omega)
    have hcat := (cap_at (X := rept (i - 1) (L.drop x) ++ (L.drop x).take (j - x)) (show j < L.length by omega) hl).trans hat
    obtain ⟨g1, g2⟩ := hc2.2.2.2.2.2 _ _ hcat
    rw [Int.toNat_natCast, g1, g2]
    refine p_add hc2 (fun τ3 h3 => hK2 _ ⟨j + 1, τ3, rfl, by omega, by omega, h3.len ?_⟩ ?_)
    · rw [cap_cap, List.append_assoc]
      have : (L.drop x).take (j + 1 - x) = (L.drop x).take (j - x) ++ [L[j]'(by omega)] := by
        rw [show j + 1 - x = (j - x) + 1 by omega, List.take_succ, List.getElem?_drop, show x + (j - x) = j by omega, hat]
        rfl
      rw [this]
    · show 100 - ((j : Int) + 1).toNat < 100 - (j : Int).toNat
      omega
/-! what the steps of a stretch are, written out -/
def lts (k : Int) : Int := if k = 0 then 116 else if k = 1 then 107 else if k = 2 then 119 else 101
def bas (G k v : Int) : Prop := ((k = 0 ∨ k = 1) ∧ (0 ≤ v ∧ v < G)) ∨ (k = 2 ∧ (1 ≤ v ∧ v ≤ 99)) ∨ (k = 3 ∧ v = 0)
def SEG (n : Nat) (t : Nat → Int) (G : Int) : Nat → Nat → Nat → Nat → ST → Prop
  | 0, _, j, e, X => j = e ∧ X = []
  | f + 1, d, j, e, X => (j = e ∧ X = []) ∨ (bas G (kks n t j) (vvs n t j) ∧ ∃ X', SEG n t G f d (j + 1) e X' ∧ X = (lts (kks n t j), vvs n t j) :: X') ∨ (kks n t j = 4 ∧ d < 2 ∧ ∃ (m v : Nat) (Y X' : ST), vvs n t j = (v : Int) ∧ 1 ≤ v ∧ v ≤ 20 ∧ SEG n t G f (d + 1) (j + 1) m Y ∧ kks n t m = 5 ∧ SEG n t G f d (m + 1) e X' ∧ X = rept v Y ++ X')
theorem SEG.mono {G : Int} : ∀ (f g d j e : Nat) (X : ST), f ≤ g → SEG n t G f d j e X → SEG n t G g d j e X
  | 0, 0, _, _, _, _, _, h => h
  | 0, g + 1, _, _, _, _, _, h => Or.inl h
  | f + 1, 0, _, _, _, _, hg, _ => absurd hg (by omega)
  | f + 1, g + 1, d, j, e, X, hg, h => by
    rcases h with h | ⟨h1, X', h2, h3⟩ | ⟨h1, h2, m, v, Y, X', h3, h4, h5, h6, h7, h8, h9⟩
    · exact Or.inl h
    · exact Or.inr (Or.inl ⟨h1, X', SEG.mono f g d (j + 1) e X' (by omega) h2, h3⟩)
    · exact Or.inr (Or.inr ⟨h1, h2, m, v, Y, X', h3, h4, h5, SEG.mono f g _ _ _ _ (by omega) h6, h7, SEG.mono f g _ _ _ _ (by omega) h8, h9⟩)
theorem SEG.app {G : Int} : ∀ (f g d j m e : Nat) (X Y : ST), SEG n t G f d j m X → SEG n t G g d m e Y → SEG n t G (f + g) d j e (X ++ Y)
  | 0, g, d, j, m, e, X, Y, h1, h2 => by
    obtain ⟨rfl, rfl⟩ := h1
    rw [Nat.zero_add]
    exact h2
  | f + 1, g, d, j, m, e, X, Y, h1, h2 => by
    rcases h1 with ⟨rfl, rfl⟩ | ⟨h1, X', h3, rfl⟩ | ⟨h1, hd, m', v, Z, X', h3, h4, h5, h6, h7, h8, rfl⟩
    · exact SEG.mono g _ _ _ _ _ (by omega) h2
    · rw [show f + 1 + g = (f + g) + 1 by omega]
      exact Or.inr (Or.inl ⟨h1, X' ++ Y, SEG.app f g d (j + 1) m e X' Y h3 h2, rfl⟩)
    · rw [show f + 1 + g = (f + g) + 1 by omega]
      exact Or.inr (Or.inr ⟨h1, hd, m', v, Z, X' ++ Y, h3, h4, h5, SEG.mono f _ _ _ _ _ (by omega) h6, h7, SEG.app f g d (m' + 1) m e X' Y h8 h2, by rw [List.append_assoc]⟩)
def SG (n : Nat) (t : Nat → Int) (G : Int) (d j e : Nat) (X : ST) : Prop := ∃ f, SEG n t G f d j e X
theorem SG.nil {G : Int} {j : Nat} : SG n t G d j j [] := ⟨0, rfl, rfl⟩
theorem SG.app {G : Int} {j m e : Nat} {X Y : ST} : SG n t G d j m X → SG n t G d m e Y → SG n t G d j e (X ++ Y) := fun ⟨f, hf⟩ ⟨g, hg⟩ => ⟨f + g, SEG.app f g d j m e X Y hf hg⟩
theorem SG.one {G : Int} {j : Nat} (h : bas G (kks n t j) (vvs n t j)) : SG n t G d j (j + 1) [(lts (kks n t j), vvs n t j)] := ⟨1, Or.inr (Or.inl ⟨h, [], ⟨rfl, rfl⟩, rfl⟩)⟩
theorem SG.rep {G : Int} {j m v : Nat} {Y : ST} (h1 : kks n t j = 4) (hd : d < 2) (h3 : vvs n t j = (v : Int)) (h4 : 1 ≤ v) (h5 : v ≤ 20) (h6 : SG n t G (d + 1) (j + 1) m Y) (h7 : kks n t m = 5) : SG n t G d j (m + 1) (rept v Y) := by
  obtain ⟨f, hf⟩ := h6
  exact ⟨f + 1, Or.inr (Or.inr ⟨h1, hd, m, v, Y, [], h3, h4, h5, hf, h7, SEG.mono 0 f _ _ _ _ (by omega) ⟨rfl, rfl⟩, by rw [List.append_nil]⟩)⟩
theorem cap_rep {L Y : ST} {v : Nat} (hv : 1 ≤ v) (hl : L.length ≤ 100) : cap (cap L Y) (rept (v - 1) ((cap L Y).drop L.length)) = cap L (rept v Y) := by
  obtain ⟨w, rfl⟩ : ∃ w, v = w + 1 := ⟨v - 1, by omega⟩
  show cap (cap L Y) (rept w ((cap L Y).drop L.length)) = cap L (Y ++ rept w Y)
  by_cases hf : (L ++ Y).length ≤ 100
  · have : cap L Y = L ++ Y := by
      unfold cap
      rw [List.take_of_length_le hf]
    rw [this, List.drop_left]
    unfold cap
    rw [List.append_assoc]
  · have h1 : (cap L Y).length = 100 := by
      unfold cap
      rw [List.length_take]
      omega
    rw [cap_full h1, ← cap_cap, cap_full h1]
end
